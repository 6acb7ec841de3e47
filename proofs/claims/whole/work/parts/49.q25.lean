section RA2
variable {h hm h' hm' : Hp} {T w : Nat → Nat} {n : Nat}
theorem e_errorOffset (A : RA h hm n) : f_X11_errorOffset h = f_X12_errorOffset hm := by
  obtain ⟨T, w, -, -, -, -, ⟨e1, e2⟩, -⟩ := A
  exact e1
theorem e_errorKind (A : RA h hm n) : f_X11_errorKind h = f_X12_errorKind hm := by
  obtain ⟨T, w, -, -, -, -, ⟨e1, e2⟩, -⟩ := A
  exact e2
theorem e_day (A : RA h hm n) : f_X11_day h = f_X12_day hm := by
  obtain ⟨T, w, ⟨J, I, R, C, G⟩, -⟩ := A
  exact G.1.1.trans (R.2 0 (by omega) (by omega)).symm
theorem e_undoDepth (A : RA h hm n) : f_X11_undoDepth h = f_X12_undoDepth hm := by
  obtain ⟨T, w, -, -, ⟨d, x, d1, d2, d3, d4, d5, d6⟩, -⟩ := A
  exact d3.trans d5.symm
theorem e_count (A : RA h hm n) (a : Int32) : p_X11_count h a ∧ p_X12_count hm a ∧ f_X11_count h a = f_X12_count hm a ∧ g_X12_count hm a = hp_i hm 12 0 0 0 := by
  obtain ⟨T, w, ⟨J, I, R, C, G⟩, -⟩ := A
  have r0 := R.1 0 (by omega)
  have r1 := R.1 1 (by omega)
  have r2 := R.1 2 (by omega)
  have s1 := R.2 1 (by omega) (by omega)
  have s2 := R.2 2 (by omega) (by omega)
  refine ⟨by unfold p_X11_count; simp, by unfold p_X12_count; simp, ?_, ?_⟩
  · unfold f_X11_count f_X12_count
    rw [C.1.1, C.1.2.1, C.1.2.2, G.1.2.1, G.1.2.2, r0, r1, r2, s1, s2]
  · unfold g_X12_count
    simp only [ite_self]
theorem k_in0 (hm : Hp) (a : Int32) (N : Nat) (hN : N < 2 ^ 30) : p_X12_in hm a 0 (nI N) ∧ ((∃ q, q ≤ N ∧ a = nI q ∧ f_X12_in hm a 0 (nI N) = 1) ∨ ((a < 0 ∨ nI N < a) ∧ f_X12_in hm a 0 (nI N) = 0)) := by
  have e : nI (N + 1) - 1 = nI N := nI_pred N
  have k := k_in hm a (N + 1) (by omega)
  rw [e] at k
  refine ⟨k.1, ?_⟩
  rcases k.2 with ⟨q, hq, h1, h2⟩ | ⟨z, h2⟩
  · exact Or.inl ⟨q, by omega, h1, h2⟩
  · refine Or.inr ⟨?_, h2⟩
    rcases z with z | z
    · exact Or.inl z
    · refine Or.inr ?_
      by_cases d : a < 0
      · exfalso
        have : 0 ≤ nI (N + 1) := nI_pos' (by omega)
        grind
      · obtain ⟨j, hj, rfl⟩ := nI_of d
        have := (nI_leI (by omega) hj).mp z
        exact nI_lt (by omega) hj
theorem e_total (A : RA h hm n) (a : Int32) : p_X11_total h a ∧ p_X12_total hm a ∧ f_X11_total h a = f_X12_total hm a ∧ g_X12_total hm a = hp_i hm 12 0 0 0 := by
  obtain ⟨T, w, ⟨J, I, R, C, G⟩, ⟨S, s1, s2⟩, -⟩ := A
  have k1 := k_inside h a 5 (by omega)
  have k2 := k_in0 (hp_i hm 12 0 0 0) a 4 (by omega)
  have e5 : nI 5 = 5 := rfl
  have e4 : nI 4 = 4 := rfl
  rw [e5] at k1
  rw [e4] at k2
  unfold p_X11_total p_X12_total f_X11_total f_X12_total g_X12_total p_X8_totalOf f_X8_totalOf
  rcases k1.2 with ⟨q, hq, rfl, i1⟩ | ⟨z, i1⟩
  · rcases k2.2 with ⟨q', hq', -, i2⟩ | ⟨z, -⟩
    · have e : (4 : Int32) + nI q = nI (4 + q) := nI_add 4 q
      have v1 : vp_in (nI q) 5 := vp_in_nI (by omega) (by omega)
      have v2 : vp_in (nI (4 + q)) 301 := vp_in_nI (by omega) (by omega)
      have r : h.1 44 (h.2.2 11 0 7) q = (hp_i hm 12 0 0 0).1 58 0 (4 + q) := s2.1 q hq
      simp [k1.1, k2.1, i1, i2, e, v1, v2, r, nI_clamp (show q < 2 ^ 31 by omega), nI_clamp (show 4 + q < 2 ^ 31 by omega)]
    · exfalso
      rcases z with z | z
      · exact nI_pos (by omega) z
      · exact nI_nlt (a := 4) (b := q) (by omega) (by omega) z
  · rcases k2.2 with ⟨q', hq', rfl, -⟩ | ⟨-, i2⟩
    · exact (oa_excl (N := 5) (by omega) (show q' < 5 by omega) z).elim
    · simp [k1.1, k2.1, i1, i2]
theorem e_formattedByte (A : RA h hm n) (a : Int32) : p_X11_formattedByte h a ∧ p_X12_formattedByte hm a ∧ f_X11_formattedByte h a = f_X12_formattedByte hm a ∧ g_X12_formattedByte hm a = hp_i hm 12 0 0 0 := by
  obtain ⟨T, w, -, -, -, -, -, ⟨u, u1, u2, u3, u4⟩, -⟩ := A
  have u3' : (hp_i hm 12 0 0 0).1 12 0 24 = nI u := u3
  have k1 := k_inside h a u (by omega)
  have k2 := k_in (hp_i hm 12 0 0 0) a u (by omega)
  unfold p_X11_formattedByte p_X12_formattedByte f_X11_formattedByte f_X12_formattedByte g_X12_formattedByte p_X2_byteAt f_X2_byteAt
  rw [u2, u3']
  rcases k1.2 with ⟨q, hq, rfl, i1⟩ | ⟨z, i1⟩
  · rcases k2.2 with ⟨q', hq', -, i2⟩ | ⟨z, -⟩
    · have v1 : vp_in (nI q) 200 := vp_in_nI (by omega) (by omega)
      have v2 : vp_in (nI q) 320 := vp_in_nI (by omega) (by omega)
      have c1 : ¬ (200 : Int32) ≤ nI q := nI_ge (b := 200) (by omega) (by omega)
      have r : h.1 33 0 q = (hp_i hm 12 0 0 0).1 65 0 q := u4 q hq
      simp [k1.1, k2.1, i1, i2, v1, v2, c1, r, nI_clamp (show q < 2 ^ 31 by omega)]
    · exact (oa_excl (by omega) hq z).elim
  · rcases k2.2 with ⟨q', hq', rfl, -⟩ | ⟨-, i2⟩
    · exact (oa_excl (by omega) hq' z).elim
    · simp [k1.1, k2.1, i1, i2]
theorem oa_what (b : Int32) : (b < 0 ∨ 2 < b) ∨ ∃ q, q < 3 ∧ b = nI q := by
  rcases oa_rng b 3 (by omega) with ⟨q, hq, rfl⟩ | z
  · exact Or.inr ⟨q, hq, rfl⟩
  · have e : nI 3 = 3 := rfl
    rw [e] at z
    refine Or.inl ?_
    grind
theorem e_shipment (hn : n ≤ 512) (A : RA h hm n) (a b : Int32) : p_X11_shipment h a b ∧ p_X12_shipment hm a b ∧ f_X11_shipment h a b = f_X12_shipment hm a b ∧ g_X12_shipment hm a b = hp_i hm 12 0 0 0 := by
  obtain ⟨T, w, ⟨J, I, R, C, G⟩, ⟨S, s1, t1, t2, t3, t4⟩, -⟩ := A
  have w3 := I.1.2.2.2
  have r3 : (hp_i hm 12 0 0 0).1 58 0 3 = nI (w 3) := R.2 3 (by omega) (by omega)
  have c4 : h.1 44 (h.2.2 11 0 7) 0 = nI S := (t1 0 (by omega)).trans t2
  have cm : (if (16 : Int32) < nI S then 16 else nI S) = nI (w 3) := by
    have lt : ((16 : Int32) < nI S) ↔ 16 < S := nI_ltI (a := 16) (by omega) (by omega)
    simp only [lt]
    by_cases d : 16 < S
    · rw [if_pos d, t3, if_neg (by omega)]; rfl
    · rw [if_neg d, t3]
      by_cases d2 : S < 16
      · rw [if_pos d2]
      · rw [if_neg d2]; congr 1; omega
  have k1 := k_inside h a (w 3) (by omega)
  have k2 := k_in (hp_i hm 12 0 0 0) a (w 3) (by omega)
  have k3 := k_in0 (hp_i hm 12 0 0 0) b 2 (by omega)
  have e2 : nI 2 = 2 := rfl
  rw [e2] at k3
  unfold p_X11_shipment p_X12_shipment f_X11_shipment f_X12_shipment g_X12_shipment p_X8_entry f_X8_entry
  rw [r3, c4, cm]
  rcases oa_what b with ob | ⟨q, hq, rfl⟩
  · have i3 : f_X12_in (hp_i hm 12 0 0 0) b 0 2 = 0 := by
      rcases k3.2 with ⟨q, hq, rfl, -⟩ | ⟨-, i⟩
      · exfalso
        rcases ob with z | z
        · exact nI_pos (by omega) z
        · exact nI_nlt (a := 2) (b := q) (by omega) (by omega) z
      · exact i
    have n0 : ¬ b = 0 := by rintro rfl; revert ob; decide
    have n1 : ¬ b = 1 := by rintro rfl; revert ob; decide
    have n2 : ¬ b = 2 := by rintro rfl; revert ob; decide
    rcases k1.2 with ⟨q, hq, rfl, i1⟩ | ⟨z, i1⟩
    · have sm : nI S - 1 - nI q = nI (S - 1 - q) := by
        have h1 : w 3 ≤ S := by rw [t3]; split <;> omega
        have x1 : nI S - 1 = nI (S - 1) := oa_sub (b := 1) (by omega)
        rw [x1, oa_sub (by omega)]
      have fm := k_mod h (a := S - 1 - q) (b := 16) (by omega) (by omega) (by omega)
      have e16 : nI 16 = 16 := rfl
      rw [e16] at fm
      simp [k1.1, k3.1, i1, i3, ob, n0, n1, n2, sm, fm]
    · simp [k1.1, k3.1, i1, i3]
  · have i3 : f_X12_in (hp_i hm 12 0 0 0) (nI q) 0 2 = 1 := by
      rcases k3.2 with ⟨q', hq, -, i⟩ | ⟨ob, -⟩
      · exact i
      · exfalso
        rcases ob with z | z
        · exact nI_pos (by omega) z
        · exact nI_nlt (a := 2) (b := q) (by omega) (by omega) z
    rcases k1.2 with ⟨p, hp, rfl, i1⟩ | ⟨z, i1⟩
    · rcases k2.2 with ⟨p', hp', -, i2⟩ | ⟨z, -⟩
      · have h1 : w 3 ≤ S := by rw [t3]; split <;> omega
        have sm : nI S - 1 - nI p = nI (S - 1 - p) := by
          have x1 : nI S - 1 = nI (S - 1) := oa_sub (b := 1) (by omega)
          rw [x1, oa_sub (by omega)]
        have sm2 : nI (w 3) - 1 - nI p = nI (w 3 - 1 - p) := by
          have x1 : nI (w 3) - 1 = nI (w 3 - 1) := oa_sub (b := 1) (by omega)
          rw [x1, oa_sub (by omega)]
        have fm := k_mod h (a := S - 1 - p) (b := 16) (by omega) (by omega) (by omega)
        have e16 : nI 16 = 16 := rfl
        rw [e16] at fm
        have ml : (S - 1 - p) % 16 < 16 := Nat.mod_lt _ (by omega)
        have v1 : vp_in (nI ((S - 1 - p) % 16)) 16 := vp_in_nI ml (by omega)
        have e3 : (253 : Int32) + 3 * nI (w 3 - 1 - p) + nI q = nI (253 + 3 * (w 3 - 1 - p) + q) := oa_ix3 253 3 _ _
        have v2 : vp_in (nI (253 + 3 * (w 3 - 1 - p) + q)) 301 := vp_in_nI (by omega) (by omega)
        obtain ⟨y0, y1, y2⟩ := t4 (w 3 - 1 - p) (by omega)
        rw [show S - w 3 + (w 3 - 1 - p) = S - 1 - p by omega] at y0 y1 y2
        have z0 : h.1 45 (h.2.2 11 0 7) ((S - 1 - p) % 16) = (hp_i hm 12 0 0 0).1 58 0 (253 + 3 * (w 3 - 1 - p)) := y0
        have z1 : h.1 46 (h.2.2 11 0 7) ((S - 1 - p) % 16) = (hp_i hm 12 0 0 0).1 58 0 (253 + 3 * (w 3 - 1 - p) + 1) := y1
        have z2 : h.1 47 (h.2.2 11 0 7) ((S - 1 - p) % 16) = (hp_i hm 12 0 0 0).1 58 0 (253 + 3 * (w 3 - 1 - p) + 2) := y2
        rw [sm, sm2, fm.2, e3, nI_clamp (show (S - 1 - p) % 16 < 2 ^ 31 by omega), nI_clamp (show 253 + 3 * (w 3 - 1 - p) + q < 2 ^ 31 by omega)]
        rcases (show q = 0 ∨ q = 1 ∨ q = 2 by omega) with rfl | rfl | rfl
        · have e0 : nI 0 = 0 := rfl
          have o : ¬ ((0 : Int32) < 0 ∨ (2 : Int32) < 0) := by decide
          have kp := k3.1
          simp only [Nat.add_zero] at v2
          rw [e0] at i3 kp ⊢
          simp [k1.1, k2.1, kp, i1, i2, i3, o, fm.1, v1, v2, z0]
        · have e0 : nI 1 = 1 := rfl
          have o : ¬ ((1 : Int32) < 0 ∨ (2 : Int32) < 1) := by decide
          have kp := k3.1
          rw [e0] at i3 kp ⊢
          simp [k1.1, k2.1, kp, i1, i2, i3, o, fm.1, v1, v2, z1]
        · have e0 : nI 2 = 2 := rfl
          have o : ¬ ((2 : Int32) < 0 ∨ (2 : Int32) < 2) := by decide
          have kp := k3.1
          rw [e0] at i3 kp ⊢
          simp [k1.1, k2.1, kp, i1, i2, i3, o, fm.1, v1, v2, z2]
      · exact (oa_excl (by omega) hp z).elim
    · rcases k2.2 with ⟨p', hp', rfl, -⟩ | ⟨-, i2⟩
      · exact (oa_excl (by omega) hp' z).elim
      · simp [k1.1, k2.1, k3.1, i1, i2, i3]
theorem e_truncate (A : RA h hm n) (a : Int32) : p_X11_truncate h a ∧ p_X12_truncate hm a ∧ f_X11_truncate h a = f_X12_truncate hm a ∧ RA (g_X11_truncate h a) (g_X12_truncate hm a) n := by
  obtain ⟨T, w, B, s, H, ⟨t, t1, t2, t3, t4⟩, E, F, r⟩ := A
  have t3' : (hp_i hm 12 0 0 0).1 12 0 3 = nI t := t3
  refine ⟨?_, trivial, ?_, ?_⟩
  · unfold p_X11_truncate p_X4_shorten f_X4_shorten
    refine ⟨trivial, ?_, trivial⟩
    grind
  · unfold f_X11_truncate f_X12_truncate f_X4_shorten
    rw [t2, t3']
  · unfold g_X11_truncate g_X12_truncate g_X4_shorten
    rw [t2, t3']
    have A0 : RA h (hp_i hm 12 0 0 0) n := RA.thr ⟨T, w, B, s, H, ⟨t, t1, t2, t3, t4⟩, E, F, r⟩
    by_cases d1 : a < 0
    · rw [if_pos d1, if_pos d1]; exact A0
    · rw [if_neg d1, if_neg d1]
      by_cases d2 : a ≤ nI t
      · rw [if_pos d2, if_pos d2]
        obtain ⟨j, hj, rfl⟩ := nI_of d1
        have := (nI_leI hj (by omega)).mp d2
        obtain ⟨T, w, B, s, H, -, E, F, r⟩ := A0
        exact ⟨T, w, B, s, H, ⟨j, by omega, rfl, rfl, fun k hk => t4 k (by omega)⟩, E, F, r⟩
      · rw [if_neg d2, if_neg d2]; exact A0
end RA2
