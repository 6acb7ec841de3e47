section RAG
variable {h hm h' hm' : Hp} {L : Nat} {T w w' : Nat → Nat} {n n' S : Nat}
theorem k_arg0 (hm : Hp) (a : Int32) (N : Nat) (hN : N < 100000) : p_X12_in hm a 0 (nI N) ∧ ((∃ v, v ≤ N ∧ a = nI v ∧ f_X12_in hm a 0 (nI N) = 1 ∧ (if a < 0 then (0 : Int32) else if nI N < a then 0 else 1) = 1) ∨ (f_X12_in hm a 0 (nI N) = 0 ∧ (if a < 0 then (0 : Int32) else if nI N < a then 0 else 1) = 0)) := by
  have k := k_in0 hm a N (by omega)
  refine ⟨k.1, ?_⟩
  rcases k.2 with ⟨v, hv, rfl, i⟩ | ⟨z, i⟩
  · refine Or.inl ⟨v, hv, rfl, i, ?_⟩
    rw [if_neg (nI_pos (by omega)), if_neg (nI_nlt (by omega) (by omega))]
  · refine Or.inr ⟨i, ?_⟩
    by_cases d : a < 0
    · rw [if_pos d]
    · rw [if_neg d, if_pos]
      rcases z with z | z
      · exact (d z).elim
      · exact z
theorem z_addOrder (hn : n < 512) (A : RA h hm n) (a u c d b : Int32) (hb : b = 0 ∨ b = 1) : p_X11_addOrder h a u c d b ∧ p_X12_addOrder hm a u c d b ∧ ZT (x_X11_addOrder h a u c d b) (f_X11_addOrder h a u c d b) (f_X12_addOrder hm a u c d b) (g_X12_addOrder hm a u c d b) [(1, 1), (2, 2), (3, 3)] ∧ RA (g_X11_addOrder h a u c d b) (g_X12_addOrder hm a u c d b) (n + 1) := by
  obtain ⟨T, w, S, W⟩ := RA_iff.mp A
  obtain ⟨p1, p2, k⟩ := kk_product W.1 a
  obtain ⟨J, I, R, C, G⟩ := id W.1
  have bT := J.1
  have hw1 := I.1.2.1
  have ka := k_arg (hp_i hm 12 0 0 0) u 99 (by omega)
  have kb := k_arg0 (hp_i hm 12 0 0 0) c 9 (by omega)
  have kc := k_arg0 (hp_i hm 12 0 0 0) d 999 (by omega)
  have e99 : nI 99 = 99 := rfl
  have e9 : nI 9 = 9 := rfl
  have e999 : nI 999 = 999 := rfl
  rw [e99] at ka
  rw [e9] at kb
  rw [e999] at kc
  have r1' : ∀ x, (hp_i hm 12 0 0 x).1 58 0 1 = nI (w 1) := fun x => R.2 1 (by omega) (by omega)
  have Ah : ∀ x, RA h (hp_i (hp_i hm 12 0 0 0) 12 0 0 x) (n + 1) := fun x => (A.thr.thr).mono (by omega)
  have z1 : ∀ x : Int32, (hp_i (hp_i hm 12 0 0 0) 12 0 0 x).1 12 0 0 = x := fun x => rfl
  unfold p_X11_addOrder p_X12_addOrder x_X11_addOrder f_X11_addOrder f_X12_addOrder g_X11_addOrder g_X12_addOrder ZT
  rcases k with ⟨q, hq, rfl, x1, f1, g1⟩ | ⟨x1, f1, g1⟩
  · rcases ka.2 with ⟨v, hv1, hv2, rfl, i1, i2⟩ | ⟨i1, i2⟩
    · rcases kb.2 with ⟨vc, hc, rfl, i3, i4⟩ | ⟨i3, i4⟩
      · rcases kc.2 with ⟨vd, hd, rfl, i5, i6⟩ | ⟨i5, i6⟩
        · by_cases c1 : w 1 < 20
          · obtain ⟨q1, q2, W', q4⟩ := RW.record (W.thr (x := 0))
            obtain ⟨J', I', R', C', G'⟩ := id W'.1
            have gr : (g_X3_record h (h.2.2 11 0 7)).2.2 = h.2.2 := gr_X3_record
            have fin := fun Z vb hvb => z_addG (Z := Z) (b := vb) W' hq hv1 hv2 hc hd hvb c1
            rw [gr] at G'
            simp only [gr] at fin
            generalize hH : g_X3_record h (h.2.2 11 0 7) = H at *
            generalize hK : g_X12_keeps (hp_i hm 12 0 0 0) = K at *
            have k1 : K.1 58 0 1 = nI (w 1) := R'.2 1 (by omega) (by omega)
            have ix0 : (93 : Int32) + 8 * nI (w 1) = nI (93 + 8 * w 1) := oa_ix2 93 8 _
            have vw : vp_in (nI (w 1)) 20 := vp_in_nI (by omega) (by omega)
            have h60 : H.1 6 (h.2.2 11 0 7) 0 = nI (w 1) := G'.1.2.1
            have nle : ¬ (20 : Int32) ≤ nI (w 1) := nI_ge (b := 20) (by omega) (by omega)
            have lt20 : nI (w 1) < 20 := nI_lt (b := 20) (by omega) (by omega)
            have n20 : ¬ nI (w 1) = 20 := fun z => by have := (nI_eq (b := 20) (by omega) (by omega)).mp z; omega
            obtain ⟨e, he⟩ := oa_fuel (show 8 < 1000000 by omega)
            obtain ⟨m1, Z, m2, m3, m4, m5⟩ := m_addL (r := 93 + 8 * w 1) (x1 := nI q) (x2 := nI v) (x3 := nI vc) (x4 := nI vd) (x5 := b) (x6 := 0) (by omega) 8 0 e K (by omega)
            rw [← he, nI_0] at m1 m2 m3
            rw [Nat.add_zero] at m4
            have zz : ∀ x, (hp_i (hp_i (hp_i (hp_i (hp_i Z 58 0 (93 + 8 * w 1) (nI q)) 58 0 (93 + 8 * w 1 + 1) (nI v)) 58 0 (93 + 8 * w 1 + 2) (nI vc)) 58 0 (93 + 8 * w 1 + 3) (nI vd)) 58 0 (93 + 8 * w 1 + 4) x).1 58 0 1 = nI (w 1) := fun x => by
              rw [hp_i_g, if_neg (by omega), hp_i_g, if_neg (by omega), hp_i_g, if_neg (by omega), hp_i_g, if_neg (by omega), hp_i_g, if_neg (by omega), m4, if_neg (by omega)]
              exact k1
            rw [zz, hp_i_g, if_pos rfl] at m2
            rw [zz] at m3
            rw [← nI_succ] at m2 m3
            have ef : nI (w 1 + 1) - 1 = nI (w 1) := nI_pred _
            rw [ef] at m2
            have g12 : (gw_X12_addOrder_109 oa_N K (nI q) (nI v) (nI vc) (nI vd) b 0 (nI (93 + 8 * w 1)) 0).1 12 0 0 = 0 := by
              rw [m3, hp_i_t (by omega), hp_i_t (by omega), hp_i_t (by omega), hp_i_t (by omega), hp_i_t (by omega), hp_i_t (by omega), m5 12 (by omega)]
              exact q4
            have hR : RA (hp_i (hp_i (hp_i (hp_i (hp_i (hp_i (hp_i (hp_i (hp_i H 36 (h.2.2 11 0 7) (w 1) (nI q)) 37 (h.2.2 11 0 7) (w 1) (nI v)) 38 (h.2.2 11 0 7) (w 1) (nI vc)) 39 (h.2.2 11 0 7) (w 1) (nI vd)) 40 (h.2.2 11 0 7) (w 1) b) 41 (h.2.2 11 0 7) (w 1) 0) 42 (h.2.2 11 0 7) (w 1) 0) 43 (h.2.2 11 0 7) (w 1) 0) 6 (h.2.2 11 0 7) 0 (nI (w 1 + 1))) (gw_X12_addOrder_109 oa_N K (nI q) (nI v) (nI vc) (nI vd) b 0 (nI (93 + 8 * w 1)) 0) (n + 1) := by
              rw [m3]
              rcases hb with rfl | rfl
              · have := (fin Z 0 (by omega) m4 m5).ra
                rw [nI_0] at this
                rw [if_pos rfl]
                exact this
              · have := (fin Z 1 (by omega) m4 m5).ra
                have e1 : nI 1 = 1 := rfl
                rw [e1] at this
                rw [if_neg (by decide)]
                exact this
            have eC : g_X6_enter H (h.2.2 11 0 7) (nI q) (nI v) (nI vc) (nI vd) b = hp_i (hp_i (hp_i (hp_i (hp_i (hp_i (hp_i (hp_i (hp_i H 36 (h.2.2 11 0 7) (w 1) (nI q)) 37 (h.2.2 11 0 7) (w 1) (nI v)) 38 (h.2.2 11 0 7) (w 1) (nI vc)) 39 (h.2.2 11 0 7) (w 1) (nI vd)) 40 (h.2.2 11 0 7) (w 1) b) 41 (h.2.2 11 0 7) (w 1) 0) 42 (h.2.2 11 0 7) (w 1) 0) 43 (h.2.2 11 0 7) (w 1) 0) 6 (h.2.2 11 0 7) 0 (nI (w 1 + 1)) := by
              unfold g_X6_enter
              rw [h60, if_pos lt20, nI_clamp (show w 1 < 2 ^ 31 by omega), ← nI_succ]
            have eF : f_X6_enter H (h.2.2 11 0 7) (nI q) (nI v) (nI vc) (nI vd) b = nI (w 1) := by
              unfold f_X6_enter
              rw [h60, if_pos lt20, hp_i_g, if_pos rfl, ← nI_succ]
              exact ef
            simp [p_X12_throwsIf, f_X12_throwsIf, g_X12_throwsIf, p_X11_checkArgument, x_X11_checkArgument, x1, f1, g1, i1, i2, i3, i4, i5, i6, G.1.2.1, r1', n20, p_X11_checkState, x_X11_checkState, p1, p2, ka.1, kb.1, kc.1, hH, hK, gr, eC, eF, k1, ix0, q1, q2, p_X6_enter, h60, lt20, nle, vw, hb, m1, m2, g12, hR]
          · have c2 : w 1 = 20 := by omega
            have eq20 : nI (w 1) = 20 := by rw [c2]; rfl
            simp [p1, p2, x1, f1, g1, ka.1, kb.1, kc.1, i1, i2, i3, i4, i5, i6, G.1.2.1, r1', eq20, p_X11_checkState, x_X11_checkState, z1, p_X11_checkArgument, x_X11_checkArgument, p_X12_throwsIf, f_X12_throwsIf, g_X12_throwsIf]
            exact Ah 3
        · simp [p1, p2, x1, f1, g1, ka.1, kb.1, kc.1, i1, i2, i3, i4, i5, i6, z1, p_X11_checkArgument, x_X11_checkArgument, p_X12_throwsIf, f_X12_throwsIf, g_X12_throwsIf]
          exact Ah 2
      · simp [p1, p2, x1, f1, g1, ka.1, kb.1, i1, i2, i3, i4, z1, p_X11_checkArgument, x_X11_checkArgument, p_X12_throwsIf, f_X12_throwsIf, g_X12_throwsIf]
        exact Ah 2
    · simp [p1, p2, x1, f1, g1, ka.1, i1, i2, z1, p_X11_checkArgument, x_X11_checkArgument, p_X12_throwsIf, f_X12_throwsIf, g_X12_throwsIf]
      exact Ah 2
  · rcases ka.2 with ⟨v, hv1, hv2, rfl, i1, i2⟩ | ⟨i1, i2⟩
    · rcases kb.2 with ⟨vc, hc, rfl, i3, i4⟩ | ⟨i3, i4⟩
      · simp [p1, p2, x1, f1, g1, ka.1, kb.1, kc.1, i1, i2, i3, i4, z1]
        exact Ah 1
      · simp [p1, p2, x1, f1, g1, ka.1, kb.1, i1, i2, i3, i4, z1]
        exact Ah 1
    · simp [p1, p2, x1, f1, g1, ka.1, i1, i2, z1]
      exact Ah 1
end RAG
