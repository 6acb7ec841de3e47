section RAO
variable {h hm h' hm' K : Hp} {c L : Nat} {T w w' : Nat → Nat} {n n' S : Nat}
theorem z_ship (hn : n < 512) (A : RA h hm n) (a : Int32) : p_X11_ship h a ∧ p_X12_ship hm a ∧ ZT (x_X11_ship h a) (f_X11_ship h a) (f_X12_ship hm a) (g_X12_ship hm a) [(1, 1), (3, 2)] ∧ RA (g_X11_ship h a) (g_X12_ship hm a) (n + 1) := by
  obtain ⟨T, w, S, W⟩ := RA_iff.mp A
  obtain ⟨p1, p2, k⟩ := kk_order W.1 a
  obtain ⟨J, I, R, C, G⟩ := id W.1
  have bT := J.1
  have hw1 := I.1
  have Ah : ∀ x, RA h (hp_i (hp_i hm 12 0 0 0) 12 0 0 x) (n + 1) := fun x => (A.thr.thr).mono (by omega)
  have z1 : ∀ x : Int32, (hp_i (hp_i hm 12 0 0 0) 12 0 0 x).1 12 0 0 = x := fun x => rfl
  unfold p_X11_ship p_X12_ship x_X11_ship f_X11_ship f_X12_ship g_X11_ship g_X12_ship ZT
  rcases k with ⟨o, ho, rfl, x1, f1, g1⟩ | ⟨x1, f1, g1⟩
  · have io := I.2.2.2 o ho
    have a1 := a_ord G I ho
    have m1 := m_ord (hm := hp_i hm 12 0 0 0) R I ho
    have le : (nI (w (93 + 8 * o + 6)) ≤ 0) ↔ w (93 + 8 * o + 6) ≤ 0 := nI_leI (b := 0) (by omega) (by omega)
    have eq : (nI (w (93 + 8 * o + 6)) = 0) ↔ w (93 + 8 * o + 6) = 0 := nI_eq (b := 0) (by omega) (by omega)
    by_cases d : w (93 + 8 * o + 6) = 0
    · have d2 : w (93 + 8 * o + 6) ≤ 0 := by omega
      simp [p1, p2, x1, f1, g1, a1, m1, le, eq, d, z1, p_X11_checkState, x_X11_checkState, p_X12_throwsIf, f_X12_throwsIf, g_X12_throwsIf, nI_0]
      exact Ah 2
    · have d2 : ¬ w (93 + 8 * o + 6) ≤ 0 := by omega
      obtain ⟨q1, q2, W', q4⟩ := RW.record (W.thr (x := 0))
      obtain ⟨J', I', R', C', G'⟩ := id W'.1
      have m2 := m_ord R' I' ho
      obtain ⟨c1, c2, c3, c4, c5, c6, ⟨w', S', W2⟩, c8⟩ := W'.ship hn ho (by omega)
      have gr : (g_X3_record h (h.2.2 11 0 7)).2.2 = h.2.2 := gr_X3_record
      rw [gr] at c1 c2 W2
      have fin := W2.ra
      have q5 : (gw_X12_ship_66 oa_N (g_X12_grows (g_X12_holds (g_X12_keeps (hp_i hm 12 0 0 0)) (nI o) (-nI (w (93 + 8 * o + 6)))) (nI o) 5 (nI (w (93 + 8 * o + 6)))) (nI o) (nI (w (93 + 8 * o + 6))) 0).1 12 0 0 = 0 := by rw [c8]; exact q4
      simp [p1, p2, x1, f1, g1, a1, m1, m2, le, eq, d, d2, p_X11_checkState, x_X11_checkState, p_X12_throwsIf, f_X12_throwsIf, g_X12_throwsIf, gr, q1, q2, c1, c2, c3, c4, c5, c6, fin, q5]
  · simp [p1, p2, x1, f1, g1, z1]
    exact Ah 1
/-- model: a row taken back -/
theorem m_undoL {d : Nat} (hd : d < 12) : ∀ (m k e : Nat) (K : Hp), K.1 12 0 16 = nI d → k + m = 301 →
    pw_X12_undo_26 (m + 1 + e) K (nI k) ∧ fw_X12_undo_26 (m + 1 + e) K (nI k) = nI d ∧ (∀ j, k ≤ j → j < 301 → (gw_X12_undo_26 (m + 1 + e) K (nI k)).1 58 0 j = K.1 59 0 (301 * d + j)) ∧ (∀ j, j < k → (gw_X12_undo_26 (m + 1 + e) K (nI k)).1 58 0 j = K.1 58 0 j) ∧ (∀ t, ¬ t = 58 → (gw_X12_undo_26 (m + 1 + e) K (nI k)).1 t 0 = K.1 t 0) := by
  intro m
  induction m with
  | zero =>
    intro k e K h16 hk
    rw [show 0 + 1 + e = e + 1 by omega]
    have c1 : (301 : Int32) ≤ nI k := nI_le (a := 301) (by omega) (by omega)
    have ef : gw_X12_undo_26 (e + 1) K (nI k) = K := by rw [gw_X12_undo_26, if_pos c1]
    rw [ef]
    refine ⟨?_, ?_, fun j h1 h2 => by omega, fun j hj => rfl, fun t _ => rfl⟩
    · simp [pw_X12_undo_26, c1]
    · rw [fw_X12_undo_26, if_pos c1, h16]
  | succ m ih =>
    intro k e K h16 hk
    rw [show m + 1 + 1 + e = (m + 1 + e) + 1 by omega]
    have c1 : ¬ (301 : Int32) ≤ nI k := nI_ge (b := 301) (by omega) (by omega)
    have e1 : (301 : Int32) * nI d + nI k = nI (301 * d + k) := by
      have : (301 : Int32) * nI d = nI (301 * d) := oa_mul 301 d
      rw [this, nI_add]
    have v1 : vp_in (nI k) 301 := vp_in_nI (by omega) (by omega)
    have v2 : vp_in (nI (301 * d + k)) 3612 := vp_in_nI (by omega) (by omega)
    obtain ⟨r1, r2, r3, r4, r5⟩ := ih (k + 1) e (hp_i K 58 0 k (K.1 59 0 (301 * d + k))) h16 (by omega)
    rw [nI_succ] at r1 r2 r3 r4 r5
    have ef : gw_X12_undo_26 ((m + 1 + e) + 1) K (nI k) = gw_X12_undo_26 (m + 1 + e) (hp_i K 58 0 k (K.1 59 0 (301 * d + k))) (nI k + 1) := by
      rw [gw_X12_undo_26, if_neg c1, h16, e1, nI_clamp (show 301 * d + k < 2 ^ 31 by omega), nI_clamp (show k < 2 ^ 31 by omega)]
    rw [ef]
    refine ⟨?_, ?_, fun j h1 h2 => ?_, fun j hj => ?_, fun t ht => ?_⟩
    · rw [pw_X12_undo_26, h16, e1, nI_clamp (show 301 * d + k < 2 ^ 31 by omega), nI_clamp (show k < 2 ^ 31 by omega)]
      exact ⟨fun z => (c1 z).elim, fun _ => ⟨v2, v1, r1⟩⟩
    · rw [fw_X12_undo_26, if_neg c1, h16, e1, nI_clamp (show 301 * d + k < 2 ^ 31 by omega), nI_clamp (show k < 2 ^ 31 by omega)]
      exact r2
    · by_cases z : j = k
      · subst z
        rw [r4 j (by omega), hp_i_g, if_pos rfl]
      · exact r3 j (by omega) h2
    · rw [r4 j (by omega), hp_i_g, if_neg (by omega)]
    · rw [r5 t ht, hp_i_t ht]
theorem k_mod' (h : Hp) {x : Nat} (hx : x < 12) : p_J9_floorMod_7cf53 h (nI x - 1) 12 ∧ f_J9_floorMod_7cf53 h (nI x - 1) 12 = nI ((x + 11) % 12) := by
  refine ⟨⟨by decide, trivial⟩, ?_⟩
  by_cases z : x = 0
  · subst z
    have e : nI 0 - 1 = -1 := by decide
    rw [e]
    unfold f_J9_floorMod_7cf53
    decide
  · have e : nI x - 1 = nI (x - 1) := oa_sub (b := 1) (by omega)
    have m := (k_mod h (a := x - 1) (b := 12) (by omega) (by omega) (by omega)).2
    have e12 : nI 12 = 12 := rfl
    rw [e12] at m
    rw [e, m]
    congr 1
    omega
theorem z_undo (hn : n < 512) (A : RA h hm n) : p_X11_undo h ∧ p_X12_undo hm ∧ f_X11_undo h = f_X12_undo hm ∧ RA (g_X11_undo h) (g_X12_undo hm) (n + 1) := by
  obtain ⟨T, w, S, W⟩ := RA_iff.mp A
  obtain ⟨⟨J, I, R, C, G⟩, s1, s2, ⟨d, x, d1, d2, d3, d4, d5, d6⟩, ⟨t, t1, t2, t3, t4⟩, ⟨e1, e2⟩, ⟨u, u1, u2, u3, u4⟩, r⟩ := id W
  have km := k_mod' h d2
  have ml : (x + 11) % 12 < 12 := Nat.mod_lt _ (by omega)
  have vm : vp_in (nI ((x + 11) % 12)) 12 := vp_in_nI ml (by omega)
  have h16 : (hp_i hm 12 0 0 0).1 12 0 16 = nI d := d5
  have rL := r.2.1
  unfold p_X11_undo p_X12_undo f_X11_undo f_X12_undo g_X11_undo g_X12_undo p_X3_takeBack f_X3_takeBack g_X3_takeBack
  rw [d3, d4, km.2, nI_clamp (show (x + 11) % 12 < 2 ^ 31 by omega), h16]
  by_cases z : d = 0
  · have z0 : nI d = 0 := by rw [z]; rfl
    have Ah : RA h (hp_i hm 12 0 0 0) (n + 1) := A.thr.mono (by omega)
    simp [z0, km.1, vm, Ah]
  · have z0 : ¬ nI d = 0 := nI_ne0 (by omega) (by omega)
    have ed : nI d - 1 = nI (d - 1) := oa_sub (b := 1) (by omega)
    obtain ⟨e, he⟩ := oa_fuel (show 301 < 1000000 by omega)
    obtain ⟨m1, m2, m3, m4, m5⟩ := m_undoL (d := d - 1) (by omega) 301 0 e (hp_i (hp_i hm 12 0 0 0) 12 0 16 (nI (d - 1))) (by rw [hp_i_g, if_pos rfl]) (by omega)
    rw [← he, nI_0] at m1 m2 m3 m4 m5
    have cc : ∀ t i, ¬ (LG t ∧ i = h.2.2 11 0 7) → (g_X5_copyFrom h (h.2.2 11 0 7) (2 + (x + 11) % 12)).1 t i = h.1 t i := fun t i hh => by
      unfold LG at hh
      exact fr_X5_copyFrom (by omega) (by omega) (by omega) (by omega) (by omega) (by omega) (by omega) (by omega) (by omega) (by omega) (by omega) (by omega) (by omega) (by omega) (by omega) (by omega) (by omega) (by omega) (by omega)
    have cp : ∀ t k, LC t k → (g_X5_copyFrom h (h.2.2 11 0 7) (2 + (x + 11) % 12)).1 t (h.2.2 11 0 7) k = h.1 t (2 + (x + 11) % 12) k := fun t k hk => a_copy (by omega) t k hk
    have c30 : ∀ y, (hp_i (g_X5_copyFrom h (h.2.2 11 0 7) (2 + (x + 11) % 12)) 3 0 1 y).1 3 0 0 = nI d := fun y => by rw [hp_i_g, if_neg (by omega), cc 3 0 (by unfold LG; omega)]; exact d3
    rw [if_neg z0, if_neg z0, if_pos z0, if_pos z0, if_neg (by decide), c30, ed, hp_i_g, if_pos rfl]
    have hg : ∀ t i, ¬ t = 3 → ¬ (LG t ∧ i = h.2.2 11 0 7) → (hp_i (hp_i (g_X5_copyFrom h (h.2.2 11 0 7) (2 + (x + 11) % 12)) 3 0 1 (nI ((x + 11) % 12))) 3 0 0 (nI (d - 1))).1 t i = h.1 t i := fun t i h1 h2 => by
      rw [hp_i_t h1, hp_i_t h1]; exact cc t i h2
    have hcp : ∀ t k, LC t k → (hp_i (hp_i (g_X5_copyFrom h (h.2.2 11 0 7) (2 + (x + 11) % 12)) 3 0 1 (nI ((x + 11) % 12))) 3 0 0 (nI (d - 1))).1 t (h.2.2 11 0 7) k = h.1 t (2 + (x + 11) % 12) k := fun t k hk => by
      have t3 : ¬ t = 3 := by unfold LC at hk; omega
      rw [hp_i_t t3, hp_i_t t3]; exact cp t k hk
    obtain ⟨wp, V⟩ := d6 (d - 1) (by omega)
    rw [show 2 + (x + 12 - d + (d - 1)) % 12 = 2 + (x + 11) % 12 by omega] at V
    obtain ⟨v1, v2, v3, Sp, v4, v5⟩ := V
    have hr : (hp_i (hp_i (g_X5_copyFrom h (h.2.2 11 0 7) (2 + (x + 11) % 12)) 3 0 1 (nI ((x + 11) % 12))) 3 0 0 (nI (d - 1))).2.2 = h.2.2 := by rw [hp_i_22, hp_i_22]; exact gr_X5_copyFrom
    have hl : (hp_i (hp_i (g_X5_copyFrom h (h.2.2 11 0 7) (2 + (x + 11) % 12)) 3 0 1 (nI ((x + 11) % 12))) 3 0 0 (nI (d - 1))).2.1 = h.2.1 := by rw [hp_i_21, hp_i_21]; exact gl_X5_copyFrom
    have r58 : ∀ j, j < 301 → (gw_X12_undo_26 oa_N (hp_i (hp_i hm 12 0 0 0) 12 0 16 (nI (d - 1))) 0).1 58 0 j = hm.1 59 0 (301 * (d - 1) + j) := fun j hj => by rw [m3 j (by omega) hj, hp_i_t (by omega), hp_i_t (by omega)]
    have rT : ∀ t, ¬ t = 58 → ¬ t = 12 → (gw_X12_undo_26 oa_N (hp_i (hp_i hm 12 0 0 0) 12 0 16 (nI (d - 1))) 0).1 t 0 = hm.1 t 0 := fun t h1 h2 => by rw [m5 t h1, hp_i_t h2, hp_i_t h2]
    have r12 : ∀ k, ¬ k = 16 → ¬ k = 0 → (gw_X12_undo_26 oa_N (hp_i (hp_i hm 12 0 0 0) 12 0 16 (nI (d - 1))) 0).1 12 0 k = hm.1 12 0 k := fun k h1 h2 => by rw [m5 12 (by omega), hp_i_g, if_neg h1, hp_i_g, if_neg h2]
    refine ⟨⟨⟨km.1, vm, fun z => (z0 z).elim, fun _ => ⟨⟨trivial, a_cp6, trivial, trivial⟩, trivial⟩⟩, trivial⟩, ⟨fun _ => m1, fun z => (z0 z).elim⟩, m2.symm, RW.ra (T := T) (w := wp) (S := Sp) (RW.mono (n := n) (n' := n + 1) ?_ (by omega))⟩
    refine ⟨⟨J, v2, ⟨?_, fun k h1 h2 => ?_⟩, ?_, ?_⟩, v4, ?_, ⟨d - 1, (x + 11) % 12, by omega, ml, ?_, ?_, ?_, fun k hk => ?_⟩, ⟨t, t1, ?_, ?_, ?_⟩, ⟨?_, ?_⟩, ⟨u, u1, ?_, ?_, ?_⟩, ?_⟩
    · rw [rT 56 (by omega) (by omega)]; exact R.1
    · rw [r58 k h1]; exact v1 k h1 h2
    · rw [hr]; exact C.same (fun t ht i => hg t i (by omega) (by unfold LG; omega)) hl
    · rw [hr]; exact v3.copy v2 hcp
    · rw [hr]
      exact (v5.copy hcp).row v2.1.2.2.2 (fun k hk => r58 k hk)
    · rw [hp_i_g, if_pos rfl]
    · rw [hp_i_g, if_neg (by omega), hp_i_g, if_pos rfl]
    · rw [m5 12 (by omega), hp_i_g, if_pos rfl]
    · obtain ⟨w', V'⟩ := d6 k (by omega)
      refine ⟨w', ?_⟩
      rw [show 2 + ((x + 11) % 12 + 12 - (d - 1) + k) % 12 = 2 + (x + 12 - d + k) % 12 by omega]
      exact V'.copy (fun t k' hk' => by
        have t3 : ¬ t = 3 := by unfold LC at hk'; omega
        rw [hg t _ t3 (by omega)]) (fun j hj => by rw [rT 59 (by omega) (by omega)])
    · rw [hg 4 0 (by omega) (by unfold LG; omega)]; exact t2
    · rw [r12 3 (by omega) (by omega)]; exact t3
    · rw [hg 35 0 (by omega) (by unfold LG; omega), rT 54 (by omega) (by omega)]; exact t4
    · rw [hg 7 0 (by omega) (by unfold LG; omega), r12 9 (by omega) (by omega)]; exact e1
    · rw [hg 7 0 (by omega) (by unfold LG; omega), r12 10 (by omega) (by omega)]; exact e2
    · rw [hg 2 0 (by omega) (by unfold LG; omega)]; exact u2
    · rw [r12 24 (by omega) (by omega)]; exact u3
    · rw [hg 33 0 (by omega) (by unfold LG; omega), rT 65 (by omega) (by omega)]; exact u4
    · unfold RR; rw [hr]; exact r
end RAO
