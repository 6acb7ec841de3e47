section RAI
variable {h hm h' hm' K : Hp} {c L : Nat} {T w w' : Nat → Nat} {n n' S : Nat}
theorem k_move {o j : Nat} (R : RM hm T w) (G : RG h L w) (I : IW T w n) (ho : o < w 1) (hj : j < 2 ^ 31) : p_X6_mayMove h L (nI o) (nI j) ∧ p_X12_isOff hm (nI o) (nI j) ∧
    (((w (93 + 8 * o + 4) = 1 → j = w (93 + 8 * o + 1)) ∧ f_X6_mayMove h L (nI o) (nI j) = 1 ∧ f_X12_isOff hm (nI o) (nI j) = 0) ∨ (¬ (w (93 + 8 * o + 4) = 1 → j = w (93 + 8 * o + 1)) ∧ f_X6_mayMove h L (nI o) (nI j) = 0 ∧ f_X12_isOff hm (nI o) (nI j) = 1)) := by
  have i := I.2.2.2 o ho
  have a1 := a_ord G I ho
  have a2 := a_whole G I ho
  have m1 := m_ord R I ho
  have e0 : (nI (w (93 + 8 * o + 4)) = 0) ↔ w (93 + 8 * o + 4) = 0 := nI_eq (b := 0) (by omega) (by omega)
  have e1 : (nI (w (93 + 8 * o + 4)) = 1) ↔ w (93 + 8 * o + 4) = 1 := nI_eq (b := 1) (by omega) (by omega)
  have eq : (nI j = nI (w (93 + 8 * o + 1))) ↔ j = w (93 + 8 * o + 1) := nI_eq hj (by omega)
  unfold p_X6_mayMove p_X12_isOff f_X6_mayMove f_X12_isOff
  simp only [a1, a2, m1, e0, e1, eq]
  by_cases d1 : w (93 + 8 * o + 4) = 1
  · have d0 : ¬ w (93 + 8 * o + 4) = 0 := by omega
    by_cases d2 : j = w (93 + 8 * o + 1)
    · simp [d1, d2]
    · simp [d1, d2]
  · have d0 : w (93 + 8 * o + 4) = 0 := by omega
    simp [d0]
theorem z_cancel (hn : n < 512) (A : RA h hm n) (a : Int32) : p_X11_cancel h a ∧ p_X12_cancel hm a ∧ ZT (x_X11_cancel h a) (f_X11_cancel h a) (f_X12_cancel hm a) (g_X12_cancel hm a) [(1, 1), (3, 2)] ∧ RA (g_X11_cancel h a) (g_X12_cancel hm a) (n + 1) := by
  obtain ⟨T, w, S, W⟩ := RA_iff.mp A
  obtain ⟨p1, p2, k⟩ := kk_order W.1 a
  obtain ⟨J, I, R, C, G⟩ := id W.1
  have bT := J.1
  have hw1 := I.1
  have Ah : ∀ x, RA h (hp_i (hp_i hm 12 0 0 0) 12 0 0 x) (n + 1) := fun x => (A.thr.thr).mono (by omega)
  have z1 : ∀ x : Int32, (hp_i (hp_i hm 12 0 0 0) 12 0 0 x).1 12 0 0 = x := fun x => rfl
  unfold p_X11_cancel p_X12_cancel x_X11_cancel f_X11_cancel f_X12_cancel g_X11_cancel g_X12_cancel ZT
  rcases k with ⟨o, ho, rfl, x1, f1, g1⟩ | ⟨x1, f1, g1⟩
  · obtain ⟨k1, k2, kc⟩ := kk_closed (hm := hp_i hm 12 0 0 0) R G I ho
    rcases kc with ⟨-, k3, k4⟩ | ⟨nc, k3, k4⟩
    · simp [p1, p2, x1, f1, g1, k1, k2, k3, k4, z1, p_X11_checkState, x_X11_checkState, p_X12_throwsIf, f_X12_throwsIf, g_X12_throwsIf]
      exact Ah 2
    · obtain ⟨q1, q2, W', q4⟩ := RW.record (W.thr (x := 0))
      obtain ⟨J', I', R', C', G'⟩ := id W'.1
      have io := I.2.2.2 o ho
      have kp : ∀ p, p < T 0 → w (93 + 8 * o + 6) * oa_need T (w (93 + 8 * o)) p ≤ w (21 + p) := fun p hp => by
        rw [(I.2.1 p (by omega)).2.2 hp]
        exact oa_sum_ge (f := fun o => w (93 + 8 * o + 6) * oa_need T (w (93 + 8 * o)) p) (w 1) 0 (by omega) (by omega)
      obtain ⟨c1, c2, W2, c4⟩ := W'.hold (y := 0) (x := -nI (w (93 + 8 * o + 6))) ho (by rw [nI_0]; grind) (by omega) (fun _ => rfl) (fun p hp => by have := kp p hp; have := (I.2.1 p (by omega)).2.1; omega)
      have gr : (g_X3_record h (h.2.2 11 0 7)).2.2 = h.2.2 := gr_X3_record
      have a1 := a_ord G' I' ho
      have m1 := m_ord R' I' ho
      obtain ⟨J2, I2, R2, C2, G2⟩ := id W2.1
      have gr2 : (g_X5_changeReserved (g_X3_record h (h.2.2 11 0 7)) (h.2.2 11 0 7) (h.2.2 11 0 6) (nI o) (-nI (w (93 + 8 * o + 6)))).2.2 = h.2.2 := gr_X5_changeReserved.trans gr
      rw [gr] at c1 W2 a1 G2
      rw [gr2] at G2
      have hold1 : ob_hold T w o 0 1 = w 1 := by unfold ob_hold; rw [if_neg (by omega), if_neg (by omega)]
      have hold7 : ob_hold T w o 0 (93 + 8 * o + 7) = w (93 + 8 * o + 7) := by unfold ob_hold; rw [if_neg (by omega), if_neg (by omega)]
      have hold6 : ob_hold T w o 0 (93 + 8 * o + 6) = 0 := by unfold ob_hold; rw [if_pos rfl]
      have ao := a_order G2 I2 (show o < ob_hold T w o 0 1 by rw [hold1]; exact ho)
      have n7 : w (93 + 8 * o + 7) = 0 := by omega
      -- cancelled
      have e7 : (93 : Int32) + 8 * nI o + 7 = nI (93 + 8 * o + 7) := oa_ix3 93 8 o 7
      have v7 : vp_in (nI (93 + 8 * o + 7)) 301 := vp_in_nI (by omega) (by omega)
      have r7 := R2.2 (93 + 8 * o + 7) (by omega) (by omega)
      rw [hold7, n7] at r7
      generalize hH : g_X5_changeReserved (g_X3_record h (h.2.2 11 0 7)) (h.2.2 11 0 7) (h.2.2 11 0 6) (nI o) (-nI (w (93 + 8 * o + 6))) = H at *
      generalize hK : g_X12_holds (g_X12_keeps (hp_i hm 12 0 0 0)) (nI o) (-nI (w (93 + 8 * o + 6))) = K at *
      have eM : g_X12_grows K (nI o) 7 1 = hp_i K 58 0 (93 + 8 * o + 7) (nI 1) := by
        unfold g_X12_grows
        rw [e7, nI_clamp (show 93 + 8 * o + 7 < 2 ^ 31 by omega), r7]
        rfl
      have pM : p_X12_grows K (nI o) 7 1 := by
        unfold p_X12_grows
        rw [e7]
        exact ⟨v7, v7, trivial⟩
      have eC : g_X6_markCancelled H (h.2.2 11 0 7) (nI o) = hp_i H 41 (h.2.2 11 0 7) o 1 := by
        unfold g_X6_markCancelled
        rw [ao.1, if_neg (by decide), ao.2.2.2]
      have pC : p_X6_markCancelled H (h.2.2 11 0 7) (nI o) := by
        unfold p_X6_markCancelled
        rw [ao.1]
        exact ⟨ao.2.1, fun z => absurd z (by decide), fun _ => ⟨ao.2.2.1, trivial⟩⟩
      have fin : RA (hp_i H 41 (h.2.2 11 0 7) o 1) (hp_i K 58 0 (93 + 8 * o + 7) (nI 1)) (n + 1) := by
        obtain ⟨⟨i0, i1, i2, i3⟩, i4, i5, i6⟩ := id I2
        have hw : ∀ j, ¬ j = 93 + 8 * o + 7 → ob_at (ob_hold T w o 0) (93 + 8 * o + 7) 1 j = ob_hold T w o 0 j := fun j hj => by unfold ob_at; rw [if_neg hj]
        have h7 : ob_at (ob_hold T w o 0) (93 + 8 * o + 7) 1 (93 + 8 * o + 7) = 1 := by unfold ob_at; rw [if_pos rfl]
        have s2 := W2.2.2.1
        rw [gr2] at s2
        refine (RW.upd (w' := ob_at (ob_hold T w o 0) (93 + 8 * o + 7) 1) (S' := S) W2 (by omega) (fun t i ht hh => hp_i_n (fun z => hh ⟨by unfold LG; omega, by rw [gr2]; exact z.2⟩)) hp_i_21 hp_i_22 (fun t ht h58 => hp_i_t h58) (fun k hk => by rw [hp_i_t (by omega)]) ?_ (fun j h1 h2 => ?_) ?_ (by have := W.2.1; omega) ?_).ra
        · refine ⟨⟨?_, ?_, ?_, ?_⟩, fun p hp => ?_, fun k hk => ?_, fun o' ho' => ?_⟩
          · rw [hw 0 (by omega)]; omega
          · rw [hw 1 (by omega)]; exact i1
          · rw [hw 2 (by omega)]; exact i2
          · rw [hw 3 (by omega)]; exact i3
          · rw [hw (9 + p) (by omega), hw (21 + p) (by omega), hw 1 (by omega)]
            obtain ⟨y1, y2, y3⟩ := i4 p hp
            rw [ob_pend_same (w := ob_hold T w o 0) (hw 2 (by omega)) (fun j h1 h2 => hw j (by omega)) i2]
            refine ⟨by omega, y2, fun z => (y3 z).trans (oa_sum_congr _ _ (fun j _ hj => by rw [hw (93 + 8 * j + 6) (by omega), hw (93 + 8 * j) (by omega)]))⟩
          · rw [hw 2 (by omega)] at hk
            rw [hw 0 (by omega), hw (33 + 3 * k) (by omega), hw (33 + 3 * k + 1) (by omega), hw (33 + 3 * k + 2) (by omega)]
            have := i5 k hk
            omega
          · rw [hw 1 (by omega)] at ho'
            have y := i6 o' ho'
            rw [hw (93 + 8 * o') (by omega), hw (93 + 8 * o' + 1) (by omega), hw (93 + 8 * o' + 2) (by omega), hw (93 + 8 * o' + 3) (by omega), hw (93 + 8 * o' + 4) (by omega), hw (93 + 8 * o' + 5) (by omega), hw (93 + 8 * o' + 6) (by omega)]
            by_cases z : o' = o
            · rw [z, h7, hold6]
              rw [z, hold6] at y
              exact ⟨y.1, y.2.1, y.2.2.1, y.2.2.2.1, y.2.2.2.2.1, y.2.2.2.2.2.1, y.2.2.2.2.2.2.1, by omega, fun _ => rfl⟩
            · rw [hw (93 + 8 * o' + 7) (by omega)]
              exact y
        · rw [hp_i_g]
          by_cases z : j = 93 + 8 * o + 7
          · rw [if_pos z, z, h7]
          · rw [if_neg z, hw j z]
            exact R2.2 j h1 h2
        · rw [gr2]
          obtain ⟨⟨y1, y2, y3⟩, y4, y5, y6⟩ := id G2
          refine ⟨⟨?_, ?_, ?_⟩, fun p hp => ?_, fun k hk => ?_, fun o' ho' => ?_⟩
          · rw [hw 0 (by omega), hp_i_t (by omega)]; exact y1
          · rw [hw 1 (by omega), hp_i_t (by omega)]; exact y2
          · rw [hw 2 (by omega), hp_i_t (by omega)]; exact y3
          · rw [hw (9 + p) (by omega), hw (21 + p) (by omega), hp_i_t (by omega), hp_i_t (by omega)]; exact y4 p hp
          · rw [hw 2 (by omega)] at hk
            rw [hw (33 + 3 * k) (by omega), hw (33 + 3 * k + 1) (by omega), hw (33 + 3 * k + 2) (by omega), hp_i_t (by omega), hp_i_t (by omega), hp_i_t (by omega)]
            exact y5 k hk
          · rw [hw 1 (by omega)] at ho'
            obtain ⟨b1, b2, b3, b4, b5, b6, b7, b8⟩ := y6 o' ho'
            rw [hw (93 + 8 * o') (by omega), hw (93 + 8 * o' + 1) (by omega), hw (93 + 8 * o' + 2) (by omega), hw (93 + 8 * o' + 3) (by omega), hw (93 + 8 * o' + 4) (by omega), hw (93 + 8 * o' + 5) (by omega), hw (93 + 8 * o' + 6) (by omega), hp_i_t (show ¬ 36 = 41 by omega), hp_i_t (show ¬ 37 = 41 by omega), hp_i_t (show ¬ 38 = 41 by omega), hp_i_t (show ¬ 39 = 41 by omega), hp_i_t (show ¬ 40 = 41 by omega), hp_i_t (show ¬ 43 = 41 by omega), hp_i_t (show ¬ 42 = 41 by omega), hp_i_g]
            refine ⟨b1, b2, b3, b4, b5, b6, b7, ?_⟩
            by_cases z : o' = o
            · rw [if_pos z, z, h7]; rfl
            · rw [if_neg z, hw (93 + 8 * o' + 7) (by omega)]
              exact b8
        · rw [gr2]
          exact s2.keep (by have := i3; exact this) (fun t h1 h2 => hp_i_t (by omega)) (fun k hk => by rw [hp_i_g, if_neg (by omega)]) (hw 3 (by omega))
      have q5 : (hp_i K 58 0 (93 + 8 * o + 7) (nI 1)).1 12 0 0 = 0 := by
        rw [hp_i_t (by omega), c4]
        exact q4
      have g2' : (hp_i H 41 (h.2.2 11 0 7) o 1).2.2 = h.2.2 := gr2
      simp [p1, p2, x1, f1, g1, k1, k2, k3, k4, p_X11_checkState, x_X11_checkState, p_X12_throwsIf, f_X12_throwsIf, g_X12_throwsIf, gr, gr2, a1, m1, hH, hK, eM, eC, pM, pC, q1, q2, c1, c2, fin, q5]
  · simp [p1, p2, x1, f1, g1, z1]
    exact Ah 1
end RAI
