section RAJ
variable {h hm h' hm' K : Hp} {c L : Nat} {T w w' : Nat → Nat} {n n' S : Nat}
theorem k_unit (a : Int32) : (∃ j, 1 ≤ j ∧ j < 2 ^ 31 ∧ a = nI j ∧ (if a < 1 then (0 : Int32) else 1) = 1 ∧ (if 1 ≤ a then (0 : Int32) else 1) = 0) ∨ ((if a < 1 then (0 : Int32) else 1) = 0 ∧ (if 1 ≤ a then (0 : Int32) else 1) = 1) := by
  by_cases d : a < 1
  · refine Or.inr ⟨by rw [if_pos d], by rw [if_neg]; exact Int32.not_le.mpr d⟩
  · have d2 : ¬ a < 0 := by grind
    obtain ⟨j, hj, rfl⟩ := nI_of d2
    have l1 : (nI j < 1) ↔ j < 1 := nI_ltI (b := 1) hj (by omega)
    refine Or.inl ⟨j, by grind, hj, rfl, by rw [if_neg d], by rw [if_pos]; exact Int32.not_lt.mp d⟩
theorem ob_hold1 {o y : Nat} : ob_hold T w o y 1 = w 1 := by unfold ob_hold; rw [if_neg (by omega), if_neg (by omega)]
theorem ob_hold6 {o y : Nat} : ob_hold T w o y (93 + 8 * o + 6) = y := by unfold ob_hold; rw [if_pos rfl]
theorem ob_holdo {o y j : Nat} (bT : T 0 ≤ 12) (h1 : 93 ≤ j) (h2 : ¬ j = 93 + 8 * o + 6) : ob_hold T w o y j = w j := by unfold ob_hold; rw [if_neg h2, if_neg (by omega)]
theorem z_release (hn : n < 512) (A : RA h hm n) (a u : Int32) : p_X11_release h a u ∧ p_X12_release hm a u ∧ ZT (x_X11_release h a u) (f_X11_release h a u) (f_X12_release hm a u) (g_X12_release hm a u) [(1, 1), (2, 2), (3, 3)] ∧ RA (g_X11_release h a u) (g_X12_release hm a u) (n + 1) := by
  obtain ⟨T, w, S, W⟩ := RA_iff.mp A
  obtain ⟨p1, p2, k⟩ := kk_order W.1 a
  obtain ⟨J, I, R, C, G⟩ := id W.1
  have bT := J.1
  have hw1 := I.1
  have Ah : ∀ x, RA h (hp_i (hp_i hm 12 0 0 0) 12 0 0 x) (n + 1) := fun x => (A.thr.thr).mono (by omega)
  have z1 : ∀ x : Int32, (hp_i (hp_i hm 12 0 0 0) 12 0 0 x).1 12 0 0 = x := fun x => rfl
  unfold p_X11_release p_X12_release x_X11_release f_X11_release f_X12_release g_X11_release g_X12_release ZT
  rcases k with ⟨o, ho, rfl, x1, f1, g1⟩ | ⟨x1, f1, g1⟩
  · rcases k_unit u with ⟨j, hj1, hj2, rfl, u1, u2⟩ | ⟨u1, u2⟩
    · have io := I.2.2.2 o ho
      have a1 := a_ord G I ho
      have m1 := m_ord (hm := hp_i hm 12 0 0 0) R I ho
      have lt : (nI (w (93 + 8 * o + 6)) < nI j) ↔ w (93 + 8 * o + 6) < j := nI_ltI (by omega) hj2
      by_cases d1 : w (93 + 8 * o + 6) < j
      · simp [p1, p2, x1, f1, g1, u1, u2, a1, m1, lt, d1, z1, p_X11_checkState, x_X11_checkState, p_X11_checkArgument, x_X11_checkArgument, p_X12_throwsIf, f_X12_throwsIf, g_X12_throwsIf]
        exact Ah 3
      · obtain ⟨v1, v2, vv⟩ := k_move (hm := hp_i hm 12 0 0 0) R G I ho hj2
        rcases vv with ⟨mv, v3, v4⟩ | ⟨mv, v3, v4⟩
        · obtain ⟨q1, q2, W', q4⟩ := RW.record (W.thr (x := 0))
          have kp : ∀ p, p < T 0 → w (93 + 8 * o + 6) * oa_need T (w (93 + 8 * o)) p ≤ w (21 + p) := fun p hp => by
            rw [(I.2.1 p (by omega)).2.2 hp]
            exact oa_sum_ge (f := fun o => w (93 + 8 * o + 6) * oa_need T (w (93 + 8 * o)) p) (w 1) 0 (by omega) (by omega)
          have ej : nI (w (93 + 8 * o + 6)) + -nI j = nI (w (93 + 8 * o + 6) - j) := by rw [← oa_sub (show j ≤ w (93 + 8 * o + 6) by omega)]; grind
          obtain ⟨c1, c2, W2, c4⟩ := W'.hold (y := w (93 + 8 * o + 6) - j) (x := -nI j) ho ej (by omega) (fun z => by have := io.2.2.2.2.2.2.2.2 z; omega) (fun p hp => by
            have k1 := kp p hp
            have k2 := (I.2.1 p (by omega)).2.1
            have k3 : (w (93 + 8 * o + 6) - j) * oa_need T (w (93 + 8 * o)) p ≤ w (93 + 8 * o + 6) * oa_need T (w (93 + 8 * o)) p := Nat.mul_le_mul_right _ (by omega)
            omega)
          have gr : (g_X3_record h (h.2.2 11 0 7)).2.2 = h.2.2 := gr_X3_record
          have gr2 : (g_X5_changeReserved (g_X3_record h (h.2.2 11 0 7)) (h.2.2 11 0 7) (h.2.2 11 0 6) (nI o) (-nI j)).2.2 = h.2.2 := gr_X5_changeReserved.trans gr
          rw [gr] at c1 W2
          obtain ⟨J2, I2, R2, C2, G2⟩ := id W2.1
          rw [gr2] at G2
          have a2 := (a_ord G2 I2 (show o < ob_hold T w o (w (93 + 8 * o + 6) - j) 1 by rw [ob_hold1]; exact ho)).1
          have m2 := (m_ord R2 I2 (show o < ob_hold T w o (w (93 + 8 * o + 6) - j) 1 by rw [ob_hold1]; exact ho)).2.2.2.2.2.2.1
          rw [ob_hold6] at a2 m2
          have fin := (W2.mono (n' := n + 1) (by omega)).ra
          have q5 : (g_X12_holds (g_X12_keeps (hp_i hm 12 0 0 0)) (nI o) (-nI j)).1 12 0 0 = 0 := by rw [c4]; exact q4
          simp [p1, p2, x1, f1, g1, u1, u2, a1, m1, lt, d1, v1, v2, v3, v4, p_X11_checkState, x_X11_checkState, p_X11_checkArgument, x_X11_checkArgument, p_X12_throwsIf, f_X12_throwsIf, g_X12_throwsIf, gr, q1, q2, c1, c2, a2, m2, fin, q5]
        · simp [p1, p2, x1, f1, g1, u1, u2, a1, m1, lt, d1, v1, v2, v3, v4, z1, p_X11_checkState, x_X11_checkState, p_X11_checkArgument, x_X11_checkArgument, p_X12_throwsIf, f_X12_throwsIf, g_X12_throwsIf]
          exact Ah 3
    · simp [p1, p2, x1, f1, g1, u1, u2, z1, p_X11_checkArgument, x_X11_checkArgument, p_X12_throwsIf, f_X12_throwsIf, g_X12_throwsIf]
      exact Ah 2
  · simp [p1, p2, x1, f1, g1, z1]
    exact Ah 1
theorem m_hasL {o u : Nat} (hn : n ≤ 512) (J : IT T) (R : RM hm T w) (I : IW T w n) (ho : o < w 1) (hu : u ≤ 999) : ∀ (m k e : Nat), k + m = T 0 →
    pw_X12_hasFor_2 (m + 1 + e) hm (nI o) (nI u) (nI k) ∧ ((∀ p, k ≤ p → p < T 0 → u * oa_need T (w (93 + 8 * o)) p ≤ w (9 + p) - w (21 + p)) → fw_X12_hasFor_2 (m + 1 + e) hm (nI o) (nI u) (nI k) = 1) ∧ ((∃ p, k ≤ p ∧ p < T 0 ∧ w (9 + p) - w (21 + p) < u * oa_need T (w (93 + 8 * o)) p) → fw_X12_hasFor_2 (m + 1 + e) hm (nI o) (nI u) (nI k) = 0) := by
  have bT := J.1
  have hw := I.1.2.1
  have i := I.2.2.2 o ho
  have k0 : hm.1 56 0 0 = nI (T 0) := R.1 0 (by omega)
  have m1 := m_ord R I ho
  intro m
  induction m with
  | zero =>
    intro k e hk
    rw [show 0 + 1 + e = e + 1 by omega]
    have c1 : nI (T 0) ≤ nI k := nI_le (by omega) (by omega)
    refine ⟨?_, fun _ => ?_, fun ⟨p, h1, h2, _⟩ => by omega⟩
    · simp [pw_X12_hasFor_2, k0, c1]
    · rw [fw_X12_hasFor_2, k0, if_pos c1]
  | succ m ih =>
    intro k e hk
    rw [show m + 1 + 1 + e = (m + 1 + e) + 1 by omega]
    have c1 : ¬ nI (T 0) ≤ nI k := nI_ge (by omega) (by omega)
    have hk2 : k < T 0 := by omega
    have a1 := m_needs R (show w (93 + 8 * o) < 8 by omega) (show k < 12 by omega)
    have f1 := m_free R I (show k < 12 by omega)
    have jn : oa_need T (w (93 + 8 * o)) k ≤ 9999 := J.2.2.2.2.1 _ k i.1 hk2
    have ik := (I.2.1 k (by omega)).1
    have um : u * oa_need T (w (93 + 8 * o)) k ≤ 999 * 9999 := Nat.mul_le_mul hu jn
    have cm : (lg_cmp ((nI u).toInt64 * (nI (oa_need T (w (93 + 8 * o)) k)).toInt64) (nI (w (9 + k) - w (21 + k))).toInt64 ≤ 0) ↔ u * oa_need T (w (93 + 8 * o)) k ≤ w (9 + k) - w (21 + k) := by
      rw [lg_cmp_le, nI_l (by omega), nI_l (by omega), nI_l (by omega), lN_mul]
      exact pk_lLE (by omega) (by omega)
    obtain ⟨i1, i2, i3⟩ := ih (k + 1) e (by omega)
    rw [nI_succ] at i1 i2 i3
    have ep : pw_X12_hasFor_2 ((m + 1 + e) + 1) hm (nI o) (nI u) (nI k) := by
      simp only [pw_X12_hasFor_2, k0, m1, a1.2, f1.2, cm]
      exact ⟨fun z => (c1 z).elim, fun _ => ⟨trivial, a1.1, f1.1, fun _ => i1, fun _ => trivial⟩⟩
    have ef : fw_X12_hasFor_2 ((m + 1 + e) + 1) hm (nI o) (nI u) (nI k) = if u * oa_need T (w (93 + 8 * o)) k ≤ w (9 + k) - w (21 + k) then fw_X12_hasFor_2 (m + 1 + e) hm (nI o) (nI u) (nI k + 1) else 0 := by
      simp only [fw_X12_hasFor_2, k0, m1, a1.2, f1.2, cm]
      rw [if_neg c1]
    rw [ef]
    refine ⟨ep, fun a => ?_, fun ⟨p, h1, h2, h3⟩ => ?_⟩
    · rw [if_pos (a k (Nat.le_refl _) hk2)]
      exact i2 (fun p h1 h2 => a p (by omega) h2)
    · by_cases d : u * oa_need T (w (93 + 8 * o)) k ≤ w (9 + k) - w (21 + k)
      · rw [if_pos d]
        exact i3 ⟨p, by have : p ≠ k := (by rintro rfl; omega); omega, h2, h3⟩
      · rw [if_neg d]
theorem m_has {o u : Nat} (hn : n ≤ 512) (J : IT T) (R : RM hm T w) (I : IW T w n) (ho : o < w 1) (hu : u ≤ 999) : p_X12_hasFor hm (nI o) (nI u) ∧ f_X12_hasFor hm (nI o) (nI u) = if u ≤ oa_most T (fun p => w (9 + p) - w (21 + p)) (w (93 + 8 * o)) then 1 else 0 := by
  have i := I.2.2.2 o ho
  obtain ⟨e, he⟩ := oa_fuel (show T 0 < 1000000 by have := J.1; omega)
  obtain ⟨a1, a2, a3⟩ := m_hasL hn J R I ho hu (T 0) 0 e (by omega)
  rw [← he, nI_0] at a1 a2 a3
  refine ⟨a1, ?_⟩
  have fit := oa_most_fit (u := u) J i.1 (fun p => w (9 + p) - w (21 + p))
  by_cases d : u ≤ oa_most T (fun p => w (9 + p) - w (21 + p)) (w (93 + 8 * o))
  · rw [if_pos d]
    exact a2 (fun p _ hp => fit.mp d p hp)
  · rw [if_neg d]
    have f := mt fit.mpr d
    simp only [Classical.not_forall] at f
    obtain ⟨p, hp, h3⟩ := f
    exact a3 ⟨p, by omega, hp, Nat.not_le.mp h3⟩
theorem z_reserve (hn : n < 512) (A : RA h hm n) (a u : Int32) : p_X11_reserve h a u ∧ p_X12_reserve hm a u ∧ ZT (x_X11_reserve h a u) (f_X11_reserve h a u) (f_X12_reserve hm a u) (g_X12_reserve hm a u) [(1, 1), (2, 2), (3, 3)] ∧ RA (g_X11_reserve h a u) (g_X12_reserve hm a u) (n + 1) := by
  obtain ⟨T, w, S, W⟩ := RA_iff.mp A
  obtain ⟨p1, p2, k⟩ := kk_order W.1 a
  obtain ⟨J, I, R, C, G⟩ := id W.1
  have bT := J.1
  have hw1 := I.1
  have Ah : ∀ x, RA h (hp_i (hp_i hm 12 0 0 0) 12 0 0 x) (n + 1) := fun x => (A.thr.thr).mono (by omega)
  have z1 : ∀ x : Int32, (hp_i (hp_i hm 12 0 0 0) 12 0 0 x).1 12 0 0 = x := fun x => rfl
  unfold p_X11_reserve p_X12_reserve x_X11_reserve f_X11_reserve f_X12_reserve g_X11_reserve g_X12_reserve ZT
  rcases k with ⟨o, ho, rfl, x1, f1, g1⟩ | ⟨x1, f1, g1⟩
  · rcases k_unit u with ⟨j, hj1, hj2, rfl, u1, u2⟩ | ⟨u1, u2⟩
    · have io := I.2.2.2 o ho
      have ol := oa_open_le I ho
      have a1 := a_ord G I ho
      have a2 := a_open G I ho
      have m1 := m_ord (hm := hp_i hm 12 0 0 0) R I ho
      have m2 := m_open (hm := hp_i hm 12 0 0 0) R I ho
      have lt : (nI (oa_open w o) < nI j) ↔ oa_open w o < j := nI_ltI (by omega) hj2
      by_cases d1 : oa_open w o < j
      · simp [p1, p2, x1, f1, g1, u1, u2, a2, m2, lt, d1, z1, p_X11_checkState, x_X11_checkState, p_X11_checkArgument, x_X11_checkArgument, p_X12_throwsIf, f_X12_throwsIf, g_X12_throwsIf]
        exact Ah 3
      · obtain ⟨v1, v2, vv⟩ := k_move (hm := hp_i hm 12 0 0 0) R G I ho hj2
        rcases vv with ⟨mv, v3, v4⟩ | ⟨mv, v3, v4⟩
        · -- free pieces
          have fl := a_fillFree (t1 := 53) (i1 := 0) (Or.inl rfl) I G
          have f0 : ∀ t, ¬ t = 53 → ∀ i, (g_X10_fillFree h (h.2.2 11 0 7) 53 0 12).1 t i = h.1 t i := fun t ht i => fr_X10_fillFree (by omega)
          have grF : (g_X10_fillFree h (h.2.2 11 0 7) 53 0 12).2.2 = h.2.2 := gr_X10_fillFree
          have AF : RA (g_X10_fillFree h (h.2.2 11 0 7) 53 0 12) hm n := A.same (fun t ht i => f0 t (by unfold CS at ht; omega) i) gl_X10_fillFree gr_X10_fillFree (fun _ _ => rfl) (fun _ _ => rfl)
          have C1 : RC (g_X10_fillFree h (h.2.2 11 0 7) 53 0 12) (h.2.2 11 0 6) T := C.same (fun t ht i => f0 t (by omega) i) gl_X10_fillFree
          have G1 : RG (g_X10_fillFree h (h.2.2 11 0 7) 53 0 12) (h.2.2 11 0 7) w := G.same (fun t ht => f0 t (by omega) _)
          have am := a_most (F := fun p => w (9 + p) - w (21 + p)) J C1 io.1 (fun p hp => ⟨fl.2 p hp, by have := (I.2.1 p hp).1; show w (9 + p) - w (21 + p) < 1000000; omega⟩)
          have aF := a_ord G1 I ho
          have mh := m_has (hm := hp_i hm 12 0 0 0) (u := j) (by omega) J R I ho (by omega)
          have ml : oa_most T (fun p => w (9 + p) - w (21 + p)) (w (93 + 8 * o)) < 1000000 := by
            obtain ⟨-, p, hp, -, e⟩ := oa_most_ok J io.1 (fun p => w (9 + p) - w (21 + p))
            have i := (I.2.1 p (by omega)).1
            have := Nat.div_le_self (w (9 + p) - w (21 + p)) (oa_need T (w (93 + 8 * o)) p)
            rw [e]
            show (w (9 + p) - w (21 + p)) / oa_need T (w (93 + 8 * o)) p < 1000000
            omega
          have lm : (nI (oa_most T (fun p => w (9 + p) - w (21 + p)) (w (93 + 8 * o))) < nI j) ↔ oa_most T (fun p => w (9 + p) - w (21 + p)) (w (93 + 8 * o)) < j := nI_ltI (by omega) hj2
          have AhF : RA (g_X10_fillFree h (h.2.2 11 0 7) 53 0 12) (hp_i (hp_i hm 12 0 0 0) 12 0 0 3) (n + 1) := (AF.thr.thr).mono (by omega)
          by_cases d2 : oa_most T (fun p => w (9 + p) - w (21 + p)) (w (93 + 8 * o)) < j
          · rw [if_neg (by omega)] at mh
            simp [p1, p2, x1, f1, g1, u1, u2, a2, m2, lt, d1, v1, v2, v3, v4, fl.1, grF, am, aF, lm, d2, mh, z1, p_X11_checkState, x_X11_checkState, p_X11_checkArgument, x_X11_checkArgument, p_X12_throwsIf, f_X12_throwsIf, g_X12_throwsIf, AhF]
          · rw [if_pos (by omega)] at mh
            have fit := (oa_most_fit (u := j) J io.1 (fun p => w (9 + p) - w (21 + p))).mp (by omega)
            obtain ⟨TF, wF, SF, WF0⟩ := RA_iff.mp AF
            have WF : RW (g_X10_fillFree h (h.2.2 11 0 7) 53 0 12) hm T w S n := by
              obtain ⟨⟨_, _, _, _, _⟩, s1, s2, ⟨d, x, d1', d2', d3, d4, d5, d6⟩, ⟨t, t1, t2, t3, t4⟩, ⟨e1, e2⟩, ⟨uu, uu1, uu2, uu3, uu4⟩, r⟩ := W
              refine ⟨⟨J, I, R, by rw [grF]; exact C1, by rw [grF]; exact G1⟩, s1, by rw [grF]; exact s2.same (fun t h1 h2 => f0 t (by omega) _), ⟨d, x, d1', d2', ?_, ?_, d5, fun k hk => ?_⟩, ⟨t, t1, ?_, t3, ?_⟩, ⟨?_, ?_⟩, ⟨uu, uu1, ?_, uu3, ?_⟩, ?_⟩
              · rw [f0 3 (by omega)]; exact d3
              · rw [f0 3 (by omega)]; exact d4
              · obtain ⟨w', V⟩ := d6 k hk
                exact ⟨w', V.same (fun t ht => f0 t (by omega) _)⟩
              · rw [f0 4 (by omega)]; exact t2
              · rw [f0 35 (by omega)]; exact t4
              · rw [f0 7 (by omega)]; exact e1
              · rw [f0 7 (by omega)]; exact e2
              · rw [f0 2 (by omega)]; exact uu2
              · rw [f0 33 (by omega)]; exact uu4
              · unfold RR; rw [grF]; exact r
            obtain ⟨q1, q2, W', q4⟩ := RW.record (WF.thr (x := 0))
            have op : oa_open w o = w (93 + 8 * o + 1) - w (93 + 8 * o + 5) - w (93 + 8 * o + 6) := by
              unfold oa_open
              rw [if_neg]
              intro z
              have : oa_open w o = 0 := by unfold oa_open; rw [if_pos z]
              omega
            have n7 : ¬ w (93 + 8 * o + 7) = 1 := by
              intro z
              have : oa_open w o = 0 := by unfold oa_open; rw [if_pos z]
              omega
            have kp : ∀ p, p < T 0 → w (93 + 8 * o + 6) * oa_need T (w (93 + 8 * o)) p ≤ w (21 + p) := fun p hp => by
              rw [(I.2.1 p (by omega)).2.2 hp]
              exact oa_sum_ge (f := fun o => w (93 + 8 * o + 6) * oa_need T (w (93 + 8 * o)) p) (w 1) 0 (by omega) (by omega)
            obtain ⟨c1, c2, W2, c4⟩ := W'.hold (y := w (93 + 8 * o + 6) + j) (x := nI j) ho (nI_add _ _) (by omega) (fun z => (n7 z).elim) (fun p hp => by
              have k1 := kp p hp
              have k2 := (I.2.1 p (by omega)).2.1
              have k3 : j * oa_need T (w (93 + 8 * o)) p ≤ w (9 + p) - w (21 + p) := fit p hp
              rw [Nat.add_mul]
              omega)
            have gr : (g_X3_record (g_X10_fillFree h (h.2.2 11 0 7) 53 0 12) (h.2.2 11 0 7)).2.2 = h.2.2 := gr_X3_record.trans grF
            have gr2 : (g_X5_changeReserved (g_X3_record (g_X10_fillFree h (h.2.2 11 0 7) 53 0 12) (h.2.2 11 0 7)) (h.2.2 11 0 7) (h.2.2 11 0 6) (nI o) (nI j)).2.2 = h.2.2 := gr_X5_changeReserved.trans gr
            rw [grF] at q1 c1 W2
            rw [gr] at c1 W2
            obtain ⟨J2, I2, R2, C2, G2⟩ := id W2.1
            rw [gr2] at G2
            have b1 := a_open G2 I2 (show o < ob_hold T w o (w (93 + 8 * o + 6) + j) 1 by rw [ob_hold1]; exact ho)
            have b2 := m_open R2 I2 (show o < ob_hold T w o (w (93 + 8 * o + 6) + j) 1 by rw [ob_hold1]; exact ho)
            have fin := (W2.mono (n' := n + 1) (by omega)).ra
            have q5 : (g_X12_holds (g_X12_keeps (hp_i hm 12 0 0 0)) (nI o) (nI j)).1 12 0 0 = 0 := by rw [c4]; exact q4
            simp [p1, p2, x1, f1, g1, u1, u2, a2, m2, lt, d1, v1, v2, v3, v4, fl.1, grF, am, aF, lm, d2, mh, p_X11_checkState, x_X11_checkState, p_X11_checkArgument, x_X11_checkArgument, p_X12_throwsIf, f_X12_throwsIf, g_X12_throwsIf, gr, q1, q2, c1, c2, b1, b2, fin, q5]
        · simp [p1, p2, x1, f1, g1, u1, u2, a2, m2, lt, d1, v1, v2, v3, v4, z1, p_X11_checkState, x_X11_checkState, p_X11_checkArgument, x_X11_checkArgument, p_X12_throwsIf, f_X12_throwsIf, g_X12_throwsIf]
          exact Ah 3
    · simp [p1, p2, x1, f1, g1, u1, u2, z1, p_X11_checkArgument, x_X11_checkArgument, p_X12_throwsIf, f_X12_throwsIf, g_X12_throwsIf]
      exact Ah 2
  · simp [p1, p2, x1, f1, g1, z1]
    exact Ah 1
end RAJ
