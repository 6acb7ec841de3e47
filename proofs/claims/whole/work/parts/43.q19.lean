section QAC
variable {h hm : Hp} {c L : Nat} {T w F : Nat → Nat} {n : Nat}
theorem oa_um {u q p : Nat} (J : IT T) (hq : q < T 1) (hp : p < T 0) (hu : u ≤ 999) : u * oa_need T q p < 100000000 := by
  have : oa_need T q p ≤ 9999 := J.2.2.2.2.1 q p hq hp
  have h2 := Nat.mul_le_mul hu this
  omega
theorem oa_day_le {p X : Nat} (J : IT T) (hp : p < T 0) : oa_day T w p X ≤ w 0 + 60 := by
  have jl := J.2.1 p hp
  have k := (oa_dy_ok (w := w) (p := p) (l := X - (w (9 + p) - w (21 + p))) (b := true) (w 2) 0 (w 0 + T (176 + p))).1
  unfold oa_day
  split <;> omega
theorem l_promises {q u : Nat} (hn : n ≤ 512) (J : IT T) (R : RM hm T w) (C : RC h (h.2.2 11 0 6) T) (G : RG h (h.2.2 11 0 7) w) (I : IW T w n) (hq : q < T 1) (hu : u ≤ 999) : ∀ (m k e e' : Nat) (x : Int32), k + m = T 0 →
    pw_X11_promiseDate_14 (m + 1 + e) h (nI q) (nI u) x (nI k) ∧ pw_X12_promises_10 (m + 1 + e') hm (nI q) (nI u) x (nI k) ∧ fw_X11_promiseDate_14 (m + 1 + e) h (nI q) (nI u) x (nI k) = fw_X12_promises_10 (m + 1 + e') hm (nI q) (nI u) x (nI k) := by
  have bT := J.1
  have k0 := C.1.1
  have r0 : hm.1 56 0 0 = nI (T 0) := R.1 0 (by omega)
  intro m
  induction m with
  | zero =>
    intro k e e' x hk
    rw [show 0 + 1 + e = e + 1 by omega, show 0 + 1 + e' = e' + 1 by omega]
    have c1 : nI (T 0) ≤ nI k := nI_le (by omega) (by omega)
    simp [pw_X11_promiseDate_14, pw_X12_promises_10, fw_X11_promiseDate_14, fw_X12_promises_10, k0, r0, c1]
  | succ m ih =>
    intro k e e' x hk
    rw [show m + 1 + 1 + e = (m + 1 + e) + 1 by omega, show m + 1 + 1 + e' = (m + 1 + e') + 1 by omega]
    have c1 : ¬ nI (T 0) ≤ nI k := nI_ge (by omega) (by omega)
    have ih' := fun x => ih (k + 1) e e' x (by omega)
    simp only [nI_succ] at ih'
    have hk2 : k < T 0 := by omega
    have a1 := a_needOf J C hq hk2
    have m1 := m_needs R (show q < 8 by omega) (show k < 12 by omega)
    have a2 := a_day hn J C G I hk2 (oa_um J hq hk2 hu)
    have m2 := m_day hn J R I hk2 (oa_um J hq hk2 hu)
    simp only [pw_X11_promiseDate_14, pw_X12_promises_10, fw_X11_promiseDate_14, fw_X12_promises_10, k0, r0, a1.2, m1.2, oa_mul, a2.2, m2.2]
    by_cases d : nI (oa_need T q k) ≤ 0
    · simp [c1, a1.1, m1.1, d, ih']
    · simp [c1, a1.1, m1.1, d, a2.1, m2.1, ih']
theorem k_promises {q u : Nat} (hn : n ≤ 512) (J : IT T) (R : RM hm T w) (C : RC h (h.2.2 11 0 6) T) (G : RG h (h.2.2 11 0 7) w) (I : IW T w n) (hq : q < T 1) (hu : u ≤ 999) :
    p_X11_promiseDate h (nI q) (nI u) ∧ p_X12_promises hm (nI q) (nI u) ∧ f_X11_promiseDate h (nI q) (nI u) = f_X12_promises hm (nI q) (nI u) := by
  obtain ⟨e, he⟩ := oa_fuel (show T 0 < 1000000 by have := J.1; omega)
  have r0 : hm.1 58 0 0 = nI (w 0) := R.2 0 (by omega) (by omega)
  have l := l_promises hn J R C G I hq hu (T 0) 0 e e (nI (w 0)) (by omega)
  rw [← he, nI_0] at l
  unfold p_X11_promiseDate p_X12_promises f_X11_promiseDate f_X12_promises
  rw [G.1.1, r0]
  exact l
/-- an argument between two numbers -/
theorem k_arg (hm : Hp) (a : Int32) (N : Nat) (hN : N < 100000) : p_X12_in hm a 1 (nI N) ∧ ((∃ v, 1 ≤ v ∧ v ≤ N ∧ a = nI v ∧ f_X12_in hm a 1 (nI N) = 1 ∧ (if a < 1 then (0 : Int32) else if nI N < a then 0 else 1) = 1) ∨ (f_X12_in hm a 1 (nI N) = 0 ∧ (if a < 1 then (0 : Int32) else if nI N < a then 0 else 1) = 0)) := by
  refine ⟨by unfold p_X12_in; grind, ?_⟩
  by_cases r : a < 1 ∨ nI N < a
  · refine Or.inr ⟨?_, by grind⟩
    unfold f_X12_in
    grind
  · obtain ⟨v, hv, rfl⟩ : ∃ v, v < 2 ^ 31 ∧ a = nI v := nI_of (by grind)
    have l1 : (nI v < 1) ↔ v < 1 := nI_ltI (b := 1) hv (by omega)
    have l2 : (nI N < nI v) ↔ N < v := nI_ltI (by omega) hv
    refine Or.inl ⟨v, by grind, by grind, rfl, ?_, by grind⟩
    unfold f_X12_in
    grind
theorem q_promise (hn : n ≤ 512) (B : RB h hm T w n) (a u : Int32) : p_X11_promise h a u ∧ p_X12_promise hm a u ∧ QB (x_X11_promise h a u) (f_X11_promise h a u) (f_X12_promise hm a u) (g_X12_promise hm a u) hm [(1, 1), (2, 2)] := by
  obtain ⟨p1, p2, k⟩ := kk_product B a
  obtain ⟨J, I, R, C, G⟩ := B
  unfold p_X11_promise p_X12_promise x_X11_promise f_X11_promise f_X12_promise g_X12_promise QB
  have ka := k_arg (hp_i hm 12 0 0 0) u 999 (by omega)
  have e9 : nI 999 = 999 := rfl
  rw [e9] at ka
  rcases k with ⟨q, hq, rfl, x1, f1, g1⟩ | ⟨x1, f1, g1⟩
  · rcases ka.2 with ⟨v, hv1, hv2, rfl, i1, i2⟩ | ⟨i1, i2⟩
    · have kp := k_promises (hm := hp_i hm 12 0 0 0) hn J R C G I hq hv2
      simp [p1, p2, x1, f1, g1, ka.1, i1, i2, kp, p_X11_checkArgument, x_X11_checkArgument, p_X12_throwsIf, f_X12_throwsIf, g_X12_throwsIf]
    · simp [p1, p2, x1, f1, g1, ka.1, i1, i2, p_X11_checkArgument, x_X11_checkArgument, p_X12_throwsIf, f_X12_throwsIf, g_X12_throwsIf]
  · simp [p1, p2, x1, f1, g1]
/-- an order is over: cancelled, or all shipped -/
theorem k_closed {o : Nat} (R : RM hm T w) (G : RG h L w) (I : IW T w n) (ho : o < w 1) :
    p_X6_stateFor h L (nI o) ∧ p_X12_isOver hm (nI o) ∧
    (((w (93 + 8 * o + 7) = 1 ∨ w (93 + 8 * o + 5) = w (93 + 8 * o + 1)) ∧ (f_X6_stateFor h L (nI o) = 2 ∨ f_X6_stateFor h L (nI o) = 3) ∧ f_X12_isOver hm (nI o) = 1) ∨
     (¬ (w (93 + 8 * o + 7) = 1 ∨ w (93 + 8 * o + 5) = w (93 + 8 * o + 1)) ∧ (f_X6_stateFor h L (nI o) = 0 ∨ f_X6_stateFor h L (nI o) = 1) ∧ f_X12_isOver hm (nI o) = 0)) := by
  have i := I.2.2.2 o ho
  obtain ⟨b1, b2, b3, b4⟩ := a_order G I ho
  have a1 := a_ord G I ho
  have a2 := a_open G I ho
  have m1 := m_ord R I ho
  have r8 := (G.2.2.2 o ho).2.2.2.2.2.2.2
  by_cases c : w (93 + 8 * o + 7) = 1
  · have e1 : nI 1 = 1 := rfl
    simp [p_X6_stateFor, f_X6_stateFor, p_X12_isOver, f_X12_isOver, b1, b2, b3, b4, a1, a2, m1, r8, c, e1]
  · have c0 : w (93 + 8 * o + 7) = 0 := by omega
    have e0 : nI 0 = 0 := rfl
    have e5 : (nI (w (93 + 8 * o + 5)) = nI (w (93 + 8 * o + 1))) ↔ w (93 + 8 * o + 5) = w (93 + 8 * o + 1) := nI_eq (by omega) (by omega)
    have e6 : (nI (oa_open w o) ≤ 0) ↔ oa_open w o ≤ 0 := nI_leI (b := 0) (by unfold oa_open; split <;> omega) (by omega)
    have e7 : (nI (w (93 + 8 * o + 6)) ≤ 0) ↔ w (93 + 8 * o + 6) ≤ 0 := nI_leI (b := 0) (by omega) (by omega)
    have o1 : oa_open w o = w (93 + 8 * o + 1) - w (93 + 8 * o + 5) - w (93 + 8 * o + 6) := by simp [oa_open, c]
    by_cases d : w (93 + 8 * o + 5) = w (93 + 8 * o + 1)
    · have z1 : oa_open w o ≤ 0 := by omega
      have z2 : w (93 + 8 * o + 6) ≤ 0 := by omega
      simp [p_X6_stateFor, f_X6_stateFor, p_X12_isOver, f_X12_isOver, b1, b2, b3, b4, a1, a2, m1, r8, c0, e0, e5, e6, e7, d, z1, z2]
    · by_cases z1 : oa_open w o ≤ 0
      · have z2 : ¬ w (93 + 8 * o + 6) ≤ 0 := by omega
        simp [p_X6_stateFor, f_X6_stateFor, p_X12_isOver, f_X12_isOver, b1, b2, b3, b4, a1, a2, m1, r8, c0, e0, e5, e6, e7, d, z1, z2]
      · simp [p_X6_stateFor, f_X6_stateFor, p_X12_isOver, f_X12_isOver, b1, b2, b3, b4, a1, a2, m1, r8, c0, e0, e5, e6, e7, d, z1]
theorem kk_closed {o : Nat} (R : RM hm T w) (G : RG h (h.2.2 11 0 7) w) (I : IW T w n) (ho : o < w 1) :
    p_X11_isClosed h (nI o) ∧ p_X12_isOver hm (nI o) ∧
    (((w (93 + 8 * o + 7) = 1 ∨ w (93 + 8 * o + 5) = w (93 + 8 * o + 1)) ∧ f_X11_isClosed h (nI o) = 1 ∧ f_X12_isOver hm (nI o) = 1) ∨
     (¬ (w (93 + 8 * o + 7) = 1 ∨ w (93 + 8 * o + 5) = w (93 + 8 * o + 1)) ∧ f_X11_isClosed h (nI o) = 0 ∧ f_X12_isOver hm (nI o) = 0)) := by
  obtain ⟨p1, p2, k⟩ := k_closed R G I ho
  unfold p_X11_isClosed f_X11_isClosed
  rcases k with ⟨c, s | s, v⟩ | ⟨c, s | s, v⟩
  · simp [p1, p2, s, v, c]
  · simp [p1, p2, s, v, c]
  · simp [p1, p2, s, v, c]
  · simp [p1, p2, s, v, c]
theorem q_promiseOf (hn : n ≤ 512) (B : RB h hm T w n) (a : Int32) : p_X11_promiseOf h a ∧ p_X12_promiseOf hm a ∧ QA (x_X11_promiseOf h a) (f_X11_promiseOf h a) (f_X12_promiseOf hm a) (g_X12_promiseOf hm a) hm := by
  obtain ⟨p1, p2, k⟩ := kk_order B a
  obtain ⟨J, I, R, C, G⟩ := B
  unfold p_X11_promiseOf p_X12_promiseOf x_X11_promiseOf f_X11_promiseOf f_X12_promiseOf g_X12_promiseOf QA
  rcases k with ⟨o, ho, rfl, x1, f1, g1⟩ | ⟨x1, f1, g1⟩
  · have i := I.2.2.2 o ho
    have ol := oa_open_le I ho
    obtain ⟨c1, c2, kc⟩ := kk_closed (hm := hp_i hm 12 0 0 0) R G I ho
    have a1 := a_ord G I ho
    have a2 := a_open G I ho
    have m1 := m_ord (hm := hp_i hm 12 0 0 0) R I ho
    have m2 := m_open (hm := hp_i hm 12 0 0 0) R I ho
    have kp := k_promises (hm := hp_i hm 12 0 0 0) (u := oa_open w o) hn J R C G I i.1 (by omega)
    rcases kc with ⟨-, s1, s2⟩ | ⟨-, s1, s2⟩
    · simp [p1, p2, x1, f1, g1, c1, c2, s1, s2]
    · simp [p1, p2, x1, f1, g1, c1, c2, s1, s2, a1, a2, m1, m2, kp]
  · simp [p1, p2, x1, f1, g1]
theorem l_late (hn : n ≤ 512) (J : IT T) (R : RM hm T w) (C : RC h (h.2.2 11 0 6) T) (G : RG h (h.2.2 11 0 7) w) (I : IW T w n) : ∀ (m k e e' : Nat) (x : Int32), k + m = w 1 →
    pw_X11_lateOrders_12 (m + 1 + e) h (h.2.2 11 0 7) x (nI k) ∧ pw_X12_lateOrders_9 (m + 1 + e') hm x (nI k) ∧ fw_X11_lateOrders_12 (m + 1 + e) h (h.2.2 11 0 7) x (nI k) = fw_X12_lateOrders_9 (m + 1 + e') hm x (nI k) := by
  have hw := I.1.2.1
  have k0 := G.1.2.1
  have r0 : hm.1 58 0 1 = nI (w 1) := R.2 1 (by omega) (by omega)
  intro m
  induction m with
  | zero =>
    intro k e e' x hk
    rw [show 0 + 1 + e = e + 1 by omega, show 0 + 1 + e' = e' + 1 by omega]
    have c1 : nI (w 1) ≤ nI k := nI_le (by omega) (by omega)
    simp [pw_X11_lateOrders_12, pw_X12_lateOrders_9, fw_X11_lateOrders_12, fw_X12_lateOrders_9, k0, r0, c1]
  | succ m ih =>
    intro k e e' x hk
    rw [show m + 1 + 1 + e = (m + 1 + e) + 1 by omega, show m + 1 + 1 + e' = (m + 1 + e') + 1 by omega]
    have c1 : ¬ nI (w 1) ≤ nI k := nI_ge (by omega) (by omega)
    have ih' := fun x => ih (k + 1) e e' x (by omega)
    simp only [nI_succ] at ih'
    have ho : k < w 1 := by omega
    have i := I.2.2.2 k ho
    have ol := oa_open_le I ho
    have a1 := a_ord G I ho
    have a2 := a_open G I ho
    have m1 := m_ord R I ho
    have m2 := m_open R I ho
    have kp := k_promises (u := oa_open w k) hn J R C G I i.1 (by omega)
    have z : ∀ y : Int32, y ||| 0 = y := fun y => by simp
    simp only [pw_X11_lateOrders_12, pw_X12_lateOrders_9, fw_X11_lateOrders_12, fw_X12_lateOrders_9, k0, r0, a1, a2, m1, m2, kp.2.2, z]
    by_cases d : nI (oa_open w k) ≤ 0
    · simp [c1, d, ih']
    · by_cases d2 : f_X12_promises hm (nI (w (93 + 8 * k))) (nI (oa_open w k)) ≤ nI (w (93 + 8 * k + 3))
      · simp [c1, d, d2, kp, ih']
      · simp [c1, d, d2, kp, ih']
theorem q_lateOrders (hn : n ≤ 512) (B : RB h hm T w n) : p_X11_lateOrders h ∧ p_X12_lateOrders hm ∧ QN (f_X11_lateOrders h) (f_X12_lateOrders hm) (g_X12_lateOrders hm) hm := by
  obtain ⟨J, I, R, C, G⟩ := B
  obtain ⟨e, he⟩ := oa_fuel (show w 1 < 1000000 by have := I.1; omega)
  have l := l_late (hm := hp_i hm 12 0 0 0) hn J R C G I (w 1) 0 e e 0 (by omega)
  rw [← he, nI_0] at l
  exact ⟨l.1, l.2.1, l.2.2, id_gw_X12_lateOrders_9 _ _ _ _⟩
end QAC
