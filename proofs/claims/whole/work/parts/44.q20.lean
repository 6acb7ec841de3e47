section QAD
variable {h hm : Hp} {c L : Nat} {T w F : Nat → Nat} {n : Nat}
def oa_od (D : Nat → Nat) : Option Nat → Int32
  | none => -1
  | some b => nI (D b)
theorem l_delay {q u : Nat} {xo yo : Int32} (hn : n ≤ 512) (J : IT T) (R : RM hm T w) (C : RC h (h.2.2 11 0 6) T) (G : RG h (h.2.2 11 0 7) w) (I : IW T w n) (hq : q < T 1) (hu : u ≤ 999) (hu0 : 0 < u) : ∀ (m k e e' : Nat) (b : Option Nat), k + m = T 0 → (∀ b', b = some b' → b' < k) →
    pw_X11_delayingPart_44 (m + 1 + e) h xo (nI u) (nI q) (oa_oi b) (oa_od (fun p => oa_day T w p (u * oa_need T q p)) b) (nI k) ∧ pw_X12_delayingPart_34 (m + 1 + e') hm yo (nI q) (nI u) (oa_oi b) (nI k) ∧ fw_X11_delayingPart_44 (m + 1 + e) h xo (nI u) (nI q) (oa_oi b) (oa_od (fun p => oa_day T w p (u * oa_need T q p)) b) (nI k) = fw_X12_delayingPart_34 (m + 1 + e') hm yo (nI q) (nI u) (oa_oi b) (nI k) := by
  have bT := J.1
  have hw := I.1
  have k0 := C.1.1
  have r0 : hm.1 56 0 0 = nI (T 0) := R.1 0 (by omega)
  have cu : ¬ nI u ≤ 0 := nI_nle hu0 (by omega)
  intro m
  induction m with
  | zero =>
    intro k e e' b hk hb
    rw [show 0 + 1 + e = e + 1 by omega, show 0 + 1 + e' = e' + 1 by omega]
    have c1 : nI (T 0) ≤ nI k := nI_le (by omega) (by omega)
    simp [pw_X11_delayingPart_44, pw_X12_delayingPart_34, fw_X11_delayingPart_44, fw_X12_delayingPart_34, k0, r0, c1]
  | succ m ih =>
    intro k e e' b hk hb
    rw [show m + 1 + 1 + e = (m + 1 + e) + 1 by omega, show m + 1 + 1 + e' = (m + 1 + e') + 1 by omega]
    have c1 : ¬ nI (T 0) ≤ nI k := nI_ge (by omega) (by omega)
    have ih' := fun b hb => ih (k + 1) e e' b (by omega) hb
    simp only [nI_succ] at ih'
    have hk2 : k < T 0 := by omega
    have a1 := a_needOf J C hq hk2
    have m1 := m_needs R (show q < 8 by omega) (show k < 12 by omega)
    have a2 := a_day hn J C G I hk2 (oa_um J hq hk2 hu)
    have m2 := m_day hn J R I hk2 (oa_um J hq hk2 hu)
    have dl := oa_day_le (w := w) (X := u * oa_need T q k) J hk2
    have dp : ¬ nI (oa_day T w k (u * oa_need T q k)) ≤ -1 := by
      intro z
      have z2 := Int32.le_iff_toInt_le.mp z
      rw [nI_toInt (by omega)] at z2
      have : (-1 : Int32).toInt = -1 := by decide
      omega
    simp only [pw_X11_delayingPart_44, pw_X12_delayingPart_34, fw_X11_delayingPart_44, fw_X12_delayingPart_34, k0, r0, a1.2, m1.2, oa_mul, a2.2, m2.2]
    have rk := ih' (some k) (fun b' z => by cases z; omega)
    have rb := ih' b (fun b' z => by have := hb b' z; omega)
    have o3 : oa_oi (some k) = nI k := rfl
    have o4 : oa_od (fun p => oa_day T w p (u * oa_need T q p)) (some k) = nI (oa_day T w k (u * oa_need T q k)) := rfl
    rw [o3, o4] at rk
    cases b with
    | none =>
      have o1 : oa_oi none = -1 := rfl
      have o2 : oa_od (fun p => oa_day T w p (u * oa_need T q p)) none = -1 := rfl
      rw [o1, o2] at rb
      by_cases d : nI (oa_need T q k) ≤ 0
      · simp [c1, cu, a1.1, m1.1, o1, o2, d, rb]
      · simp [c1, cu, a1.1, m1.1, a2.1, o1, o2, d, dp, rk]
    | some b' =>
      have hb' := hb b' rfl
      have hb2 : b' < T 0 := by omega
      have m3 := m_needs R (show q < 8 by omega) (show b' < 12 by omega)
      have m4 := m_day hn J R I hb2 (oa_um J hq hb2 hu)
      have dl2 := oa_day_le (w := w) (X := u * oa_need T q b') J hb2
      have o1 : oa_oi (some b') = nI b' := rfl
      have o2 : oa_od (fun p => oa_day T w p (u * oa_need T q p)) (some b') = nI (oa_day T w b' (u * oa_need T q b')) := rfl
      have o5 : ¬ nI b' = -1 := oa_oi_some hb' (by omega)
      have o6 : -1 ≤ nI (oa_day T w b' (u * oa_need T q b')) := by
        refine Int32.le_iff_toInt_le.mpr ?_
        rw [nI_toInt (by omega)]
        have : (-1 : Int32).toInt = -1 := by decide
        omega
      rw [o1, o2] at rb
      by_cases d : nI (oa_need T q k) ≤ 0
      · simp [c1, cu, a1.1, m1.1, o1, o2, o6, d, rb]
      · by_cases d2 : nI (oa_day T w k (u * oa_need T q k)) ≤ nI (oa_day T w b' (u * oa_need T q b'))
        · simp [c1, cu, a1.1, m1.1, a2.1, m2.1, m3, m4, oa_mul, o1, o2, o5, d, d2, rb]
        · simp [c1, cu, a1.1, m1.1, a2.1, m2.1, m3, m4, oa_mul, o1, o2, o5, d, d2, rk]
theorem l_delay0 {q : Nat} {yo : Int32} (J : IT T) (R : RM hm T w) (e' : Nat) : pw_X12_delayingPart_34 (e' + 1) hm yo (nI q) (nI 0) (-1) 0 ∧ fw_X12_delayingPart_34 (e' + 1) hm yo (nI q) (nI 0) (-1) 0 = -1 := by
  have bT := J.1
  have r0 : hm.1 56 0 0 = nI (T 0) := R.1 0 (by omega)
  have cu : nI 0 ≤ 0 := by decide
  simp only [pw_X12_delayingPart_34, fw_X12_delayingPart_34, r0]
  by_cases c1 : nI (T 0) ≤ 0
  · simp [c1]
  · simp [c1, cu]
theorem q_delayingPart (hn : n ≤ 512) (B : RB h hm T w n) (a : Int32) : p_X11_delayingPart h a ∧ p_X12_delayingPart hm a ∧ QA (x_X11_delayingPart h a) (f_X11_delayingPart h a) (f_X12_delayingPart hm a) (g_X12_delayingPart hm a) hm := by
  obtain ⟨p1, p2, k⟩ := kk_order B a
  obtain ⟨J, I, R, C, G⟩ := B
  unfold p_X11_delayingPart p_X12_delayingPart x_X11_delayingPart f_X11_delayingPart f_X12_delayingPart g_X12_delayingPart QA
  rcases k with ⟨o, ho, rfl, x1, f1, g1⟩ | ⟨x1, f1, g1⟩
  · have i := I.2.2.2 o ho
    have ol := oa_open_le I ho
    have a1 := a_ord G I ho
    have a2 := a_open G I ho
    have m1 := m_ord (hm := hp_i hm 12 0 0 0) R I ho
    have m2 := m_open (hm := hp_i hm 12 0 0 0) R I ho
    obtain ⟨e, he⟩ := oa_fuel (show T 0 < 1000000 by have := J.1; omega)
    by_cases z : oa_open w o = 0
    · have l := l_delay0 (q := w (93 + 8 * o)) (yo := nI o) (hm := hp_i hm 12 0 0 0) J R (T 0 + e)
      rw [show T 0 + e + 1 = T 0 + 1 + e by omega, ← he] at l
      have z0 : nI 0 = 0 := rfl
      rw [z0] at l
      simp [p1, p2, x1, f1, g1, a1, a2, m1, m2, z, z0, l, id_gw_X12_delayingPart_34]
    · have l := l_delay (xo := nI o) (yo := nI o) (hm := hp_i hm 12 0 0 0) (u := oa_open w o) hn J R C G I i.1 (by omega) (by omega) (T 0) 0 e e none (by omega) (fun _ z => nomatch z)
      have o1 : oa_oi none = -1 := rfl
      have o2 : oa_od (fun p => oa_day T w p (oa_open w o * oa_need T (w (93 + 8 * o)) p)) none = -1 := rfl
      rw [← he, nI_0, o1, o2] at l
      have z0 : ¬ nI (oa_open w o) = 0 := nI_ne0 (by omega) (by omega)
      simp [p1, p2, x1, f1, g1, a1, a2, m1, m2, z0, l, id_gw_X12_delayingPart_34]
  · simp [p1, p2, x1, f1, g1]
theorem m_opens {p : Nat} {x1 : Int32} (J : IT T) (R : RM hm T w) (I : IW T w n) (hp : p < T 0) : ∀ (m k e e' : Nat) (x : Int32), k + m = w 1 →
    pi_X12_promiseOfAll_29 (m + 1 + e) hm x1 (nI p) x (nI k) ∧ iw_x3_X12_promiseOfAll_29 (m + 1 + e') hm x1 (nI p) x (nI k) = x + nI (oa_sum (oa_op T w p) k m) := by
  have hw := I.1.2.1
  have bT := J.1
  have r0 : hm.1 58 0 1 = nI (w 1) := R.2 1 (by omega) (by omega)
  intro m
  induction m with
  | zero =>
    intro k e e' x hk
    rw [show 0 + 1 + e = e + 1 by omega, show 0 + 1 + e' = e' + 1 by omega]
    have c1 : nI (w 1) ≤ nI k := nI_le (by omega) (by omega)
    simp [pi_X12_promiseOfAll_29, iw_x3_X12_promiseOfAll_29, r0, c1, oa_sum, nI_0]
  | succ m ih =>
    intro k e e' x hk
    rw [show m + 1 + 1 + e = (m + 1 + e) + 1 by omega, show m + 1 + 1 + e' = (m + 1 + e') + 1 by omega]
    have c1 : ¬ nI (w 1) ≤ nI k := nI_ge (by omega) (by omega)
    have ih' := fun x => ih (k + 1) e e' x (by omega)
    simp only [nI_succ] at ih'
    have ho : k < w 1 := by omega
    have i := I.2.2.2 k ho
    have m1 := m_ord R I ho
    have m2 := m_open R I ho
    have m3 := m_needs R (show w (93 + 8 * k) < 8 by omega) (show p < 12 by omega)
    simp only [pi_X12_promiseOfAll_29, iw_x3_X12_promiseOfAll_29, r0, m1, m2, m3, oa_mul]
    rw [oa_sum, ← nI_add]
    simp [c1, ih', oa_op]
    grind
theorem oa_ops_le {p : Nat} (J : IT T) (I : IW T w n) (hp : p < T 0) : oa_sum (oa_op T w p) 0 (w 1) < 100000000 := by
  have hw := I.1.2.1
  have := oa_sum_le (f := oa_op T w p) (B := 99 * 9999) (w 1) 0 (fun j _ hj => oa_op_le J I (by omega) hp)
  have h2 : w 1 * (99 * 9999) ≤ 20 * (99 * 9999) := Nat.mul_le_mul_right _ hw
  omega
theorem l_all (hn : n ≤ 512) (J : IT T) (R : RM hm T w) (C : RC h (h.2.2 11 0 6) T) (G : RG h (h.2.2 11 0 7) w) (I : IW T w n) : ∀ (m k e e' : Nat) (x : Int32), k + m = T 0 →
    pw_X11_promiseOfAll_13 (m + 1 + e) h x (nI k) ∧ pw_X12_promiseOfAll_14 (m + 1 + e') hm x (nI k) ∧ fw_X11_promiseOfAll_13 (m + 1 + e) h x (nI k) = fw_X12_promiseOfAll_14 (m + 1 + e') hm x (nI k) := by
  have bT := J.1
  have k0 := C.1.1
  have r0 : hm.1 56 0 0 = nI (T 0) := R.1 0 (by omega)
  intro m
  induction m with
  | zero =>
    intro k e e' x hk
    rw [show 0 + 1 + e = e + 1 by omega, show 0 + 1 + e' = e' + 1 by omega]
    have c1 : nI (T 0) ≤ nI k := nI_le (by omega) (by omega)
    simp [pw_X11_promiseOfAll_13, pw_X12_promiseOfAll_14, fw_X11_promiseOfAll_13, fw_X12_promiseOfAll_14, k0, r0, c1]
  | succ m ih =>
    intro k e e' x hk
    rw [show m + 1 + 1 + e = (m + 1 + e) + 1 by omega, show m + 1 + 1 + e' = (m + 1 + e') + 1 by omega]
    have c1 : ¬ nI (T 0) ≤ nI k := nI_ge (by omega) (by omega)
    have ih' := fun x => ih (k + 1) e e' x (by omega)
    simp only [nI_succ] at ih'
    have hk2 : k < T 0 := by omega
    have a1 := a_openPieces J C G I hk2
    obtain ⟨e2, he⟩ := oa_fuel (show w 1 < 1000000 by have := I.1.2.1; omega)
    have m1 := m_opens (x1 := x) J R I hk2 (w 1) 0 e2 e2 0 (by omega)
    rw [← he, nI_0] at m1
    have z0 : ∀ y : Int32, 0 + y = y := fun y => by grind
    rw [z0] at m1
    have a2 := a_day hn J C G I hk2 (oa_ops_le J I hk2)
    have m2 := m_day hn J R I hk2 (oa_ops_le J I hk2)
    simp only [pw_X11_promiseOfAll_13, pw_X12_promiseOfAll_14, fw_X11_promiseOfAll_13, fw_X12_promiseOfAll_14, k0, r0, a1.2, m1.2, a2.2, m2.2]
    by_cases d : nI (oa_sum (oa_op T w k) 0 (w 1)) ≤ 0
    · simp [c1, a1.1, m1.1, d, ih']
    · simp [c1, a1.1, m1.1, d, a2.1, m2.1, ih']
theorem q_promiseOfAll (hn : n ≤ 512) (B : RB h hm T w n) : p_X11_promiseOfAll h ∧ p_X12_promiseOfAll hm ∧ QN (f_X11_promiseOfAll h) (f_X12_promiseOfAll hm) (g_X12_promiseOfAll hm) hm := by
  obtain ⟨J, I, R, C, G⟩ := B
  obtain ⟨e, he⟩ := oa_fuel (show T 0 < 1000000 by have := J.1; omega)
  have r0 : hm.1 58 0 0 = nI (w 0) := R.2 0 (by omega) (by omega)
  have l := l_all (hm := hp_i hm 12 0 0 0) hn J R C G I (T 0) 0 e e (nI (w 0)) (by omega)
  rw [← he, nI_0] at l
  unfold p_X11_promiseOfAll p_X12_promiseOfAll f_X11_promiseOfAll f_X12_promiseOfAll g_X12_promiseOfAll
  rw [G.1.1, r0]
  exact ⟨l.1, l.2.1, l.2.2, id_gw_X12_promiseOfAll_14 _ _ _ _⟩
end QAD
