section QAA
variable {h hm : Hp} {c L : Nat} {T w F : Nat → Nat} {n : Nat}
/-- pieces of a part that an order's open units want -/
def oa_op (T w : Nat → Nat) (p o : Nat) : Nat := oa_open w o * oa_need T (w (93 + 8 * o)) p
theorem oa_open_le {o : Nat} (I : IW T w n) (ho : o < w 1) : oa_open w o ≤ 99 := by
  have i := I.2.2.2 o ho
  unfold oa_open
  split <;> omega
theorem oa_op_le {o p : Nat} (J : IT T) (I : IW T w n) (ho : o < w 1) (hp : p < T 0) : oa_op T w p o ≤ 99 * 9999 :=
  Nat.mul_le_mul (oa_open_le I ho) (J.2.2.2.2.1 _ p (I.2.2.2 o ho).1 hp)
theorem oa_sum_le {f : Nat → Nat} {B : Nat} (m : Nat) : ∀ k, (∀ j, k ≤ j → j < k + m → f j ≤ B) → oa_sum f k m ≤ m * B := by
  induction m with
  | zero => intro k _; simp only [oa_sum]; omega
  | succ m ih =>
    intro k hk
    have h1 := hk k (Nat.le_refl k) (by omega)
    have h2 := ih (k + 1) (fun j h1 h2 => hk j (by omega) (by omega))
    simp only [oa_sum]
    rw [Nat.succ_mul]
    omega
theorem a_opens {p : Nat} (J : IT T) (C : RC h c T) (G : RG h L w) (I : IW T w n) (hp : p < T 0) : ∀ (m k e : Nat) (x : Int32), k + m = w 1 →
    pw_X5_openPieces_5 (m + 1 + e) h L c (nI p) x (nI k) ∧ fw_X5_openPieces_5 (m + 1 + e) h L c (nI p) x (nI k) = x + nI (oa_sum (oa_op T w p) k m) := by
  have hw := I.1.2.1
  have r0 := G.1.2.1
  intro m
  induction m with
  | zero =>
    intro k e x hk
    rw [show 0 + 1 + e = e + 1 by omega]
    have c1 : nI (w 1) ≤ nI k := nI_le (by omega) (by omega)
    simp [pw_X5_openPieces_5, fw_X5_openPieces_5, r0, c1, oa_sum, nI_0]
  | succ m ih =>
    intro k e x hk
    rw [show m + 1 + 1 + e = (m + 1 + e) + 1 by omega]
    have c1 : ¬ nI (w 1) ≤ nI k := nI_ge (by omega) (by omega)
    have ih' := fun x => ih (k + 1) e x (by omega)
    simp only [nI_succ] at ih'
    have ho : k < w 1 := by omega
    have i := I.2.2.2 k ho
    have a1 := a_ord G I ho
    have a2 := a_open G I ho
    have a3 := a_needOf J C i.1 hp
    simp only [pw_X5_openPieces_5, fw_X5_openPieces_5, r0, a1, a2, a3, oa_mul]
    rw [oa_sum, ← nI_add]
    simp [c1, ih', oa_op]
    grind
theorem a_openPieces {p : Nat} (J : IT T) (C : RC h c T) (G : RG h L w) (I : IW T w n) (hp : p < T 0) : p_X5_openPieces h L c (nI p) ∧ f_X5_openPieces h L c (nI p) = nI (oa_sum (oa_op T w p) 0 (w 1)) := by
  obtain ⟨e, he⟩ := oa_fuel (show w 1 < 1000000 by have := I.1.2.1; omega)
  have a := a_opens J C G I hp (w 1) 0 e 0 (by omega)
  rw [← he, nI_0] at a
  refine ⟨a.1, ?_⟩
  unfold f_X5_openPieces
  exact a.2.trans (by grind)
theorem a_allArriving {p : Nat} (hn : n ≤ 512) (J : IT T) (G : RG h L w) (I : IW T w n) (hp : p < 12) : p_X10_allArriving h L (nI p) ∧ f_X10_allArriving h L (nI p) = nI (oa_sum (oa_cm w p 2147483647) 0 (w 2)) := by
  have b2 := I.1.1
  have a1 := a_arrivingUntil (X := nI (w 0) + 60) J G I hp
  have e : oa_sum (oa_cm w p (nI (w 0) + 60)) 0 (w 2) = oa_sum (oa_cm w p 2147483647) 0 (w 2) := oa_sum_congr _ _ (fun j _ hj => by
    have i := I.2.2.1 j (by omega)
    have e6 : nI (w 0) + 60 = nI (w 0 + 60) := nI_add (w 0) 60
    rw [e6]
    refine oa_cm_eq (nI_nlt (by omega) (by omega)) (fun z => ?_)
    have z2 := Int32.lt_iff_toInt_lt.mp z
    rw [oa_big, nI_toInt (by omega)] at z2
    omega)
  simp [p_X10_allArriving, f_X10_allArriving, G.1.1, a1, e]
/-- what is wanting of a part -/
def oa_buy (T w : Nat → Nat) (p : Nat) : Int32 := if 0 < nI (oa_sum (oa_op T w p) 0 (w 1)) - nI (w (9 + p) - w (21 + p)) - nI (oa_sum (oa_cm w p 2147483647) 0 (w 2)) then nI (oa_sum (oa_op T w p) 0 (w 1)) - nI (w (9 + p) - w (21 + p)) - nI (oa_sum (oa_cm w p 2147483647) 0 (w 2)) else 0
theorem a_short {p : Nat} (hn : n ≤ 512) (J : IT T) (C : RC h (h.2.2 11 0 6) T) (G : RG h (h.2.2 11 0 7) w) (I : IW T w n) (hp : p < T 0) : p_X11_shortageOfAll h (nI p) ∧ f_X11_shortageOfAll h (nI p) = oa_buy T w p := by
  have bT := J.1
  have a1 := a_openPieces J C G I hp
  have a2 := a_freeOf G I (show p < 12 by omega)
  have a3 := a_allArriving hn J G I (show p < 12 by omega)
  refine ⟨⟨a1.1, a2.1, a3.1, trivial⟩, ?_⟩
  unfold f_X11_shortageOfAll oa_buy
  rw [a1.2, a2.2, a3.2]
theorem m_buysL {p : Nat} (J : IT T) (R : RM hm T w) (I : IW T w n) (hp : p < T 0) : ∀ (m k e : Nat) (x : Int32), k + m = w 1 →
    pw_X12_buys_17 (m + 1 + e) hm (nI p) x (nI k) ∧ fw_X12_buys_17 (m + 1 + e) hm (nI p) x (nI k) = if 0 < x + nI (oa_sum (oa_op T w p) k m) then x + nI (oa_sum (oa_op T w p) k m) else 0 := by
  have hw := I.1.2.1
  have bT := J.1
  have r0 : hm.1 58 0 1 = nI (w 1) := R.2 1 (by omega) (by omega)
  intro m
  induction m with
  | zero =>
    intro k e x hk
    rw [show 0 + 1 + e = e + 1 by omega]
    have c1 : nI (w 1) ≤ nI k := nI_le (by omega) (by omega)
    simp [pw_X12_buys_17, fw_X12_buys_17, r0, c1, oa_sum, nI_0]
  | succ m ih =>
    intro k e x hk
    rw [show m + 1 + 1 + e = (m + 1 + e) + 1 by omega]
    have c1 : ¬ nI (w 1) ≤ nI k := nI_ge (by omega) (by omega)
    have ih' := fun x => ih (k + 1) e x (by omega)
    simp only [nI_succ] at ih'
    have ho : k < w 1 := by omega
    have i := I.2.2.2 k ho
    have m1 := m_ord R I ho
    have m2 := m_open R I ho
    have m3 := m_needs R (show w (93 + 8 * k) < 8 by omega) (show p < 12 by omega)
    simp only [pw_X12_buys_17, fw_X12_buys_17, r0, m1, m2, m3, oa_mul]
    rw [oa_sum, ← nI_add]
    have e1 : x + (nI (oa_op T w p k) + nI (oa_sum (oa_op T w p) (k + 1) m)) = x + nI (oa_open w k * oa_need T (w (93 + 8 * k)) p) + nI (oa_sum (oa_op T w p) (k + 1) m) := by unfold oa_op; grind
    rw [e1]
    simp [c1, ih']
theorem m_buys {p : Nat} (J : IT T) (R : RM hm T w) (I : IW T w n) (hp : p < T 0) : p_X12_buys hm (nI p) ∧ f_X12_buys hm (nI p) = oa_buy T w p := by
  have bT := J.1
  obtain ⟨e, he⟩ := oa_fuel (show w 1 < 1000000 by have := I.1.2.1; omega)
  have m1 := m_free R I (show p < 12 by omega)
  have m2 := m_comesBy (X := 2147483647) J R I (show p < 12 by omega)
  have a := m_buysL J R I hp (w 1) 0 e (-nI (w (9 + p) - w (21 + p)) - nI (oa_sum (oa_cm w p 2147483647) 0 (w 2))) (by omega)
  rw [← he, nI_0] at a
  unfold p_X12_buys f_X12_buys
  rw [m1.2, m2.2]
  refine ⟨⟨m1.1, m2.1, a.1⟩, a.2.trans ?_⟩
  have e1 : -nI (w (9 + p) - w (21 + p)) - nI (oa_sum (oa_cm w p 2147483647) 0 (w 2)) + nI (oa_sum (oa_op T w p) 0 (w 1)) = nI (oa_sum (oa_op T w p) 0 (w 1)) - nI (w (9 + p) - w (21 + p)) - nI (oa_sum (oa_cm w p 2147483647) 0 (w 2)) := by grind
  rw [e1]
  rfl
theorem q_toBuy (hn : n ≤ 512) (B : RB h hm T w n) (a : Int32) : p_X11_toBuy h a ∧ p_X12_toBuy hm a ∧ QA (x_X11_toBuy h a) (f_X11_toBuy h a) (f_X12_toBuy hm a) (g_X12_toBuy hm a) hm := by
  obtain ⟨p1, p2, k⟩ := kk_part B a
  obtain ⟨J, I, R, C, G⟩ := B
  unfold p_X11_toBuy p_X12_toBuy x_X11_toBuy f_X11_toBuy f_X12_toBuy g_X12_toBuy QA
  rcases k with ⟨p, hp, rfl, x1, f1, g1⟩ | ⟨x1, f1, g1⟩
  · have a1 := a_short hn J C G I hp
    have m1 := m_buys (hm := hp_i hm 12 0 0 0) J R I hp
    simp [p1, p2, x1, f1, g1, a1, m1]
  · simp [p1, p2, x1, f1, g1]
def oa_bo (B : Nat → Int32) : Option Nat → Int32
  | none => 0
  | some b => B b
theorem l_scarcest (hn : n ≤ 512) (J : IT T) (R : RM hm T w) (C : RC h (h.2.2 11 0 6) T) (G : RG h (h.2.2 11 0 7) w) (I : IW T w n) : ∀ (m k e e' : Nat) (b : Option Nat), k + m = T 0 → (∀ b', b = some b' → b' < k) →
    pw_X11_scarcestPart_6 (m + 1 + e) h (oa_oi b) (oa_bo (oa_buy T w) b) (nI k) ∧ pw_X12_scarcestPart_9 (m + 1 + e') hm (oa_oi b) (nI k) ∧ fw_X11_scarcestPart_6 (m + 1 + e) h (oa_oi b) (oa_bo (oa_buy T w) b) (nI k) = fw_X12_scarcestPart_9 (m + 1 + e') hm (oa_oi b) (nI k) := by
  have bT := J.1
  have k0 := C.1.1
  have r0 : hm.1 56 0 0 = nI (T 0) := R.1 0 (by omega)
  intro m
  induction m with
  | zero =>
    intro k e e' b hk hb
    rw [show 0 + 1 + e = e + 1 by omega, show 0 + 1 + e' = e' + 1 by omega]
    have c1 : nI (T 0) ≤ nI k := nI_le (by omega) (by omega)
    simp [pw_X11_scarcestPart_6, pw_X12_scarcestPart_9, fw_X11_scarcestPart_6, fw_X12_scarcestPart_9, k0, r0, c1]
  | succ m ih =>
    intro k e e' b hk hb
    rw [show m + 1 + 1 + e = (m + 1 + e) + 1 by omega, show m + 1 + 1 + e' = (m + 1 + e') + 1 by omega]
    have c1 : ¬ nI (T 0) ≤ nI k := nI_ge (by omega) (by omega)
    have ih' := fun b hb => ih (k + 1) e e' b (by omega) hb
    simp only [nI_succ] at ih'
    have a1 := a_short hn J C G I (show k < T 0 by omega)
    have m1 := m_buys J R I (show k < T 0 by omega)
    simp only [pw_X11_scarcestPart_6, pw_X12_scarcestPart_9, fw_X11_scarcestPart_6, fw_X12_scarcestPart_9, k0, r0]
    have rk := ih' (some k) (fun b' z => by cases z; omega)
    have rb := ih' b (fun b' z => by have := hb b' z; omega)
    cases b with
    | none =>
      have o1 : oa_oi none = -1 := rfl
      have o2 : oa_bo (oa_buy T w) none = 0 := rfl
      have o3 : oa_oi (some k) = nI k := rfl
      have o4 : oa_bo (oa_buy T w) (some k) = oa_buy T w k := rfl
      rw [o1, o2] at rb
      rw [o3, o4] at rk
      by_cases d : oa_buy T w k ≤ 0
      · simp [c1, a1, m1, o1, o2, d, rb]
      · simp [c1, a1, m1, o1, o2, d, rk]
    | some b' =>
      have hb' := hb b' rfl
      have m2 := m_buys J R I (show b' < T 0 by omega)
      have o1 : oa_oi (some b') = nI b' := rfl
      have o2 : oa_bo (oa_buy T w) (some b') = oa_buy T w b' := rfl
      have o3 : oa_oi (some k) = nI k := rfl
      have o4 : oa_bo (oa_buy T w) (some k) = oa_buy T w k := rfl
      have o5 : ¬ nI b' = -1 := oa_oi_some hb' (by omega)
      rw [o1, o2] at rb
      rw [o3, o4] at rk
      by_cases d : oa_buy T w k ≤ oa_buy T w b'
      · simp [c1, a1, m1, m2, o1, o2, o5, d, rb]
      · simp [c1, a1, m1, m2, o1, o2, o5, d, rk]
/-- a call without arguments that asks -/
def QN (f fm : Int32) (g hm : Hp) : Prop := f = fm ∧ g = hp_i hm 12 0 0 0
theorem q_scarcestPart (hn : n ≤ 512) (B : RB h hm T w n) : p_X11_scarcestPart h ∧ p_X12_scarcestPart hm ∧ QN (f_X11_scarcestPart h) (f_X12_scarcestPart hm) (g_X12_scarcestPart hm) hm := by
  obtain ⟨J, I, R, C, G⟩ := B
  obtain ⟨e, he⟩ := oa_fuel (show T 0 < 1000000 by have := J.1; omega)
  have l := l_scarcest (hm := hp_i hm 12 0 0 0) hn J R C G I (T 0) 0 e e none (by omega) (fun _ z => nomatch z)
  rw [← he, nI_0] at l
  exact ⟨l.1, l.2.1, l.2.2, id_gw_X12_scarcestPart_9 _ _ _ _⟩
theorem l_missingPieces (J : IT T) (R : RM hm T w) (C : RC h (h.2.2 11 0 6) T) (G : RG h (h.2.2 11 0 7) w) (I : IW T w n) {o : Nat} (ho : o < w 1) : ∀ (m k e e' : Nat) (x : Int32), k + m = T 0 →
    pw_X11_missingPieces_9 (m + 1 + e) h (nI o) x (nI k) ∧ pw_X12_missingPieces_19 (m + 1 + e') hm (nI o) x (nI k) ∧ fw_X11_missingPieces_9 (m + 1 + e) h (nI o) x (nI k) = fw_X12_missingPieces_19 (m + 1 + e') hm (nI o) x (nI k) := by
  have bT := J.1
  have k0 := C.1.1
  have r0 : hm.1 56 0 0 = nI (T 0) := R.1 0 (by omega)
  have i := I.2.2.2 o ho
  have a1 := a_ord G I ho
  have a2 := a_open G I ho
  have m1 := m_ord R I ho
  have m2 := m_open R I ho
  intro m
  induction m with
  | zero =>
    intro k e e' x hk
    rw [show 0 + 1 + e = e + 1 by omega, show 0 + 1 + e' = e' + 1 by omega]
    have c1 : nI (T 0) ≤ nI k := nI_le (by omega) (by omega)
    simp [pw_X11_missingPieces_9, pw_X12_missingPieces_19, fw_X11_missingPieces_9, fw_X12_missingPieces_19, k0, r0, c1]
  | succ m ih =>
    intro k e e' x hk
    rw [show m + 1 + 1 + e = (m + 1 + e) + 1 by omega, show m + 1 + 1 + e' = (m + 1 + e') + 1 by omega]
    have c1 : ¬ nI (T 0) ≤ nI k := nI_ge (by omega) (by omega)
    have ih' := fun x => ih (k + 1) e e' x (by omega)
    simp only [nI_succ] at ih'
    have a3 := a_needOf J C i.1 (show k < T 0 by omega)
    have a4 := a_freeOf G I (show k < 12 by omega)
    have m3 := m_needs R (show w (93 + 8 * o) < 8 by omega) (show k < 12 by omega)
    have m4 := m_free R I (show k < 12 by omega)
    simp only [pw_X11_missingPieces_9, pw_X12_missingPieces_19, fw_X11_missingPieces_9, fw_X12_missingPieces_19, k0, r0]
    simp [c1, p_X11_shortageOf, f_X11_shortageOf, a1, a2, a3, a4, m1, m2, m3, m4, ih']
theorem q_missingPieces (B : RB h hm T w n) (a : Int32) : p_X11_missingPieces h a ∧ p_X12_missingPieces hm a ∧ QA (x_X11_missingPieces h a) (f_X11_missingPieces h a) (f_X12_missingPieces hm a) (g_X12_missingPieces hm a) hm := by
  obtain ⟨p1, p2, k⟩ := kk_order B a
  obtain ⟨J, I, R, C, G⟩ := B
  obtain ⟨e, he⟩ := oa_fuel (show T 0 < 1000000 by have := J.1; omega)
  unfold p_X11_missingPieces p_X12_missingPieces x_X11_missingPieces f_X11_missingPieces f_X12_missingPieces g_X12_missingPieces QA
  rcases k with ⟨o, ho, rfl, x1, f1, g1⟩ | ⟨x1, f1, g1⟩
  · have l := l_missingPieces (hm := hp_i hm 12 0 0 0) J R C G I ho (T 0) 0 e e 0 (by omega)
    rw [← he, nI_0] at l
    simp [p1, p2, x1, f1, g1, l, id_gw_X12_missingPieces_19]
  · simp [p1, p2, x1, f1, g1]
end QAA
