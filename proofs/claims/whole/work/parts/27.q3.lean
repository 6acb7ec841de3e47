section PS
variable {h hm : Hp} {L : Nat} {T w : Nat → Nat} {n : Nat}
/-- an order's fields, class -/
theorem a_ord {o : Nat} (R : RG h L w) (I : IW T w n) (ho : o < w 1) :
    (p_X6_reservedOf h L (nI o) ∧ f_X6_reservedOf h L (nI o) = nI (w (93 + 8 * o + 6))) ∧ (p_X6_shippedOf h L (nI o) ∧ f_X6_shippedOf h L (nI o) = nI (w (93 + 8 * o + 5))) ∧
    (p_X6_productOf h L (nI o) ∧ f_X6_productOf h L (nI o) = nI (w (93 + 8 * o))) ∧ (p_X6_quantityOf h L (nI o) ∧ f_X6_quantityOf h L (nI o) = nI (w (93 + 8 * o + 1))) ∧
    (p_X6_classOf h L (nI o) ∧ f_X6_classOf h L (nI o) = nI (w (93 + 8 * o + 2))) ∧ (p_X6_dueOf h L (nI o) ∧ f_X6_dueOf h L (nI o) = nI (w (93 + 8 * o + 3))) := by
  obtain ⟨a1, a2, a3, a4⟩ := a_order R I ho
  obtain ⟨r1, r2, r3, r4, r5, r6, r7, r8⟩ := R.2.2.2 o ho
  refine ⟨⟨?_, ?_⟩, ⟨?_, ?_⟩, ⟨?_, ?_⟩, ⟨?_, ?_⟩, ⟨?_, ?_⟩, ⟨?_, ?_⟩⟩
  · simp [p_X6_reservedOf, a1, a2, a3]
  · simp [f_X6_reservedOf, a1, a4, r7]
  · simp [p_X6_shippedOf, a1, a2, a3]
  · simp [f_X6_shippedOf, a1, a4, r6]
  · simp [p_X6_productOf, a1, a2, a3]
  · simp [f_X6_productOf, a1, a4, r1]
  · simp [p_X6_quantityOf, a1, a2, a3]
  · simp [f_X6_quantityOf, a1, a4, r2]
  · simp [p_X6_classOf, a1, a2, a3]
  · simp [f_X6_classOf, a1, a4, r3]
  · simp [p_X6_dueOf, a1, a2, a3]
  · simp [f_X6_dueOf, a1, a4, r4]
/-- and the model -/
theorem m_ord {o : Nat} (R : RM hm T w) (I : IW T w n) (ho : o < w 1) :
    (p_X12_of hm (nI o) 0 ∧ f_X12_of hm (nI o) 0 = nI (w (93 + 8 * o))) ∧ (p_X12_of hm (nI o) 1 ∧ f_X12_of hm (nI o) 1 = nI (w (93 + 8 * o + 1))) ∧ (p_X12_of hm (nI o) 2 ∧ f_X12_of hm (nI o) 2 = nI (w (93 + 8 * o + 2))) ∧ (p_X12_of hm (nI o) 3 ∧ f_X12_of hm (nI o) 3 = nI (w (93 + 8 * o + 3))) ∧
    (p_X12_of hm (nI o) 4 ∧ f_X12_of hm (nI o) 4 = nI (w (93 + 8 * o + 4))) ∧ (p_X12_of hm (nI o) 5 ∧ f_X12_of hm (nI o) 5 = nI (w (93 + 8 * o + 5))) ∧ (p_X12_of hm (nI o) 6 ∧ f_X12_of hm (nI o) 6 = nI (w (93 + 8 * o + 6))) ∧ (p_X12_of hm (nI o) 7 ∧ f_X12_of hm (nI o) 7 = nI (w (93 + 8 * o + 7))) := by
  have b := I.1.2.1
  exact ⟨m_of R (show o < 20 by omega) (show 0 < 8 by omega), m_of R (show o < 20 by omega) (show 1 < 8 by omega), m_of R (show o < 20 by omega) (show 2 < 8 by omega), m_of R (show o < 20 by omega) (show 3 < 8 by omega), m_of R (show o < 20 by omega) (show 4 < 8 by omega), m_of R (show o < 20 by omega) (show 5 < 8 by omega), m_of R (show o < 20 by omega) (show 6 < 8 by omega), m_of R (show o < 20 by omega) (show 7 < 8 by omega)⟩
theorem q_reservedUnits (B : RB h hm T w n) (a : Int32) : p_X11_reservedUnits h a ∧ p_X12_reservedUnits hm a ∧ QA (x_X11_reservedUnits h a) (f_X11_reservedUnits h a) (f_X12_reservedUnits hm a) (g_X12_reservedUnits hm a) hm := by
  obtain ⟨p1, p2, k⟩ := kk_order B a
  obtain ⟨J, I, R, C, G⟩ := B
  unfold p_X11_reservedUnits p_X12_reservedUnits x_X11_reservedUnits f_X11_reservedUnits f_X12_reservedUnits g_X12_reservedUnits QA
  rcases k with ⟨o, ho, rfl, x1, f1, g1⟩ | ⟨x1, f1, g1⟩
  · have a1 := a_ord G I ho
    have m1 := m_ord (hm := hp_i hm 12 0 0 0) R I ho
    simp [p1, p2, x1, f1, g1, a1, m1]
  · simp [p1, p2, x1, f1, g1]
theorem q_shippedUnits (B : RB h hm T w n) (a : Int32) : p_X11_shippedUnits h a ∧ p_X12_shippedUnits hm a ∧ QA (x_X11_shippedUnits h a) (f_X11_shippedUnits h a) (f_X12_shippedUnits hm a) (g_X12_shippedUnits hm a) hm := by
  obtain ⟨p1, p2, k⟩ := kk_order B a
  obtain ⟨J, I, R, C, G⟩ := B
  unfold p_X11_shippedUnits p_X12_shippedUnits x_X11_shippedUnits f_X11_shippedUnits f_X12_shippedUnits g_X12_shippedUnits QA
  rcases k with ⟨o, ho, rfl, x1, f1, g1⟩ | ⟨x1, f1, g1⟩
  · have a1 := a_ord G I ho
    have m1 := m_ord (hm := hp_i hm 12 0 0 0) R I ho
    simp [p1, p2, x1, f1, g1, a1, m1]
  · simp [p1, p2, x1, f1, g1]
theorem q_missing (B : RB h hm T w n) (a b : Int32) : p_X11_missing h a b ∧ p_X12_missing hm a b ∧ QA (x_X11_missing h a b) (f_X11_missing h a b) (f_X12_missing hm a b) (g_X12_missing hm a b) hm := by
  obtain ⟨p1, p2, k⟩ := kk_order B a
  obtain ⟨p3, p4, k2⟩ := kk_part B b
  obtain ⟨J, I, R, C, G⟩ := B
  have bT := J.1
  unfold p_X11_missing p_X12_missing x_X11_missing f_X11_missing f_X12_missing g_X12_missing QA
  rcases k with ⟨o, ho, rfl, x1, f1, g1⟩ | ⟨x1, f1, g1⟩
  · rcases k2 with ⟨p, hp, rfl, x2, f2, g2⟩ | ⟨x2, f2, g2⟩
    · have i := I.2.2.2 o ho
      have a1 := a_ord G I ho
      have a2 := a_open G I ho
      have a3 := a_needOf J C i.1 hp
      have a4 := a_freeOf G I (show p < 12 by omega)
      have m1 := m_ord (hm := hp_i hm 12 0 0 0) R I ho
      have m2 := m_open (hm := hp_i hm 12 0 0 0) R I ho
      have m3 := m_needs (hm := hp_i hm 12 0 0 0) R (show w (93 + 8 * o) < 8 by omega) (show p < 12 by omega)
      have m4 := m_free (hm := hp_i hm 12 0 0 0) R I (show p < 12 by omega)
      simp [p1, p2, p3, p4, x1, f1, g1, x2, f2, g2, p_X11_shortageOf, f_X11_shortageOf, a1, a2, a3, a4, m1, m2, m3, m4]
    · simp [p1, p2, p3, p4, x1, f1, g1, x2, f2, g2]
  · simp [p1, p2, x1, f1, g1]
theorem q_stateOf (B : RB h hm T w n) (a : Int32) : p_X11_stateOf h a ∧ p_X12_stateOf hm a ∧ QA (x_X11_stateOf h a) (f_X11_stateOf h a) (f_X12_stateOf hm a) (g_X12_stateOf hm a) hm := by
  obtain ⟨p1, p2, k⟩ := kk_order B a
  obtain ⟨J, I, R, C, G⟩ := B
  unfold p_X11_stateOf p_X12_stateOf x_X11_stateOf f_X11_stateOf f_X12_stateOf g_X12_stateOf QA
  rcases k with ⟨o, ho, rfl, x1, f1, g1⟩ | ⟨x1, f1, g1⟩
  · have i := I.2.2.2 o ho
    obtain ⟨b1, b2, b3, b4⟩ := a_order G I ho
    have a1 := a_ord G I ho
    have a2 := a_open G I ho
    have m1 := m_ord (hm := hp_i hm 12 0 0 0) R I ho
    have m2 := m_open (hm := hp_i hm 12 0 0 0) R I ho
    have r8 := (G.2.2.2 o ho).2.2.2.2.2.2.2
    by_cases c : w (93 + 8 * o + 7) = 1
    · have e1 : nI 1 = 1 := rfl
      simp [p1, p2, x1, f1, g1, p_X6_stateFor, f_X6_stateFor, b1, b2, b3, b4, a1, a2, m1, m2, r8, c, e1]
    · have c0 : w (93 + 8 * o + 7) = 0 := by omega
      have e0 : nI 0 = 0 := rfl
      have e5 : (nI (w (93 + 8 * o + 5)) = nI (w (93 + 8 * o + 1))) ↔ w (93 + 8 * o + 5) = w (93 + 8 * o + 1) := nI_eq (by omega) (by omega)
      have e6 : (nI (oa_open w o) ≤ 0) ↔ oa_open w o ≤ 0 := nI_leI (b := 0) (by unfold oa_open; split <;> omega) (by omega)
      have e7 : (nI (w (93 + 8 * o + 6)) ≤ 0) ↔ w (93 + 8 * o + 6) ≤ 0 := nI_leI (b := 0) (by omega) (by omega)
      have o1 : oa_open w o = w (93 + 8 * o + 1) - w (93 + 8 * o + 5) - w (93 + 8 * o + 6) := by simp [oa_open, c]
      simp [p1, p2, x1, f1, g1, p_X6_stateFor, f_X6_stateFor, b1, b2, b3, b4, a1, a2, m1, m2, r8, c0, e0, e5, e6, e7]
      grind
  · simp [p1, p2, x1, f1, g1]
end PS
