section PV
variable {h hm : Hp} {L : Nat} {T w : Nat → Nat} {n : Nat}
theorem q_lineQuantity (B : RB h hm T w n) (a b : Int32) : p_X11_lineQuantity h a b ∧ p_X12_lineQuantity hm a b ∧ QA (x_X11_lineQuantity h a b) (f_X11_lineQuantity h a b) (f_X12_lineQuantity hm a b) (g_X12_lineQuantity hm a b) hm := by
  obtain ⟨p1, p2, k⟩ := kk_product B a
  obtain ⟨J, I, R, C, G⟩ := B
  have bT := J.1
  unfold p_X11_lineQuantity p_X12_lineQuantity x_X11_lineQuantity f_X11_lineQuantity f_X12_lineQuantity g_X12_lineQuantity QA
  rcases k with ⟨q, hq, rfl, x1, f1, g1⟩ | ⟨x1, f1, g1⟩
  · have jl := J.2.2.1 q hq
    have e : (188 : Int32) + nI q = nI (188 + q) := nI_add 188 q
    have v2 : vp_in (nI (188 + q)) 506 := vp_in_nI (by omega) (by omega)
    have r1 : (hp_i hm 12 0 0 0).1 56 0 (188 + q) = nI (T (188 + q)) := R.1 _ (by omega)
    have v1 : vp_in (nI q) 8 := vp_in_nI (by omega) (by omega)
    have al := a_lines J C hq
    have ki := k_inside h b (T (188 + q)) (by omega)
    have km := k_in (hp_i hm 12 0 0 0) b (T (188 + q)) (by omega)
    rcases ki.2 with ⟨l, hl, rfl, i1⟩ | ⟨c, i1⟩
    · rcases km.2 with ⟨l', -, -, i2⟩ | ⟨c, -⟩
      · have e3 : (244 : Int32) + 6 * nI q + nI l = nI (244 + 6 * q + l) := oa_ix3 244 6 q l
        have v3 : vp_in (nI (244 + 6 * q + l)) 506 := vp_in_nI (by omega) (by omega)
        have v4 : vp_in (nI l) 6 := vp_in_nI (by omega) (by omega)
        have r3 : (hp_i hm 12 0 0 0).1 56 0 (244 + 6 * q + l) = nI (T (244 + 6 * q + l)) := R.1 _ (by omega)
        have c3 := (C.2.2.2.1 q l hq hl).2
        simp [p1, p2, x1, f1, g1, e, v1, v2, v3, v4, r1, r3, al, ki.1, km.1, i1, i2, e3, p_X1_quantityOf, f_X1_quantityOf, c3, nI_clamp (show 188 + q < 2 ^ 31 by omega), nI_clamp (show q < 2 ^ 31 by omega), nI_clamp (show l < 2 ^ 31 by omega), nI_clamp (show 244 + 6 * q + l < 2 ^ 31 by omega)]
      · exact (oa_excl (by omega) hl c).elim
    · rcases km.2 with ⟨l', hl', rfl, -⟩ | ⟨-, i2⟩
      · exact (oa_excl (by omega) hl' c).elim
      · simp [p1, p2, x1, f1, g1, e, v1, v2, r1, al, ki.1, km.1, i1, i2, p_X1_quantityOf, f_X1_quantityOf, nI_clamp (show 188 + q < 2 ^ 31 by omega)]
  · simp [p1, p2, x1, f1, g1]
theorem a_whole {o : Nat} (G : RG h L w) (I : IW T w n) (ho : o < w 1) : p_X6_isWhole h L (nI o) ∧ f_X6_isWhole h L (nI o) = nI (w (93 + 8 * o + 4)) := by
  obtain ⟨a1, a2, a3, a4⟩ := a_order G I ho
  have r := (G.2.2.2 o ho).2.2.2.2.1
  have i := (I.2.2.2 o ho).2.2.2.2.2.1
  have e0 : nI 0 = 0 := rfl
  have e1 : nI 1 = 1 := rfl
  rcases (show w (93 + 8 * o + 4) = 0 ∨ w (93 + 8 * o + 4) = 1 by omega) with c | c
  · simp [p_X6_isWhole, f_X6_isWhole, a1, a2, a3, a4, r, c, e0]
  · simp [p_X6_isWhole, f_X6_isWhole, a1, a2, a3, a4, r, c, e1]
theorem q_orderField (B : RB h hm T w n) (a b : Int32) : p_X11_orderField h a b ∧ p_X12_orderField hm a b ∧ QA (x_X11_orderField h a b) (f_X11_orderField h a b) (f_X12_orderField hm a b) (g_X12_orderField hm a b) hm := by
  obtain ⟨p1, p2, k⟩ := kk_order B a
  obtain ⟨J, I, R, C, G⟩ := B
  unfold p_X11_orderField p_X12_orderField x_X11_orderField f_X11_orderField f_X12_orderField g_X12_orderField QA
  rcases k with ⟨o, ho, rfl, x1, f1, g1⟩ | ⟨x1, f1, g1⟩
  · have i := (I.2.2.2 o ho).2.2.2.2.2.1
    have a1 := a_ord G I ho
    have a2 := a_whole G I ho
    have m1 := m_ord (hm := hp_i hm 12 0 0 0) R I ho
    have pin : p_X12_in (hp_i hm 12 0 0 0) b 0 4 := by unfold p_X12_in; grind
    have e0 : nI 0 = 0 := rfl
    have e1 : nI 1 = 1 := rfl
    by_cases c : b < 0 ∨ 4 < b
    · have fin : f_X12_in (hp_i hm 12 0 0 0) b 0 4 = 0 := by unfold f_X12_in; grind
      have b0 : ¬ b = 0 := by rintro rfl; revert c; decide
      have b1 : ¬ b = 1 := by rintro rfl; revert c; decide
      have b2 : ¬ b = 2 := by rintro rfl; revert c; decide
      have b3 : ¬ b = 3 := by rintro rfl; revert c; decide
      have b4 : ¬ b = 4 := by rintro rfl; revert c; decide
      simp [p1, p2, x1, f1, g1, pin, fin, c, b0, b1, b2, b3, b4]
    · have fin : f_X12_in (hp_i hm 12 0 0 0) b 0 4 = 1 := by unfold f_X12_in; grind
      have bb : b = 0 ∨ b = 1 ∨ b = 2 ∨ b = 3 ∨ b = 4 := by
        rcases oa_rng b 5 (by decide) with ⟨q, hq, rfl⟩ | z
        · rcases (show q = 0 ∨ q = 1 ∨ q = 2 ∨ q = 3 ∨ q = 4 by omega) with rfl | rfl | rfl | rfl | rfl <;> simp [nI]
        · exfalso
          have : nI 5 = 5 := rfl
          rw [this] at z
          grind
      rcases bb with rfl | rfl | rfl | rfl | rfl
      · simp [p1, p2, x1, f1, g1, pin, fin, a1, m1]
      · simp [p1, p2, x1, f1, g1, pin, fin, a1, m1]
      · simp [p1, p2, x1, f1, g1, pin, fin, a1, m1]
      · simp [p1, p2, x1, f1, g1, pin, fin, a1, m1]
      · rcases (show w (93 + 8 * o + 4) = 0 ∨ w (93 + 8 * o + 4) = 1 by omega) with c4 | c4
        · simp [p1, p2, x1, f1, g1, pin, fin, a2, m1, c4, e0]
        · simp [p1, p2, x1, f1, g1, pin, fin, a2, m1, c4, e1]
  · simp [p1, p2, x1, f1, g1]
end PV
