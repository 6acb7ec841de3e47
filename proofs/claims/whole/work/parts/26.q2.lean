section PR
variable {h hm : Hp} {T w : Nat → Nat} {n : Nat}
def RB (h hm : Hp) (T w : Nat → Nat) (n : Nat) : Prop := IT T ∧ IW T w n ∧ RM hm T w ∧ RC h (h.2.2 11 0 6) T ∧ RG h (h.2.2 11 0 7) w
/-- a call that asks: the same answer, or the throw of code 1 on both sides -/
def QA (x : Nat) (f fm : Int32) (g hm : Hp) : Prop := (x = 0 ∧ f = fm ∧ g = hp_i hm 12 0 0 0) ∨ (x = 1 ∧ g = hp_i (hp_i hm 12 0 0 0) 12 0 0 1)
theorem kk_part (B : RB h hm T w n) (a : Int32) : p_X11_checkPart h a ∧ p_X12_noPart (hp_i hm 12 0 0 0) a ∧ ((∃ p, p < T 0 ∧ a = nI p ∧ x_X11_checkPart h a = 0 ∧ f_X12_noPart (hp_i hm 12 0 0 0) a = 0 ∧ g_X12_noPart (hp_i hm 12 0 0 0) a = hp_i hm 12 0 0 0) ∨ (x_X11_checkPart h a = 1 ∧ f_X12_noPart (hp_i hm 12 0 0 0) a = 1 ∧ g_X12_noPart (hp_i hm 12 0 0 0) a = hp_i (hp_i hm 12 0 0 0) 12 0 0 1)) := by
  obtain ⟨J, I, R, C, G⟩ := B
  have b := J.1
  obtain ⟨p1, k1⟩ := k_part J C a
  obtain ⟨p2, k2⟩ := k_noPart (hm := hp_i hm 12 0 0 0) J R a
  refine ⟨p1, p2, ?_⟩
  rcases k1 with ⟨q, hq, rfl, x1⟩ | ⟨c1, x1⟩
  · rcases k2 with ⟨q', -, -, f2, g2⟩ | ⟨c, -⟩
    · exact Or.inl ⟨q, hq, rfl, x1, f2, g2⟩
    · exact (oa_excl (by omega) hq c).elim
  · rcases k2 with ⟨q', hq', rfl, -⟩ | ⟨-, f2, g2⟩
    · exact (oa_excl (by omega) hq' c1).elim
    · exact Or.inr ⟨x1, f2, g2⟩
theorem kk_product (B : RB h hm T w n) (a : Int32) : p_X11_checkProduct h a ∧ p_X12_noProduct (hp_i hm 12 0 0 0) a ∧ ((∃ p, p < T 1 ∧ a = nI p ∧ x_X11_checkProduct h a = 0 ∧ f_X12_noProduct (hp_i hm 12 0 0 0) a = 0 ∧ g_X12_noProduct (hp_i hm 12 0 0 0) a = hp_i hm 12 0 0 0) ∨ (x_X11_checkProduct h a = 1 ∧ f_X12_noProduct (hp_i hm 12 0 0 0) a = 1 ∧ g_X12_noProduct (hp_i hm 12 0 0 0) a = hp_i (hp_i hm 12 0 0 0) 12 0 0 1)) := by
  obtain ⟨J, I, R, C, G⟩ := B
  have b := J.1
  obtain ⟨p1, k1⟩ := k_product J C a
  obtain ⟨p2, k2⟩ := k_noProduct (hm := hp_i hm 12 0 0 0) J R a
  refine ⟨p1, p2, ?_⟩
  rcases k1 with ⟨q, hq, rfl, x1⟩ | ⟨c1, x1⟩
  · rcases k2 with ⟨q', -, -, f2, g2⟩ | ⟨c, -⟩
    · exact Or.inl ⟨q, hq, rfl, x1, f2, g2⟩
    · exact (oa_excl (by omega) hq c).elim
  · rcases k2 with ⟨q', hq', rfl, -⟩ | ⟨-, f2, g2⟩
    · exact (oa_excl (by omega) hq' c1).elim
    · exact Or.inr ⟨x1, f2, g2⟩
theorem kk_order (B : RB h hm T w n) (a : Int32) : p_X11_checkOrder h a ∧ p_X12_noOrder (hp_i hm 12 0 0 0) a ∧ ((∃ p, p < w 1 ∧ a = nI p ∧ x_X11_checkOrder h a = 0 ∧ f_X12_noOrder (hp_i hm 12 0 0 0) a = 0 ∧ g_X12_noOrder (hp_i hm 12 0 0 0) a = hp_i hm 12 0 0 0) ∨ (x_X11_checkOrder h a = 1 ∧ f_X12_noOrder (hp_i hm 12 0 0 0) a = 1 ∧ g_X12_noOrder (hp_i hm 12 0 0 0) a = hp_i (hp_i hm 12 0 0 0) 12 0 0 1)) := by
  obtain ⟨J, I, R, C, G⟩ := B
  have b := I.1.2.1
  have k1 := k_inside h a (w 1) (by omega)
  have k2 := k_in (hp_i hm 12 0 0 0) a (w 1) (by omega)
  have r1 : (hp_i hm 12 0 0 0).1 58 0 1 = nI (w 1) := R.2 1 (by omega) (by omega)
  unfold p_X11_checkOrder p_X12_noOrder x_X11_checkOrder f_X12_noOrder g_X12_noOrder
  rw [G.1.2.1, r1]
  refine ⟨⟨k1.1, trivial⟩, ?_⟩
  rcases k1.2 with ⟨q, hq, rfl, x1⟩ | ⟨c1, x1⟩
  · rcases k2.2 with ⟨q', -, -, f2⟩ | ⟨c, -⟩
    · rw [x1, f2]
      refine ⟨⟨k2.1, by simp [p_X12_throwsIf, f_X12_throwsIf]⟩, Or.inl ⟨q, hq, rfl, by decide, by simp [f_X12_throwsIf], by simp [g_X12_throwsIf]⟩⟩
    · exact (oa_excl (by omega) hq c).elim
  · rcases k2.2 with ⟨q', hq', rfl, -⟩ | ⟨-, f2⟩
    · exact (oa_excl (by omega) hq' c1).elim
    · rw [x1, f2]
      refine ⟨⟨k2.1, by simp [p_X12_throwsIf, f_X12_throwsIf]⟩, Or.inr ⟨by decide, by simp [f_X12_throwsIf], by simp [g_X12_throwsIf]⟩⟩
theorem q_stock (B : RB h hm T w n) (a : Int32) : p_X11_stock h a ∧ p_X12_stock hm a ∧ QA (x_X11_stock h a) (f_X11_stock h a) (f_X12_stock hm a) (g_X12_stock hm a) hm := by
  obtain ⟨p1, p2, k⟩ := kk_part B a
  obtain ⟨J, I, R, C, G⟩ := B
  have b := J.1
  unfold p_X11_stock p_X12_stock x_X11_stock f_X11_stock f_X12_stock g_X12_stock QA
  rcases k with ⟨p, hp, rfl, x1, f1, g1⟩ | ⟨x1, f1, g1⟩
  · have e : (9 : Int32) + nI p = nI (9 + p) := nI_add 9 p
    have c1 : ¬ nI p < 0 := nI_pos (by omega)
    have c2 : ¬ (12 : Int32) ≤ nI p := nI_ge (a := p) (b := 12) (by omega) (by omega)
    have v1 : vp_in (nI p) 12 := vp_in_nI (by omega) (by omega)
    have v2 : vp_in (nI (9 + p)) 301 := vp_in_nI (by omega) (by omega)
    have r1 : (hp_i hm 12 0 0 0).1 58 0 (9 + p) = nI (w (9 + p)) := R.2 _ (by omega) (by omega)
    have r2 := (G.2.1 p (by omega)).1
    simp [p1, p2, x1, f1, g1, e, v1, v2, r1, r2, c1, c2, f_X10_stockOf, p_X10_stockOf, f_X11_isInside, p_X11_isInside, nI_clamp (show 9 + p < 2 ^ 31 by omega), nI_clamp (show p < 2 ^ 31 by omega)]
  · simp [p1, p2, x1, f1, g1]
theorem q_reserved (B : RB h hm T w n) (a : Int32) : p_X11_reserved h a ∧ p_X12_reserved hm a ∧ QA (x_X11_reserved h a) (f_X11_reserved h a) (f_X12_reserved hm a) (g_X12_reserved hm a) hm := by
  obtain ⟨p1, p2, k⟩ := kk_part B a
  obtain ⟨J, I, R, C, G⟩ := B
  have b := J.1
  unfold p_X11_reserved p_X12_reserved x_X11_reserved f_X11_reserved f_X12_reserved g_X12_reserved QA
  rcases k with ⟨p, hp, rfl, x1, f1, g1⟩ | ⟨x1, f1, g1⟩
  · have e : (21 : Int32) + nI p = nI (21 + p) := nI_add 21 p
    have c1 : ¬ nI p < 0 := nI_pos (by omega)
    have c2 : ¬ (12 : Int32) ≤ nI p := nI_ge (a := p) (b := 12) (by omega) (by omega)
    have v1 : vp_in (nI p) 12 := vp_in_nI (by omega) (by omega)
    have v2 : vp_in (nI (21 + p)) 301 := vp_in_nI (by omega) (by omega)
    have r1 : (hp_i hm 12 0 0 0).1 58 0 (21 + p) = nI (w (21 + p)) := R.2 _ (by omega) (by omega)
    have r2 := (G.2.1 p (by omega)).2
    simp [p1, p2, x1, f1, g1, e, v1, v2, r1, r2, c1, c2, f_X10_reservedOf, p_X10_reservedOf, f_X11_isInside, p_X11_isInside, nI_clamp (show 21 + p < 2 ^ 31 by omega), nI_clamp (show p < 2 ^ 31 by omega)]
  · simp [p1, p2, x1, f1, g1]
theorem q_openUnits (B : RB h hm T w n) (a : Int32) : p_X11_openUnits h a ∧ p_X12_openUnits hm a ∧ QA (x_X11_openUnits h a) (f_X11_openUnits h a) (f_X12_openUnits hm a) (g_X12_openUnits hm a) hm := by
  obtain ⟨p1, p2, k⟩ := kk_order B a
  obtain ⟨J, I, R, C, G⟩ := B
  unfold p_X11_openUnits p_X12_openUnits x_X11_openUnits f_X11_openUnits f_X12_openUnits g_X12_openUnits QA
  rcases k with ⟨o, ho, rfl, x1, f1, g1⟩ | ⟨x1, f1, g1⟩
  · have a1 := a_open G I ho
    have m1 := m_open (hm := hp_i hm 12 0 0 0) R I ho
    simp [p1, p2, x1, f1, g1, a1, m1]
  · simp [p1, p2, x1, f1, g1]
theorem oa_sum_congr {f g : Nat → Nat} (m : Nat) : ∀ k, (∀ j, k ≤ j → j < k + m → f j = g j) → oa_sum f k m = oa_sum g k m := by
  induction m with
  | zero => intro k _; simp only [oa_sum]
  | succ m ih =>
    intro k hk
    simp only [oa_sum]
    rw [hk k (Nat.le_refl k) (by omega), ih (k + 1) (fun j h1 h2 => hk j (by omega) (by omega))]
theorem oa_cm_eq {w : Nat → Nat} {p k : Nat} {X Y : Int32} (h1 : ¬ X < nI (w (33 + 3 * k + 2))) (h2 : ¬ Y < nI (w (33 + 3 * k + 2))) : oa_cm w p X k = oa_cm w p Y k := by
  unfold oa_cm
  by_cases c : w (33 + 3 * k) = p
  · rw [if_pos ⟨c, h1⟩, if_pos ⟨c, h2⟩]
  · rw [if_neg (fun z => c z.1), if_neg (fun z => c z.1)]
theorem oa_big : (2147483647 : Int32).toInt = 2147483647 := by decide +kernel
theorem q_arriving (hn : n ≤ 512) (B : RB h hm T w n) (a : Int32) : p_X11_arriving h a ∧ p_X12_arriving hm a ∧ QA (x_X11_arriving h a) (f_X11_arriving h a) (f_X12_arriving hm a) (g_X12_arriving hm a) hm := by
  obtain ⟨p1, p2, k⟩ := kk_part B a
  obtain ⟨J, I, R, C, G⟩ := B
  have b := J.1
  have b2 := I.1.1
  unfold p_X11_arriving p_X12_arriving x_X11_arriving f_X11_arriving f_X12_arriving g_X12_arriving QA
  rcases k with ⟨p, hp, rfl, x1, f1, g1⟩ | ⟨x1, f1, g1⟩
  · have a1 := a_arrivingUntil (X := nI (w 0) + 60) J G I (show p < 12 by omega)
    have m1 := m_comesBy (X := 2147483647) (hm := hp_i hm 12 0 0 0) J R I (show p < 12 by omega)
    have e : oa_sum (oa_cm w p (nI (w 0) + 60)) 0 (w 2) = oa_sum (oa_cm w p 2147483647) 0 (w 2) := oa_sum_congr _ _ (fun j _ hj => by
      have i := I.2.2.1 j (by omega)
      have e6 : nI (w 0) + 60 = nI (w 0 + 60) := nI_add (w 0) 60
      rw [e6]
      refine oa_cm_eq (nI_nlt (by omega) (by omega)) (fun z => ?_)
      have z2 := Int32.lt_iff_toInt_lt.mp z
      rw [oa_big, nI_toInt (by omega)] at z2
      omega)
    simp [p1, p2, x1, f1, g1, p_X10_allArriving, f_X10_allArriving, G.1.1, a1, m1, e]
  · simp [p1, p2, x1, f1, g1]
end PR
