/-! adjusting: who loses -/
def ob_cand (T w : Nat → Nat) (p o : Nat) : Bool := decide (0 < w (93 + 8 * o + 6) ∧ 0 < oa_need T (w (93 + 8 * o)) p)
def ob_bef (w : Nat → Nat) (o b : Nat) : Bool := decide (w (93 + 8 * o + 2) < w (93 + 8 * b + 2) ∨ (w (93 + 8 * o + 2) = w (93 + 8 * b + 2) ∧ w (93 + 8 * b + 3) ≤ w (93 + 8 * o + 3)))
def ob_lose (T w : Nat → Nat) (p : Nat) : Nat → Nat → Option Nat → Option Nat
  | 0, _, b => b
  | m + 1, k, b => ob_lose T w p m (k + 1) (if ob_cand T w p k = true then (match b with
    | none => some k
    | some c => if ob_bef w k c = true then some k else some c) else b)
theorem ob_lose_s (T w : Nat → Nat) (p m k : Nat) (b : Option Nat) : ob_lose T w p (m + 1) k b = ob_lose T w p m (k + 1) (if ob_cand T w p k = true then (match b with
    | none => some k
    | some c => if ob_bef w k c = true then some k else some c) else b) := rfl
theorem ob_lose_ok {T w : Nat → Nat} {p N : Nat} : ∀ (m k : Nat) (b : Option Nat), k + m = N → (∀ c, b = some c → c < k ∧ ob_cand T w p c = true) → (b = none → ∀ o, o < k → ob_cand T w p o = false) →
    (∀ c, ob_lose T w p m k b = some c → c < N ∧ ob_cand T w p c = true) ∧ (ob_lose T w p m k b = none → ∀ o, o < N → ob_cand T w p o = false) := by
  intro m
  induction m with
  | zero =>
    intro k b hk h1 h2
    obtain rfl : k = N := by omega
    exact ⟨h1, h2⟩
  | succ m ih =>
    intro k b hk h1 h2
    rw [ob_lose_s]
    refine ih (k + 1) _ (by omega) ?_ ?_
    · intro c hc
      by_cases d : ob_cand T w p k = true
      · rw [if_pos d] at hc
        cases b with
        | none =>
          obtain rfl : k = c := by simpa using hc
          exact ⟨by omega, d⟩
        | some c' =>
          simp only at hc
          by_cases d1 : ob_bef w k c' = true
          · rw [if_pos d1] at hc
            obtain rfl : k = c := by simpa using hc
            exact ⟨by omega, d⟩
          · rw [if_neg d1] at hc
            obtain rfl : c' = c := by simpa using hc
            have := h1 c' rfl
            exact ⟨by omega, this.2⟩
      · rw [if_neg d] at hc
        have := h1 c hc
        exact ⟨by omega, this.2⟩
    · intro hc o ho
      by_cases d : ob_cand T w p k = true
      · rw [if_pos d] at hc
        cases b with
        | none => simp at hc
        | some c => simp only at hc; split at hc <;> simp at hc
      · rw [if_neg d] at hc
        by_cases e : o = k
        · rw [e]; simpa using d
        · exact h2 hc o (by omega)
/-- the orders' cells as the class reads them -/
def OB (h : Hp) (L : Nat) (w : Nat → Nat) : Prop := ∀ o, o < w 1 →
    (p_X6_reservedOf h L (nI o) ∧ f_X6_reservedOf h L (nI o) = nI (w (93 + 8 * o + 6))) ∧ (p_X6_productOf h L (nI o) ∧ f_X6_productOf h L (nI o) = nI (w (93 + 8 * o))) ∧
    (p_X6_classOf h L (nI o) ∧ f_X6_classOf h L (nI o) = nI (w (93 + 8 * o + 2))) ∧ (p_X6_dueOf h L (nI o) ∧ f_X6_dueOf h L (nI o) = nI (w (93 + 8 * o + 3))) ∧ (p_X6_isWhole h L (nI o) ∧ f_X6_isWhole h L (nI o) = nI (w (93 + 8 * o + 4)))
section RAR
variable {h hm h' hm' K H : Hp} {c L : Nat} {T w w' v : Nat → Nat} {n n' S N d s k p st : Nat}
theorem OB.of (G : RG H L w) (I : IW T w n) (hE : ∀ t, LG t → ¬ t = 48 → h.1 t L = H.1 t L) : OB h L w := by
  intro o ho
  have a1 := a_ord G I ho
  have a2 := a_whole G I ho
  have e6 := hE 6 (by unfold LG; omega) (by omega)
  have e36 := hE 36 (by unfold LG; omega) (by omega)
  have e38 := hE 38 (by unfold LG; omega) (by omega)
  have e39 := hE 39 (by unfold LG; omega) (by omega)
  have e40 := hE 40 (by unfold LG; omega) (by omega)
  have e42 := hE 42 (by unfold LG; omega) (by omega)
  refine ⟨⟨?_, ?_⟩, ⟨?_, ?_⟩, ⟨?_, ?_⟩, ⟨?_, ?_⟩, ⟨?_, ?_⟩⟩
  · have := a1.1.1
    simpa only [p_X6_reservedOf, p_X11_isInside, f_X11_isInside, e6, e42] using this
  · refine Eq.trans ?_ a1.1.2
    unfold f_X6_reservedOf f_X11_isInside
    rw [e6, e42]
  · have := a1.2.2.1.1
    simpa only [p_X6_productOf, p_X11_isInside, f_X11_isInside, e6, e36] using this
  · refine Eq.trans ?_ a1.2.2.1.2
    unfold f_X6_productOf f_X11_isInside
    rw [e6, e36]
  · have := a1.2.2.2.2.1.1
    simpa only [p_X6_classOf, p_X11_isInside, f_X11_isInside, e6, e38] using this
  · refine Eq.trans ?_ a1.2.2.2.2.1.2
    unfold f_X6_classOf f_X11_isInside
    rw [e6, e38]
  · have := a1.2.2.2.2.2.1
    simpa only [p_X6_dueOf, p_X11_isInside, f_X11_isInside, e6, e39] using this
  · refine Eq.trans ?_ a1.2.2.2.2.2.2
    unfold f_X6_dueOf f_X11_isInside
    rw [e6, e39]
  · have := a2.1
    simpa only [p_X6_isWhole, p_X11_isInside, f_X11_isInside, e6, e40] using this
  · refine Eq.trans ?_ a2.2
    unfold f_X6_isWhole f_X11_isInside
    rw [e6, e40]
theorem ob_oi_some {b : Nat} (hb : b < 2 ^ 31) : ¬ nI b = -1 := by
  intro z
  have : (0 : Int32) ≤ nI b := nI_pos' hb
  rw [z] at this
  revert this
  decide
theorem a_loseL (J : IT T) (C : RC h c T) (B : OB h L w) (h6 : h.1 6 L 0 = nI (w 1)) (I : IW T w n) (hp : p < T 0) : ∀ (m k e : Nat) (b : Option Nat), k + m = w 1 → (∀ b', b = some b' → b' < k) →
    pw_X6_firstToLose_5 (m + 1 + e) h L c (nI p) (oa_oi b) (nI k) ∧ fw_X6_firstToLose_5 (m + 1 + e) h L c (nI p) (oa_oi b) (nI k) = oa_oi (ob_lose T w p m k b) := by
  have hw := I.1.2.1
  intro m
  induction m with
  | zero =>
    intro k e b hk hb
    rw [show 0 + 1 + e = e + 1 by omega]
    have c1 : nI (w 1) ≤ nI k := nI_le (by omega) (by omega)
    simp [pw_X6_firstToLose_5, fw_X6_firstToLose_5, h6, c1, ob_lose]
  | succ m ih =>
    intro k e b hk hb
    rw [show m + 1 + 1 + e = (m + 1 + e) + 1 by omega]
    have c1 : ¬ nI (w 1) ≤ nI k := nI_ge (by omega) (by omega)
    have ho : k < w 1 := by omega
    have i := I.2.2.2 k ho
    obtain ⟨b1, b2, b3, b4, b5⟩ := B k ho
    have a3 := a_needOf J C i.1 hp
    have jn : oa_need T (w (93 + 8 * k)) p ≤ 9999 := J.2.2.2.2.1 _ p i.1 hp
    have ih' := fun b hb => ih (k + 1) e b (by omega) hb
    simp only [nI_succ] at ih'
    have rk := ih' (some k) (fun b' z => by cases z; omega)
    have rb := ih' b (fun b' z => by have := hb b' z; omega)
    have o3 : oa_oi (some k) = nI k := rfl
    have l1 : (nI (w (93 + 8 * k + 6)) ≤ 0) ↔ w (93 + 8 * k + 6) ≤ 0 := nI_leI (b := 0) (by omega) (by omega)
    have l2 : (nI (oa_need T (w (93 + 8 * k)) p) ≤ 0) ↔ oa_need T (w (93 + 8 * k)) p ≤ 0 := nI_leI (b := 0) (by omega) (by omega)
    simp only [pw_X6_firstToLose_5, fw_X6_firstToLose_5, h6, b1.2, b2.2, a3.2, l1, l2, ob_lose]
    by_cases d1 : w (93 + 8 * k + 6) ≤ 0
    · have pk : ¬ ob_cand T w p k = true := by unfold ob_cand; simp; omega
      simp [c1, b1.1, d1, pk, rb]
    · by_cases d2 : oa_need T (w (93 + 8 * k)) p ≤ 0
      · have pk : ¬ ob_cand T w p k = true := by unfold ob_cand; simp; omega
        have d1' : ¬ w (93 + 8 * k + 6) = 0 := by omega
        have d2' : oa_need T (w (93 + 8 * k)) p = 0 := by omega
        simp [c1, b1.1, b2.1, a3.1, d1', d2', pk, rb]
      · have pk : ob_cand T w p k = true := by unfold ob_cand; simp; omega
        have d1' : ¬ w (93 + 8 * k + 6) = 0 := by omega
        have d2' : ¬ oa_need T (w (93 + 8 * k)) p = 0 := by omega
        cases b with
        | none =>
          have o1 : oa_oi none = -1 := rfl
          rw [o3] at rk
          simp [c1, b1.1, b2.1, a3.1, d1', d2', pk, o1, rk]
        | some b' =>
          have hb' := hb b' rfl
          have o1 : oa_oi (some b') = nI b' := rfl
          have o5 := ob_oi_some (show b' < 2 ^ 31 by omega)
          obtain ⟨-, -, q3, q4, -⟩ := B b' (by omega)
          have ib := I.2.2.2 b' (by omega)
          have e1 : (nI (w (93 + 8 * k + 2)) = nI (w (93 + 8 * b' + 2))) ↔ w (93 + 8 * k + 2) = w (93 + 8 * b' + 2) := nI_eq (by omega) (by omega)
          have e2 : (nI (w (93 + 8 * k + 3)) < nI (w (93 + 8 * b' + 3))) ↔ w (93 + 8 * k + 3) < w (93 + 8 * b' + 3) := nI_ltI (by omega) (by omega)
          have e3 : (nI (w (93 + 8 * b' + 2)) ≤ nI (w (93 + 8 * k + 2))) ↔ w (93 + 8 * b' + 2) ≤ w (93 + 8 * k + 2) := nI_leI (by omega) (by omega)
          have lb : p_X6_losesBefore h L (nI k) (nI b') ∧ f_X6_losesBefore h L (nI k) (nI b') = if ob_bef w k b' = true then 1 else 0 := by
            refine ⟨?_, ?_⟩
            · unfold p_X6_losesBefore
              simp only [b3, b4, q3, q4]
              grind
            · unfold f_X6_losesBefore ob_bef
              simp only [b3, b4, q3, q4, e1, e2, e3]
              by_cases z1 : w (93 + 8 * k + 2) = w (93 + 8 * b' + 2)
              · by_cases z2 : w (93 + 8 * k + 3) < w (93 + 8 * b' + 3)
                · rw [if_pos z1, if_pos z2, if_neg]; simp only [decide_eq_true_eq]; omega
                · rw [if_pos z1, if_neg z2, if_pos]; simp only [decide_eq_true_eq]; omega
              · by_cases z2 : w (93 + 8 * b' + 2) ≤ w (93 + 8 * k + 2)
                · rw [if_neg z1, if_pos z2, if_neg]; simp only [decide_eq_true_eq]; omega
                · rw [if_neg z1, if_neg z2, if_pos]; simp only [decide_eq_true_eq]; omega
          rw [o1] at rb
          rw [o3] at rk
          by_cases d3 : ob_bef w k b' = true
          · simp [c1, b1.1, b2.1, a3.1, d1', d2', pk, o1, o5, lb, d3, rk]
          · simp [c1, b1.1, b2.1, a3.1, d1', d2', pk, o1, o5, lb, d3, rb]
/-- the model's cells of orders -/
def OM (hm : Hp) (w : Nat → Nat) : Prop := hm.1 58 0 1 = nI (w 1) ∧ ∀ j, 93 ≤ j → j < 253 → hm.1 58 0 j = nI (w j)
theorem m_ofO {o j : Nat} (M : OM hm w) (ho : o < 20) (hj : j < 8) : p_X12_of hm (nI o) (nI j) ∧ f_X12_of hm (nI o) (nI j) = nI (w (93 + 8 * o + j)) := by
  have := m_of' (K := hm) ho hj
  rw [M.2 _ (by omega) (by omega)] at this
  exact this
theorem m_loseL (J : IT T) (hT : ∀ k, k < 506 → hm.1 56 0 k = nI (T k)) (M : OM hm w) (I : IW T w n) (hp : p < T 0) : ∀ (m k e : Nat) (b : Option Nat), k + m = w 1 → (∀ b', b = some b' → b' < k) →
    pw_X12_loser_4 (m + 1 + e) hm (nI p) (oa_oi b) (nI k) ∧ fw_X12_loser_4 (m + 1 + e) hm (nI p) (oa_oi b) (nI k) = oa_oi (ob_lose T w p m k b) := by
  have hw := I.1.2.1
  have bT := J.1
  intro m
  induction m with
  | zero =>
    intro k e b hk hb
    rw [show 0 + 1 + e = e + 1 by omega]
    have c1 : nI (w 1) ≤ nI k := nI_le (by omega) (by omega)
    simp [pw_X12_loser_4, fw_X12_loser_4, M.1, c1, ob_lose]
  | succ m ih =>
    intro k e b hk hb
    rw [show m + 1 + 1 + e = (m + 1 + e) + 1 by omega]
    have c1 : ¬ nI (w 1) ≤ nI k := nI_ge (by omega) (by omega)
    have ho : k < w 1 := by omega
    have i := I.2.2.2 k ho
    have m0 : p_X12_of hm (nI k) 0 ∧ f_X12_of hm (nI k) 0 = nI (w (93 + 8 * k)) := m_ofO M (by omega) (show 0 < 8 by omega)
    have m2 : p_X12_of hm (nI k) 2 ∧ f_X12_of hm (nI k) 2 = nI (w (93 + 8 * k + 2)) := m_ofO M (by omega) (show 2 < 8 by omega)
    have m3 : p_X12_of hm (nI k) 3 ∧ f_X12_of hm (nI k) 3 = nI (w (93 + 8 * k + 3)) := m_ofO M (by omega) (show 3 < 8 by omega)
    have m6 : p_X12_of hm (nI k) 6 ∧ f_X12_of hm (nI k) 6 = nI (w (93 + 8 * k + 6)) := m_ofO M (by omega) (show 6 < 8 by omega)
    have a3 := m_needs' hT (show w (93 + 8 * k) < 8 by omega) (show p < 12 by omega)
    have jn : oa_need T (w (93 + 8 * k)) p ≤ 9999 := J.2.2.2.2.1 _ p i.1 hp
    have ih' := fun b hb => ih (k + 1) e b (by omega) hb
    simp only [nI_succ] at ih'
    have rk := ih' (some k) (fun b' z => by cases z; omega)
    have rb := ih' b (fun b' z => by have := hb b' z; omega)
    have o3 : oa_oi (some k) = nI k := rfl
    have l1 : (nI (w (93 + 8 * k + 6)) = 0) ↔ w (93 + 8 * k + 6) = 0 := nI_eq (b := 0) (by omega) (by omega)
    have l2 : (nI (oa_need T (w (93 + 8 * k)) p) = 0) ↔ oa_need T (w (93 + 8 * k)) p = 0 := nI_eq (b := 0) (by omega) (by omega)
    simp only [pw_X12_loser_4, fw_X12_loser_4, M.1, m0.2, m2.2, m3.2, m6.2, a3.2, l1, l2, ob_lose]
    by_cases d1 : w (93 + 8 * k + 6) = 0
    · have pk : ¬ ob_cand T w p k = true := by unfold ob_cand; simp; omega
      simp [c1, m6.1, d1, pk, rb]
    · by_cases d2 : oa_need T (w (93 + 8 * k)) p = 0
      · have pk : ¬ ob_cand T w p k = true := by unfold ob_cand; simp; omega
        simp [c1, m6.1, m0.1, a3.1, d1, d2, pk, rb]
      · have pk : ob_cand T w p k = true := by unfold ob_cand; simp; omega
        cases b with
        | none =>
          have o1 : oa_oi none = -1 := rfl
          rw [o3] at rk
          simp [c1, m6.1, m0.1, a3.1, d1, d2, pk, o1, rk]
        | some b' =>
          have hb' := hb b' rfl
          have o1 : oa_oi (some b') = nI b' := rfl
          have o5 := ob_oi_some (show b' < 2 ^ 31 by omega)
          have q2 : p_X12_of hm (nI b') 2 ∧ f_X12_of hm (nI b') 2 = nI (w (93 + 8 * b' + 2)) := m_ofO M (by omega) (show 2 < 8 by omega)
          have q3 : p_X12_of hm (nI b') 3 ∧ f_X12_of hm (nI b') 3 = nI (w (93 + 8 * b' + 3)) := m_ofO M (by omega) (show 3 < 8 by omega)
          have ib := I.2.2.2 b' (by omega)
          have e1 : (nI (w (93 + 8 * k + 2)) = nI (w (93 + 8 * b' + 2))) ↔ w (93 + 8 * k + 2) = w (93 + 8 * b' + 2) := nI_eq (by omega) (by omega)
          have e2 : (nI (w (93 + 8 * k + 3)) < nI (w (93 + 8 * b' + 3))) ↔ w (93 + 8 * k + 3) < w (93 + 8 * b' + 3) := nI_ltI (by omega) (by omega)
          have e3 : (nI (w (93 + 8 * k + 2)) < nI (w (93 + 8 * b' + 2))) ↔ w (93 + 8 * k + 2) < w (93 + 8 * b' + 2) := nI_ltI (by omega) (by omega)
          rw [o1] at rb
          rw [o3] at rk
          simp only [o1, q2.2, q3.2, e1, e2, e3]
          by_cases z1 : w (93 + 8 * k + 2) < w (93 + 8 * b' + 2)
          · have d3 : ob_bef w k b' = true := by unfold ob_bef; simp only [decide_eq_true_eq]; omega
            simp [c1, m6.1, m0.1, m2.1, q2.1, a3.1, d1, d2, pk, o5, z1, d3, rk]
          · by_cases z2 : w (93 + 8 * k + 2) = w (93 + 8 * b' + 2)
            · by_cases z3 : w (93 + 8 * k + 3) < w (93 + 8 * b' + 3)
              · have d3 : ¬ ob_bef w k b' = true := by unfold ob_bef; simp only [decide_eq_true_eq]; omega
                simp [c1, m6.1, m0.1, m2.1, m3.1, q2.1, q3.1, a3.1, d1, d2, pk, o5, z2, z3, d3, rb, o1]
              · have d3 : ob_bef w k b' = true := by unfold ob_bef; simp only [decide_eq_true_eq]; omega
                simp [c1, m6.1, m0.1, m2.1, m3.1, q2.1, q3.1, a3.1, d1, d2, pk, o5, z2, z3, d3, rk]
            · have d3 : ¬ ob_bef w k b' = true := by unfold ob_bef; simp only [decide_eq_true_eq]; omega
              simp [c1, m6.1, m0.1, m2.1, q2.1, a3.1, d1, d2, pk, o5, z1, z2, d3, rb, o1]
end RAR
