/-! load: the bill of a product, the class's side -/
section BIL
variable {h h' k : Hp} {c q l p v m : Nat} {T T' : Nat → Nat}
/-- the class's code of an item -/
def ob_en (m : Nat) : Nat := if m < 12 then m else m + 88
/-- pieces of part p in one unit of item m -/
def ob_iu (T : Nat → Nat) (m p : Nat) : Nat := if m < 12 then (if m = p then 1 else 0) else T (292 + 12 * (m - 12) + p)
/-- the first l lines of product q -/
def PB (h : Hp) (c : Nat) (T : Nat → Nat) (q l : Nat) : Prop :=
  (∀ j, j < l → T (196 + 6 * q + j) < 12 + q ∧ (T (196 + 6 * q + j) < 12 → T (196 + 6 * q + j) < T 0) ∧ 1 ≤ T (244 + 6 * q + j) ∧ T (244 + 6 * q + j) ≤ 20 ∧ h.1 25 (8 * c + q) j = nI (ob_en (T (196 + 6 * q + j))) ∧ h.1 27 (8 * c + q) j = nI (T (244 + 6 * q + j))) ∧
  (∀ p, p < 12 → h.1 29 (8 * c + q) p = nI (T (292 + 12 * q + p)) ∧ T (292 + 12 * q + p) ≤ 9999 ∧ (T 0 ≤ p → T (292 + 12 * q + p) = 0)) ∧
  (1 ≤ l → ∃ p, p < T 0 ∧ 0 < T (292 + 12 * q + p))
/-- a product of the draft -/
def PQR (h : Hp) (c : Nat) (T : Nat → Nat) (q : Nat) : Prop := h.1 23 c q = nI (T (188 + q)) ∧ 1 ≤ T (188 + q) ∧ T (188 + q) ≤ 6 ∧ PB h c T q (T (188 + q)) ∧ h.1 22 c q = nI (oa_lvl T 8 q)
/-- the draft of the catalog, but for its rungs -/
def DR (h : Hp) (c : Nat) (T : Nat → Nat) : Prop :=
  (T 0 ≤ 12 ∧ T 1 ≤ 8) ∧ (h.1 1 c 0 = nI (T 0) ∧ h.1 1 c 1 = nI (T 1)) ∧
  (∀ p, p < T 0 → h.1 20 c p = nI (T (176 + p)) ∧ 1 ≤ T (176 + p) ∧ T (176 + p) ≤ 60) ∧
  (∀ q, q < T 1 → PQR h c T q) ∧ UN T ∧ (∀ k, k < 160 → T (4 + k) < 128) ∧
  (∀ p, p < T 0 → h.2.1 19 c p = oa_nm T p) ∧ (∀ q, q < T 1 → h.2.1 21 c q = oa_nm T (12 + q)) ∧ (∀ k, k < 506 → T k < 1000000)
theorem ob_iu_le (D : DR h c T) (hm : VK T m) (hp : p < 12) : ob_iu T m p ≤ 9999 := by
  unfold ob_iu
  split
  · split <;> omega
  · rename_i d
    have : m - 12 < T 1 := by unfold VK at hm; omega
    exact ((D.2.2.2.1 (m - 12) this).2.2.2.1.2.1 p hp).2.1
theorem ob_iu_0 (D : DR h c T) (hm : VK T m) (hp : p < 12) (h0 : T 0 ≤ p) : ob_iu T m p = 0 := by
  unfold ob_iu
  by_cases d : m < 12
  · rw [if_pos d, if_neg (by unfold VK at hm; omega)]
  · rw [if_neg d]
    have : m - 12 < T 1 := by unfold VK at hm; omega
    exact ((D.2.2.2.1 (m - 12) this).2.2.2.1.2.1 p hp).2.2 h0
theorem ob_iu_some (D : DR h c T) (hm : VK T m) : ∃ p, p < T 0 ∧ 0 < ob_iu T m p := by
  unfold ob_iu
  by_cases d : m < 12
  · refine ⟨m, by unfold VK at hm; omega, ?_⟩
    rw [if_pos d, if_pos rfl]; omega
  · have : m - 12 < T 1 := by unfold VK at hm; omega
    have R := D.2.2.2.1 (m - 12) this
    obtain ⟨p, h1, h2⟩ := R.2.2.2.1.2.2 R.2.1
    exact ⟨p, h1, by rw [if_neg d]; exact h2⟩
theorem ob_n100 : ∀ m, m < 12 → (nI m - 100 < 0) := by decide
theorem a_needU (D : DR h c T) (e0 : h'.1 1 c 0 = nI (T 0)) (e1 : h'.1 1 c 1 = nI (T 1)) (hr : ∀ q p, q < T 1 → h'.1 29 (8 * c + q) p = h.1 29 (8 * c + q) p) (hm : VK T m) (hp : p < T 0) (ne : ¬ nI (ob_en m) = nI p) : p_X1_needOf h' c (nI (ob_en m) - 100) (nI p) ∧ f_X1_needOf h' c (nI (ob_en m) - 100) (nI p) = nI (ob_iu T m p) := by
  have b := D.1
  by_cases d : m < 12
  · have en : ob_en m = m := if_pos d
    rw [en] at ne ⊢
    have c1 := ob_n100 m d
    have iu : ob_iu T m p = 0 := by
      unfold ob_iu
      rw [if_pos d, if_neg (fun z => ne (by rw [z]))]
    unfold p_X1_needOf f_X1_needOf
    rw [if_pos c1, if_pos rfl, iu]
    exact ⟨⟨fun _ => trivial, fun z => (z rfl).elim⟩, rfl⟩
  · have en : ob_en m = m + 88 := if_neg d
    have hq : m - 12 < T 1 := by unfold VK at hm; omega
    have e : nI (m + 88) - 100 = nI (m - 12) := by
      have : nI (m + 88) - nI 100 = nI (m + 88 - 100) := oa_sub (by omega)
      rw [show m + 88 - 100 = m - 12 by omega] at this
      exact this
    rw [en, e]
    have c1 : ¬ nI (m - 12) < 0 := nI_pos (by omega)
    have c2 : ¬ nI p < 0 := nI_pos (by omega)
    have c3 : ¬ nI (T 1) ≤ nI (m - 12) := nI_ge hq (by omega)
    have c4 : ¬ nI (T 0) ≤ nI p := nI_ge hp (by omega)
    have n10 : ¬ (1 : Int32) = 0 := by decide
    unfold p_X1_needOf f_X1_needOf
    rw [e0, e1, if_neg c1, if_neg c3, if_neg c2, if_neg c4, if_neg n10, nI_clamp (by omega), nI_clamp (by omega), hr _ _ hq, ((D.2.2.2.1 (m - 12) hq).2.2.2.1.2.1 p (by omega)).1]
    refine ⟨⟨fun z => (n10 z).elim, fun _ => ⟨vp_in_nI (by omega) (by omega), vp_in_nI (by omega) (by omega), trivial⟩⟩, ?_⟩
    unfold ob_iu
    rw [if_neg d]
theorem a_needWith {N : Nat} (D : DR h c T) (h1 : T 1 < 8) (e0 : h'.1 1 c 0 = nI (T 0)) (e1 : h'.1 1 c 1 = nI (T 1)) (hr : ∀ q p, q < T 1 → h'.1 29 (8 * c + q) p = h.1 29 (8 * c + q) p) (hm : VK T m) (hp : p < T 0) (hN : h'.1 29 (8 * c + T 1) p = nI N) : p_X1_needWith h' c (nI (ob_en m)) (nI v) (nI p) ∧ f_X1_needWith h' c (nI (ob_en m)) (nI v) (nI p) = nI (N + v * ob_iu T m p) := by
  have b := D.1
  have n8 : ¬ (8 : Int32) ≤ nI (T 1) := nI_ge (b := 8) h1 (by omega)
  unfold p_X1_needWith f_X1_needWith
  rw [e1, if_neg n8, nI_clamp (by omega), nI_clamp (by omega), hN]
  have vq : vp_in (nI (T 1)) 8 := vp_in_nI (by omega) (by omega)
  have vp : vp_in (nI p) 12 := vp_in_nI (by omega) (by omega)
  by_cases ne : nI (ob_en m) = nI p
  · have d : m = p ∧ m < 12 := by
      have := (nI_eq (a := ob_en m) (b := p) (by unfold ob_en VK at *; split <;> omega) (by omega)).mp ne
      unfold ob_en at this
      split at this <;> omega
    have iu : ob_iu T m p = 1 := by unfold ob_iu; rw [if_pos d.2, if_pos d.1]
    have m1 : nI v * 1 = nI (v * 1) := oa_mul v 1
    rw [if_neg (fun z => z ne), iu, m1, nI_add]
    exact ⟨⟨fun z => (n8 z).elim, fun _ => ⟨vq, vp, fun z => (z ne).elim, fun _ => trivial⟩⟩, rfl⟩
  · have nu := a_needU D e0 e1 hr hm hp ne
    rw [if_pos ne, nu.2, oa_mul, nI_add]
    exact ⟨⟨fun z => (n8 z).elim, fun _ => ⟨vq, vp, fun _ => ⟨nu.1, trivial⟩, fun z => (ne z).elim⟩⟩, rfl⟩
/-- the class's look ahead -/
theorem l_can (D : DR h c T) (h1 : T 1 < 8) (hm : VK T m) (hv : v ≤ 20) (hN : ∀ p, p < 12 → h.1 29 (8 * c + T 1) p = nI (T (292 + 12 * T 1 + p)) ∧ T (292 + 12 * T 1 + p) ≤ 9999) : ∀ (n f p : Nat), p + n = T 0 → pw_X1_begunCanHold_2 (n + 1 + f) h c (nI (ob_en m)) (nI v) (nI p) ∧
    ((fw_X1_begunCanHold_2 (n + 1 + f) h c (nI (ob_en m)) (nI v) (nI p) = 1 ∧ ∀ p', p ≤ p' → p' < T 0 → T (292 + 12 * T 1 + p') + v * ob_iu T m p' ≤ 9999) ∨ (fw_X1_begunCanHold_2 (n + 1 + f) h c (nI (ob_en m)) (nI v) (nI p) = 0 ∧ ∃ p', p ≤ p' ∧ p' < T 0 ∧ 9999 < T (292 + 12 * T 1 + p') + v * ob_iu T m p')) := by
  have b := D.1
  have e0 := D.2.1
  intro n
  induction n with
  | zero =>
    intro f p hp
    rw [show 0 + 1 + f = f + 1 by omega, pw_X1_begunCanHold_2, fw_X1_begunCanHold_2, e0.1]
    have c1 : nI (T 0) ≤ nI p := nI_le (by omega) (by omega)
    rw [if_pos c1]
    exact ⟨⟨fun _ => trivial, fun z => (z c1).elim⟩, Or.inl ⟨rfl, fun p' h1 h2 => by omega⟩⟩
  | succ n ih =>
    intro f p hp
    rw [show n + 1 + 1 + f = (n + 1 + f) + 1 by omega, pw_X1_begunCanHold_2, fw_X1_begunCanHold_2, e0.1]
    have c1 : ¬ nI (T 0) ≤ nI p := nI_ge (by omega) (by omega)
    have nw := a_needWith (v := v) D h1 e0.1 e0.2 (fun _ _ _ => rfl) hm (show p < T 0 by omega) (hN p (by omega)).1
    have le := ob_iu_le D hm (show p < 12 by omega)
    have lv : v * ob_iu T m p ≤ 20 * 9999 := Nat.mul_le_mul hv le
    have lN := (hN p (by omega)).2
    have en : nI p + 1 = nI (p + 1) := nI_add p 1
    rw [if_neg c1, nw.2, en]
    by_cases d : T (292 + 12 * T 1 + p) + v * ob_iu T m p ≤ 9999
    · have c2 : nI (T (292 + 12 * T 1 + p) + v * ob_iu T m p) ≤ 9999 := nI_le (b := 9999) d (by omega)
      have r := ih f (p + 1) (by omega)
      rw [if_pos c2]
      refine ⟨⟨fun z => (c1 z).elim, fun _ => ⟨nw.1, fun _ => r.1, fun z => (z c2).elim⟩⟩, ?_⟩
      rcases r.2 with ⟨r1, r2⟩ | ⟨r1, p', r2, r3, r4⟩
      · refine Or.inl ⟨r1, fun p' y1 y2 => ?_⟩
        by_cases y : p' = p
        · rw [y]; exact d
        · exact r2 p' (by omega) y2
      · exact Or.inr ⟨r1, p', by omega, r3, r4⟩
    · have c2 : ¬ nI (T (292 + 12 * T 1 + p) + v * ob_iu T m p) ≤ 9999 := nI_ge (a := 9999) (by omega) (by omega)
      rw [if_neg c2]
      exact ⟨⟨fun z => (c1 z).elim, fun _ => ⟨nw.1, fun z => (c2 z).elim, fun _ => trivial⟩⟩, Or.inr ⟨rfl, p, by omega, by omega, by omega⟩⟩
/-- has the begun product this item already -/
theorem l_has (h1 : T 1 < 8) (e1 : h.1 1 c 1 = nI (T 1)) (hl : l ≤ 6) (e2 : h.1 23 c (T 1) = nI l) (hm : m < 20) (B : PB h c T (T 1) l) : ∀ (n f j : Nat), j + n = l → pw_X1_begunHas_2 (n + 1 + f) h c (nI (ob_en m)) (nI j) ∧
    ((fw_X1_begunHas_2 (n + 1 + f) h c (nI (ob_en m)) (nI j) = 0 ∧ ∀ j', j ≤ j' → j' < l → ¬ T (196 + 6 * T 1 + j') = m) ∨ (fw_X1_begunHas_2 (n + 1 + f) h c (nI (ob_en m)) (nI j) = 1 ∧ ∃ j', j ≤ j' ∧ j' < l ∧ T (196 + 6 * T 1 + j') = m)) := by
  have n8 : ¬ (8 : Int32) ≤ nI (T 1) := nI_ge (b := 8) h1 (by omega)
  have vq : vp_in (nI (T 1)) 8 := vp_in_nI (by omega) (by omega)
  have lb : p_X1_linesOfBegun h c ∧ f_X1_linesOfBegun h c = nI l := by
    unfold p_X1_linesOfBegun f_X1_linesOfBegun
    rw [e1, if_neg n8, nI_clamp (by omega), e2]
    exact ⟨⟨fun _ => trivial, fun _ => ⟨vq, trivial⟩⟩, rfl⟩
  intro n
  induction n with
  | zero =>
    intro f j hj
    rw [show 0 + 1 + f = f + 1 by omega, pw_X1_begunHas_2, fw_X1_begunHas_2, lb.2]
    have c1 : nI l ≤ nI j := nI_le (by omega) (by omega)
    rw [if_pos c1]
    exact ⟨⟨lb.1, fun _ => trivial, fun z => (z c1).elim⟩, Or.inl ⟨rfl, fun p' h1 h2 => by omega⟩⟩
  | succ n ih =>
    intro f j hj
    rw [show n + 1 + 1 + f = (n + 1 + f) + 1 by omega, pw_X1_begunHas_2, fw_X1_begunHas_2, lb.2]
    have c1 : ¬ nI l ≤ nI j := nI_ge (by omega) (by omega)
    have en : nI j + 1 = nI (j + 1) := nI_add j 1
    have r := ih f (j + 1) (by omega)
    obtain ⟨i1, i2, i3, i4, i5, i6⟩ := B.1 j (by omega)
    rw [if_neg c1, e1, if_neg n8, en, nI_clamp (by omega), nI_clamp (by omega), i5]
    have vj : vp_in (nI j) 6 := vp_in_nI (by omega) (by omega)
    have inj : ob_en (T (196 + 6 * T 1 + j)) = ob_en m ↔ T (196 + 6 * T 1 + j) = m := by
      unfold ob_en
      constructor
      · intro z; split at z <;> split at z <;> omega
      · intro z; rw [z]
    by_cases d : T (196 + 6 * T 1 + j) = m
    · have c2 : nI (ob_en (T (196 + 6 * T 1 + j))) = nI (ob_en m) := by rw [d]
      rw [if_neg (fun z => z c2)]
      exact ⟨⟨lb.1, fun z => (c1 z).elim, fun _ => ⟨fun z => (n8 z).elim, fun _ => ⟨vq, vj, fun z => (z c2).elim, fun _ => trivial⟩⟩⟩, Or.inr ⟨rfl, j, by omega, by omega, d⟩⟩
    · have c2 : ¬ nI (ob_en (T (196 + 6 * T 1 + j))) = nI (ob_en m) := fun z => d (inj.mp ((nI_eq (by unfold ob_en; split <;> omega) (by unfold ob_en; split <;> omega)).mp z))
      rw [if_pos c2]
      refine ⟨⟨lb.1, fun z => (c1 z).elim, fun _ => ⟨fun z => (n8 z).elim, fun _ => ⟨vq, vj, fun _ => r.1, fun z => (c2 z).elim⟩⟩⟩, ?_⟩
      rcases r.2 with ⟨r1, r2⟩ | ⟨r1, p', r2, r3, r4⟩
      · refine Or.inl ⟨r1, fun p' y1 y2 => ?_⟩
        by_cases y : p' = j
        · rw [y]; exact d
        · exact r2 p' (by omega) y2
      · exact Or.inr ⟨r1, p', by omega, r3, r4⟩
end BIL
