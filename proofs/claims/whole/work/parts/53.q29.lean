section QAK
variable {h hm : Hp} {c L : Nat} {T w F lf qt gt : Nat → Nat} {fr gv : Nat → Int32} {n : Nat}
theorem RM.row {t k : Nat} {x : Int32} (R : RM hm T w) (ht : t = 60 ∨ t = 61 ∨ t = 62 ∨ t = 63 ∨ t = 64) : RM (hp_i hm t 0 k x) T w := by
  rcases ht with rfl | rfl | rfl | rfl | rfl <;> exact R
theorem RM.done {k : Nat} {x : Int32} (R : RM hm T w) : RM (hp_i hm 12 0 k x) T w := R
/-- model: how many units an order can have -/
theorem m_canL {o W : Nat} (J : IT T) (R : RM hm T w) (I : IW T w n) (hqt : ∀ p, p < 12 → hm.1 61 0 p = nI (qt p) ∧ qt p < 1000000) (ho : o < w 1) (hW : W < 1000) : ∀ (m k e y : Nat), k + m = T 0 → y < 1000000 →
    pw_X12_can_18 (m + 1 + e) hm (nI o) (nI W) (nI y) (nI k) ∧ ∃ Y, fw_X12_can_18 (m + 1 + e) hm (nI o) (nI W) (nI y) (nI k) = nI (if w (93 + 8 * o + 4) = 1 ∧ Y < W then 0 else Y) ∧ Y ≤ y ∧ (∀ p, k ≤ p → p < T 0 → 0 < oa_need T (w (93 + 8 * o)) p → Y ≤ qt p / oa_need T (w (93 + 8 * o)) p) ∧ (Y = y ∨ ∃ p, k ≤ p ∧ p < T 0 ∧ 0 < oa_need T (w (93 + 8 * o)) p ∧ Y = qt p / oa_need T (w (93 + 8 * o)) p) := by
  have bT := J.1
  have hw := I.1.2.1
  have k0 : hm.1 56 0 0 = nI (T 0) := R.1 0 (by omega)
  have i := I.2.2.2 o ho
  have m1 := m_ord R I ho
  have w1 : (nI (w (93 + 8 * o + 4)) = 1) ↔ w (93 + 8 * o + 4) = 1 := nI_eq (b := 1) (by omega) (by omega)
  intro m
  induction m with
  | zero =>
    intro k e y hk hy
    rw [show 0 + 1 + e = e + 1 by omega]
    have c1 : nI (T 0) ≤ nI k := nI_le (by omega) (by omega)
    have le : (nI W ≤ nI y) ↔ W ≤ y := nI_leI (by omega) (by omega)
    refine ⟨?_, y, ?_, Nat.le_refl _, fun p h1 h2 => by omega, Or.inl rfl⟩
    · simp [pw_X12_can_18, k0, c1, m1]
    · simp only [fw_X12_can_18, k0, m1, w1, le]
      rw [if_pos c1]
      by_cases d : w (93 + 8 * o + 4) = 1
      · by_cases d2 : W ≤ y
        · have d3 : ¬ y < W := by omega
          simp [d, d2, d3]
        · have d3 : y < W := by omega
          simp [d, d2, d3, nI_0]
      · simp [d]
  | succ m ih =>
    intro k e y hk hy
    rw [show m + 1 + 1 + e = (m + 1 + e) + 1 by omega]
    have c1 : ¬ nI (T 0) ≤ nI k := nI_ge (by omega) (by omega)
    have hk2 : k < T 0 := by omega
    have a1 := m_needs R (show w (93 + 8 * o) < 8 by omega) (show k < 12 by omega)
    have jn : oa_need T (w (93 + 8 * o)) k ≤ 9999 := J.2.2.2.2.1 _ k i.1 hk2
    have q1 := hqt k (by omega)
    have v1 : vp_in (nI k) 12 := vp_in_nI (by omega) (by omega)
    by_cases d0 : oa_need T (w (93 + 8 * o)) k = 0
    · have e0 : nI (oa_need T (w (93 + 8 * o)) k) ≤ 0 := by rw [d0]; decide
      obtain ⟨i1, Y, i2, i3, i4, i5⟩ := ih (k + 1) e y (by omega) hy
      rw [nI_succ] at i1 i2
      refine ⟨?_, Y, ?_, i3, fun p h1 h2 h3 => i4 p (by have : p ≠ k := (by rintro rfl; omega); omega) h2 h3, ?_⟩
      · simp only [pw_X12_can_18, k0, m1, a1.2]
        simp [c1, a1.1, e0, i1]
      · simp only [fw_X12_can_18, k0, m1, a1.2]
        rw [if_neg c1, if_pos e0, i2]
      · rcases i5 with i5 | ⟨p, h1, h2, h3, h4⟩
        · exact Or.inl i5
        · exact Or.inr ⟨p, by omega, h2, h3, h4⟩
    · have e0 : ¬ nI (oa_need T (w (93 + 8 * o)) k) ≤ 0 := nI_nle (by omega) (by omega)
      have e00 : ¬ nI (oa_need T (w (93 + 8 * o)) k) = 0 := nI_ne0 (by omega) (by omega)
      have e2 : nI (qt k) / nI (oa_need T (w (93 + 8 * o)) k) = nI (qt k / oa_need T (w (93 + 8 * o)) k) := pk_div (by omega) (by omega) (by omega)
      have dl : qt k / oa_need T (w (93 + 8 * o)) k ≤ qt k := Nat.div_le_self _ _
      have lt : (nI (qt k / oa_need T (w (93 + 8 * o)) k) < nI y) ↔ qt k / oa_need T (w (93 + 8 * o)) k < y := nI_ltI (by omega) (by omega)
      obtain ⟨i1, Y, i2, i3, i4, i5⟩ := ih (k + 1) e (if qt k / oa_need T (w (93 + 8 * o)) k < y then qt k / oa_need T (w (93 + 8 * o)) k else y) (by omega) (by split <;> omega)
      have ei : nI (if qt k / oa_need T (w (93 + 8 * o)) k < y then qt k / oa_need T (w (93 + 8 * o)) k else y) = if qt k / oa_need T (w (93 + 8 * o)) k < y then nI (qt k / oa_need T (w (93 + 8 * o)) k) else nI y := by split <;> rfl
      rw [nI_succ, ei] at i1 i2
      refine ⟨?_, Y, ?_, ?_, fun p h1 h2 h3 => ?_, ?_⟩
      · simp only [pw_X12_can_18, k0, m1, a1.2, nI_clamp (show k < 2 ^ 31 by omega), q1.1, e2, lt]
        simp [c1, a1.1, e0, e00, v1, i1]
      · simp only [fw_X12_can_18, k0, m1, a1.2, nI_clamp (show k < 2 ^ 31 by omega), q1.1, e2, lt]
        rw [if_neg c1, if_neg e0, i2]
      · split at i3 <;> omega
      · by_cases z : p = k
        · subst z
          split at i3 <;> omega
        · exact i4 p (by omega) h2 h3
      · rcases i5 with i5 | ⟨p, h1, h2, h3, h4⟩
        · by_cases z : qt k / oa_need T (w (93 + 8 * o)) k < y
          · rw [if_pos z] at i5
            exact Or.inr ⟨k, by omega, hk2, by omega, i5⟩
          · rw [if_neg z] at i5
            exact Or.inl i5
        · exact Or.inr ⟨p, by omega, h2, h3, h4⟩
theorem m_can {o : Nat} (J : IT T) (R : RM hm T w) (I : IW T w n) (hqt : ∀ p, p < 12 → hm.1 61 0 p = nI (qt p) ∧ qt p < 1000000) (ho : o < w 1) (hg : hm.1 62 0 o = nI (gt o)) (go : gt o ≤ oa_open w o) :
    p_X12_can hm (nI o) ∧ f_X12_can hm (nI o) = nI (if ob_ok T w qt gt o = true then ob_u T w qt gt o else 0) := by
  have bT := J.1
  have hw := I.1.2.1
  have ol := oa_open_le I ho
  have i := I.2.2.2 o ho
  have m2 := m_open R I ho
  have vo : vp_in (nI o) 20 := vp_in_nI (by omega) (by omega)
  obtain ⟨e, he⟩ := oa_fuel (show T 0 < 1000000 by omega)
  obtain ⟨i1, Y, i2, i3, i4, i5⟩ := m_canL (W := oa_open w o - gt o) J R I hqt ho (by omega) (T 0) 0 e (oa_open w o - gt o) (by omega) (by omega)
  rw [← he, nI_0] at i1 i2
  have es : nI (oa_open w o) - nI (gt o) = nI (oa_open w o - gt o) := oa_sub go
  have eY : Y = ob_u T w qt gt o := by
    obtain ⟨m1, p0, hp0, hn0, m3⟩ := oa_most_ok J i.1 qt
    unfold ob_u
    apply Nat.le_antisymm
    · refine Nat.le_min.mpr ⟨i3, ?_⟩
      rw [m3]
      exact i4 p0 (by omega) hp0 hn0
    · rcases i5 with i5 | ⟨p, -, h2, h3, h4⟩
      · rw [i5]; exact Nat.min_le_left _ _
      · rw [h4]; exact Nat.le_trans (Nat.min_le_right _ _) (m1 p h2 h3)
  unfold p_X12_can f_X12_can
  rw [m2.2, nI_clamp (show o < 2 ^ 31 by omega), hg, es]
  refine ⟨⟨m2.1, vo, i1⟩, ?_⟩
  rw [i2, eY]
  congr 1
  have ul : ob_u T w qt gt o ≤ oa_open w o - gt o := Nat.min_le_left _ _
  unfold ob_ok
  by_cases d1 : w (93 + 8 * o + 4) = 1 ∧ ob_u T w qt gt o < oa_open w o - gt o
  · rw [if_pos d1, if_neg]
    simp only [decide_eq_true_eq]
    omega
  · rw [if_neg d1]
    by_cases d2 : 0 < ob_u T w qt gt o
    · rw [if_pos]
      simp only [decide_eq_true_eq]
      omega
    · rw [if_neg]
      · omega
      · simp only [decide_eq_true_eq]
        omega
theorem m_takeL {o u : Nat} (J : IT T) (I : IW T w n) (ho : o < w 1) : ∀ (m k e : Nat) (hm : Hp), RM hm T w → k + m = T 0 →
    pw_X12_takes0_12 (m + 1 + e) hm (nI o) (nI u) (nI k) ∧ (∀ p, k ≤ p → p < T 0 → (gw_X12_takes0_12 (m + 1 + e) hm (nI o) (nI u) (nI k)).1 61 0 p = hm.1 61 0 p - nI (u * oa_need T (w (93 + 8 * o)) p) ∧ (gw_X12_takes0_12 (m + 1 + e) hm (nI o) (nI u) (nI k)).1 60 0 p = hm.1 60 0 p - nI (u * oa_need T (w (93 + 8 * o)) p)) ∧
    (∀ p, (p < k ∨ T 0 ≤ p) → (gw_X12_takes0_12 (m + 1 + e) hm (nI o) (nI u) (nI k)).1 61 0 p = hm.1 61 0 p ∧ (gw_X12_takes0_12 (m + 1 + e) hm (nI o) (nI u) (nI k)).1 60 0 p = hm.1 60 0 p) ∧ (gw_X12_takes0_12 (m + 1 + e) hm (nI o) (nI u) (nI k)).1 62 0 = hm.1 62 0 := by
  have bT := J.1
  have hw := I.1.2.1
  have i := I.2.2.2 o ho
  intro m
  induction m with
  | zero =>
    intro k e hm R hk
    rw [show 0 + 1 + e = e + 1 by omega]
    have k0 : hm.1 56 0 0 = nI (T 0) := R.1 0 (by omega)
    have c1 : nI (T 0) ≤ nI k := nI_le (by omega) (by omega)
    have ef : gw_X12_takes0_12 (e + 1) hm (nI o) (nI u) (nI k) = hm := by rw [gw_X12_takes0_12, k0, if_pos c1]
    rw [ef]
    refine ⟨?_, fun p h1 h2 => by omega, fun p hp => ⟨rfl, rfl⟩, rfl⟩
    simp [pw_X12_takes0_12, k0, c1]
  | succ m ih =>
    intro k e hm R hk
    rw [show m + 1 + 1 + e = (m + 1 + e) + 1 by omega]
    have k0 : hm.1 56 0 0 = nI (T 0) := R.1 0 (by omega)
    have c1 : ¬ nI (T 0) ≤ nI k := nI_ge (by omega) (by omega)
    have v1 : vp_in (nI k) 12 := vp_in_nI (by omega) (by omega)
    have m1 := m_ord R I ho
    have a1 := m_needs R (show w (93 + 8 * o) < 8 by omega) (show k < 12 by omega)
    have R1 : RM (hp_i hm 61 0 k (hm.1 61 0 k - nI (u * oa_need T (w (93 + 8 * o)) k))) T w := R.row (by omega)
    have m3 := m_ord R1 I ho
    have a3 := m_needs R1 (show w (93 + 8 * o) < 8 by omega) (show k < 12 by omega)
    have R2 : RM (hp_i (hp_i hm 61 0 k (hm.1 61 0 k - nI (u * oa_need T (w (93 + 8 * o)) k))) 60 0 k (hm.1 60 0 k - nI (u * oa_need T (w (93 + 8 * o)) k))) T w := R1.row (by omega)
    obtain ⟨r1, r2, r3, r4⟩ := ih (k + 1) e _ R2 (by omega)
    rw [nI_succ] at r1 r2 r3 r4
    have ef : gw_X12_takes0_12 ((m + 1 + e) + 1) hm (nI o) (nI u) (nI k) = gw_X12_takes0_12 (m + 1 + e) (hp_i (hp_i hm 61 0 k (hm.1 61 0 k - nI (u * oa_need T (w (93 + 8 * o)) k))) 60 0 k (hm.1 60 0 k - nI (u * oa_need T (w (93 + 8 * o)) k))) (nI o) (nI u) (nI k + 1) := by
      rw [gw_X12_takes0_12]
      simp only [k0, m1, a1.2, oa_mul, nI_clamp (show k < 2 ^ 31 by omega), m3, a3.2]
      rw [if_neg c1]
    rw [ef]
    have h61 : ∀ j, (hp_i (hp_i hm 61 0 k (hm.1 61 0 k - nI (u * oa_need T (w (93 + 8 * o)) k))) 60 0 k (hm.1 60 0 k - nI (u * oa_need T (w (93 + 8 * o)) k))).1 61 0 j = if j = k then hm.1 61 0 k - nI (u * oa_need T (w (93 + 8 * o)) k) else hm.1 61 0 j := fun j => by rw [hp_i_t (show ¬ 61 = 60 by omega), hp_i_g]
    have h60 : ∀ j, (hp_i (hp_i hm 61 0 k (hm.1 61 0 k - nI (u * oa_need T (w (93 + 8 * o)) k))) 60 0 k (hm.1 60 0 k - nI (u * oa_need T (w (93 + 8 * o)) k))).1 60 0 j = if j = k then hm.1 60 0 k - nI (u * oa_need T (w (93 + 8 * o)) k) else hm.1 60 0 j := fun j => hp_i_g
    refine ⟨?_, fun p h1 h2 => ?_, fun p hp => ?_, r4⟩
    · simp only [pw_X12_takes0_12, k0, m1, a1.2, oa_mul, nI_clamp (show k < 2 ^ 31 by omega), m3, a3.2]
      simp [c1, v1, a1.1, a3.1, r1]
    · by_cases z : p = k
      · subst z
        obtain ⟨s1, s2⟩ := r3 p (by omega)
        rw [s1, s2, h61, h60, if_pos rfl, if_pos rfl]
        exact ⟨rfl, rfl⟩
      · obtain ⟨s1, s2⟩ := r2 p (by omega) h2
        rw [s1, s2, h61, h60, if_neg z, if_neg z]
        exact ⟨rfl, rfl⟩
    · obtain ⟨s1, s2⟩ := r3 p (by omega)
      rw [s1, s2, h61, h60, if_neg (by omega), if_neg (by omega)]
      exact ⟨rfl, rfl⟩
theorem m_takes {o u : Nat} (J : IT T) (R : RM hm T w) (I : IW T w n) (ho : o < w 1) :
    p_X12_takes0 hm (nI o) (nI u) ∧ (∀ p, p < T 0 → (g_X12_takes0 hm (nI o) (nI u)).1 61 0 p = hm.1 61 0 p - nI (u * oa_need T (w (93 + 8 * o)) p) ∧ (g_X12_takes0 hm (nI o) (nI u)).1 60 0 p = hm.1 60 0 p - nI (u * oa_need T (w (93 + 8 * o)) p)) ∧
    (∀ p, T 0 ≤ p → (g_X12_takes0 hm (nI o) (nI u)).1 61 0 p = hm.1 61 0 p ∧ (g_X12_takes0 hm (nI o) (nI u)).1 60 0 p = hm.1 60 0 p) ∧ (∀ j, (g_X12_takes0 hm (nI o) (nI u)).1 62 0 j = if j = o then hm.1 62 0 o + nI u else hm.1 62 0 j) := by
  have hw := I.1.2.1
  have vo : vp_in (nI o) 20 := vp_in_nI (by omega) (by omega)
  obtain ⟨e, he⟩ := oa_fuel (show T 0 < 1000000 by have := J.1; omega)
  have R1 : RM (hp_i hm 62 0 o (hm.1 62 0 o + nI u)) T w := R.row (by omega)
  obtain ⟨r1, r2, r3, r4⟩ := m_takeL (u := u) J I ho (T 0) 0 e _ R1 (by omega)
  rw [← he, nI_0] at r1 r2 r3 r4
  unfold p_X12_takes0 g_X12_takes0
  rw [nI_clamp (show o < 2 ^ 31 by omega)]
  refine ⟨⟨vo, vo, r1⟩, fun p hp => r2 p (by omega) hp, fun p hp => r3 p (Or.inr hp), fun j => ?_⟩
  rw [r4, hp_i_g]
end QAK
