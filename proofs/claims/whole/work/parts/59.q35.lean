section QAQ
variable {h hm : Hp} {c L : Nat} {T w t lf : Nat → Nat} {n : Nat} {D : Int32}
theorem m_cov48 {o : Nat} (J : IT T) (I : IW T w n) (ho : o < w 1) : ∀ (m k e : Nat) (hm : Hp), RM hm T w → k + m = T 0 →
    pw_X12_isCovered_48 (m + 1 + e) hm (nI o) (nI k) ∧ fw_X12_isCovered_48 (m + 1 + e) hm (nI o) (nI k) = 1 ∧ (∀ p, k ≤ p → p < T 0 → (gw_X12_isCovered_48 (m + 1 + e) hm (nI o) (nI k)).1 60 0 p = hm.1 60 0 p - nI (oa_op T w p o)) ∧
    (∀ p, (p < k ∨ T 0 ≤ p) → (gw_X12_isCovered_48 (m + 1 + e) hm (nI o) (nI k)).1 60 0 p = hm.1 60 0 p) := by
  have bT := J.1
  have hw := I.1.2.1
  have i := I.2.2.2 o ho
  intro m
  induction m with
  | zero =>
    intro k e hm R hk
    rw [show 0 + 1 + e = e + 1 by omega]
    have k0 : hm.1 56 0 0 = nI (T 0) := R.1 0 (by omega)
    have c1 : nI (T 0) ≤ nI k := nI_le (by omega) (by omega)
    have ef : gw_X12_isCovered_48 (e + 1) hm (nI o) (nI k) = hm := by rw [gw_X12_isCovered_48, k0, if_pos c1]
    rw [ef]
    refine ⟨?_, ?_, fun p h1 h2 => by omega, fun p hp => rfl⟩
    · simp [pw_X12_isCovered_48, k0, c1]
    · rw [fw_X12_isCovered_48, k0, if_pos c1]
  | succ m ih =>
    intro k e hm R hk
    rw [show m + 1 + 1 + e = (m + 1 + e) + 1 by omega]
    have k0 : hm.1 56 0 0 = nI (T 0) := R.1 0 (by omega)
    have c1 : ¬ nI (T 0) ≤ nI k := nI_ge (by omega) (by omega)
    have v1 : vp_in (nI k) 12 := vp_in_nI (by omega) (by omega)
    have m1 := m_ord R I ho
    have m2 := m_open R I ho
    have a1 := m_needs R (show w (93 + 8 * o) < 8 by omega) (show k < 12 by omega)
    have R2 : RM (hp_i hm 60 0 k (hm.1 60 0 k - nI (oa_op T w k o))) T w := R.row (by omega)
    obtain ⟨r1, r0, r2, r3⟩ := ih (k + 1) e _ R2 (by omega)
    rw [nI_succ] at r0 r1 r2 r3
    have em : nI (oa_open w o * oa_need T (w (93 + 8 * o)) k) = nI (oa_op T w k o) := rfl
    have ef : gw_X12_isCovered_48 ((m + 1 + e) + 1) hm (nI o) (nI k) = gw_X12_isCovered_48 (m + 1 + e) (hp_i hm 60 0 k (hm.1 60 0 k - nI (oa_op T w k o))) (nI o) (nI k + 1) := by
      rw [gw_X12_isCovered_48]
      simp only [k0, m1, m2, a1.2, oa_mul, nI_clamp (show k < 2 ^ 31 by omega), em]
      rw [if_neg c1]
    rw [ef]
    refine ⟨?_, ?_, fun p h1 h2 => ?_, fun p hp => ?_⟩
    · simp only [pw_X12_isCovered_48, k0, m1, m2, a1.2, oa_mul, nI_clamp (show k < 2 ^ 31 by omega), em]
      simp [c1, v1, a1.1, r1]
    · simp only [fw_X12_isCovered_48, k0, m1, m2, a1.2, oa_mul, nI_clamp (show k < 2 ^ 31 by omega), em]
      rw [if_neg c1, r0]
    · by_cases z : p = k
      · subst z
        rw [r3 p (by omega), hp_i_g, if_pos rfl]
      · rw [r2 p (by omega) h2, hp_i_g, if_neg z]
    · rw [r3 p (by omega), hp_i_g, if_neg (by omega)]
theorem m_cov2 {o : Nat} (J : IT T) (R : RM hm T w) (I : IW T w n) (ho : o < w 1) (hl : ∀ p, p < 12 → hm.1 60 0 p = nI (lf p) ∧ lf p < 1000000) : ∀ (m k e : Nat), k + m = T 0 →
    ((∀ p, k ≤ p → p < T 0 → oa_op T w p o ≤ lf p) → (pw_X12_isCovered_48 oa_N hm (nI o) 0 → pw_X12_isCovered_2 (m + 1 + e) hm (nI o) (nI k)) ∧ fw_X12_isCovered_2 (m + 1 + e) hm (nI o) (nI k) = fw_X12_isCovered_48 oa_N hm (nI o) 0 ∧ gw_X12_isCovered_2 (m + 1 + e) hm (nI o) (nI k) = gw_X12_isCovered_48 oa_N hm (nI o) 0) ∧
    ((∃ p, k ≤ p ∧ p < T 0 ∧ lf p < oa_op T w p o) → pw_X12_isCovered_2 (m + 1 + e) hm (nI o) (nI k) ∧ fw_X12_isCovered_2 (m + 1 + e) hm (nI o) (nI k) = 0 ∧ gw_X12_isCovered_2 (m + 1 + e) hm (nI o) (nI k) = hm) := by
  have bT := J.1
  have hw := I.1.2.1
  have i := I.2.2.2 o ho
  have k0 : hm.1 56 0 0 = nI (T 0) := R.1 0 (by omega)
  have m1 := m_ord R I ho
  have m2 := m_open R I ho
  intro m
  induction m with
  | zero =>
    intro k e hk
    rw [show 0 + 1 + e = e + 1 by omega]
    have c1 : nI (T 0) ≤ nI k := nI_le (by omega) (by omega)
    refine ⟨fun _ => ⟨fun a => ?_, ?_, ?_⟩, fun ⟨p, h1, h2, _⟩ => by omega⟩
    · rw [pw_X12_isCovered_2, k0]
      exact ⟨fun _ => a, fun z => (z c1).elim⟩
    · rw [fw_X12_isCovered_2, k0, if_pos c1]
    · rw [gw_X12_isCovered_2, k0, if_pos c1]
  | succ m ih =>
    intro k e hk
    rw [show m + 1 + 1 + e = (m + 1 + e) + 1 by omega]
    have c1 : ¬ nI (T 0) ≤ nI k := nI_ge (by omega) (by omega)
    have v1 : vp_in (nI k) 12 := vp_in_nI (by omega) (by omega)
    have hk2 : k < T 0 := by omega
    have a1 := m_needs R (show w (93 + 8 * o) < 8 by omega) (show k < 12 by omega)
    have hl2 := hl k (by omega)
    have ol := oa_op_le J I ho hk2
    have em : nI (oa_open w o * oa_need T (w (93 + 8 * o)) k) = nI (oa_op T w k o) := rfl
    have le : (nI (oa_op T w k o) ≤ nI (lf k)) ↔ oa_op T w k o ≤ lf k := nI_leI (by omega) (by omega)
    obtain ⟨i1, i2⟩ := ih (k + 1) e (by omega)
    rw [nI_succ] at i1 i2
    have ep : pw_X12_isCovered_2 ((m + 1 + e) + 1) hm (nI o) (nI k) ↔ (oa_op T w k o ≤ lf k → pw_X12_isCovered_2 (m + 1 + e) hm (nI o) (nI k + 1)) := by
      simp only [pw_X12_isCovered_2, k0, m1, m2, a1.2, oa_mul, nI_clamp (show k < 2 ^ 31 by omega), em, hl2.1, le]
      simp [c1, v1, a1.1]
    have efw : fw_X12_isCovered_2 ((m + 1 + e) + 1) hm (nI o) (nI k) = if oa_op T w k o ≤ lf k then fw_X12_isCovered_2 (m + 1 + e) hm (nI o) (nI k + 1) else 0 := by
      simp only [fw_X12_isCovered_2, k0, m1, m2, a1.2, oa_mul, nI_clamp (show k < 2 ^ 31 by omega), em, hl2.1, le]
      rw [if_neg c1]
    have egw : gw_X12_isCovered_2 ((m + 1 + e) + 1) hm (nI o) (nI k) = if oa_op T w k o ≤ lf k then gw_X12_isCovered_2 (m + 1 + e) hm (nI o) (nI k + 1) else hm := by
      simp only [gw_X12_isCovered_2, k0, m1, m2, a1.2, oa_mul, nI_clamp (show k < 2 ^ 31 by omega), em, hl2.1, le]
      rw [if_neg c1]
    rw [ep, efw, egw]
    refine ⟨fun a => ?_, fun ⟨p, h1, h2, h3⟩ => ?_⟩
    · have a0 := a k (Nat.le_refl _) hk2
      obtain ⟨j1, j2, j3⟩ := i1 (fun p h1 h2 => a p (by omega) h2)
      rw [if_pos a0, if_pos a0]
      exact ⟨fun z _ => j1 z, j2, j3⟩
    · by_cases d : oa_op T w k o ≤ lf k
      · rw [if_pos d, if_pos d]
        obtain ⟨j1, j2, j3⟩ := i2 ⟨p, by have : p ≠ k := (by rintro rfl; omega); omega, h2, h3⟩
        exact ⟨fun _ => j1, j2, j3⟩
      · rw [if_neg d, if_neg d]
        exact ⟨fun z => (d z).elim, rfl, rfl⟩
/-- what the model's isCovered does -/
theorem m_covered {o : Nat} (J : IT T) (R : RM hm T w) (I : IW T w n) (ho : o < w 1) (hl : ∀ p, p < 12 → hm.1 60 0 p = nI (lf p) ∧ lf p < 1000000) :
    p_X12_isCovered hm (nI o) ∧ (oa_open w o ≤ oa_most T lf (w (93 + 8 * o)) → f_X12_isCovered hm (nI o) = 1 ∧ ∀ p, p < 12 → (g_X12_isCovered hm (nI o)).1 60 0 p = nI (ob_tk T (oa_open w o) (w (93 + 8 * o)) lf p)) ∧ (¬ oa_open w o ≤ oa_most T lf (w (93 + 8 * o)) → f_X12_isCovered hm (nI o) = 0 ∧ g_X12_isCovered hm (nI o) = hm) := by
  have bT := J.1
  have i := I.2.2.2 o ho
  obtain ⟨e, he⟩ := oa_fuel (show T 0 < 1000000 by omega)
  obtain ⟨c1, c2⟩ := m_cov2 J R I ho hl (T 0) 0 e (by omega)
  obtain ⟨d1, d2, d3, d4⟩ := m_cov48 J I ho (T 0) 0 e hm R (by omega)
  rw [← he, nI_0] at c1 c2 d1 d2 d3 d4
  have fit := oa_most_fit (u := oa_open w o) J i.1 lf
  by_cases d : oa_open w o ≤ oa_most T lf (w (93 + 8 * o))
  · have f := fit.mp d
    obtain ⟨j1, j2, j3⟩ := c1 (fun p _ hp => f p hp)
    refine ⟨j1 d1, fun _ => ⟨j2.trans d2, fun p hp => ?_⟩, fun z => (z d).elim⟩
    have j3' : g_X12_isCovered hm (nI o) = gw_X12_isCovered_48 oa_N hm (nI o) 0 := j3
    rw [j3']
    unfold ob_tk
    by_cases z : p < T 0
    · rw [if_pos z, d3 p (by omega) z, (hl p hp).1]
      exact oa_sub (f p z)
    · rw [if_neg z, d4 p (by omega)]
      exact (hl p hp).1
  · have f := mt fit.mpr d
    simp only [Classical.not_forall] at f
    obtain ⟨p, hp, h3⟩ := f
    have h4 : lf p < oa_op T w p o := Nat.not_le.mp h3
    obtain ⟨j1, j2, j3⟩ := c2 ⟨p, by omega, hp, h4⟩
    exact ⟨j1, fun z => (d z).elim, fun _ => ⟨j2, j3⟩⟩
theorem ob_po_i {o : Nat} : oa_po w D o = true ↔ bt D o = false ∧ 0 < oa_open w o := by
  unfold oa_po
  simp
theorem s_cov (J : IT T) (I : IW T w n) (St : oa_srt w t (w 1)) : ∀ (m i e e' : Nat) (h hm : Hp) (lf : Nat → Nat) (D x : Int32), i + m = w 1 → RC h c T → RG h L w → (∀ p, p < 12 → h.1 13 0 p = nI (lf p) ∧ lf p < 1000000) → (∀ j, j < w 1 → h.1 15 0 j = nI (t j)) → RM hm T w → (∀ p, p < 12 → hm.1 60 0 p = nI (lf p)) →
    (∀ o, o < w 1 → (bt D o = true ↔ ∃ j, j < i ∧ t j = o ∧ 0 < oa_open w o)) →
    pw_X0_coveredSet_10 (m + 1 + e) h c L x (nI i) ∧ pw_X12_coveredOrders_40 (m + 1 + e') hm x D (f_X12_nextOpen hm D) ∧ fw_X0_coveredSet_10 (m + 1 + e) h c L x (nI i) = fw_X12_coveredOrders_40 (m + 1 + e') hm x D (f_X12_nextOpen hm D) ∧ (gw_X12_coveredOrders_40 (m + 1 + e') hm x D (f_X12_nextOpen hm D)).1 12 0 = hm.1 12 0 := by
  have hw := I.1.2.1
  have bT := J.1
  intro m
  induction m with
  | zero =>
    intro i e e' h hm lf D x hi C G hl ht R hm60 B1
    rw [show 0 + 1 + e = e + 1 by omega, show 0 + 1 + e' = e' + 1 by omega]
    obtain rfl : i = w 1 := by omega
    have nx := m_nextOpen (D := D) R I
    rw [ob_pick0 St (fun j hj => by
      cases e : oa_po w D (t j) with
      | false => rfl
      | true =>
        have := ob_po_i.mp e
        have z := (B1 (t j) (St.1 j hj)).mpr ⟨j, hj, rfl, this.2⟩
        rw [this.1] at z
        exact (Bool.false_ne_true z).elim)] at nx
    have o1 : oa_oi none = -1 := rfl
    rw [o1] at nx
    have c1 : nI (w 1) ≤ nI (w 1) := nI_le (by omega) (by omega)
    rw [nx.2]
    refine ⟨?_, ?_, ?_, ?_⟩
    · simp [pw_X0_coveredSet_10, G.1.2.1]
    · simp [pw_X12_coveredOrders_40]
    · rw [fw_X0_coveredSet_10, G.1.2.1, if_pos c1, fw_X12_coveredOrders_40, if_pos rfl]
    · rw [gw_X12_coveredOrders_40, if_pos rfl]
  | succ m ih =>
    intro i e e' h hm lf D x hi C G hl ht R hm60 B1
    rw [show m + 1 + 1 + e = (m + 1 + e) + 1 by omega]
    have hi2 : i < w 1 := by omega
    have ho := St.1 i hi2
    have tn := ht i hi2
    have c1 : ¬ nI (w 1) ≤ nI i := nI_ge (by omega) (by omega)
    have c2 : ¬ (20 : Int32) ≤ nI i := nI_ge (b := 20) (by omega) (by omega)
    have vi : vp_in (nI i) 20 := vp_in_nI (by omega) (by omega)
    have a1 := a_ord G I ho
    have a2 := a_open G I ho
    have ol := oa_open_le I ho
    have io := I.2.2.2 (t i) ho
    have bD : bt D (t i) = false := by
      cases e : bt D (t i) with
      | false => rfl
      | true =>
        obtain ⟨j, hj, ej, -⟩ := (B1 (t i) ho).mp e
        have := oa_srt_inj St (show j < w 1 by omega) hi2 ej
        omega
    have lz : (nI (oa_open w (t i)) ≤ 0) ↔ oa_open w (t i) ≤ 0 := nI_leI (b := 0) (by omega) (by omega)
    by_cases d0 : oa_open w (t i) ≤ 0
    · obtain ⟨r1, r2, r3, r4⟩ := ih (i + 1) e (e' + 1) h hm lf D x (by omega) C G hl ht R hm60 (fun o hoo => (B1 o hoo).trans ⟨fun ⟨j, x1, x2, x3⟩ => ⟨j, by omega, x2, x3⟩, fun ⟨j, x1, x2, x3⟩ => ⟨j, by
        have : j ≠ i := by
          rintro rfl
          rw [x2] at d0
          omega
        omega, x2, x3⟩⟩)
      rw [nI_succ] at r1 r3
      rw [show m + 1 + (e' + 1) = m + 1 + 1 + e' by omega] at r2 r3 r4
      refine ⟨?_, r2, ?_, r4⟩
      · simp only [pw_X0_coveredSet_10, G.1.2.1, nI_clamp (show i < 2 ^ 31 by omega), tn, a1, a2, lz]
        simp [c1, c2, vi, r1]
        omega
      · simp only [fw_X0_coveredSet_10, G.1.2.1, nI_clamp (show i < 2 ^ 31 by omega), tn, a1, a2, lz]
        rw [if_neg c1, if_neg c2, if_pos d0, r3]
    · have nx := m_nextOpen (D := D) R I
      rw [ob_pick St hi2 (ob_po_i.mpr ⟨bD, by omega⟩) (fun j hj => by
        cases e : oa_po w D (t j) with
        | false => rfl
        | true =>
          have := ob_po_i.mp e
          have z := (B1 (t j) (St.1 j (by omega))).mpr ⟨j, hj, rfl, this.2⟩
          rw [this.1] at z
          exact (Bool.false_ne_true z).elim)] at nx
      have o1 : oa_oi (some (t i)) = nI (t i) := rfl
      rw [o1] at nx
      rw [nx.2, show m + 1 + 1 + e' = (m + 1 + e') + 1 by omega]
      have n1 : ¬ nI (t i) = -1 := by
        intro z
        have : (0 : Int32) ≤ nI (t i) := nI_pos' (by omega)
        rw [z] at this
        revert this
        decide
      have B1' : ∀ o, o < w 1 → (bt (D ||| (1 <<< (nI (t i) &&& 31))) o = true ↔ ∃ j, j < i + 1 ∧ t j = o ∧ 0 < oa_open w o) := by
        intro o hoo
        rw [bt_set D (show t i < 32 by omega) (show o < 32 by omega)]
        constructor
        · intro z
          rcases Bool.or_eq_true_iff.mp z with z | z
          · obtain ⟨j, x1, x2, x3⟩ := (B1 o hoo).mp z
            exact ⟨j, by omega, x2, x3⟩
          · have z := of_decide_eq_true z
            exact ⟨i, by omega, z.symm, by rw [z]; omega⟩
        · intro ⟨j, x1, x2, x3⟩
          by_cases y : j = i
          · rw [Bool.or_eq_true_iff]
            exact Or.inr (decide_eq_true (by rw [← x2, y]))
          · rw [Bool.or_eq_true_iff]
            exact Or.inl ((B1 o hoo).mpr ⟨j, by omega, x2, x3⟩)
      have am := a_most (t2 := 13) (i2 := 0) (F := lf) J C io.1 hl
      have ml : oa_most T lf (w (93 + 8 * t i)) < 1000000 := by
        obtain ⟨-, p, hp, -, e⟩ := oa_most_ok J io.1 lf
        have il := (hl p (by omega)).2
        have := Nat.div_le_self (lf p) (oa_need T (w (93 + 8 * t i)) p)
        omega
      have lm : (nI (oa_most T lf (w (93 + 8 * t i))) < nI (oa_open w (t i))) ↔ oa_most T lf (w (93 + 8 * t i)) < oa_open w (t i) := nI_ltI (by omega) (by omega)
      obtain ⟨v1, v2, v3⟩ := m_covered J R I ho (fun p hp => ⟨hm60 p hp, (hl p hp).2⟩)
      by_cases d1 : oa_open w (t i) ≤ oa_most T lf (w (93 + 8 * t i))
      · obtain ⟨f1, f2⟩ := v2 d1
        have d2 : ¬ oa_most T lf (w (93 + 8 * t i)) < oa_open w (t i) := by omega
        have tk := a_takePieces (h := h) (t1 := 13) (i1 := 0) (u := oa_open w (t i)) (Or.inr (Or.inl rfl)) J C io.1
        have fit := (oa_most_fit (u := oa_open w (t i)) J io.1 lf).mp d1
        have fc : ∀ t', ¬ t' = 13 → ∀ i', (g_X1_takePieces h c (nI (w (93 + 8 * t i))) (nI (oa_open w (t i))) 13 0 12).1 t' i' = h.1 t' i' := fun t' ht' i' => fr_X1_takePieces (by omega)
        have fm : ∀ t', ¬ t' = 60 → (g_X12_isCovered hm (nI (t i))).1 t' 0 = hm.1 t' 0 := fun t' ht' => fr_X12_isCovered (by omega)
        have R' : RM (g_X12_isCovered hm (nI (t i))) T w := R.same (fm 56 (by omega)) (fm 58 (by omega))
        have nx' := m_nextOpen (D := D ||| (1 <<< (nI (t i) &&& 31))) R' I
        obtain ⟨r1, r2, r3, r4⟩ := ih (i + 1) e e' _ _ (ob_tk T (oa_open w (t i)) (w (93 + 8 * t i)) lf) _ (x ||| (1 <<< (nI (t i) &&& 31))) (by omega) (C.same (fun t ht i => fc t (by omega) i) gl_X1_takePieces) (G.same (fun t ht => fc t (by omega) _)) (fun p hp => by
          have := hl p hp
          unfold ob_tk
          by_cases z : p < T 0
          · rw [if_pos z, tk.2.1 p z, this.1, oa_sub (fit p z)]
            exact ⟨rfl, by omega⟩
          · rw [if_neg z, tk.2.2 p (by omega)]
            exact this) (fun j hj => by rw [fc 15 (by omega)]; exact ht j hj) R' f2 B1'
        rw [nI_succ] at r1 r3
        refine ⟨?_, ?_, ?_, ?_⟩
        · simp only [pw_X0_coveredSet_10, G.1.2.1, nI_clamp (show i < 2 ^ 31 by omega), tn, a1, a2, lz, am.2, lm]
          simp [c1, c2, vi, d0, d2, am.1, tk.1, r1]
        · rw [pw_X12_coveredOrders_40, f1]
          exact ⟨fun z => (n1 z).elim, fun _ => ⟨v1, fun z => absurd z (by decide), fun _ => ⟨nx'.1, r2⟩⟩⟩
        · simp only [fw_X0_coveredSet_10, G.1.2.1, nI_clamp (show i < 2 ^ 31 by omega), tn, a1, a2, lz, am.2, lm]
          rw [if_neg c1, if_neg c2, if_neg d0, if_neg d2, fw_X12_coveredOrders_40, f1, if_neg n1, if_neg (by decide), r3]
        · rw [gw_X12_coveredOrders_40, f1, if_neg n1, if_neg (by decide), r4]
          exact fm 12 (by omega)
      · obtain ⟨f1, f2⟩ := v3 d1
        have d2 : oa_most T lf (w (93 + 8 * t i)) < oa_open w (t i) := by omega
        have nx' := m_nextOpen (D := D ||| (1 <<< (nI (t i) &&& 31))) R I
        obtain ⟨r1, r2, r3, r4⟩ := ih (i + 1) e e' h hm lf _ x (by omega) C G hl ht R hm60 B1'
        rw [nI_succ] at r1 r3
        refine ⟨?_, ?_, ?_, ?_⟩
        · simp only [pw_X0_coveredSet_10, G.1.2.1, nI_clamp (show i < 2 ^ 31 by omega), tn, a1, a2, lz, am.2, lm]
          simp [c1, c2, vi, d0, d2, am.1, r1]
        · rw [pw_X12_coveredOrders_40, f1, f2]
          exact ⟨fun z => (n1 z).elim, fun _ => ⟨v1, fun _ => ⟨nx'.1, r2⟩, fun z => (z rfl).elim⟩⟩
        · simp only [fw_X0_coveredSet_10, G.1.2.1, nI_clamp (show i < 2 ^ 31 by omega), tn, a1, a2, lz, am.2, lm]
          rw [if_neg c1, if_neg c2, if_neg d0, if_pos d2, fw_X12_coveredOrders_40, f1, f2, if_neg n1, if_pos rfl, r3]
        · rw [gw_X12_coveredOrders_40, f1, f2, if_neg n1, if_pos rfl, r4]
theorem m_cov7 (I : IW T w n) : ∀ (m k e : Nat) (hm : Hp), RM hm T w → k + m = 12 →
    ∃ H, (p_X12_nextOpen H 0 → pw_X12_coveredOrders_40 oa_N H 0 0 (f_X12_nextOpen H 0) → pw_X12_coveredOrders_7 (m + 1 + e) hm (nI k)) ∧ fw_X12_coveredOrders_7 (m + 1 + e) hm (nI k) = fw_X12_coveredOrders_40 oa_N H 0 0 (f_X12_nextOpen H 0) ∧ gw_X12_coveredOrders_7 (m + 1 + e) hm (nI k) = gw_X12_coveredOrders_40 oa_N H 0 0 (f_X12_nextOpen H 0) ∧ (∀ p, k ≤ p → p < 12 → H.1 60 0 p = nI (w (9 + p) - w (21 + p))) ∧ (∀ p, p < k → H.1 60 0 p = hm.1 60 0 p) ∧ (∀ t, ¬ t = 60 → H.1 t 0 = hm.1 t 0) := by
  intro m
  induction m with
  | zero =>
    intro k e hm R hk
    rw [show 0 + 1 + e = e + 1 by omega]
    have c1 : (12 : Int32) ≤ nI k := nI_le (a := 12) (by omega) (by omega)
    refine ⟨hm, fun a b => ?_, ?_, ?_, fun p h1 h2 => by omega, fun p hp => rfl, fun t ht => rfl⟩
    · rw [pw_X12_coveredOrders_7]
      exact ⟨fun _ => ⟨a, b⟩, fun z => (z c1).elim⟩
    · rw [fw_X12_coveredOrders_7, if_pos c1]
    · rw [gw_X12_coveredOrders_7, if_pos c1]
  | succ m ih =>
    intro k e hm R hk
    rw [show m + 1 + 1 + e = (m + 1 + e) + 1 by omega]
    have c1 : ¬ (12 : Int32) ≤ nI k := nI_ge (b := 12) (by omega) (by omega)
    have v1 : vp_in (nI k) 12 := vp_in_nI (by omega) (by omega)
    have m1 := m_free R I (show k < 12 by omega)
    obtain ⟨H, r1, r2, r6, r3, r4, r5⟩ := ih (k + 1) e (hp_i hm 60 0 k (nI (w (9 + k) - w (21 + k)))) (R.row (by omega)) (by omega)
    rw [nI_succ] at r1 r2 r6
    refine ⟨H, fun a b => ?_, ?_, ?_, fun p h1 h2 => ?_, fun p hp => ?_, fun t ht => ?_⟩
    · rw [pw_X12_coveredOrders_7, m1.2, nI_clamp (show k < 2 ^ 31 by omega)]
      exact ⟨fun z => (c1 z).elim, fun _ => ⟨m1.1, v1, r1 a b⟩⟩
    · rw [fw_X12_coveredOrders_7, if_neg c1, m1.2, nI_clamp (show k < 2 ^ 31 by omega)]
      exact r2
    · rw [gw_X12_coveredOrders_7, if_neg c1, m1.2, nI_clamp (show k < 2 ^ 31 by omega)]
      exact r6
    · by_cases z : p = k
      · rw [r4 p (by omega), hp_i_g, if_pos z, z]
      · exact r3 p (by omega) h2
    · rw [r4 p (by omega), hp_i_g, if_neg (by omega)]
    · rw [r5 t ht, hp_i_t ht]
theorem z_coveredOrders (hn : n ≤ 512) (A : RA h hm n) : p_X11_coveredOrders h ∧ p_X12_coveredOrders hm ∧ f_X11_coveredOrders h = f_X12_coveredOrders hm ∧ RA (g_X11_coveredOrders h) (g_X12_coveredOrders hm) n := by
  obtain ⟨T, w, ⟨J, I, R, C, G⟩, -⟩ := id A
  have hw := I.1
  obtain ⟨b1, t, b2, b3⟩ := a_begin I C G
  obtain ⟨e2, he2⟩ := oa_fuel (show 12 < 1000000 by omega)
  obtain ⟨e5, he5⟩ := oa_fuel (show w 1 < 1000000 by omega)
  obtain ⟨H, r1, r2, r6, r3, -, r5⟩ := m_cov7 I 12 0 e2 (hp_i hm 12 0 0 0) R (by omega)
  rw [← he2, nI_0] at r1 r2 r6
  have RH : RM H T w := RM.same (hm := hp_i hm 12 0 0 0) R (r5 56 (by omega)) (r5 58 (by omega))
  have nx := m_nextOpen (D := 0) RH I
  obtain ⟨s1, s2, s3, s4⟩ := s_cov J I b2 (w 1) 0 e5 e5 _ H (fun p => w (9 + p) - w (21 + p)) 0 0 (by omega) b3.1 b3.2.1 (fun p hp => ⟨(b3.2.2.1.1 p hp).1, by have := (I.2.1 p hp).1; show w (9 + p) - w (21 + p) < 1000000; omega⟩) b3.2.2.2 RH (fun p hp => r3 p (by omega) hp) (fun o ho => ⟨fun z => by rw [b_0] at z; exact (Bool.false_ne_true z).elim, fun ⟨j, hj, _⟩ => by omega⟩)
  rw [← he5] at s2 s3 s4
  rw [← he5, nI_0] at s1
  rw [nI_0] at s3
  refine ⟨⟨⟨b1, s1⟩, trivial⟩, r1 nx.1 s2, s3.trans r2.symm, A.same (fun t ht i => ?_) gl_X11_coveredOrders gr_X11_coveredOrders (fun t ht => ?_) (fun k hk => ?_)⟩
  · unfold CS at ht
    exact fr_X11_coveredOrders (by omega) (by omega) (by omega) (by omega) (by omega)
  · have := ht.thr (hm := hm) (x := 0)
    unfold MS at ht
    exact fr_X12_coveredOrders (by omega) (by omega)
  · have := hk.thr (hm := hm) (x := 0)
    have e : g_X12_coveredOrders hm = gw_X12_coveredOrders_40 oa_N H 0 0 (f_X12_nextOpen H 0) := r6
    rw [e, s4, r5 12 (by omega)]
    exact this
end QAQ
