section PT
variable {h hm : Hp} {T w : Nat → Nat} {n : Nat}
theorem l_pieces (J : IT T) (R : RM hm T w) (C : RC h (h.2.2 11 0 6) T) {q : Nat} (hq : q < T 1) : ∀ (m k : Nat) (x : Int32) (e e' : Nat), k + m = T 0 →
    pw_X11_pieces_9 (m + 1 + e) h (nI q) x (nI k) ∧ pw_X12_pieces_19 (m + 1 + e') hm (nI q) x (nI k) ∧ fw_X11_pieces_9 (m + 1 + e) h (nI q) x (nI k) = fw_X12_pieces_19 (m + 1 + e') hm (nI q) x (nI k) := by
  have b := J.1
  have r0 := R.1 0 (by omega)
  have r1 := R.1 1 (by omega)
  obtain ⟨⟨k0, k1, k2⟩, -⟩ := id C
  intro m
  induction m with
  | zero =>
    intro k x e e' hk
    rw [show 0 + 1 + e = e + 1 by omega, show 0 + 1 + e' = e' + 1 by omega]
    have c1 : nI (T 0) ≤ nI k := nI_le (by omega) (by omega)
    simp [pw_X11_pieces_9, pw_X12_pieces_19, fw_X11_pieces_9, fw_X12_pieces_19, k0, k1, r0, r1, c1]
  | succ m ih =>
    intro k x e e' hk
    rw [show m + 1 + 1 + e = (m + 1 + e) + 1 by omega, show m + 1 + 1 + e' = (m + 1 + e') + 1 by omega]
    have c1 : ¬ nI (T 0) ≤ nI k := nI_ge (by omega) (by omega)
    have ih' := fun x => ih (k + 1) x e e' (by omega)
    simp only [nI_succ] at ih'
    have a1 := a_needOf J C hq (show k < T 0 by omega)
    have m1 := m_needs R (show q < 8 by omega) (show k < 12 by omega)
    simp only [pw_X11_pieces_9, pw_X12_pieces_19, fw_X11_pieces_9, fw_X12_pieces_19, k0, k1, r0, r1]
    simp [c1, a1, m1, ih']

theorem l_usedBy (J : IT T) (R : RM hm T w) (C : RC h (h.2.2 11 0 6) T) {p : Nat} (hp : p < T 0) : ∀ (m k : Nat) (x : Int32) (e e' : Nat), k + m = T 1 →
    pw_X11_usedBy_9 (m + 1 + e) h (nI p) x (nI k) ∧ pw_X12_usedBy_19 (m + 1 + e') hm (nI p) x (nI k) ∧ fw_X11_usedBy_9 (m + 1 + e) h (nI p) x (nI k) = fw_X12_usedBy_19 (m + 1 + e') hm (nI p) x (nI k) := by
  have b := J.1
  have r0 := R.1 0 (by omega)
  have r1 := R.1 1 (by omega)
  obtain ⟨⟨k0, k1, k2⟩, -⟩ := id C
  intro m
  induction m with
  | zero =>
    intro k x e e' hk
    rw [show 0 + 1 + e = e + 1 by omega, show 0 + 1 + e' = e' + 1 by omega]
    have c1 : nI (T 1) ≤ nI k := nI_le (by omega) (by omega)
    simp [pw_X11_usedBy_9, pw_X12_usedBy_19, fw_X11_usedBy_9, fw_X12_usedBy_19, k0, k1, r0, r1, c1]
  | succ m ih =>
    intro k x e e' hk
    rw [show m + 1 + 1 + e = (m + 1 + e) + 1 by omega, show m + 1 + 1 + e' = (m + 1 + e') + 1 by omega]
    have c1 : ¬ nI (T 1) ≤ nI k := nI_ge (by omega) (by omega)
    have ih' := fun x => ih (k + 1) x e e' (by omega)
    simp only [nI_succ] at ih'
    have a1 := a_needOf J C (show k < T 1 by omega) hp
    have m1 := m_needs R (show k < 8 by omega) (show p < 12 by omega)
    simp only [pw_X11_usedBy_9, pw_X12_usedBy_19, fw_X11_usedBy_9, fw_X12_usedBy_19, k0, k1, r0, r1]
    by_cases c2 : nI (oa_need T k p) ≤ 0
    · simp [c1, a1, m1, ih', c2]
    · simp [c1, a1, m1, ih', c2]

theorem l_commonParts (J : IT T) (R : RM hm T w) (C : RC h (h.2.2 11 0 6) T) {q q2 : Nat} (hq : q < T 1) (hq2 : q2 < T 1) : ∀ (m k : Nat) (x : Int32) (e e' : Nat), k + m = T 0 →
    pw_X11_commonParts_15 (m + 1 + e) h (nI q) (nI q2) x (nI k) ∧ pw_X12_commonParts_28 (m + 1 + e') hm (nI q) (nI q2) x (nI k) ∧ fw_X11_commonParts_15 (m + 1 + e) h (nI q) (nI q2) x (nI k) = fw_X12_commonParts_28 (m + 1 + e') hm (nI q) (nI q2) x (nI k) := by
  have b := J.1
  have r0 := R.1 0 (by omega)
  have r1 := R.1 1 (by omega)
  obtain ⟨⟨k0, k1, k2⟩, -⟩ := id C
  intro m
  induction m with
  | zero =>
    intro k x e e' hk
    rw [show 0 + 1 + e = e + 1 by omega, show 0 + 1 + e' = e' + 1 by omega]
    have c1 : nI (T 0) ≤ nI k := nI_le (by omega) (by omega)
    simp [pw_X11_commonParts_15, pw_X12_commonParts_28, fw_X11_commonParts_15, fw_X12_commonParts_28, k0, k1, r0, r1, c1]
  | succ m ih =>
    intro k x e e' hk
    rw [show m + 1 + 1 + e = (m + 1 + e) + 1 by omega, show m + 1 + 1 + e' = (m + 1 + e') + 1 by omega]
    have c1 : ¬ nI (T 0) ≤ nI k := nI_ge (by omega) (by omega)
    have ih' := fun x => ih (k + 1) x e e' (by omega)
    simp only [nI_succ] at ih'
    have a1 := a_needOf J C hq (show k < T 0 by omega)
    have m1 := m_needs R (show q < 8 by omega) (show k < 12 by omega)
    have a2 := a_needOf J C hq2 (show k < T 0 by omega)
    have m2 := m_needs R (show q2 < 8 by omega) (show k < 12 by omega)
    simp only [pw_X11_commonParts_15, pw_X12_commonParts_28, fw_X11_commonParts_15, fw_X12_commonParts_28, k0, k1, r0, r1]
    by_cases c2 : nI (oa_need T q k) ≤ 0
    · simp [c1, a1, m1, ih', c2]
    · by_cases c3 : nI (oa_need T q2 k) ≤ 0
      · simp [c1, a1, m1, a2, m2, ih', c2, c3]
      · simp [c1, a1, m1, a2, m2, ih', c2, c3]

theorem q_pieces (B : RB h hm T w n) (a : Int32) : p_X11_pieces h a ∧ p_X12_pieces hm a ∧ QA (x_X11_pieces h a) (f_X11_pieces h a) (f_X12_pieces hm a) (g_X12_pieces hm a) hm := by
  obtain ⟨p1, p2, k⟩ := kk_product B a
  obtain ⟨J, I, R, C, G⟩ := B
  have b := J.1
  obtain ⟨e, he⟩ := oa_fuel (show T 0 < 1000000 by omega)
  unfold p_X11_pieces p_X12_pieces x_X11_pieces f_X11_pieces f_X12_pieces g_X12_pieces QA
  rcases k with ⟨q, hq, rfl, x1, f1, g1⟩ | ⟨x1, f1, g1⟩
  · have l := l_pieces (hm := hp_i hm 12 0 0 0) J R C hq (T 0) 0 0 e e (by omega)
    rw [← he, nI_0] at l
    simp [p1, p2, x1, f1, g1, l, id_gw_X12_pieces_19]
  · simp [p1, p2, x1, f1, g1]

theorem q_usedBy (B : RB h hm T w n) (a : Int32) : p_X11_usedBy h a ∧ p_X12_usedBy hm a ∧ QA (x_X11_usedBy h a) (f_X11_usedBy h a) (f_X12_usedBy hm a) (g_X12_usedBy hm a) hm := by
  obtain ⟨p1, p2, k⟩ := kk_part B a
  obtain ⟨J, I, R, C, G⟩ := B
  have b := J.1
  obtain ⟨e, he⟩ := oa_fuel (show T 1 < 1000000 by omega)
  unfold p_X11_usedBy p_X12_usedBy x_X11_usedBy f_X11_usedBy f_X12_usedBy g_X12_usedBy QA
  rcases k with ⟨q, hq, rfl, x1, f1, g1⟩ | ⟨x1, f1, g1⟩
  · have l := l_usedBy (hm := hp_i hm 12 0 0 0) J R C hq (T 1) 0 0 e e (by omega)
    rw [← he, nI_0] at l
    simp [p1, p2, x1, f1, g1, l, id_gw_X12_usedBy_19]
  · simp [p1, p2, x1, f1, g1]

theorem q_commonParts (B : RB h hm T w n) (a a2 : Int32) : p_X11_commonParts h a a2 ∧ p_X12_commonParts hm a a2 ∧ QA (x_X11_commonParts h a a2) (f_X11_commonParts h a a2) (f_X12_commonParts hm a a2) (g_X12_commonParts hm a a2) hm := by
  obtain ⟨p1, p2, k⟩ := kk_product B a
  obtain ⟨p3, p4, k2⟩ := kk_product B a2
  obtain ⟨J, I, R, C, G⟩ := B
  have b := J.1
  obtain ⟨e, he⟩ := oa_fuel (show T 0 < 1000000 by omega)
  unfold p_X11_commonParts p_X12_commonParts x_X11_commonParts f_X11_commonParts f_X12_commonParts g_X12_commonParts QA
  rcases k with ⟨q, hq, rfl, x1, f1, g1⟩ | ⟨x1, f1, g1⟩
  · rcases k2 with ⟨q2, hq2, rfl, x2, f2, g2⟩ | ⟨x2, f2, g2⟩
    · have l := l_commonParts (hm := hp_i hm 12 0 0 0) J R C hq hq2 (T 0) 0 0 e e (by omega)
      rw [← he, nI_0] at l
      simp [p1, p2, p3, p4, x1, f1, g1, x2, f2, g2, l, id_gw_X12_commonParts_28]
    · simp [p1, p2, p3, p4, x1, f1, g1, x2, f2, g2]
  · simp [p1, p2, x1, f1, g1]
theorem q_lineCount (B : RB h hm T w n) (a : Int32) : p_X11_lineCount h a ∧ p_X12_lineCount hm a ∧ QA (x_X11_lineCount h a) (f_X11_lineCount h a) (f_X12_lineCount hm a) (g_X12_lineCount hm a) hm := by
  obtain ⟨p1, p2, k⟩ := kk_product B a
  obtain ⟨J, I, R, C, G⟩ := B
  have b := J.1
  unfold p_X11_lineCount p_X12_lineCount x_X11_lineCount f_X11_lineCount f_X12_lineCount g_X12_lineCount QA
  rcases k with ⟨q, hq, rfl, x1, f1, g1⟩ | ⟨x1, f1, g1⟩
  · have e : (188 : Int32) + nI q = nI (188 + q) := nI_add 188 q
    have c1 : ¬ nI q < 0 := nI_pos (by omega)
    have c2 : ¬ nI (T 1) ≤ nI q := nI_ge hq (by omega)
    have v1 : vp_in (nI q) 8 := vp_in_nI (by omega) (by omega)
    have v2 : vp_in (nI (188 + q)) 506 := vp_in_nI (by omega) (by omega)
    have r1 : (hp_i hm 12 0 0 0).1 56 0 (188 + q) = nI (T (188 + q)) := R.1 _ (by omega)
    have r2 := C.2.2.1 q hq
    have k1 := C.1.2.1
    simp [p1, p2, x1, f1, g1, e, v1, v2, r1, r2, k1, c1, c2, f_X1_linesOf, p_X1_linesOf, f_X11_isInside, p_X11_isInside, nI_clamp (show 188 + q < 2 ^ 31 by omega), nI_clamp (show q < 2 ^ 31 by omega)]
  · simp [p1, p2, x1, f1, g1]
end PT
