section RAL
variable {h hm h' hm' K : Hp} {c L : Nat} {T w w' : Nat → Nat} {n n' S : Nat}
/-- class: reserved units changed, cell by cell -/
theorem a_change {o q N : Nat} {x : Int32} (J : IT T) (C : RC h c T) (h6 : h.1 6 L 0 = nI N) (ho : o < N) (hN : N ≤ 20) (hq : q < T 1) (h36 : h.1 36 L o = nI q) :
    p_X5_changeReserved h L c (nI o) x ∧ (∀ p, p < T 0 → (g_X5_changeReserved h L c (nI o) x).1 49 L p = h.1 49 L p + x * nI (oa_need T q p)) ∧ (∀ p, T 0 ≤ p → (g_X5_changeReserved h L c (nI o) x).1 49 L p = h.1 49 L p) ∧ (∀ j, (g_X5_changeReserved h L c (nI o) x).1 42 L j = if j = o then h.1 42 L o + x else h.1 42 L j) ∧ (∀ t i, ¬ (t = 49 ∧ i = L) → ¬ (t = 42 ∧ i = L) → (g_X5_changeReserved h L c (nI o) x).1 t i = h.1 t i) := by
  have bT := J.1
  have in1 := a_inside h ho (by omega)
  have vo : vp_in (nI o) 20 := vp_in_nI (by omega) (by omega)
  have fp : p_X6_productOf h L (nI o) ∧ f_X6_productOf h L (nI o) = nI q := by
    refine ⟨?_, ?_⟩
    · simp [p_X6_productOf, h6, in1, vo]
    · simp [f_X6_productOf, h6, in1, nI_clamp (show o < 2 ^ 31 by omega), h36]
  have ge : g_X6_addReserved h L (nI o) x = hp_i h 42 L o (h.1 42 L o + x) := by
    unfold g_X6_addReserved
    rw [h6, in1.2, if_neg (by decide), nI_clamp (show o < 2 ^ 31 by omega)]
  have pe : p_X6_addReserved h L (nI o) x := by
    unfold p_X6_addReserved
    rw [h6, in1.2]
    exact ⟨in1.1, fun z => absurd z (by decide), fun _ => ⟨vo, vo, trivial⟩⟩
  obtain ⟨e, he⟩ := oa_fuel (show T 0 < 1000000 by omega)
  obtain ⟨c1, c2, c3, c4⟩ := a_chL (L := L) (c := c) (q := q) (x2 := nI o) (x := x) J hq (T 0) 0 e (hp_i h 42 L o (h.1 42 L o + x)) (C.same (fun t ht i => hp_i_t (by omega)) hp_i_21) (by omega)
  rw [← he, nI_0] at c1 c2 c3 c4
  have gC : g_X5_changeReserved h L c (nI o) x = gw_X5_changeReserved_22 oa_N (hp_i h 42 L o (h.1 42 L o + x)) L c (nI o) x (nI q) 0 := by
    unfold g_X5_changeReserved
    rw [ge, fp.2]
  refine ⟨?_, fun p hp => ?_, fun p hp => ?_, fun j => ?_, fun t i z1 z2 => ?_⟩
  · unfold p_X5_changeReserved
    rw [ge, fp.2]
    exact ⟨fp.1, pe, c1⟩
  · rw [gC, c2 p (by omega) hp, hp_i_t (by omega)]
  · rw [gC, c3 p (by omega), hp_i_t (by omega)]
  · rw [gC, c4 42 _ (by omega), hp_i_g]
  · rw [gC, c4 t i z1, hp_i_n z2]
/-- model: the same -/
theorem m_hold {o q : Nat} {x : Int32} (J : IT T) (hT : ∀ k, k < 506 → K.1 56 0 k = nI (T k)) (ho : o < 20) (hq : q < T 1) (hKq : K.1 58 0 (93 + 8 * o) = nI q) :
    p_X12_holds K (nI o) x ∧ (∀ p, p < T 0 → (g_X12_holds K (nI o) x).1 58 0 (21 + p) = K.1 58 0 (21 + p) + x * nI (oa_need T q p)) ∧ (g_X12_holds K (nI o) x).1 58 0 (93 + 8 * o + 6) = K.1 58 0 (93 + 8 * o + 6) + x ∧ (∀ j, ¬ j = 93 + 8 * o + 6 → ¬ (21 ≤ j ∧ j < 21 + T 0) → (g_X12_holds K (nI o) x).1 58 0 j = K.1 58 0 j) ∧ (∀ t, ¬ t = 58 → (g_X12_holds K (nI o) x).1 t 0 = K.1 t 0) := by
  have bT := J.1
  obtain ⟨e, he⟩ := oa_fuel (show T 0 < 1000000 by omega)
  have e6 : (93 : Int32) + 8 * nI o + 6 = nI (93 + 8 * o + 6) := oa_ix3 93 8 o 6
  have v6 : vp_in (nI (93 + 8 * o + 6)) 301 := vp_in_nI (by omega) (by omega)
  have gm : g_X12_grows K (nI o) 6 x = hp_i K 58 0 (93 + 8 * o + 6) (K.1 58 0 (93 + 8 * o + 6) + x) := by
    unfold g_X12_grows
    rw [e6, nI_clamp (show 93 + 8 * o + 6 < 2 ^ 31 by omega)]
  obtain ⟨d1, d2, d3, d4⟩ := m_hoL (o := o) (q := q) (x := x) J ho hq (T 0) 0 e (hp_i K 58 0 (93 + 8 * o + 6) (K.1 58 0 (93 + 8 * o + 6) + x)) (fun k hk => by rw [hp_i_t (by omega)]; exact hT k hk) (by rw [hp_i_g, if_neg (by omega)]; exact hKq) (by omega)
  rw [← he, nI_0] at d1 d2 d3 d4
  have gM : g_X12_holds K (nI o) x = gw_X12_holds_10 oa_N (hp_i K 58 0 (93 + 8 * o + 6) (K.1 58 0 (93 + 8 * o + 6) + x)) (nI o) x 0 := by
    unfold g_X12_holds
    rw [gm]
  refine ⟨?_, fun p hp => ?_, ?_, fun j z1 z2 => ?_, fun t ht => ?_⟩
  · unfold p_X12_holds p_X12_grows
    rw [gm, e6]
    exact ⟨⟨v6, v6, trivial⟩, d1⟩
  · rw [gM, d2 p (by omega) hp, hp_i_g, if_neg (by omega)]
  · rw [gM, d3 _ (by omega), hp_i_g, if_pos rfl]
  · rw [gM, d3 j (by omega), hp_i_g, if_neg z1]
  · rw [gM, d4 t ht, hp_i_t ht]
/-- model: the log -/
theorem m_logL {x1 x2 : Int32} : ∀ (m k e : Nat) (K : Hp), 3 ≤ k → k + m = 48 → K.1 58 0 3 = nI 16 →
    pw_X12_logs_13 (m + 1 + e) K x1 x2 (nI k) ∧ (gw_X12_logs_13 (m + 1 + e) K x1 x2 (nI k)).1 58 0 3 = nI 16 ∧ (gw_X12_logs_13 (m + 1 + e) K x1 x2 (nI k)).1 58 0 298 = x1 ∧ (gw_X12_logs_13 (m + 1 + e) K x1 x2 (nI k)).1 58 0 299 = x2 ∧ (gw_X12_logs_13 (m + 1 + e) K x1 x2 (nI k)).1 58 0 300 = K.1 58 0 0 ∧ (∀ j, k - 3 ≤ j → j < 45 → (gw_X12_logs_13 (m + 1 + e) K x1 x2 (nI k)).1 58 0 (253 + j) = K.1 58 0 (253 + j + 3)) ∧ (∀ j, (j < 253 ∧ ¬ j = 3) ∨ (253 ≤ j ∧ j < 253 + k - 3 ∧ j < 298) → (gw_X12_logs_13 (m + 1 + e) K x1 x2 (nI k)).1 58 0 j = K.1 58 0 j) ∧ (∀ t, ¬ t = 58 → (gw_X12_logs_13 (m + 1 + e) K x1 x2 (nI k)).1 t 0 = K.1 t 0) := by
  intro m
  induction m with
  | zero =>
    intro k e K hk3 hk h3
    rw [show 0 + 1 + e = e + 1 by omega]
    have c1 : (48 : Int32) ≤ nI k := nI_le (a := 48) (by omega) (by omega)
    have a1 : K.1 58 0 3 - 1 = nI 15 := by rw [h3]; exact nI_pred 15
    have a2 : (hp_i K 58 0 3 (nI 15)).1 58 0 3 = nI 15 := by rw [hp_i_g, if_pos rfl]
    have a3 : (253 : Int32) + 3 * nI 15 = nI 298 := oa_ix2 253 3 15
    have a4 : nI 298 + 1 = nI 299 := nI_add 298 1
    have a5 : nI 298 + 2 = nI 300 := nI_add 298 2
    have v0 : vp_in (nI 298) 301 := vp_in_nI (by omega) (by omega)
    have v1 : vp_in (nI 299) 301 := vp_in_nI (by omega) (by omega)
    have v2 : vp_in (nI 300) 301 := vp_in_nI (by omega) (by omega)
    have ef : gw_X12_logs_13 (e + 1) K x1 x2 (nI k) = hp_i (hp_i (hp_i (hp_i (hp_i K 58 0 3 (nI 15)) 58 0 298 x1) 58 0 299 x2) 58 0 300 (K.1 58 0 0)) 58 0 3 (nI 16) := by
      have b0 : (hp_i (hp_i (hp_i K 58 0 3 (nI 15)) 58 0 298 x1) 58 0 299 x2).1 58 0 0 = K.1 58 0 0 := by rw [hp_i_g, if_neg (by omega), hp_i_g, if_neg (by omega), hp_i_g, if_neg (by omega)]
      have b3 : ∀ y, (hp_i (hp_i (hp_i (hp_i K 58 0 3 (nI 15)) 58 0 298 x1) 58 0 299 x2) 58 0 300 y).1 58 0 3 = nI 15 := fun y => by rw [hp_i_g, if_neg (by omega), hp_i_g, if_neg (by omega), hp_i_g, if_neg (by omega), hp_i_g, if_pos rfl]
      rw [gw_X12_logs_13, if_pos c1, a1, a2, a3, a4, a5, nI_clamp (show 298 < 2 ^ 31 by omega), nI_clamp (show 299 < 2 ^ 31 by omega), nI_clamp (show 300 < 2 ^ 31 by omega), b0, b3]
      have : nI 15 + 1 = nI 16 := nI_add 15 1
      rw [this]
    rw [ef]
    have rd : ∀ j, (hp_i (hp_i (hp_i (hp_i (hp_i K 58 0 3 (nI 15)) 58 0 298 x1) 58 0 299 x2) 58 0 300 (K.1 58 0 0)) 58 0 3 (nI 16)).1 58 0 j = if j = 3 then nI 16 else if j = 300 then K.1 58 0 0 else if j = 299 then x2 else if j = 298 then x1 else if j = 3 then nI 15 else K.1 58 0 j := fun j => by rw [hp_i_g, hp_i_g, hp_i_g, hp_i_g, hp_i_g]
    refine ⟨?_, ?_, ?_, ?_, ?_, fun j h1 h2 => by omega, fun j hj => ?_, fun t ht => ?_⟩
    · rw [pw_X12_logs_13, a1, a2, a3, a4, a5]
      exact ⟨fun _ => ⟨v0, v1, v2, trivial⟩, fun z => (z c1).elim⟩
    · rw [rd, if_pos rfl]
    · rw [rd, if_neg (by omega), if_neg (by omega), if_neg (by omega), if_pos rfl]
    · rw [rd, if_neg (by omega), if_neg (by omega), if_pos rfl]
    · rw [rd, if_neg (by omega), if_pos rfl]
    · rw [rd, if_neg (by omega), if_neg (by omega), if_neg (by omega), if_neg (by omega), if_neg (by omega)]
    · rw [hp_i_t ht, hp_i_t ht, hp_i_t ht, hp_i_t ht, hp_i_t ht]
  | succ m ih =>
    intro k e K hk3 hk h3
    rw [show m + 1 + 1 + e = (m + 1 + e) + 1 by omega]
    have c1 : ¬ (48 : Int32) ≤ nI k := nI_ge (b := 48) (by omega) (by omega)
    have e1 : (253 : Int32) + nI k = nI (253 + k) := nI_add 253 k
    have e2 : nI (253 + k) - 3 = nI (253 + k - 3) := oa_sub (b := 3) (by omega)
    have v1 : vp_in (nI (253 + k)) 301 := vp_in_nI (by omega) (by omega)
    have v2 : vp_in (nI (253 + k - 3)) 301 := vp_in_nI (by omega) (by omega)
    obtain ⟨r1, r2, r3, r4, r5, r6, r7, r8⟩ := ih (k + 1) e (hp_i K 58 0 (253 + k - 3) (K.1 58 0 (253 + k))) (by omega) (by omega) (by rw [hp_i_g, if_neg (by omega)]; exact h3)
    rw [nI_succ] at r1 r2 r3 r4 r5 r6 r7 r8
    have ef : gw_X12_logs_13 ((m + 1 + e) + 1) K x1 x2 (nI k) = gw_X12_logs_13 (m + 1 + e) (hp_i K 58 0 (253 + k - 3) (K.1 58 0 (253 + k))) x1 x2 (nI k + 1) := by
      rw [gw_X12_logs_13, if_neg c1, e1, e2, nI_clamp (show 253 + k - 3 < 2 ^ 31 by omega), nI_clamp (show 253 + k < 2 ^ 31 by omega)]
    rw [ef]
    refine ⟨?_, r2, r3, r4, ?_, fun j h1 h2 => ?_, fun j hj => ?_, fun t ht => ?_⟩
    · rw [pw_X12_logs_13, e1, e2, nI_clamp (show 253 + k - 3 < 2 ^ 31 by omega), nI_clamp (show 253 + k < 2 ^ 31 by omega)]
      exact ⟨fun z => (c1 z).elim, fun _ => ⟨v1, v2, r1⟩⟩
    · rw [r5, hp_i_g, if_neg (by omega)]
    · by_cases z : j = k - 3
      · rw [r7 (253 + j) (by omega), hp_i_g, if_pos (by omega)]
        rw [show 253 + j + 3 = 253 + k by omega]
      · rw [r6 j (by omega) h2, hp_i_g, if_neg (by omega)]
    · rw [r7 j (by omega), hp_i_g, if_neg (by omega)]
    · rw [r8 t ht, hp_i_t ht]
theorem m_logs {l d : Nat} {x1 x2 : Int32} (hl : l ≤ 16) (h3 : K.1 58 0 3 = nI l) (h0 : K.1 58 0 0 = nI d) :
    p_X12_logs K x1 x2 ∧ ∃ c, l = c + 1 - (if l = 16 then 0 else 1) ∧ c < 16 ∧ (g_X12_logs K x1 x2).1 58 0 3 = nI (c + 1) ∧ (g_X12_logs K x1 x2).1 58 0 (253 + 3 * c) = x1 ∧ (g_X12_logs K x1 x2).1 58 0 (253 + 3 * c + 1) = x2 ∧ (g_X12_logs K x1 x2).1 58 0 (253 + 3 * c + 2) = nI d ∧ (∀ j i, j < c → i < 3 → (g_X12_logs K x1 x2).1 58 0 (253 + 3 * j + i) = K.1 58 0 (253 + 3 * (j + (l - c)) + i)) ∧ (∀ j, j < 253 → ¬ j = 3 → (g_X12_logs K x1 x2).1 58 0 j = K.1 58 0 j) ∧ (∀ t, ¬ t = 58 → (g_X12_logs K x1 x2).1 t 0 = K.1 t 0) := by
  by_cases z : l = 16
  · subst z
    have c1 : K.1 58 0 3 = 16 := h3
    obtain ⟨e, he⟩ := oa_fuel (show 45 < 1000000 by omega)
    obtain ⟨r1, r2, r3, r4, r5, r6, r7, r8⟩ := m_logL (x1 := x1) (x2 := x2) 45 3 e K (by omega) (by omega) h3
    have e3 : nI 3 = 3 := rfl
    rw [← he, e3] at r1 r2 r3 r4 r5 r6 r7 r8
    have eg : g_X12_logs K x1 x2 = gw_X12_logs_13 oa_N K x1 x2 3 := by
      unfold g_X12_logs
      rw [if_neg (fun z => z c1)]
    rw [eg]
    refine ⟨⟨fun z => (z c1).elim, fun _ => r1⟩, 15, by simp, by omega, r2, r3, r4, r5.trans h0, fun j i hj hi => ?_, fun j h1 h2 => r7 j (by omega), r8⟩
    have := r6 (3 * j + i) (by omega) (by omega)
    rw [show 253 + 3 * j + i = 253 + (3 * j + i) by omega, this]
    rw [show 253 + (3 * j + i) + 3 = 253 + 3 * (j + (16 - 15)) + i by omega]
  · have c1 : ¬ K.1 58 0 3 = 16 := by
      rw [h3]
      intro y
      exact z ((nI_eq (b := 16) (by omega) (by omega)).mp y)
    have a3 : (253 : Int32) + 3 * nI l = nI (253 + 3 * l) := oa_ix2 253 3 l
    have a4 : nI (253 + 3 * l) + 1 = nI (253 + 3 * l + 1) := nI_add _ 1
    have a5 : nI (253 + 3 * l) + 2 = nI (253 + 3 * l + 2) := nI_add _ 2
    have v0 : vp_in (nI (253 + 3 * l)) 301 := vp_in_nI (by omega) (by omega)
    have v1 : vp_in (nI (253 + 3 * l + 1)) 301 := vp_in_nI (by omega) (by omega)
    have v2 : vp_in (nI (253 + 3 * l + 2)) 301 := vp_in_nI (by omega) (by omega)
    have ef : g_X12_logs K x1 x2 = hp_i (hp_i (hp_i (hp_i K 58 0 (253 + 3 * l) x1) 58 0 (253 + 3 * l + 1) x2) 58 0 (253 + 3 * l + 2) (nI d)) 58 0 3 (nI (l + 1)) := by
      have b0 : (hp_i (hp_i K 58 0 (253 + 3 * l) x1) 58 0 (253 + 3 * l + 1) x2).1 58 0 0 = nI d := by rw [hp_i_g, if_neg (by omega), hp_i_g, if_neg (by omega)]; exact h0
      have b3 : ∀ y, (hp_i (hp_i (hp_i K 58 0 (253 + 3 * l) x1) 58 0 (253 + 3 * l + 1) x2) 58 0 (253 + 3 * l + 2) y).1 58 0 3 = nI l := fun y => by rw [hp_i_g, if_neg (by omega), hp_i_g, if_neg (by omega), hp_i_g, if_neg (by omega)]; exact h3
      unfold g_X12_logs
      rw [if_pos c1, h3, a3, a4, a5, nI_clamp (show 253 + 3 * l < 2 ^ 31 by omega), nI_clamp (show 253 + 3 * l + 1 < 2 ^ 31 by omega), nI_clamp (show 253 + 3 * l + 2 < 2 ^ 31 by omega), b0, b3, ← nI_succ]
    have rd : ∀ j, (g_X12_logs K x1 x2).1 58 0 j = if j = 3 then nI (l + 1) else if j = 253 + 3 * l + 2 then nI d else if j = 253 + 3 * l + 1 then x2 else if j = 253 + 3 * l then x1 else K.1 58 0 j := fun j => by rw [ef, hp_i_g, hp_i_g, hp_i_g, hp_i_g]
    refine ⟨⟨fun _ => ?_, fun y => (c1 y).elim⟩, l, by simp [z], by omega, ?_, ?_, ?_, ?_, fun j i hj hi => ?_, fun j h1 h2 => ?_, fun t ht => ?_⟩
    · rw [h3, a3, a4, a5]
      exact ⟨v0, v1, v2, trivial⟩
    · rw [rd, if_pos rfl]
    · rw [rd, if_neg (by omega), if_neg (by omega), if_neg (by omega), if_pos rfl]
    · rw [rd, if_neg (by omega), if_neg (by omega), if_pos rfl]
    · rw [rd, if_neg (by omega), if_pos rfl]
    · rw [rd, if_neg (by omega), if_neg (by omega), if_neg (by omega), if_neg (by omega), Nat.sub_self, Nat.add_zero]
    · rw [rd, if_neg h2, if_neg (by omega), if_neg (by omega), if_neg (by omega)]
    · rw [ef, hp_i_t ht, hp_i_t ht, hp_i_t ht, hp_i_t ht]
end RAL
