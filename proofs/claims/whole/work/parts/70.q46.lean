/-- the model's totals behind a shipment -/
def ob_tot (h : Hp) (x1 x2 : Int32) : Hp := (hp_i (hp_i (hp_i (hp_i h 58 0 4 ((h.1 58 0 4) + 1)) 58 0 5 (((hp_i h 58 0 4 ((h.1 58 0 4) + 1)).1 58 0 5) + x2)) 58 0 6 (((hp_i (hp_i h 58 0 4 ((h.1 58 0 4) + 1)) 58 0 5 (((hp_i h 58 0 4 ((h.1 58 0 4) + 1)).1 58 0 5) + x2)).1 58 0 6) + (if (if 0 < ((h.1 58 0 0) - (f_X12_of h x1 3)) then ((h.1 58 0 0) - (f_X12_of h x1 3)) else 0) ≤ 0 then (0 : Int32) else x2))) 58 0 7 (((hp_i (hp_i (hp_i h 58 0 4 ((h.1 58 0 4) + 1)) 58 0 5 (((hp_i h 58 0 4 ((h.1 58 0 4) + 1)).1 58 0 5) + x2)) 58 0 6 (((hp_i (hp_i h 58 0 4 ((h.1 58 0 4) + 1)) 58 0 5 (((hp_i h 58 0 4 ((h.1 58 0 4) + 1)).1 58 0 5) + x2)).1 58 0 6) + (if (if 0 < ((h.1 58 0 0) - (f_X12_of h x1 3)) then ((h.1 58 0 0) - (f_X12_of h x1 3)) else 0) ≤ 0 then (0 : Int32) else x2))).1 58 0 7) + ((if 0 < ((h.1 58 0 0) - (f_X12_of h x1 3)) then ((h.1 58 0 0) - (f_X12_of h x1 3)) else 0) * x2)))
section RAM
variable {h hm h' hm' K : Hp} {c L : Nat} {T w w' : Nat → Nat} {n n' S : Nat}
def ob_sent (h : Hp) (L c : Nat) (x2 x4 : Int32) : Hp := g_X6_addShipped (g_X5_changeReserved h L c x2 (-x4)) L x2 x4
theorem a_sendL {q : Nat} {x2 x4 : Int32} (J : IT T) (hq : q < T 1) : ∀ (m k e : Nat) (h : Hp), RC h c T → k + m = T 0 →
    ∃ H, (p_X5_changeReserved H L c x2 (-x4) → p_X6_addShipped (g_X5_changeReserved H L c x2 (-x4)) L x2 x4 → p_X6_dueOf (ob_sent H L c x2 x4) L x2 → p_X8_addShipment (ob_sent H L c x2 x4) L x2 x4 ((ob_sent H L c x2 x4).1 10 L 0) (f_X6_dueOf (ob_sent H L c x2 x4) L x2) → pw_X5_sendReserved_22 (m + 1 + e) h L c x2 (nI q) x4 (nI k)) ∧
      fw_X5_sendReserved_22 (m + 1 + e) h L c x2 (nI q) x4 (nI k) = x4 ∧ gw_X5_sendReserved_22 (m + 1 + e) h L c x2 (nI q) x4 (nI k) = g_X8_addShipment (ob_sent H L c x2 x4) L x2 x4 ((ob_sent H L c x2 x4).1 10 L 0) (f_X6_dueOf (ob_sent H L c x2 x4) L x2) ∧
      (∀ p, k ≤ p → p < T 0 → H.1 48 L p = h.1 48 L p - x4 * nI (oa_need T q p)) ∧ (∀ p, (p < k ∨ T 0 ≤ p) → H.1 48 L p = h.1 48 L p) ∧ (∀ t i, ¬ (t = 48 ∧ i = L) → H.1 t i = h.1 t i) ∧ H.2.1 = h.2.1 := by
  have bT := J.1
  intro m
  induction m with
  | zero =>
    intro k e h C hk
    rw [show 0 + 1 + e = e + 1 by omega]
    have c1 : nI (T 0) ≤ nI k := nI_le (by omega) (by omega)
    refine ⟨h, fun a b c d => ?_, ?_, ?_, fun p h1 h2 => by omega, fun p hp => rfl, fun t i _ => rfl, rfl⟩
    · rw [pw_X5_sendReserved_22, C.1.1]
      exact ⟨fun _ => ⟨a, b, c, d, trivial⟩, fun z => (z c1).elim⟩
    · rw [fw_X5_sendReserved_22, C.1.1, if_pos c1]
    · rw [gw_X5_sendReserved_22, C.1.1, if_pos c1]
      rfl
  | succ m ih =>
    intro k e h C hk
    rw [show m + 1 + 1 + e = (m + 1 + e) + 1 by omega]
    have c1 : ¬ nI (T 0) ≤ nI k := nI_ge (by omega) (by omega)
    have v1 : vp_in (nI k) 12 := vp_in_nI (by omega) (by omega)
    have a1 := a_needOf J C hq (show k < T 0 by omega)
    have in1 := a_inside h (show k < 12 by omega) (by omega)
    have e12 : nI 12 = 12 := rfl
    rw [e12] at in1
    have st : p_X10_stockOf h L (nI k) ∧ f_X10_stockOf h L (nI k) = h.1 48 L k := by
      refine ⟨?_, ?_⟩
      · simp [p_X10_stockOf, in1, v1]
      · simp [f_X10_stockOf, in1, nI_clamp (show k < 2 ^ 31 by omega)]
    have eg : ∀ y, g_X10_setStock h L (nI k) y = hp_i h 48 L k y := fun y => by
      unfold g_X10_setStock
      rw [in1.2, if_neg (by decide), nI_clamp (show k < 2 ^ 31 by omega)]
    have pg : ∀ y, p_X10_setStock h L (nI k) y := fun y => by
      unfold p_X10_setStock
      rw [in1.2]
      exact ⟨in1.1, fun z => absurd z (by decide), fun _ => ⟨v1, trivial⟩⟩
    obtain ⟨H, r1, r2, r3, r4, r5, r6, r7⟩ := ih (k + 1) e (hp_i h 48 L k (h.1 48 L k - x4 * nI (oa_need T q k))) (C.same (fun t ht i => hp_i_t (by omega)) hp_i_21) (by omega)
    rw [nI_succ] at r1 r2 r3
    refine ⟨H, fun a b c d => ?_, ?_, ?_, fun p h1 h2 => ?_, fun p hp => ?_, fun t i hti => ?_, r7⟩
    · rw [pw_X5_sendReserved_22, C.1.1, a1.2, st.2, eg]
      exact ⟨fun z => (c1 z).elim, fun _ => ⟨a1.1, st.1, pg _, r1 a b c d⟩⟩
    · rw [fw_X5_sendReserved_22, C.1.1, if_neg c1, a1.2, st.2, eg]
      exact r2
    · rw [gw_X5_sendReserved_22, C.1.1, if_neg c1, a1.2, st.2, eg]
      exact r3
    · by_cases z : p = k
      · subst z
        rw [r5 p (by omega), hp_i_g, if_pos rfl]
      · rw [r4 p (by omega) h2, hp_i_g, if_neg z]
    · rw [r5 p (by omega), hp_i_g, if_neg (by omega)]
    · rw [r6 t i hti, hp_i_n hti]
theorem m_shipL {o q : Nat} {x : Int32} (J : IT T) (ho : o < 20) (hq : q < T 1) : ∀ (m k e : Nat) (K : Hp), (∀ k, k < 506 → K.1 56 0 k = nI (T k)) → K.1 58 0 (93 + 8 * o) = nI q → k + m = T 0 →
    ∃ Z, (p_X12_of Z (nI o) 3 → p_X12_logs (ob_tot Z (nI o) x) (nI o) x → pw_X12_ship_66 (m + 1 + e) K (nI o) x (nI k)) ∧ fw_X12_ship_66 (m + 1 + e) K (nI o) x (nI k) = x ∧ gw_X12_ship_66 (m + 1 + e) K (nI o) x (nI k) = g_X12_logs (ob_tot Z (nI o) x) (nI o) x ∧
      (∀ p, k ≤ p → p < T 0 → Z.1 58 0 (9 + p) = K.1 58 0 (9 + p) - x * nI (oa_need T q p)) ∧ (∀ j, ¬ (9 + k ≤ j ∧ j < 9 + T 0) → Z.1 58 0 j = K.1 58 0 j) ∧ (∀ t, ¬ t = 58 → Z.1 t 0 = K.1 t 0) := by
  have bT := J.1
  intro m
  induction m with
  | zero =>
    intro k e K hT hKq hk
    rw [show 0 + 1 + e = e + 1 by omega]
    have k0 := hT 0 (by omega)
    have c1 : nI (T 0) ≤ nI k := nI_le (by omega) (by omega)
    refine ⟨K, fun a b => ?_, ?_, ?_, fun p h1 h2 => by omega, fun p hp => rfl, fun t _ => rfl⟩
    · rw [pw_X12_ship_66, k0]
      exact ⟨fun _ => ⟨a, b, trivial⟩, fun z => (z c1).elim⟩
    · rw [fw_X12_ship_66, k0, if_pos c1]
    · rw [gw_X12_ship_66, k0, if_pos c1]
      rfl
  | succ m ih =>
    intro k e K hT hKq hk
    rw [show m + 1 + 1 + e = (m + 1 + e) + 1 by omega]
    have k0 := hT 0 (by omega)
    have c1 : ¬ nI (T 0) ≤ nI k := nI_ge (by omega) (by omega)
    have e9 : (9 : Int32) + nI k = nI (9 + k) := nI_add 9 k
    have v1 : vp_in (nI (9 + k)) 301 := vp_in_nI (by omega) (by omega)
    have m1 : p_X12_of K (nI o) 0 ∧ f_X12_of K (nI o) 0 = nI q := by
      have := m_of' (K := K) ho (show 0 < 8 by omega)
      rw [Nat.add_zero, hKq] at this
      exact this
    have a1 := m_needs' hT (show q < 8 by omega) (show k < 12 by omega)
    obtain ⟨Z, r1, r2, r3, r4, r5, r6⟩ := ih (k + 1) e (hp_i K 58 0 (9 + k) (K.1 58 0 (9 + k) - x * nI (oa_need T q k))) (fun j hj => by rw [hp_i_t (by omega)]; exact hT j hj) (by rw [hp_i_g, if_neg (by omega)]; exact hKq) (by omega)
    rw [nI_succ] at r1 r2 r3
    refine ⟨Z, fun a b => ?_, ?_, ?_, fun p h1 h2 => ?_, fun j hj => ?_, fun t ht => ?_⟩
    · rw [pw_X12_ship_66, k0, e9, nI_clamp (show 9 + k < 2 ^ 31 by omega), m1.2, a1.2]
      exact ⟨fun z => (c1 z).elim, fun _ => ⟨v1, m1.1, a1.1, v1, r1 a b⟩⟩
    · rw [fw_X12_ship_66, k0, if_neg c1, e9, nI_clamp (show 9 + k < 2 ^ 31 by omega), m1.2, a1.2]
      exact r2
    · rw [gw_X12_ship_66, k0, if_neg c1, e9, nI_clamp (show 9 + k < 2 ^ 31 by omega), m1.2, a1.2]
      exact r3
    · by_cases z : p = k
      · subst z
        rw [r5 (9 + p) (by omega), hp_i_g, if_pos rfl]
      · rw [r4 p (by omega) h2, hp_i_g, if_neg (by omega)]
    · rw [r5 j (by omega), hp_i_g, if_neg (by omega)]
    · rw [r6 t ht, hp_i_t ht]
theorem ob_tot_c {d e o : Nat} {x2 : Int32} (ho : o < 20) (h0 : K.1 58 0 0 = nI d) (h3 : K.1 58 0 (93 + 8 * o + 3) = nI e) (hd : d < 1000000) (he : e < 1000000) :
    (∀ j, (ob_tot K (nI o) x2).1 58 0 j = if j = 7 then K.1 58 0 7 + nI (d - e) * x2 else if j = 6 then K.1 58 0 6 + (if d ≤ e then 0 else x2) else if j = 5 then K.1 58 0 5 + x2 else if j = 4 then K.1 58 0 4 + 1 else K.1 58 0 j) ∧ (∀ t, ¬ t = 58 → (ob_tot K (nI o) x2).1 t 0 = K.1 t 0) := by
  have f3 : f_X12_of K (nI o) 3 = nI e := by
    have := (m_of' (K := K) ho (show 3 < 8 by omega)).2
    rw [h3] at this
    exact this
  have late : (if 0 < (nI d - nI e) then (nI d - nI e) else 0) = nI (d - e) := by
    by_cases z : e ≤ d
    · rw [oa_sub z]
      by_cases y : d = e
      · rw [y, Nat.sub_self]; decide
      · rw [if_pos (show (0 : Int32) < nI (d - e) from nI_lt (a := 0) (by omega) (by omega))]
    · have := oa_neg (show d < e by omega) (by omega)
      rw [if_neg (by grind), show d - e = 0 by omega]
      exact nI_0.symm
  have lle : (nI (d - e) ≤ 0) ↔ d ≤ e := (nI_leI (b := 0) (by omega) (by omega)).trans (by omega)
  have s5 : ∀ y z, (hp_i K 58 0 4 y).1 58 0 (z + 5) = K.1 58 0 (z + 5) := fun y z => by rw [hp_i_g, if_neg (by omega)]
  refine ⟨fun j => ?_, fun t ht => ?_⟩
  · unfold ob_tot
    rw [h0, f3, late]
    simp only [hp_i_g, lle]
    simp
  · unfold ob_tot
    rw [hp_i_t ht, hp_i_t ht, hp_i_t ht, hp_i_t ht]
end RAM
