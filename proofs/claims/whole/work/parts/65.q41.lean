theorem oa_sum_one {f f' : Nat → Nat} {o : Nat} (hf : ∀ j, ¬ j = o → f' j = f j) : ∀ (m k : Nat), oa_sum f' k m + (if k ≤ o ∧ o < k + m then f o else 0) = oa_sum f k m + (if k ≤ o ∧ o < k + m then f' o else 0) := by
  intro m
  induction m with
  | zero => intro k; rw [if_neg (by omega), if_neg (by omega)]; rfl
  | succ m ih =>
    intro k
    have s1 : oa_sum f' k (m + 1) = f' k + oa_sum f' (k + 1) m := rfl
    have s2 : oa_sum f k (m + 1) = f k + oa_sum f (k + 1) m := rfl
    have i := ih (k + 1)
    rw [s1, s2]
    by_cases d : k = o
    · subst d
      rw [if_neg (by omega), if_neg (by omega)] at i
      rw [if_pos (by omega), if_pos (by omega)]
      omega
    · rw [hf k d]
      by_cases d2 : k ≤ o ∧ o < k + (m + 1)
      · rw [if_pos (by omega), if_pos (by omega)] at i
        rw [if_pos d2, if_pos d2]
        omega
      · rw [if_neg (by omega), if_neg (by omega)] at i
        rw [if_neg d2, if_neg d2]
        omega
theorem oa_sum_ge {f : Nat → Nat} {o : Nat} : ∀ (m k : Nat), k ≤ o → o < k + m → f o ≤ oa_sum f k m := by
  intro m
  induction m with
  | zero => intro k h1 h2; omega
  | succ m ih =>
    intro k h1 h2
    have s1 : oa_sum f k (m + 1) = f k + oa_sum f (k + 1) m := rfl
    rw [s1]
    by_cases d : k = o
    · rw [d]; omega
    · have := ih (k + 1) (by omega) (by omega)
      omega
section RAH
variable {h hm h' hm' K : Hp} {c L : Nat} {T w w' : Nat → Nat} {n n' S : Nat}
theorem m_of' {o k : Nat} (ho : o < 20) (hk : k < 8) : p_X12_of K (nI o) (nI k) ∧ f_X12_of K (nI o) (nI k) = K.1 58 0 (93 + 8 * o + k) := by
  have e : (93 : Int32) + 8 * nI o + nI k = nI (93 + 8 * o + k) := oa_ix3 93 8 o k
  refine ⟨⟨?_, trivial⟩, ?_⟩
  · rw [e]; exact vp_in_nI (by omega) (by omega)
  · unfold f_X12_of; rw [e, nI_clamp (by omega)]
theorem m_needs' {q p : Nat} (hT : ∀ k, k < 506 → K.1 56 0 k = nI (T k)) (hq : q < 8) (hp : p < 12) : p_X12_needs K (nI q) (nI p) ∧ f_X12_needs K (nI q) (nI p) = nI (oa_need T q p) := by
  have e : (292 : Int32) + 12 * nI q + nI p = nI (292 + 12 * q + p) := oa_ix3 292 12 q p
  refine ⟨⟨?_, trivial⟩, ?_⟩
  · rw [e]; exact vp_in_nI (by omega) (by omega)
  · unfold f_X12_needs; rw [e, nI_clamp (by omega), hT _ (by omega)]; rfl
theorem a_chL {q : Nat} {x2 x : Int32} (J : IT T) (hq : q < T 1) : ∀ (m k e : Nat) (h : Hp), RC h c T → k + m = T 0 →
    pw_X5_changeReserved_22 (m + 1 + e) h L c x2 x (nI q) (nI k) ∧ (∀ p, k ≤ p → p < T 0 → (gw_X5_changeReserved_22 (m + 1 + e) h L c x2 x (nI q) (nI k)).1 49 L p = h.1 49 L p + x * nI (oa_need T q p)) ∧ (∀ p, (p < k ∨ T 0 ≤ p) → (gw_X5_changeReserved_22 (m + 1 + e) h L c x2 x (nI q) (nI k)).1 49 L p = h.1 49 L p) ∧ (∀ t i, ¬ (t = 49 ∧ i = L) → (gw_X5_changeReserved_22 (m + 1 + e) h L c x2 x (nI q) (nI k)).1 t i = h.1 t i) := by
  have bT := J.1
  intro m
  induction m with
  | zero =>
    intro k e h C hk
    rw [show 0 + 1 + e = e + 1 by omega]
    have c1 : nI (T 0) ≤ nI k := nI_le (by omega) (by omega)
    have ef : gw_X5_changeReserved_22 (e + 1) h L c x2 x (nI q) (nI k) = h := by rw [gw_X5_changeReserved_22, C.1.1, if_pos c1]
    rw [ef]
    refine ⟨?_, fun p h1 h2 => by omega, fun p hp => rfl, fun t i _ => rfl⟩
    simp [pw_X5_changeReserved_22, C.1.1, c1]
  | succ m ih =>
    intro k e h C hk
    rw [show m + 1 + 1 + e = (m + 1 + e) + 1 by omega]
    have c1 : ¬ nI (T 0) ≤ nI k := nI_ge (by omega) (by omega)
    have v1 : vp_in (nI k) 12 := vp_in_nI (by omega) (by omega)
    have a1 := a_needOf J C hq (show k < T 0 by omega)
    have in1 := a_inside h (show k < 12 by omega) (by omega)
    have e12 : nI 12 = 12 := rfl
    rw [e12] at in1
    have eg : g_X10_addReserved h L (nI k) (x * nI (oa_need T q k)) = hp_i h 49 L k (h.1 49 L k + x * nI (oa_need T q k)) := by
      unfold g_X10_addReserved
      rw [in1.2, if_neg (by decide), nI_clamp (show k < 2 ^ 31 by omega)]
    have pg : p_X10_addReserved h L (nI k) (x * nI (oa_need T q k)) := by
      unfold p_X10_addReserved
      rw [in1.2]
      exact ⟨in1.1, fun z => absurd z (by decide), fun _ => ⟨v1, v1, trivial⟩⟩
    obtain ⟨r1, r2, r3, r4⟩ := ih (k + 1) e (hp_i h 49 L k (h.1 49 L k + x * nI (oa_need T q k))) (C.same (fun t ht i => hp_i_t (by omega)) hp_i_21) (by omega)
    rw [nI_succ] at r1 r2 r3 r4
    have ef : gw_X5_changeReserved_22 ((m + 1 + e) + 1) h L c x2 x (nI q) (nI k) = gw_X5_changeReserved_22 (m + 1 + e) (hp_i h 49 L k (h.1 49 L k + x * nI (oa_need T q k))) L c x2 x (nI q) (nI k + 1) := by
      rw [gw_X5_changeReserved_22, C.1.1, if_neg c1, a1.2, eg]
    rw [ef]
    refine ⟨?_, fun p h1 h2 => ?_, fun p hp => ?_, fun t i hti => ?_⟩
    · rw [pw_X5_changeReserved_22, C.1.1, a1.2, eg]
      exact ⟨fun z => (c1 z).elim, fun _ => ⟨a1.1, pg, r1⟩⟩
    · by_cases z : p = k
      · subst z
        rw [r3 p (by omega), hp_i_g, if_pos rfl]
      · rw [r2 p (by omega) h2, hp_i_g, if_neg z]
    · rw [r3 p (by omega), hp_i_g, if_neg (by omega)]
    · rw [r4 t i hti, hp_i_n hti]
theorem m_hoL {o q : Nat} {x : Int32} (J : IT T) (ho : o < 20) (hq : q < T 1) : ∀ (m k e : Nat) (K : Hp), (∀ k, k < 506 → K.1 56 0 k = nI (T k)) → K.1 58 0 (93 + 8 * o) = nI q → k + m = T 0 →
    pw_X12_holds_10 (m + 1 + e) K (nI o) x (nI k) ∧ (∀ p, k ≤ p → p < T 0 → (gw_X12_holds_10 (m + 1 + e) K (nI o) x (nI k)).1 58 0 (21 + p) = K.1 58 0 (21 + p) + x * nI (oa_need T q p)) ∧ (∀ j, ¬ (21 + k ≤ j ∧ j < 21 + T 0) → (gw_X12_holds_10 (m + 1 + e) K (nI o) x (nI k)).1 58 0 j = K.1 58 0 j) ∧ (∀ t, ¬ t = 58 → (gw_X12_holds_10 (m + 1 + e) K (nI o) x (nI k)).1 t 0 = K.1 t 0) := by
  have bT := J.1
  intro m
  induction m with
  | zero =>
    intro k e K hT hKq hk
    rw [show 0 + 1 + e = e + 1 by omega]
    have k0 := hT 0 (by omega)
    have c1 : nI (T 0) ≤ nI k := nI_le (by omega) (by omega)
    have ef : gw_X12_holds_10 (e + 1) K (nI o) x (nI k) = K := by rw [gw_X12_holds_10, k0, if_pos c1]
    rw [ef]
    refine ⟨?_, fun p h1 h2 => by omega, fun p hp => rfl, fun t _ => rfl⟩
    simp [pw_X12_holds_10, k0, c1]
  | succ m ih =>
    intro k e K hT hKq hk
    rw [show m + 1 + 1 + e = (m + 1 + e) + 1 by omega]
    have k0 := hT 0 (by omega)
    have c1 : ¬ nI (T 0) ≤ nI k := nI_ge (by omega) (by omega)
    have e21 : (21 : Int32) + nI k = nI (21 + k) := nI_add 21 k
    have v1 : vp_in (nI (21 + k)) 301 := vp_in_nI (by omega) (by omega)
    have m1 : p_X12_of K (nI o) 0 ∧ f_X12_of K (nI o) 0 = nI q := by
      have := m_of' (K := K) ho (show 0 < 8 by omega)
      rw [Nat.add_zero, hKq] at this
      exact this
    have a1 := m_needs' hT (show q < 8 by omega) (show k < 12 by omega)
    obtain ⟨r1, r2, r3, r4⟩ := ih (k + 1) e (hp_i K 58 0 (21 + k) (K.1 58 0 (21 + k) + x * nI (oa_need T q k))) (fun j hj => by rw [hp_i_t (by omega)]; exact hT j hj) (by rw [hp_i_g, if_neg (by omega)]; exact hKq) (by omega)
    rw [nI_succ] at r1 r2 r3 r4
    have ef : gw_X12_holds_10 ((m + 1 + e) + 1) K (nI o) x (nI k) = gw_X12_holds_10 (m + 1 + e) (hp_i K 58 0 (21 + k) (K.1 58 0 (21 + k) + x * nI (oa_need T q k))) (nI o) x (nI k + 1) := by
      rw [gw_X12_holds_10, k0, if_neg c1, e21, nI_clamp (show 21 + k < 2 ^ 31 by omega), m1.2, a1.2]
    rw [ef]
    refine ⟨?_, fun p h1 h2 => ?_, fun j hj => ?_, fun t ht => ?_⟩
    · rw [pw_X12_holds_10, k0, e21, nI_clamp (show 21 + k < 2 ^ 31 by omega), m1.2, a1.2]
      exact ⟨fun z => (c1 z).elim, fun _ => ⟨v1, m1.1, a1.1, v1, r1⟩⟩
    · by_cases z : p = k
      · subst z
        rw [r3 (21 + p) (by omega), hp_i_g, if_pos rfl]
      · rw [r2 p (by omega) h2, hp_i_g, if_neg (by omega)]
    · rw [r3 j (by omega), hp_i_g, if_neg (by omega)]
    · rw [r4 t ht, hp_i_t ht]
/-- an order's kept units become y -/
def ob_hold (T w : Nat → Nat) (o y : Nat) (j : Nat) : Nat := if j = 93 + 8 * o + 6 then y else if 21 ≤ j ∧ j < 21 + T 0 then w j - w (93 + 8 * o + 6) * oa_need T (w (93 + 8 * o)) (j - 21) + y * oa_need T (w (93 + 8 * o)) (j - 21) else w j
theorem RW.hold {o y : Nat} {x : Int32} (A : RW h hm T w S n) (ho : o < w 1) (hx : nI (w (93 + 8 * o + 6)) + x = nI y) (hy1 : w (93 + 8 * o + 5) + y ≤ w (93 + 8 * o + 1)) (hy2 : w (93 + 8 * o + 7) = 1 → y = 0)
    (hs : ∀ p, p < T 0 → w (21 + p) - w (93 + 8 * o + 6) * oa_need T (w (93 + 8 * o)) p + y * oa_need T (w (93 + 8 * o)) p ≤ w (9 + p)) :
    p_X5_changeReserved h (h.2.2 11 0 7) (h.2.2 11 0 6) (nI o) x ∧ p_X12_holds hm (nI o) x ∧ RW (g_X5_changeReserved h (h.2.2 11 0 7) (h.2.2 11 0 6) (nI o) x) (g_X12_holds hm (nI o) x) T (ob_hold T w o y) S n ∧ (g_X12_holds hm (nI o) x).1 12 0 = hm.1 12 0 := by
  obtain ⟨⟨J, I, R, C, G⟩, s1, s2, -⟩ := id A
  obtain ⟨⟨i0, i1, i2, i3⟩, i4, i5, i6⟩ := id I
  have bT := J.1
  have io := i6 o ho
  have hq := io.1
  have kp : ∀ p, p < T 0 → w (93 + 8 * o + 6) * oa_need T (w (93 + 8 * o)) p ≤ w (21 + p) := fun p hp => by
    rw [(i4 p (by omega)).2.2 hp]
    exact oa_sum_ge (f := fun o => w (93 + 8 * o + 6) * oa_need T (w (93 + 8 * o)) p) (w 1) 0 (by omega) (by omega)
  have xe : x = nI y - nI (w (93 + 8 * o + 6)) := by rw [← hx]; grind
  have ar : ∀ p, p < T 0 → nI (w (21 + p)) + x * nI (oa_need T (w (93 + 8 * o)) p) = nI (w (21 + p) - w (93 + 8 * o + 6) * oa_need T (w (93 + 8 * o)) p + y * oa_need T (w (93 + 8 * o)) p) := fun p hp => by
    have k1 := kp p hp
    have k2 : nI (w (21 + p)) = nI (w (21 + p) - w (93 + 8 * o + 6) * oa_need T (w (93 + 8 * o)) p) + nI (w (93 + 8 * o + 6)) * nI (oa_need T (w (93 + 8 * o)) p) := by
      rw [oa_mul, nI_add]
      congr 1
      omega
    have k3 : nI (y * oa_need T (w (93 + 8 * o)) p) = nI y * nI (oa_need T (w (93 + 8 * o)) p) := (oa_mul _ _).symm
    rw [← nI_add, k2, k3, xe]
    grind
  have hw : ∀ j, ¬ j = 93 + 8 * o + 6 → ¬ (21 ≤ j ∧ j < 21 + T 0) → ob_hold T w o y j = w j := fun j h1 h2 => by
    unfold ob_hold
    rw [if_neg h1, if_neg h2]
  have h6 : ob_hold T w o y (93 + 8 * o + 6) = y := by unfold ob_hold; rw [if_pos rfl]
  have h21 : ∀ p, p < T 0 → ob_hold T w o y (21 + p) = w (21 + p) - w (93 + 8 * o + 6) * oa_need T (w (93 + 8 * o)) p + y * oa_need T (w (93 + 8 * o)) p := fun p hp => by
    unfold ob_hold
    rw [if_neg (by omega), if_pos (by omega), show 21 + p - 21 = p by omega]
  -- class
  have a1 := a_ord G I ho
  have ao := a_order G I ho
  have vo : vp_in (nI o) 20 := ao.2.2.1
  have ge : g_X6_addReserved h (h.2.2 11 0 7) (nI o) x = hp_i h 42 (h.2.2 11 0 7) o (nI y) := by
    unfold g_X6_addReserved
    rw [ao.1, if_neg (by decide), ao.2.2.2, (G.2.2.2 o ho).2.2.2.2.2.2.1, hx]
  have pe : p_X6_addReserved h (h.2.2 11 0 7) (nI o) x := by
    unfold p_X6_addReserved
    rw [ao.1]
    exact ⟨ao.2.1, fun z => absurd z (by decide), fun _ => ⟨vo, vo, trivial⟩⟩
  obtain ⟨e, he⟩ := oa_fuel (show T 0 < 1000000 by omega)
  obtain ⟨c1, c2, c3, c4⟩ := a_chL (L := h.2.2 11 0 7) (c := h.2.2 11 0 6) (q := w (93 + 8 * o)) (x2 := nI o) (x := x) J hq (T 0) 0 e (hp_i h 42 (h.2.2 11 0 7) o (nI y)) (C.same (fun t ht i => hp_i_t (by omega)) hp_i_21) (by omega)
  rw [← he, nI_0] at c1 c2 c3 c4
  have gC : g_X5_changeReserved h (h.2.2 11 0 7) (h.2.2 11 0 6) (nI o) x = gw_X5_changeReserved_22 oa_N (hp_i h 42 (h.2.2 11 0 7) o (nI y)) (h.2.2 11 0 7) (h.2.2 11 0 6) (nI o) x (nI (w (93 + 8 * o))) 0 := by
    unfold g_X5_changeReserved
    rw [ge, a1.2.2.1.2]
  have pC : p_X5_changeReserved h (h.2.2 11 0 7) (h.2.2 11 0 6) (nI o) x := by
    unfold p_X5_changeReserved
    rw [ge, a1.2.2.1.2]
    exact ⟨a1.2.2.1.1, pe, c1⟩
  -- model
  have e6 : (93 : Int32) + 8 * nI o + 6 = nI (93 + 8 * o + 6) := oa_ix3 93 8 o 6
  have v6 : vp_in (nI (93 + 8 * o + 6)) 301 := vp_in_nI (by omega) (by omega)
  have gm : g_X12_grows hm (nI o) 6 x = hp_i hm 58 0 (93 + 8 * o + 6) (nI y) := by
    unfold g_X12_grows
    rw [e6, nI_clamp (show 93 + 8 * o + 6 < 2 ^ 31 by omega), R.2 _ (by omega) (by omega), hx]
  obtain ⟨d1, d2, d3, d4⟩ := m_hoL (o := o) (q := w (93 + 8 * o)) (x := x) J (by omega) hq (T 0) 0 e (hp_i hm 58 0 (93 + 8 * o + 6) (nI y)) (fun k hk => by rw [hp_i_t (by omega)]; exact R.1 k hk) (by rw [hp_i_g, if_neg (by omega)]; exact R.2 _ (by omega) (by omega)) (by omega)
  rw [← he, nI_0] at d1 d2 d3 d4
  have gM : g_X12_holds hm (nI o) x = gw_X12_holds_10 oa_N (hp_i hm 58 0 (93 + 8 * o + 6) (nI y)) (nI o) x 0 := by
    unfold g_X12_holds
    rw [gm]
  have pM : p_X12_holds hm (nI o) x := by
    unfold p_X12_holds p_X12_grows
    rw [gm, e6]
    exact ⟨⟨v6, v6, trivial⟩, d1⟩
  have hC : ∀ t i, ¬ (t = 49 ∧ i = h.2.2 11 0 7) → ¬ (t = 42 ∧ i = h.2.2 11 0 7) → (g_X5_changeReserved h (h.2.2 11 0 7) (h.2.2 11 0 6) (nI o) x).1 t i = h.1 t i := fun t i z1 z2 => by
    rw [gC, c4 t i z1, hp_i_n z2]
  have h42 : ∀ j, (g_X5_changeReserved h (h.2.2 11 0 7) (h.2.2 11 0 6) (nI o) x).1 42 (h.2.2 11 0 7) j = if j = o then nI y else h.1 42 (h.2.2 11 0 7) j := fun j => by
    rw [gC, c4 42 _ (by omega), hp_i_g]
  have hM : ∀ j, ¬ j = 93 + 8 * o + 6 → ¬ (21 ≤ j ∧ j < 21 + T 0) → (g_X12_holds hm (nI o) x).1 58 0 j = hm.1 58 0 j := fun j z1 z2 => by
    rw [gM, d3 j (by omega), hp_i_g, if_neg z1]
  refine ⟨pC, pM, A.upd (Nat.le_refl _) (fun t i ht hh => hC t i (fun z => hh ⟨by unfold LG; omega, z.2⟩) (fun z => hh ⟨by unfold LG; omega, z.2⟩)) gl_X5_changeReserved gr_X5_changeReserved (fun t ht h58 => by rw [gM, d4 t h58, hp_i_t h58]) (fun k hk => by rw [gM, d4 12 (by omega), hp_i_t (by omega)]) ?_ ?_ ?_ s1 (s2.keep i3 (fun t h1 h2 => hC t _ (by omega) (by omega)) (fun k hk => hM k (by omega) (by omega)) (hw 3 (by omega) (by omega))), ?_⟩
  · refine ⟨⟨?_, ?_, ?_, ?_⟩, fun p hp => ?_, fun k hk => ?_, fun o' ho' => ?_⟩
    · rw [hw 0 (by omega) (by omega)]; exact i0
    · rw [hw 1 (by omega) (by omega)]; exact i1
    · rw [hw 2 (by omega) (by omega)]; exact i2
    · rw [hw 3 (by omega) (by omega)]; exact i3
    · rw [hw (9 + p) (by omega) (by omega)]
      obtain ⟨x1, x2, x3⟩ := i4 p hp
      rw [ob_pend_same (w := w) (hw 2 (by omega) (by omega)) (fun j h1 h2 => hw j (by omega) (by omega)) i2]
      by_cases d : p < T 0
      · rw [h21 p d]
        refine ⟨x1, hs p d, fun _ => ?_⟩
        rw [hw 1 (by omega) (by omega)]
        have s := oa_sum_one (f := fun o => w (93 + 8 * o + 6) * oa_need T (w (93 + 8 * o)) p) (f' := fun o' => ob_hold T w o y (93 + 8 * o' + 6) * oa_need T (ob_hold T w o y (93 + 8 * o')) p) (o := o) (fun j hj => by
          show ob_hold T w o y (93 + 8 * j + 6) * oa_need T (ob_hold T w o y (93 + 8 * j)) p = w (93 + 8 * j + 6) * oa_need T (w (93 + 8 * j)) p
          rw [hw (93 + 8 * j + 6) (by omega) (by omega), hw (93 + 8 * j) (by omega) (by omega)]) (w 1) 0
        rw [if_pos (by omega), if_pos (by omega)] at s
        have s' : oa_sum (fun o' => ob_hold T w o y (93 + 8 * o' + 6) * oa_need T (ob_hold T w o y (93 + 8 * o')) p) 0 (w 1) + w (93 + 8 * o + 6) * oa_need T (w (93 + 8 * o)) p = oa_sum (fun o => w (93 + 8 * o + 6) * oa_need T (w (93 + 8 * o)) p) 0 (w 1) + ob_hold T w o y (93 + 8 * o + 6) * oa_need T (ob_hold T w o y (93 + 8 * o)) p := s
        rw [h6, hw (93 + 8 * o) (by omega) (by omega), ← x3 d] at s'
        have := kp p d
        omega
      · rw [hw (21 + p) (by omega) (by omega)]
        exact ⟨x1, x2, fun z => (d z).elim⟩
    · rw [hw 2 (by omega) (by omega)] at hk
      rw [hw 0 (by omega) (by omega), hw (33 + 3 * k) (by omega) (by omega), hw (33 + 3 * k + 1) (by omega) (by omega), hw (33 + 3 * k + 2) (by omega) (by omega)]
      exact i5 k hk
    · rw [hw 1 (by omega) (by omega)] at ho'
      have q := i6 o' ho'
      rw [hw (93 + 8 * o') (by omega) (by omega), hw (93 + 8 * o' + 1) (by omega) (by omega), hw (93 + 8 * o' + 2) (by omega) (by omega), hw (93 + 8 * o' + 3) (by omega) (by omega), hw (93 + 8 * o' + 4) (by omega) (by omega), hw (93 + 8 * o' + 5) (by omega) (by omega), hw (93 + 8 * o' + 7) (by omega) (by omega)]
      by_cases z : o' = o
      · rw [z, h6]
        rw [z] at q
        exact ⟨q.1, q.2.1, q.2.2.1, q.2.2.2.1, q.2.2.2.2.1, q.2.2.2.2.2.1, hy1, q.2.2.2.2.2.2.2.1, hy2⟩
      · rw [hw (93 + 8 * o' + 6) (by omega) (by omega)]
        exact q
  · intro j h1 h2
    by_cases z : j = 93 + 8 * o + 6
    · rw [z, h6, gM, d3 _ (by omega), hp_i_g, if_pos rfl]
    · by_cases z2 : 21 ≤ j ∧ j < 21 + T 0
      · obtain ⟨p, rfl⟩ : ∃ p, j = 21 + p := ⟨j - 21, by omega⟩
        rw [h21 p (by omega), gM, d2 p (by omega) (by omega), hp_i_g, if_neg z, R.2 _ h1 h2]
        exact ar p (by omega)
      · rw [hM j z z2, hw j z z2]
        exact R.2 j h1 h2
  · obtain ⟨⟨g1, g2, g3⟩, g4, g5, g6⟩ := id G
    refine ⟨⟨?_, ?_, ?_⟩, fun p hp => ⟨?_, ?_⟩, fun k hk => ?_, fun o' ho' => ?_⟩
    · rw [hw 0 (by omega) (by omega), hC 10 _ (by omega) (by omega)]; exact g1
    · rw [hw 1 (by omega) (by omega), hC 6 _ (by omega) (by omega)]; exact g2
    · rw [hw 2 (by omega) (by omega), hC 10 _ (by omega) (by omega)]; exact g3
    · rw [hw (9 + p) (by omega) (by omega), hC 48 _ (by omega) (by omega)]; exact (g4 p hp).1
    · by_cases d : p < T 0
      · rw [h21 p d, gC, c2 p (by omega) d, hp_i_t (by omega), (g4 p hp).2]
        exact ar p d
      · rw [hw (21 + p) (by omega) (by omega), gC, c3 p (by omega), hp_i_t (by omega)]
        exact (g4 p hp).2
    · rw [hw 2 (by omega) (by omega)] at hk
      rw [hw (33 + 3 * k) (by omega) (by omega), hw (33 + 3 * k + 1) (by omega) (by omega), hw (33 + 3 * k + 2) (by omega) (by omega), hC 50 _ (by omega) (by omega), hC 51 _ (by omega) (by omega), hC 52 _ (by omega) (by omega)]
      exact g5 k hk
    · rw [hw 1 (by omega) (by omega)] at ho'
      obtain ⟨b1, b2, b3, b4, b5, b6, b7, b8⟩ := g6 o' ho'
      rw [hw (93 + 8 * o') (by omega) (by omega), hw (93 + 8 * o' + 1) (by omega) (by omega), hw (93 + 8 * o' + 2) (by omega) (by omega), hw (93 + 8 * o' + 3) (by omega) (by omega), hw (93 + 8 * o' + 4) (by omega) (by omega), hw (93 + 8 * o' + 5) (by omega) (by omega), hw (93 + 8 * o' + 7) (by omega) (by omega), hC 36 _ (by omega) (by omega), hC 37 _ (by omega) (by omega), hC 38 _ (by omega) (by omega), hC 39 _ (by omega) (by omega), hC 40 _ (by omega) (by omega), hC 43 _ (by omega) (by omega), hC 41 _ (by omega) (by omega), h42]
      refine ⟨b1, b2, b3, b4, b5, b6, ?_, b8⟩
      by_cases z : o' = o
      · rw [if_pos z, z, h6]
      · rw [if_neg z, hw (93 + 8 * o' + 6) (by omega) (by omega)]
        exact b7
  · rw [gM, d4 12 (by omega), hp_i_t (by omega)]
end RAH
