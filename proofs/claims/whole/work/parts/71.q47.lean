section RAN
variable {h hm h' hm' K : Hp} {c L : Nat} {T w w' : Nat → Nat} {n n' S : Nat}
def ob_ship (T w : Nat → Nat) (o l : Nat) (M : Hp) (j : Nat) : Nat := if 253 ≤ j then (M.1 58 0 j).toBitVec.toNat else if j = 93 + 8 * o + 6 then 0 else if j = 93 + 8 * o + 5 then w j + w (93 + 8 * o + 6) else if 21 ≤ j ∧ j < 21 + T 0 then w j - w (93 + 8 * o + 6) * oa_need T (w (93 + 8 * o)) (j - 21) else if 9 ≤ j ∧ j < 9 + T 0 then w j - w (93 + 8 * o + 6) * oa_need T (w (93 + 8 * o)) (j - 9) else if j = 3 then l else w j
theorem RW.ship {o : Nat} (A : RW h hm T w S n) (hn : n < 512) (ho : o < w 1) (hu : 0 < w (93 + 8 * o + 6)) :
    p_X5_sendReserved h (h.2.2 11 0 7) (h.2.2 11 0 6) (nI o) ∧ f_X5_sendReserved h (h.2.2 11 0 7) (h.2.2 11 0 6) (nI o) = nI (w (93 + 8 * o + 6)) ∧
    p_X12_holds hm (nI o) (-nI (w (93 + 8 * o + 6))) ∧ p_X12_grows (g_X12_holds hm (nI o) (-nI (w (93 + 8 * o + 6)))) (nI o) 5 (nI (w (93 + 8 * o + 6))) ∧ pw_X12_ship_66 oa_N (g_X12_grows (g_X12_holds hm (nI o) (-nI (w (93 + 8 * o + 6)))) (nI o) 5 (nI (w (93 + 8 * o + 6)))) (nI o) (nI (w (93 + 8 * o + 6))) 0 ∧
    fw_X12_ship_66 oa_N (g_X12_grows (g_X12_holds hm (nI o) (-nI (w (93 + 8 * o + 6)))) (nI o) 5 (nI (w (93 + 8 * o + 6)))) (nI o) (nI (w (93 + 8 * o + 6))) 0 = nI (w (93 + 8 * o + 6)) ∧
    (∃ w' S', RW (g_X5_sendReserved h (h.2.2 11 0 7) (h.2.2 11 0 6) (nI o)) (gw_X12_ship_66 oa_N (g_X12_grows (g_X12_holds hm (nI o) (-nI (w (93 + 8 * o + 6)))) (nI o) 5 (nI (w (93 + 8 * o + 6)))) (nI o) (nI (w (93 + 8 * o + 6))) 0) T w' S' (n + 1)) ∧
    (gw_X12_ship_66 oa_N (g_X12_grows (g_X12_holds hm (nI o) (-nI (w (93 + 8 * o + 6)))) (nI o) 5 (nI (w (93 + 8 * o + 6)))) (nI o) (nI (w (93 + 8 * o + 6))) 0).1 12 0 = hm.1 12 0 := by
  obtain ⟨⟨J, I, R, C, G⟩, s1, s2, -⟩ := id A
  obtain ⟨⟨i0, i1, i2, i3⟩, i4, i5, i6⟩ := id I
  obtain ⟨⟨g1, g2, g3⟩, g4, g5, g6⟩ := id G
  have bT := J.1
  have io := i6 o ho
  have hq := io.1
  obtain ⟨x36, x37, x38, x39, x40, x43, x42, x41⟩ := g6 o ho
  have a1 := a_ord G I ho
  obtain ⟨u, eu⟩ : ∃ u, u = w (93 + 8 * o + 6) := ⟨_, rfl⟩
  obtain ⟨q, eq⟩ : ∃ q, q = w (93 + 8 * o) := ⟨_, rfl⟩
  rw [← eu] at hu a1 x42 io ⊢
  rw [← eq] at hq a1 x36 io
  have kp : ∀ p, p < T 0 → u * oa_need T q p ≤ w (21 + p) := fun p hp => by
    rw [(i4 p (by omega)).2.2 hp, eu, eq]
    exact oa_sum_ge (f := fun o => w (93 + 8 * o + 6) * oa_need T (w (93 + 8 * o)) p) (w 1) 0 (by omega) (by omega)
  obtain ⟨e, he⟩ := oa_fuel (show T 0 < 1000000 by omega)
  -- class
  obtain ⟨H, r1, r2, r3, r4, r5, r6, r7⟩ := a_sendL (L := h.2.2 11 0 7) (c := h.2.2 11 0 6) (q := q) (x2 := nI o) (x4 := nI u) J hq (T 0) 0 e h C (by omega)
  rw [← he, nI_0] at r1 r2 r3
  have CH : RC H (h.2.2 11 0 6) T := C.same (fun t ht i => r6 t i (by omega)) r7
  obtain ⟨b1, b2, b3, b4, b5⟩ := a_change (L := h.2.2 11 0 7) (o := o) (q := q) (N := w 1) (x := -nI u) J CH (by rw [r6 6 _ (by omega)]; exact g2) ho i1 hq (by rw [r6 36 _ (by omega)]; exact x36)
  have in1 := a_inside (g_X5_changeReserved H (h.2.2 11 0 7) (h.2.2 11 0 6) (nI o) (-nI u)) ho (by omega)
  have f6 : (g_X5_changeReserved H (h.2.2 11 0 7) (h.2.2 11 0 6) (nI o) (-nI u)).1 6 (h.2.2 11 0 7) 0 = nI (w 1) := by rw [b5 6 _ (by omega) (by omega), r6 6 _ (by omega)]; exact g2
  have vo : vp_in (nI o) 20 := vp_in_nI (by omega) (by omega)
  have f43 : ∀ j, (g_X5_changeReserved H (h.2.2 11 0 7) (h.2.2 11 0 6) (nI o) (-nI u)).1 43 (h.2.2 11 0 7) j = h.1 43 (h.2.2 11 0 7) j := fun j => by rw [b5 43 _ (by omega) (by omega), r6 43 _ (by omega)]
  have eX : ob_sent H (h.2.2 11 0 7) (h.2.2 11 0 6) (nI o) (nI u) = hp_i (g_X5_changeReserved H (h.2.2 11 0 7) (h.2.2 11 0 6) (nI o) (-nI u)) 43 (h.2.2 11 0 7) o (nI (w (93 + 8 * o + 5) + u)) := by
    unfold ob_sent g_X6_addShipped
    rw [f6, in1.2, if_neg (by decide), nI_clamp (show o < 2 ^ 31 by omega), f43, x43, nI_add]
  have pX : p_X6_addShipped (g_X5_changeReserved H (h.2.2 11 0 7) (h.2.2 11 0 6) (nI o) (-nI u)) (h.2.2 11 0 7) (nI o) (nI u) := by
    unfold p_X6_addShipped
    rw [f6, in1.2]
    exact ⟨in1.1, fun z => absurd z (by decide), fun _ => ⟨vo, vo, trivial⟩⟩
  rw [eX] at r1 r3
  have cX : ∀ t i, ¬ (t = 49 ∧ i = h.2.2 11 0 7) → ¬ (t = 42 ∧ i = h.2.2 11 0 7) → ¬ (t = 48 ∧ i = h.2.2 11 0 7) → ¬ (t = 43 ∧ i = h.2.2 11 0 7) → (hp_i (g_X5_changeReserved H (h.2.2 11 0 7) (h.2.2 11 0 6) (nI o) (-nI u)) 43 (h.2.2 11 0 7) o (nI (w (93 + 8 * o + 5) + u))).1 t i = h.1 t i := fun t i z1 z2 z3 z4 => by rw [hp_i_n z4, b5 t i z1 z2, r6 t i z3]
  have X49 : ∀ p, p < 12 → (hp_i (g_X5_changeReserved H (h.2.2 11 0 7) (h.2.2 11 0 6) (nI o) (-nI u)) 43 (h.2.2 11 0 7) o (nI (w (93 + 8 * o + 5) + u))).1 49 (h.2.2 11 0 7) p = if p < T 0 then nI (w (21 + p) - u * oa_need T q p) else nI (w (21 + p)) := fun p hp => by
    rw [hp_i_t (by omega)]
    by_cases z : p < T 0
    · rw [if_pos z, b2 p z, r6 49 _ (by omega), (g4 p hp).2, ← oa_sub (kp p z), ← oa_mul]
      grind
    · rw [if_neg z, b3 p (by omega), r6 49 _ (by omega), (g4 p hp).2]
  have X48 : ∀ p, p < 12 → (hp_i (g_X5_changeReserved H (h.2.2 11 0 7) (h.2.2 11 0 6) (nI o) (-nI u)) 43 (h.2.2 11 0 7) o (nI (w (93 + 8 * o + 5) + u))).1 48 (h.2.2 11 0 7) p = if p < T 0 then nI (w (9 + p) - u * oa_need T q p) else nI (w (9 + p)) := fun p hp => by
    rw [hp_i_t (by omega), b5 48 _ (by omega) (by omega)]
    by_cases z : p < T 0
    · have := kp p z
      have := (i4 p hp).2.1
      rw [if_pos z, r4 p (by omega) z, (g4 p hp).1, oa_mul, oa_sub (by omega)]
    · rw [if_neg z, r5 p (by omega), (g4 p hp).1]
  have X42 : ∀ j, (hp_i (g_X5_changeReserved H (h.2.2 11 0 7) (h.2.2 11 0 6) (nI o) (-nI u)) 43 (h.2.2 11 0 7) o (nI (w (93 + 8 * o + 5) + u))).1 42 (h.2.2 11 0 7) j = if j = o then nI 0 else h.1 42 (h.2.2 11 0 7) j := fun j => by
    rw [hp_i_t (by omega), b4 j, r6 42 _ (by omega)]
    by_cases z : j = o
    · rw [if_pos z, if_pos z, x42, nI_0]; grind
    · rw [if_neg z, if_neg z]
  have X43 : ∀ j, (hp_i (g_X5_changeReserved H (h.2.2 11 0 7) (h.2.2 11 0 6) (nI o) (-nI u)) 43 (h.2.2 11 0 7) o (nI (w (93 + 8 * o + 5) + u))).1 43 (h.2.2 11 0 7) j = if j = o then nI (w (93 + 8 * o + 5) + u) else h.1 43 (h.2.2 11 0 7) j := fun j => by
    rw [hp_i_g, f43]
  generalize hX : hp_i (g_X5_changeReserved H (h.2.2 11 0 7) (h.2.2 11 0 6) (nI o) (-nI u)) 43 (h.2.2 11 0 7) o (nI (w (93 + 8 * o + 5) + u)) = X at *
  have X10 : X.1 10 (h.2.2 11 0 7) 0 = nI (w 0) := by rw [cX 10 _ (by omega) (by omega) (by omega) (by omega)]; exact g1
  have inX := a_inside X ho (by omega)
  have Xd : p_X6_dueOf X (h.2.2 11 0 7) (nI o) ∧ f_X6_dueOf X (h.2.2 11 0 7) (nI o) = nI (w (93 + 8 * o + 3)) := by
    have x6 : X.1 6 (h.2.2 11 0 7) 0 = nI (w 1) := by rw [cX 6 _ (by omega) (by omega) (by omega) (by omega)]; exact g2
    have x39' : X.1 39 (h.2.2 11 0 7) o = nI (w (93 + 8 * o + 3)) := by rw [cX 39 _ (by omega) (by omega) (by omega) (by omega)]; exact x39
    refine ⟨?_, ?_⟩
    · simp [p_X6_dueOf, x6, inX, vo]
    · simp [f_X6_dueOf, x6, inX, nI_clamp (show o < 2 ^ 31 by omega), x39']
  obtain ⟨t1, t2, t3, t4⟩ := id s2
  have X44 : X.1 44 (h.2.2 11 0 7) = h.1 44 (h.2.2 11 0 7) := cX 44 _ (by omega) (by omega) (by omega) (by omega)
  have X440 : X.1 44 (h.2.2 11 0 7) 0 = nI S := by rw [X44]; exact (t1 0 (by omega)).trans t2
  have fm := k_mod X (a := S) (b := 16) (by omega) (by omega) (by omega)
  have e16 : nI 16 = 16 := rfl
  rw [e16] at fm
  have ml : S % 16 < 16 := Nat.mod_lt _ (by omega)
  have vS : vp_in (nI (S % 16)) 16 := vp_in_nI ml (by omega)
  have pS : p_X8_addShipment X (h.2.2 11 0 7) (nI o) (nI u) (nI (w 0)) (nI (w (93 + 8 * o + 3))) := by
    unfold p_X8_addShipment
    rw [X440, fm.2]
    exact ⟨fm.1, vS, vS, vS, trivial⟩
  rw [X10, Xd.2] at r1 r3
  have sC : g_X5_sendReserved h (h.2.2 11 0 7) (h.2.2 11 0 6) (nI o) = g_X8_addShipment X (h.2.2 11 0 7) (nI o) (nI u) (nI (w 0)) (nI (w (93 + 8 * o + 3))) := by
    unfold g_X5_sendReserved
    rw [a1.2.2.1.2, a1.1.2]
    exact r3
  have lle : (nI (w 0) ≤ nI (w (93 + 8 * o + 3))) ↔ w 0 ≤ w (93 + 8 * o + 3) := nI_leI (by omega) (by omega)
  have D44 : ∀ k, (g_X8_addShipment X (h.2.2 11 0 7) (nI o) (nI u) (nI (w 0)) (nI (w (93 + 8 * o + 3)))).1 44 (h.2.2 11 0 7) k = if k = 3 then h.1 44 (h.2.2 11 0 7) 3 + nI (w 0 - w (93 + 8 * o + 3)) * nI u else if k = 2 then h.1 44 (h.2.2 11 0 7) 2 + (if w 0 ≤ w (93 + 8 * o + 3) then 0 else nI u) else if k = 1 then h.1 44 (h.2.2 11 0 7) 1 + nI u else if k = 0 then h.1 44 (h.2.2 11 0 7) 0 + 1 else h.1 44 (h.2.2 11 0 7) k := fun k => by
    unfold g_X8_addShipment
    simp only [lle, hp_i_t (show ¬ 44 = 47 by omega), hp_i_t (show ¬ 44 = 46 by omega), hp_i_t (show ¬ 44 = 45 by omega)]
    by_cases z : w 0 ≤ w (93 + 8 * o + 3)
    · rw [if_pos z, if_pos z, show w 0 - w (93 + 8 * o + 3) = 0 by omega, nI_0]
      simp only [hp_i_g, hp_i_t (show ¬ 44 = 47 by omega), hp_i_t (show ¬ 44 = 46 by omega), hp_i_t (show ¬ 44 = 45 by omega), X44]
      have y1 : ∀ a : Int32, a + 0 * nI u = a := fun a => by grind
      have y2 : ∀ a : Int32, a + 0 = a := fun a => by grind
      rw [y1, y2]
      by_cases k3 : k = 3
      · subst k3; simp
      · by_cases k2 : k = 2
        · subst k2; simp
        · simp [k3, k2]
    · rw [if_neg z, if_neg z, oa_sub (show w (93 + 8 * o + 3) ≤ w 0 by omega)]
      simp only [hp_i_g, hp_i_t (show ¬ 44 = 47 by omega), hp_i_t (show ¬ 44 = 46 by omega), hp_i_t (show ¬ 44 = 45 by omega), X44]
      have y : nI u * nI (w 0 - w (93 + 8 * o + 3)) = nI (w 0 - w (93 + 8 * o + 3)) * nI u := by grind
      rw [y]
      simp
  have D45 : ∀ k, (g_X8_addShipment X (h.2.2 11 0 7) (nI o) (nI u) (nI (w 0)) (nI (w (93 + 8 * o + 3)))).1 45 (h.2.2 11 0 7) k = (if k = S % 16 then nI o else h.1 45 (h.2.2 11 0 7) k) ∧ (g_X8_addShipment X (h.2.2 11 0 7) (nI o) (nI u) (nI (w 0)) (nI (w (93 + 8 * o + 3)))).1 46 (h.2.2 11 0 7) k = (if k = S % 16 then nI u else h.1 46 (h.2.2 11 0 7) k) ∧ (g_X8_addShipment X (h.2.2 11 0 7) (nI o) (nI u) (nI (w 0)) (nI (w (93 + 8 * o + 3)))).1 47 (h.2.2 11 0 7) k = (if k = S % 16 then nI (w 0) else h.1 47 (h.2.2 11 0 7) k) := fun k => by
    have c45 : X.1 45 (h.2.2 11 0 7) = h.1 45 (h.2.2 11 0 7) := cX 45 _ (by omega) (by omega) (by omega) (by omega)
    have c46 : X.1 46 (h.2.2 11 0 7) = h.1 46 (h.2.2 11 0 7) := cX 46 _ (by omega) (by omega) (by omega) (by omega)
    have c47 : X.1 47 (h.2.2 11 0 7) = h.1 47 (h.2.2 11 0 7) := cX 47 _ (by omega) (by omega) (by omega) (by omega)
    unfold g_X8_addShipment
    simp only [X440, fm.2, nI_clamp (show S % 16 < 2 ^ 31 by omega)]
    by_cases z : nI (w 0) ≤ nI (w (93 + 8 * o + 3))
    · rw [if_pos z]
      simp [hp_i_t, hp_i_g, c45, c46, c47]
    · rw [if_neg z]
      simp [hp_i_t, hp_i_g, c45, c46, c47]
  have DF : ∀ t i, ¬ (44 ≤ t ∧ t ≤ 47 ∧ i = h.2.2 11 0 7) → (g_X8_addShipment X (h.2.2 11 0 7) (nI o) (nI u) (nI (w 0)) (nI (w (93 + 8 * o + 3)))).1 t i = X.1 t i := fun t i z => fr_X8_addShipment (by omega) (by omega) (by omega) (by omega)
  -- model
  obtain ⟨m1, m2, m3, m4, m5⟩ := m_hold (K := hm) (o := o) (q := q) (x := -nI u) J R.1 (by omega) hq (by rw [eq]; exact R.2 _ (by omega) (by omega))
  have e5 : (93 : Int32) + 8 * nI o + 5 = nI (93 + 8 * o + 5) := oa_ix3 93 8 o 5
  have v5 : vp_in (nI (93 + 8 * o + 5)) 301 := vp_in_nI (by omega) (by omega)
  have M6 : (g_X12_holds hm (nI o) (-nI u)).1 58 0 (93 + 8 * o + 6) = nI 0 := by
    rw [m3, R.2 _ (by omega) (by omega), ← eu, nI_0]
    grind
  have M21 : ∀ p, p < T 0 → (g_X12_holds hm (nI o) (-nI u)).1 58 0 (21 + p) = nI (w (21 + p) - u * oa_need T q p) := fun p hp => by
    rw [m2 p hp, R.2 _ (by omega) (by omega), ← oa_sub (kp p hp), ← oa_mul]
    grind
  have eg : g_X12_grows (g_X12_holds hm (nI o) (-nI u)) (nI o) 5 (nI u) = hp_i (g_X12_holds hm (nI o) (-nI u)) 58 0 (93 + 8 * o + 5) (nI (w (93 + 8 * o + 5) + u)) := by
    unfold g_X12_grows
    rw [e5, nI_clamp (show 93 + 8 * o + 5 < 2 ^ 31 by omega), m4 _ (by omega) (by omega), R.2 _ (by omega) (by omega), nI_add]
  have pg : p_X12_grows (g_X12_holds hm (nI o) (-nI u)) (nI o) 5 (nI u) := by
    unfold p_X12_grows
    rw [e5]
    exact ⟨v5, v5, trivial⟩
  obtain ⟨Z, n1, n2, n3, n4, n5, n6⟩ := m_shipL (o := o) (q := q) (x := nI u) J (by omega) hq (T 0) 0 e (hp_i (g_X12_holds hm (nI o) (-nI u)) 58 0 (93 + 8 * o + 5) (nI (w (93 + 8 * o + 5) + u))) (fun k hk => by rw [hp_i_t (by omega), m5 56 (by omega)]; exact R.1 k hk) (by rw [hp_i_g, if_neg (by omega), m4 _ (by omega) (by omega), eq]; exact R.2 _ (by omega) (by omega)) (by omega)
  rw [← he, nI_0, ← eg] at n1 n2 n3
  have Zc : ∀ j, ¬ j = 93 + 8 * o + 6 → ¬ j = 93 + 8 * o + 5 → ¬ (21 ≤ j ∧ j < 21 + T 0) → ¬ (9 ≤ j ∧ j < 9 + T 0) → Z.1 58 0 j = hm.1 58 0 j := fun j z1 z2 z3 z4 => by rw [n5 j (by omega), hp_i_g, if_neg z2, m4 j z1 z3]
  have Z6 : Z.1 58 0 (93 + 8 * o + 6) = nI 0 := by rw [n5 _ (by omega), hp_i_g, if_neg (by omega)]; exact M6
  have Z5 : Z.1 58 0 (93 + 8 * o + 5) = nI (w (93 + 8 * o + 5) + u) := by rw [n5 _ (by omega), hp_i_g, if_pos rfl]
  have Z21 : ∀ p, p < T 0 → Z.1 58 0 (21 + p) = nI (w (21 + p) - u * oa_need T q p) := fun p hp => by rw [n5 _ (by omega), hp_i_g, if_neg (by omega)]; exact M21 p hp
  have Z9 : ∀ p, p < T 0 → Z.1 58 0 (9 + p) = nI (w (9 + p) - u * oa_need T q p) := fun p hp => by
    have := kp p hp
    have := (i4 p (by omega)).2.1
    rw [n4 p (by omega) hp, hp_i_g, if_neg (by omega), m4 _ (by omega) (by omega), R.2 _ (by omega) (by omega), oa_mul, oa_sub (by omega)]
  have Z0 : Z.1 58 0 0 = nI (w 0) := by rw [Zc 0 (by omega) (by omega) (by omega) (by omega)]; exact R.2 0 (by omega) (by omega)
  have Z3 : Z.1 58 0 (93 + 8 * o + 3) = nI (w (93 + 8 * o + 3)) := by rw [Zc _ (by omega) (by omega) (by omega) (by omega)]; exact R.2 _ (by omega) (by omega)
  obtain ⟨y1, y2⟩ := ob_tot_c (K := Z) (o := o) (x2 := nI u) (by omega) Z0 Z3 (by omega) (by omega)
  have y' : ∀ j, ¬ (4 ≤ j ∧ j ≤ 7) → (ob_tot Z (nI o) (nI u)).1 58 0 j = Z.1 58 0 j := fun j hj => by rw [y1, if_neg (by omega), if_neg (by omega), if_neg (by omega), if_neg (by omega)]
  obtain ⟨l1, c, l2, l3, l4, l5, l6, l7, l8, l9, l10⟩ := m_logs (K := ob_tot Z (nI o) (nI u)) (l := w 3) (d := w 0) (x1 := nI o) (x2 := nI u) i3 (by rw [y' 3 (by omega), Zc 3 (by omega) (by omega) (by omega) (by omega)]; exact R.2 3 (by omega) (by omega)) (by rw [y' 0 (by omega)]; exact Z0)
  have pof : p_X12_of Z (nI o) 3 := (m_of' (K := Z) (show o < 20 by omega) (show 3 < 8 by omega)).1
  rw [n3]
  generalize hM : g_X12_logs (ob_tot Z (nI o) (nI u)) (nI o) (nI u) = M at *
  -- w'
  have w253 : ∀ j, 253 ≤ j → ob_ship T w o (c + 1) M j = (M.1 58 0 j).toBitVec.toNat := fun j hj => by unfold ob_ship; rw [if_pos hj]
  have ww : ∀ j, j < 253 → ¬ j = 93 + 8 * o + 6 → ¬ j = 93 + 8 * o + 5 → ¬ (21 ≤ j ∧ j < 21 + T 0) → ¬ (9 ≤ j ∧ j < 9 + T 0) → ¬ j = 3 → ob_ship T w o (c + 1) M j = w j := fun j z0 z1 z2 z3 z4 z5 => by unfold ob_ship; rw [if_neg (by omega), if_neg z1, if_neg z2, if_neg z3, if_neg z4, if_neg z5]
  have w6 : ob_ship T w o (c + 1) M (93 + 8 * o + 6) = 0 := by unfold ob_ship; rw [if_neg (by omega), if_pos rfl]
  have w5 : ob_ship T w o (c + 1) M (93 + 8 * o + 5) = w (93 + 8 * o + 5) + u := by unfold ob_ship; rw [if_neg (by omega), if_neg (by omega), if_pos rfl, ← eu]
  have w21 : ∀ p, p < T 0 → ob_ship T w o (c + 1) M (21 + p) = w (21 + p) - u * oa_need T q p := fun p hp => by unfold ob_ship; rw [if_neg (by omega), if_neg (by omega), if_neg (by omega), if_pos (by omega), show 21 + p - 21 = p by omega, ← eu, ← eq]
  have w9 : ∀ p, p < T 0 → ob_ship T w o (c + 1) M (9 + p) = w (9 + p) - u * oa_need T q p := fun p hp => by unfold ob_ship; rw [if_neg (by omega), if_neg (by omega), if_neg (by omega), if_neg (by omega), if_pos (by omega), show 9 + p - 9 = p by omega, ← eu, ← eq]
  have w3 : ob_ship T w o (c + 1) M 3 = c + 1 := by unfold ob_ship; rw [if_neg (by omega), if_neg (by omega), if_neg (by omega), if_neg (by omega), if_neg (by omega), if_pos rfl]
  refine ⟨?_, ?_, m1, pg, n1 pof l1, n2, ⟨ob_ship T w o (c + 1) M, S + 1, A.upd (by omega) (fun t i ht hh => ?_) gl_X5_sendReserved gr_X5_sendReserved (fun t ht h58 => ?_) (fun k hk => ?_) ?_ (fun j h1 h2 => ?_) ?_ (by omega) ?_⟩, ?_⟩
  · unfold p_X5_sendReserved
    rw [a1.2.2.1.2, a1.1.2]
    exact ⟨a1.2.2.1.1, a1.1.1, r1 b1 pX Xd.1 pS⟩
  · unfold f_X5_sendReserved
    rw [a1.2.2.1.2, a1.1.2]
    exact r2
  · have z : ¬ (LG t ∧ i = h.2.2 11 0 7) := hh
    unfold LG at z
    rw [sC, DF t i (by omega), cX t i (by omega) (by omega) (by omega) (by omega)]
  · rw [l10 t h58, y2 t h58, n6 t h58, hp_i_t h58, m5 t h58]
  · rw [l10 12 (by omega), y2 12 (by omega), n6 12 (by omega), hp_i_t (by omega), m5 12 (by omega)]
  · refine ⟨⟨?_, ?_, ?_, ?_⟩, fun p hp => ?_, fun k hk => ?_, fun o' ho' => ?_⟩
    · rw [ww 0 (by omega) (by omega) (by omega) (by omega) (by omega) (by omega)]; omega
    · rw [ww 1 (by omega) (by omega) (by omega) (by omega) (by omega) (by omega)]; exact i1
    · rw [ww 2 (by omega) (by omega) (by omega) (by omega) (by omega) (by omega)]; exact i2
    · rw [w3]; omega
    · obtain ⟨p1, p2, p3⟩ := i4 p hp
      rw [ob_pend_same (w := w) (ww 2 (by omega) (by omega) (by omega) (by omega) (by omega) (by omega)) (fun j h1 h2 => ww j (by omega) (by omega) (by omega) (by omega) (by omega) (by omega)) i2]
      by_cases z : p < T 0
      · rw [w9 p z, w21 p z]
        refine ⟨by omega, by omega, fun _ => ?_⟩
        rw [ww 1 (by omega) (by omega) (by omega) (by omega) (by omega) (by omega)]
        have s := oa_sum_one (f := fun o => w (93 + 8 * o + 6) * oa_need T (w (93 + 8 * o)) p) (f' := fun o' => if o' = o then 0 else w (93 + 8 * o' + 6) * oa_need T (w (93 + 8 * o')) p) (o := o) (fun j hj => by simp [hj]) (w 1) 0
        rw [if_pos (by omega), if_pos (by omega)] at s
        have s' : oa_sum (fun o' => if o' = o then 0 else w (93 + 8 * o' + 6) * oa_need T (w (93 + 8 * o')) p) 0 (w 1) + w (93 + 8 * o + 6) * oa_need T (w (93 + 8 * o)) p = oa_sum (fun o => w (93 + 8 * o + 6) * oa_need T (w (93 + 8 * o)) p) 0 (w 1) + (if o = o then 0 else w (93 + 8 * o + 6) * oa_need T (w (93 + 8 * o)) p) := s
        rw [if_pos rfl, ← p3 z, ← eu, ← eq] at s'
        have s2 : oa_sum (fun o' => ob_ship T w o (c + 1) M (93 + 8 * o' + 6) * oa_need T (ob_ship T w o (c + 1) M (93 + 8 * o')) p) 0 (w 1) = oa_sum (fun o' => if o' = o then 0 else w (93 + 8 * o' + 6) * oa_need T (w (93 + 8 * o')) p) 0 (w 1) := oa_sum_congr _ _ (fun j _ hj => by
          by_cases y : j = o
          · rw [if_pos y, y, w6, Nat.zero_mul]
          · rw [if_neg y, ww (93 + 8 * j + 6) (by omega) (by omega) (by omega) (by omega) (by omega) (by omega), ww (93 + 8 * j) (by omega) (by omega) (by omega) (by omega) (by omega) (by omega)])
        rw [s2]
        omega
      · rw [ww (9 + p) (by omega) (by omega) (by omega) (by omega) (by omega) (by omega), ww (21 + p) (by omega) (by omega) (by omega) (by omega) (by omega) (by omega)]
        exact ⟨by omega, p2, fun y => (z y).elim⟩
    · rw [ww 2 (by omega) (by omega) (by omega) (by omega) (by omega) (by omega)] at hk
      rw [ww 0 (by omega) (by omega) (by omega) (by omega) (by omega) (by omega), ww (33 + 3 * k) (by omega) (by omega) (by omega) (by omega) (by omega) (by omega), ww (33 + 3 * k + 1) (by omega) (by omega) (by omega) (by omega) (by omega) (by omega), ww (33 + 3 * k + 2) (by omega) (by omega) (by omega) (by omega) (by omega) (by omega)]
      have := i5 k hk
      omega
    · rw [ww 1 (by omega) (by omega) (by omega) (by omega) (by omega) (by omega)] at ho'
      have y := i6 o' ho'
      rw [ww (93 + 8 * o') (by omega) (by omega) (by omega) (by omega) (by omega) (by omega), ww (93 + 8 * o' + 1) (by omega) (by omega) (by omega) (by omega) (by omega) (by omega), ww (93 + 8 * o' + 2) (by omega) (by omega) (by omega) (by omega) (by omega) (by omega), ww (93 + 8 * o' + 3) (by omega) (by omega) (by omega) (by omega) (by omega) (by omega), ww (93 + 8 * o' + 4) (by omega) (by omega) (by omega) (by omega) (by omega) (by omega), ww (93 + 8 * o' + 7) (by omega) (by omega) (by omega) (by omega) (by omega) (by omega)]
      by_cases z : o' = o
      · rw [z, w5, w6]
        rw [z] at y
        omega
      · rw [ww (93 + 8 * o' + 5) (by omega) (by omega) (by omega) (by omega) (by omega) (by omega), ww (93 + 8 * o' + 6) (by omega) (by omega) (by omega) (by omega) (by omega) (by omega)]
        exact y
  · by_cases z0 : 253 ≤ j
    · rw [w253 j z0]; exact ob_any _
    · by_cases z3 : j = 3
      · rw [z3, w3, l4]
      · rw [l9 j (by omega) z3, y' j (by omega)]
        by_cases z6 : j = 93 + 8 * o + 6
        · rw [z6, w6, Z6]
        · by_cases z5 : j = 93 + 8 * o + 5
          · rw [z5, w5, Z5]
          · by_cases z21 : 21 ≤ j ∧ j < 21 + T 0
            · obtain ⟨p, rfl⟩ : ∃ p, j = 21 + p := ⟨j - 21, by omega⟩
              rw [w21 p (by omega), Z21 p (by omega)]
            · by_cases z9 : 9 ≤ j ∧ j < 9 + T 0
              · obtain ⟨p, rfl⟩ : ∃ p, j = 9 + p := ⟨j - 9, by omega⟩
                rw [w9 p (by omega), Z9 p (by omega)]
              · rw [ww j (by omega) z6 z5 z21 z9 z3, Zc j z6 z5 z21 z9]
                exact R.2 j h1 h2
  · rw [sC]
    refine ⟨⟨?_, ?_, ?_⟩, fun p hp => ⟨?_, ?_⟩, fun k hk => ?_, fun o' ho' => ?_⟩
    · rw [ww 0 (by omega) (by omega) (by omega) (by omega) (by omega) (by omega), DF 10 _ (by omega)]; exact X10
    · rw [ww 1 (by omega) (by omega) (by omega) (by omega) (by omega) (by omega), DF 6 _ (by omega), cX 6 _ (by omega) (by omega) (by omega) (by omega)]; exact g2
    · rw [ww 2 (by omega) (by omega) (by omega) (by omega) (by omega) (by omega), DF 10 _ (by omega), cX 10 _ (by omega) (by omega) (by omega) (by omega)]; exact g3
    · rw [DF 48 _ (by omega), X48 p hp]
      by_cases z : p < T 0
      · rw [if_pos z, w9 p z]
      · rw [if_neg z, ww (9 + p) (by omega) (by omega) (by omega) (by omega) (by omega) (by omega)]
    · rw [DF 49 _ (by omega), X49 p hp]
      by_cases z : p < T 0
      · rw [if_pos z, w21 p z]
      · rw [if_neg z, ww (21 + p) (by omega) (by omega) (by omega) (by omega) (by omega) (by omega)]
    · rw [ww 2 (by omega) (by omega) (by omega) (by omega) (by omega) (by omega)] at hk
      rw [ww (33 + 3 * k) (by omega) (by omega) (by omega) (by omega) (by omega) (by omega), ww (33 + 3 * k + 1) (by omega) (by omega) (by omega) (by omega) (by omega) (by omega), ww (33 + 3 * k + 2) (by omega) (by omega) (by omega) (by omega) (by omega) (by omega), DF 50 _ (by omega), DF 51 _ (by omega), DF 52 _ (by omega), cX 50 _ (by omega) (by omega) (by omega) (by omega), cX 51 _ (by omega) (by omega) (by omega) (by omega), cX 52 _ (by omega) (by omega) (by omega) (by omega)]
      exact g5 k hk
    · rw [ww 1 (by omega) (by omega) (by omega) (by omega) (by omega) (by omega)] at ho'
      obtain ⟨c1, c2, c3, c4, c5, c6, c7, c8⟩ := g6 o' ho'
      rw [ww (93 + 8 * o') (by omega) (by omega) (by omega) (by omega) (by omega) (by omega), ww (93 + 8 * o' + 1) (by omega) (by omega) (by omega) (by omega) (by omega) (by omega), ww (93 + 8 * o' + 2) (by omega) (by omega) (by omega) (by omega) (by omega) (by omega), ww (93 + 8 * o' + 3) (by omega) (by omega) (by omega) (by omega) (by omega) (by omega), ww (93 + 8 * o' + 4) (by omega) (by omega) (by omega) (by omega) (by omega) (by omega), ww (93 + 8 * o' + 7) (by omega) (by omega) (by omega) (by omega) (by omega) (by omega), DF 36 _ (by omega), DF 37 _ (by omega), DF 38 _ (by omega), DF 39 _ (by omega), DF 40 _ (by omega), DF 43 _ (by omega), DF 42 _ (by omega), DF 41 _ (by omega), cX 36 _ (by omega) (by omega) (by omega) (by omega), cX 37 _ (by omega) (by omega) (by omega) (by omega), cX 38 _ (by omega) (by omega) (by omega) (by omega), cX 39 _ (by omega) (by omega) (by omega) (by omega), cX 40 _ (by omega) (by omega) (by omega) (by omega), cX 41 _ (by omega) (by omega) (by omega) (by omega), X42, X43]
      refine ⟨c1, c2, c3, c4, c5, ?_, ?_, c8⟩
      · by_cases z : o' = o
        · rw [if_pos z, z, w5]
        · rw [if_neg z, ww (93 + 8 * o' + 5) (by omega) (by omega) (by omega) (by omega) (by omega) (by omega)]; exact c6
      · by_cases z : o' = o
        · rw [if_pos z, z, w6]
        · rw [if_neg z, ww (93 + 8 * o' + 6) (by omega) (by omega) (by omega) (by omega) (by omega) (by omega)]; exact c7
  · rw [sC]
    have M4 : ∀ k, 4 ≤ k → k ≤ 8 → M.1 58 0 k = (ob_tot Z (nI o) (nI u)).1 58 0 k := fun k h1 h2 => l9 k (by omega) (by omega)
    have Zt : ∀ k, 4 ≤ k → k ≤ 8 → Z.1 58 0 k = hm.1 58 0 k := fun k h1 h2 => Zc k (by omega) (by omega) (by omega) (by omega)
    refine ⟨fun k hk => ?_, ?_, ?_, fun j hj => ?_⟩
    · rw [D44, M4 _ (by omega) (by omega), y1]
      rcases (show k = 0 ∨ k = 1 ∨ k = 2 ∨ k = 3 ∨ k = 4 by omega) with rfl | rfl | rfl | rfl | rfl
      · simp [Zt 4 (by omega) (by omega), t1 0 (by omega)]
      · simp [Zt 5 (by omega) (by omega), t1 1 (by omega)]
      · simp [Zt 6 (by omega) (by omega), t1 2 (by omega)]
      · simp [Zt 7 (by omega) (by omega), t1 3 (by omega)]
      · simp [Zt 8 (by omega) (by omega), t1 4 (by omega)]
    · rw [M4 4 (by omega) (by omega), y1, if_neg (by omega), if_neg (by omega), if_neg (by omega), if_pos rfl, Zt 4 (by omega) (by omega), t2, ← nI_succ]
    · rw [w3]
      by_cases z : w 3 = 16
      · rw [if_pos z] at l2
        by_cases y : S < 16
        · rw [if_pos y] at t3; omega
        · rw [if_neg (by omega)]; omega
      · rw [if_neg z] at l2
        by_cases y : S < 16
        · rw [if_pos y] at t3
          by_cases x : S + 1 < 16
          · rw [if_pos x]; omega
          · rw [if_neg x]; omega
        · rw [if_neg y] at t3; omega
    · rw [w3] at hj ⊢
      have wS : w 3 ≤ S := by rw [t3]; split <;> omega
      have lc : w 3 = c ∨ (w 3 = c + 1 ∧ c = 15) := by
        by_cases z : w 3 = 16
        · rw [if_pos z] at l2; omega
        · rw [if_neg z] at l2; omega
      obtain ⟨d1, d2, d3⟩ := D45 ((S + 1 - (c + 1) + j) % 16)
      rw [d1, d2, d3]
      by_cases z : j = c
      · have : (S + 1 - (c + 1) + j) % 16 = S % 16 := by omega
        rw [if_pos this, if_pos this, if_pos this, z, l5, l6, l7]
        exact ⟨rfl, rfl, rfl⟩
      · have ne : ¬ (S + 1 - (c + 1) + j) % 16 = S % 16 := by omega
        rw [if_neg ne, if_neg ne, if_neg ne]
        have q0 := l8 j 0 (by omega) (by omega)
        have q1 := l8 j 1 (by omega) (by omega)
        have q2 := l8 j 2 (by omega) (by omega)
        rw [Nat.add_zero, Nat.add_zero] at q0
        rw [q0, q1, q2, y' _ (by omega), y' _ (by omega), y' _ (by omega), Zc _ (by omega) (by omega) (by omega) (by omega), Zc _ (by omega) (by omega) (by omega) (by omega), Zc _ (by omega) (by omega) (by omega) (by omega)]
        have ix : S - w 3 + (j + (w 3 - c)) = S + 1 - (c + 1) + j := by omega
        have t := t4 (j + (w 3 - c)) (by omega)
        rw [ix] at t
        exact t
  · rw [l10 12 (by omega), y2 12 (by omega), n6 12 (by omega), hp_i_t (by omega), m5 12 (by omega)]
end RAN
