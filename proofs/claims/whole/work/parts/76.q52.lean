def EC (h H : Hp) (L p st : Nat) : Prop := (∀ t i, ¬ (t = 48 ∧ i = L) → h.1 t i = H.1 t i) ∧ (∀ j, h.1 48 L j = if j = p then nI st else H.1 48 L j) ∧ h.2.1 = H.2.1 ∧ h.2.2 = H.2.2
def EM (hm K : Hp) (p st : Nat) : Prop := (∀ j, hm.1 58 0 j = if j = 9 + p then nI st else K.1 58 0 j) ∧ (∀ t, ¬ t = 58 → hm.1 t 0 = K.1 t 0)
section RAS
variable {h hm h' hm' K H : Hp} {c L : Nat} {T w w' v : Nat → Nat} {n n' S N d s k p st : Nat}
theorem a_freeE (E : EC h H L p st) (hp : p < 12) {g : Nat} (h49 : H.1 49 L p = nI g) : p_X10_freeOf h L (nI p) ∧ f_X10_freeOf h L (nI p) = nI st - nI g := by
  have in1 := a_inside h hp (by omega)
  have e12 : nI 12 = 12 := rfl
  rw [e12] at in1
  have v1 : vp_in (nI p) 12 := vp_in_nI hp (by omega)
  have c48 : h.1 48 L p = nI st := by rw [E.2.1, if_pos rfl]
  have c49 : h.1 49 L p = nI g := by rw [E.1 49 L (by omega)]; exact h49
  refine ⟨?_, ?_⟩
  · simp [p_X10_freeOf, p_X10_stockOf, p_X10_reservedOf, in1, v1]
  · simp [f_X10_freeOf, f_X10_stockOf, f_X10_reservedOf, in1, nI_clamp (show p < 2 ^ 31 by omega), c48, c49]
/-- the stock that was set -/
theorem RW.stock (A : RW H K T w S n) (E : EC h H (H.2.2 11 0 7) p st) (M : EM hm K p st) (hp : p < T 0) (hs : st ≤ 9999) (hh : w (21 + p) ≤ st) : RW h hm T (ob_at w (9 + p) st) S n := by
  obtain ⟨⟨J, I, R, C, G⟩, s1, s2, -⟩ := id A
  obtain ⟨⟨i0, i1, i2, i3⟩, i4, i5, i6⟩ := id I
  have bT := J.1
  have hw : ∀ j, ¬ j = 9 + p → ob_at w (9 + p) st j = w j := fun j hj => by unfold ob_at; rw [if_neg hj]
  have h9 : ob_at w (9 + p) st (9 + p) = st := by unfold ob_at; rw [if_pos rfl]
  refine A.upd (Nat.le_refl _) (fun t i ht hh => E.1 t i (fun z => hh ⟨by unfold LG; omega, z.2⟩)) E.2.2.1 E.2.2.2 (fun t ht h58 => M.2 t h58) (fun k hk => by rw [M.2 12 (by omega)]) ?_ (fun j h1 h2 => ?_) ?_ s1 (s2.keep i3 (fun t h1 h2 => E.1 t _ (by omega)) (fun k hk => by rw [M.1 k, if_neg (by omega)]) (hw 3 (by omega)))
  · refine ⟨⟨?_, ?_, ?_, ?_⟩, fun p' hp' => ?_, fun k hk => ?_, I.orders (hw 1 (by omega)) (fun j h1 h2 => hw j (by omega))⟩
    · rw [hw 0 (by omega)]; exact i0
    · rw [hw 1 (by omega)]; exact i1
    · rw [hw 2 (by omega)]; exact i2
    · rw [hw 3 (by omega)]; exact i3
    · obtain ⟨p1, p2, p3⟩ := i4 p' hp'
      rw [ob_pend_same (w := w) (hw 2 (by omega)) (fun j h1 h2 => hw j (by omega)) i2, oa_sum_same (w := w) (hw 1 (by omega)) (fun j h1 h2 => hw j (by omega)) i1, hw (21 + p') (by omega)]
      by_cases z : p' = p
      · rw [z, h9]
        refine ⟨?_, hh, by rw [← z]; exact p3⟩
        have pl : ob_pend w p ≤ w 2 * 999 := oa_sum_le (w 2) 0 (fun j _ hj => by
          have := i5 j (by omega)
          split <;> omega)
        have wn : w 2 ≤ n := by
          by_cases y : w 2 = 0
          · omega
          · have := (i5 (w 2 - 1) (by omega)).2.2.2.2.2
            omega
        have := Nat.mul_le_mul_right 999 wn
        omega
      · rw [hw (9 + p') (by omega)]
        exact ⟨p1, p2, p3⟩
    · rw [hw 2 (by omega)] at hk
      rw [hw 0 (by omega), hw (33 + 3 * k) (by omega), hw (33 + 3 * k + 1) (by omega), hw (33 + 3 * k + 2) (by omega)]
      exact i5 k hk
  · rw [M.1 j]
    by_cases z : j = 9 + p
    · rw [if_pos z, z, h9]
    · rw [if_neg z, hw j z]; exact R.2 j h1 h2
  · obtain ⟨⟨y1, y2, y3⟩, y4, y5, y6⟩ := id G
    refine ⟨⟨?_, ?_, ?_⟩, fun p' hp' => ⟨?_, ?_⟩, fun k hk => ?_, fun o' ho' => ?_⟩
    · rw [hw 0 (by omega), E.1 10 _ (by omega)]; exact y1
    · rw [hw 1 (by omega), E.1 6 _ (by omega)]; exact y2
    · rw [hw 2 (by omega), E.1 10 _ (by omega)]; exact y3
    · rw [E.2.1]
      by_cases z : p' = p
      · rw [if_pos z, z, h9]
      · rw [if_neg z, hw (9 + p') (by omega)]; exact (y4 p' hp').1
    · rw [hw (21 + p') (by omega), E.1 49 _ (by omega)]; exact (y4 p' hp').2
    · rw [hw 2 (by omega)] at hk
      rw [hw (33 + 3 * k) (by omega), hw (33 + 3 * k + 1) (by omega), hw (33 + 3 * k + 2) (by omega), E.1 50 _ (by omega), E.1 51 _ (by omega), E.1 52 _ (by omega)]
      exact y5 k hk
    · rw [hw 1 (by omega)] at ho'
      rw [hw (93 + 8 * o') (by omega), hw (93 + 8 * o' + 1) (by omega), hw (93 + 8 * o' + 2) (by omega), hw (93 + 8 * o' + 3) (by omega), hw (93 + 8 * o' + 4) (by omega), hw (93 + 8 * o' + 5) (by omega), hw (93 + 8 * o' + 6) (by omega), hw (93 + 8 * o' + 7) (by omega), E.1 36 _ (by omega), E.1 37 _ (by omega), E.1 38 _ (by omega), E.1 39 _ (by omega), E.1 40 _ (by omega), E.1 41 _ (by omega), E.1 42 _ (by omega), E.1 43 _ (by omega)]
      exact y6 o' ho'
theorem s_adj {y : Int32} (J : IT T) (hp : p < T 0) (hst : st ≤ 9999) : ∀ (m r e e' : Nat) (h hm H K : Hp) (w : Nat → Nat) (x : Int32), RW H K T w S n → EC h H (H.2.2 11 0 7) p st → EM hm K p st → n ≤ 512 → oa_sum (fun o => w (93 + 8 * o + 6)) 0 (w 1) ≤ m → r + m ≤ 1980 →
    pw_X5_releaseExcess_5 (m + 1 + e) h (H.2.2 11 0 7) (H.2.2 11 0 6) (nI p) x (nI r) ∧ pw_X12_adjust_55 (m + 1 + e') hm (nI p) y x ∧ fw_X5_releaseExcess_5 (m + 1 + e) h (H.2.2 11 0 7) (H.2.2 11 0 6) (nI p) x (nI r) = fw_X12_adjust_55 (m + 1 + e') hm (nI p) y x ∧
    (∃ w' H' K', RW H' K' T w' S n ∧ EC (gw_X5_releaseExcess_5 (m + 1 + e) h (H.2.2 11 0 7) (H.2.2 11 0 6) (nI p) x (nI r)) H' (H'.2.2 11 0 7) p st ∧ EM (gw_X12_adjust_55 (m + 1 + e') hm (nI p) y x) K' p st ∧ w' (21 + p) ≤ st) ∧ (gw_X12_adjust_55 (m + 1 + e') hm (nI p) y x).1 12 0 = hm.1 12 0 := by
  have bT := J.1
  intro m
  induction m with
  | zero =>
    intro r e e' h hm H K w x A E M hn hsum hr
    rw [show 0 + 1 + e = e + 1 by omega, show 0 + 1 + e' = e' + 1 by omega]
    obtain ⟨J', I, R, C, G⟩ := id A.1
    have hw := I.1
    have i4 := I.2.1 p (by omega)
    have z0 : w (21 + p) = 0 := by
      rw [i4.2.2 hp]
      have : ∀ m k, oa_sum (fun o => w (93 + 8 * o + 6)) k m = 0 → oa_sum (fun o => w (93 + 8 * o + 6) * oa_need T (w (93 + 8 * o)) p) k m = 0 := by
        intro m
        induction m with
        | zero => intro k _; rfl
        | succ m ih =>
          intro k hk
          have e1 : w (93 + 8 * k + 6) + oa_sum (fun o => w (93 + 8 * o + 6)) (k + 1) m = 0 := hk
          have e2 : w (93 + 8 * k + 6) = 0 := by omega
          show w (93 + 8 * k + 6) * oa_need T (w (93 + 8 * k)) p + oa_sum (fun o => w (93 + 8 * o + 6) * oa_need T (w (93 + 8 * o)) p) (k + 1) m = 0
          rw [ih (k + 1) (by omega), e2, Nat.zero_mul]
      exact this (w 1) 0 (by omega)
    have fr := a_freeE E (show p < 12 by omega) (G.2.1 p (by omega)).2
    rw [z0] at fr
    have f0 : (0 : Int32) ≤ nI st - nI 0 := by rw [oa_sub (by omega)]; exact nI_pos' (by omega)
    have e21 : (21 : Int32) + nI p = nI (21 + p) := nI_add 21 p
    have e9 : (9 : Int32) + nI p = nI (9 + p) := nI_add 9 p
    have v21 : vp_in (nI (21 + p)) 301 := vp_in_nI (by omega) (by omega)
    have v9 : vp_in (nI (9 + p)) 301 := vp_in_nI (by omega) (by omega)
    have m9 : hm.1 58 0 (9 + p) = nI st := by rw [M.1, if_pos rfl]
    have m21 : hm.1 58 0 (21 + p) = nI 0 := by rw [M.1, if_neg (by omega), R.2 _ (by omega) (by omega), z0]
    have le : nI 0 ≤ nI st := nI_le (by omega) (by omega)
    have ec : gw_X5_releaseExcess_5 (e + 1) h (H.2.2 11 0 7) (H.2.2 11 0 6) (nI p) x (nI r) = h := by
      rw [gw_X5_releaseExcess_5, fr.2, if_pos f0]
      simp
    have em : gw_X12_adjust_55 (e' + 1) hm (nI p) y x = hm := by
      rw [gw_X12_adjust_55, e21, e9, nI_clamp (show 21 + p < 2 ^ 31 by omega), nI_clamp (show 9 + p < 2 ^ 31 by omega), m9, m21, if_pos le]
    rw [ec, em]
    refine ⟨?_, ?_, ?_, ⟨w, H, K, A, E, M, by omega⟩, rfl⟩
    · rw [pw_X5_releaseExcess_5, fr.2]
      exact ⟨fun _ => trivial, fun _ => ⟨fr.1, fun _ => trivial, fun z => (z f0).elim⟩⟩
    · rw [pw_X12_adjust_55, e21, e9, nI_clamp (show 21 + p < 2 ^ 31 by omega), nI_clamp (show 9 + p < 2 ^ 31 by omega), m9, m21]
      exact ⟨v21, v9, fun _ => trivial, fun z => (z le).elim⟩
    · rw [fw_X5_releaseExcess_5, fr.2, if_pos f0, fw_X12_adjust_55, e21, e9, nI_clamp (show 21 + p < 2 ^ 31 by omega), nI_clamp (show 9 + p < 2 ^ 31 by omega), m9, m21, if_pos le]
      simp
  | succ m ih =>
    intro r e e' h hm H K w x A E M hn hsum hr
    rw [show m + 1 + 1 + e = (m + 1 + e) + 1 by omega, show m + 1 + 1 + e' = (m + 1 + e') + 1 by omega]
    obtain ⟨J', I, R, C, G⟩ := id A.1
    have hw := I.1
    have i4 := I.2.1 p (by omega)
    have fr := a_freeE E (show p < 12 by omega) (G.2.1 p (by omega)).2
    have e21 : (21 : Int32) + nI p = nI (21 + p) := nI_add 21 p
    have e9 : (9 : Int32) + nI p = nI (9 + p) := nI_add 9 p
    have v21 : vp_in (nI (21 + p)) 301 := vp_in_nI (by omega) (by omega)
    have v9 : vp_in (nI (9 + p)) 301 := vp_in_nI (by omega) (by omega)
    have m9 : hm.1 58 0 (9 + p) = nI st := by rw [M.1, if_pos rfl]
    have m21 : hm.1 58 0 (21 + p) = nI (w (21 + p)) := by rw [M.1, if_neg (by omega), R.2 _ (by omega) (by omega)]
    have lle : (nI (w (21 + p)) ≤ nI st) ↔ w (21 + p) ≤ st := nI_leI (by omega) (by omega)
    by_cases d : w (21 + p) ≤ st
    · have f0 : (0 : Int32) ≤ nI st - nI (w (21 + p)) := by rw [oa_sub d]; exact nI_pos' (by omega)
      have ec : gw_X5_releaseExcess_5 ((m + 1 + e) + 1) h (H.2.2 11 0 7) (H.2.2 11 0 6) (nI p) x (nI r) = h := by
        rw [gw_X5_releaseExcess_5, fr.2, if_pos f0]
        simp
      have em : gw_X12_adjust_55 ((m + 1 + e') + 1) hm (nI p) y x = hm := by
        rw [gw_X12_adjust_55, e21, e9, nI_clamp (show 21 + p < 2 ^ 31 by omega), nI_clamp (show 9 + p < 2 ^ 31 by omega), m9, m21, if_pos (lle.mpr d)]
      rw [ec, em]
      refine ⟨?_, ?_, ?_, ⟨w, H, K, A, E, M, d⟩, rfl⟩
      · rw [pw_X5_releaseExcess_5, fr.2]
        exact ⟨fun _ => trivial, fun _ => ⟨fr.1, fun _ => trivial, fun z => (z f0).elim⟩⟩
      · rw [pw_X12_adjust_55, e21, e9, nI_clamp (show 21 + p < 2 ^ 31 by omega), nI_clamp (show 9 + p < 2 ^ 31 by omega), m9, m21]
        exact ⟨v21, v9, fun _ => trivial, fun z => (z (lle.mpr d)).elim⟩
      · rw [fw_X5_releaseExcess_5, fr.2, if_pos f0, fw_X12_adjust_55, e21, e9, nI_clamp (show 21 + p < 2 ^ 31 by omega), nI_clamp (show 9 + p < 2 ^ 31 by omega), m9, m21, if_pos (lle.mpr d)]
        simp
    · have f0 : ¬ (0 : Int32) ≤ nI st - nI (w (21 + p)) := oa_neg (by omega) (by omega)
      have nl : ¬ nI (w (21 + p)) ≤ nI st := fun z => d (lle.mp z)
      -- the loser
      have B : OB h (H.2.2 11 0 7) w := OB.of G I (fun t ht h48 => E.1 t _ (by omega))
      have Ch : RC h (H.2.2 11 0 6) T := C.same (fun t ht i => E.1 t i (by omega)) E.2.2.1
      have h6 : h.1 6 (H.2.2 11 0 7) 0 = nI (w 1) := by rw [E.1 6 _ (by omega)]; exact G.1.2.1
      have hT : ∀ k, k < 506 → hm.1 56 0 k = nI (T k) := fun k hk => by rw [M.2 56 (by omega)]; exact R.1 k hk
      have OMm : OM hm w := ⟨by rw [M.1, if_neg (by omega)]; exact R.2 1 (by omega) (by omega), fun j h1 h2 => by rw [M.1, if_neg (by omega)]; exact R.2 j (by omega) (by omega)⟩
      obtain ⟨eN, heN⟩ := oa_fuel (show w 1 < 1000000 by omega)
      obtain ⟨l1, l2⟩ := a_loseL J Ch B h6 I hp (w 1) 0 eN none (by omega) (fun _ z => nomatch z)
      obtain ⟨l3, l4⟩ := m_loseL J hT OMm I hp (w 1) 0 eN none (by omega) (fun _ z => nomatch z)
      rw [← heN, nI_0] at l1 l2 l3 l4
      have l1' : p_X6_firstToLose h (H.2.2 11 0 7) (H.2.2 11 0 6) (nI p) := l1
      have l2' : f_X6_firstToLose h (H.2.2 11 0 7) (H.2.2 11 0 6) (nI p) = oa_oi (ob_lose T w p (w 1) 0 none) := l2
      have l3' : p_X12_loser hm (nI p) := l3
      have l4' : f_X12_loser hm (nI p) = oa_oi (ob_lose T w p (w 1) 0 none) := l4
      obtain ⟨k1, k2⟩ := ob_lose_ok (T := T) (w := w) (p := p) (N := w 1) (w 1) 0 none (by omega) (fun _ z => nomatch z) (fun _ o ho => by omega)
      cases eo : ob_lose T w p (w 1) 0 none with
      | none =>
        exfalso
        have none0 := k2 eo
        have : w (21 + p) = 0 := by
          rw [i4.2.2 hp]
          have z := oa_sum_le (f := fun o => w (93 + 8 * o + 6) * oa_need T (w (93 + 8 * o)) p) (B := 0) (w 1) 0 (fun j _ hj => by
            have c := none0 j (by omega)
            unfold ob_cand at c
            have c := of_decide_eq_false c
            by_cases z1 : w (93 + 8 * j + 6) = 0
            · show w (93 + 8 * j + 6) * _ ≤ 0
              rw [z1, Nat.zero_mul]
              omega
            · have z2 : oa_need T (w (93 + 8 * j)) p = 0 := by omega
              show w (93 + 8 * j + 6) * oa_need T (w (93 + 8 * j)) p ≤ 0
              rw [z2, Nat.mul_zero]
              omega)
          omega
        omega
      | some o =>
        obtain ⟨ho, co⟩ := k1 o eo
        unfold ob_cand at co
        have co := of_decide_eq_true co
        have o1 : oa_oi (some o) = nI o := rfl
        rw [eo, o1] at l2' l4'
        have io := I.2.2.2 o ho
        obtain ⟨b1, b2, b3, b4, b5⟩ := B o ho
        have on := ob_oi_some (show o < 2 ^ 31 by omega)
        have m4 : p_X12_of hm (nI o) 4 ∧ f_X12_of hm (nI o) 4 = nI (w (93 + 8 * o + 4)) := m_ofO OMm (by omega) (show 4 < 8 by omega)
        have m6 : p_X12_of hm (nI o) 6 ∧ f_X12_of hm (nI o) 6 = nI (w (93 + 8 * o + 6)) := m_ofO OMm (by omega) (show 6 < 8 by omega)
        have kp : ∀ p', p' < T 0 → w (93 + 8 * o + 6) * oa_need T (w (93 + 8 * o)) p' ≤ w (21 + p') := fun p' hp' => by
          rw [(I.2.1 p' (by omega)).2.2 hp']
          exact oa_sum_ge (f := fun o => w (93 + 8 * o + 6) * oa_need T (w (93 + 8 * o)) p') (w 1) 0 (by omega) (by omega)
        have r1980 : ¬ (1980 : Int32) ≤ nI r := nI_ge (b := 1980) (by omega) (by omega)
        have w0 : (nI (w (93 + 8 * o + 4)) = 0) ↔ w (93 + 8 * o + 4) = 0 := nI_eq (b := 0) (by omega) (by omega)
        have w1 : (nI (w (93 + 8 * o + 4)) = 1) ↔ w (93 + 8 * o + 4) = 1 := nI_eq (b := 1) (by omega) (by omega)
        -- one step with u units
        have step : ∀ u xx, 0 < u → u ≤ w (93 + 8 * o + 6) → xx = -nI u → p_X5_changeReserved h (H.2.2 11 0 7) (H.2.2 11 0 6) (nI o) xx ∧ p_X12_holds hm (nI o) xx ∧
            pw_X5_releaseExcess_5 (m + 1 + e) (g_X5_changeReserved h (H.2.2 11 0 7) (H.2.2 11 0 6) (nI o) xx) (H.2.2 11 0 7) (H.2.2 11 0 6) (nI p) (x + nI u) (nI r + 1) ∧ pw_X12_adjust_55 (m + 1 + e') (g_X12_holds hm (nI o) xx) (nI p) y (x + nI u) ∧ fw_X5_releaseExcess_5 (m + 1 + e) (g_X5_changeReserved h (H.2.2 11 0 7) (H.2.2 11 0 6) (nI o) xx) (H.2.2 11 0 7) (H.2.2 11 0 6) (nI p) (x + nI u) (nI r + 1) = fw_X12_adjust_55 (m + 1 + e') (g_X12_holds hm (nI o) xx) (nI p) y (x + nI u) ∧
            (∃ w' H' K', RW H' K' T w' S n ∧ EC (gw_X5_releaseExcess_5 (m + 1 + e) (g_X5_changeReserved h (H.2.2 11 0 7) (H.2.2 11 0 6) (nI o) xx) (H.2.2 11 0 7) (H.2.2 11 0 6) (nI p) (x + nI u) (nI r + 1)) H' (H'.2.2 11 0 7) p st ∧ EM (gw_X12_adjust_55 (m + 1 + e') (g_X12_holds hm (nI o) xx) (nI p) y (x + nI u)) K' p st ∧ w' (21 + p) ≤ st) ∧ (gw_X12_adjust_55 (m + 1 + e') (g_X12_holds hm (nI o) xx) (nI p) y (x + nI u)).1 12 0 = hm.1 12 0 := by
          intro u xx hu1 hu2 hxx
          have ej : nI (w (93 + 8 * o + 6)) + xx = nI (w (93 + 8 * o + 6) - u) := by rw [hxx, ← oa_sub hu2]; grind
          obtain ⟨c1, c2, W2, c4⟩ := A.hold (y := w (93 + 8 * o + 6) - u) (x := xx) ho ej (by omega) (fun z => by have := io.2.2.2.2.2.2.2.2 z; omega) (fun p' hp' => by
            have q1 := kp p' hp'
            have q2 := (I.2.1 p' (by omega)).2.1
            have q3 : (w (93 + 8 * o + 6) - u) * oa_need T (w (93 + 8 * o)) p' ≤ w (93 + 8 * o + 6) * oa_need T (w (93 + 8 * o)) p' := Nat.mul_le_mul_right _ (by omega)
            omega)
          have gr2 : (g_X5_changeReserved H (H.2.2 11 0 7) (H.2.2 11 0 6) (nI o) xx).2.2 = H.2.2 := gr_X5_changeReserved
          obtain ⟨x36, -⟩ := G.2.2.2 o ho
          obtain ⟨a1, a2, a3, a4, a5⟩ := a_change (x := xx) J C G.1.2.1 ho hw.2.1 io.1 x36
          obtain ⟨d1, d2, d3, d4, d5⟩ := a_change (x := xx) J Ch h6 ho hw.2.1 io.1 (by rw [E.1 36 _ (by omega)]; exact x36)
          have E2 : EC (g_X5_changeReserved h (H.2.2 11 0 7) (H.2.2 11 0 6) (nI o) xx) (g_X5_changeReserved H (H.2.2 11 0 7) (H.2.2 11 0 6) (nI o) xx) (H.2.2 11 0 7) p st := by
            refine ⟨fun t i hti => ?_, fun j => ?_, gl_X5_changeReserved.trans (E.2.2.1.trans gl_X5_changeReserved.symm), gr_X5_changeReserved.trans (E.2.2.2.trans gr_X5_changeReserved.symm)⟩
            · by_cases z1 : t = 49 ∧ i = H.2.2 11 0 7
              · obtain ⟨rfl, rfl⟩ := z1
                funext j
                by_cases z : j < T 0
                · rw [d2 j z, a2 j z, E.1 49 _ (by omega)]
                · rw [d3 j (by omega), a3 j (by omega), E.1 49 _ (by omega)]
              · by_cases z2 : t = 42 ∧ i = H.2.2 11 0 7
                · obtain ⟨rfl, rfl⟩ := z2
                  funext j
                  rw [d4 j, a4 j, E.1 42 _ (by omega)]
                · rw [d5 t i z1 z2, a5 t i z1 z2, E.1 t i hti]
            · rw [d5 48 _ (by omega) (by omega), a5 48 _ (by omega) (by omega), E.2.1]
          obtain ⟨f1, f2, f3, f4, f5⟩ := m_hold (K := K) (x := xx) J R.1 (show o < 20 by omega) io.1 (R.2 _ (by omega) (by omega))
          obtain ⟨g1, g2, g3, g4, g5⟩ := m_hold (K := hm) (o := o) (q := w (93 + 8 * o)) (x := xx) J hT (by omega) io.1 (OMm.2 _ (by omega) (by omega))
          have M2 : EM (g_X12_holds hm (nI o) xx) (g_X12_holds K (nI o) xx) p st := by
            refine ⟨fun j => ?_, fun t ht => by rw [g5 t ht, f5 t ht, M.2 t ht]⟩
            by_cases z1 : j = 93 + 8 * o + 6
            · rw [z1, g3, f3, M.1, if_neg (by omega), if_neg (by omega)]
            · by_cases z2 : 21 ≤ j ∧ j < 21 + T 0
              · obtain ⟨p', rfl⟩ : ∃ p', j = 21 + p' := ⟨j - 21, by omega⟩
                rw [g2 p' (by omega), f2 p' (by omega), M.1, if_neg (by omega), if_neg (by omega)]
              · rw [g4 j z1 z2, f4 j z1 z2, M.1]
          have hs2 : oa_sum (fun o' => ob_hold T w o (w (93 + 8 * o + 6) - u) (93 + 8 * o' + 6)) 0 (ob_hold T w o (w (93 + 8 * o + 6) - u) 1) ≤ m := by
            rw [ob_hold1]
            have q := oa_sum_one (f := fun o => w (93 + 8 * o + 6)) (f' := fun o' => ob_hold T w o (w (93 + 8 * o + 6) - u) (93 + 8 * o' + 6)) (o := o) (fun j hj => ob_holdo (by omega) (by omega) (by omega)) (w 1) 0
            rw [if_pos (by omega), if_pos (by omega)] at q
            have q' : oa_sum (fun o' => ob_hold T w o (w (93 + 8 * o + 6) - u) (93 + 8 * o' + 6)) 0 (w 1) + w (93 + 8 * o + 6) = oa_sum (fun o => w (93 + 8 * o + 6)) 0 (w 1) + ob_hold T w o (w (93 + 8 * o + 6) - u) (93 + 8 * o + 6) := q
            rw [ob_hold6] at q'
            omega
          obtain ⟨r1, r2, r3, r4, r5⟩ := ih (r + 1) e e' _ _ (g_X5_changeReserved H (H.2.2 11 0 7) (H.2.2 11 0 6) (nI o) xx) (g_X12_holds K (nI o) xx) _ (x + nI u) W2 (by rw [gr2]; exact E2) M2 hn hs2 (by omega)
          rw [gr2, nI_succ] at r1 r3 r4
          exact ⟨d1, g1, r1, r2, r3, r4, by rw [r5, g5 12 (by omega)]⟩
        by_cases dw : w (93 + 8 * o + 4) = 1
        · have dw0 : ¬ w (93 + 8 * o + 4) = 0 := by omega
          obtain ⟨t1, t2, t3, t4, t5, t6, t7⟩ := step (w (93 + 8 * o + 6)) (-nI (w (93 + 8 * o + 6))) co.1 (Nat.le_refl _) rfl
          have ec : gw_X5_releaseExcess_5 ((m + 1 + e) + 1) h (H.2.2 11 0 7) (H.2.2 11 0 6) (nI p) x (nI r) = gw_X5_releaseExcess_5 (m + 1 + e) (g_X5_changeReserved h (H.2.2 11 0 7) (H.2.2 11 0 6) (nI o) (-nI (w (93 + 8 * o + 6)))) (H.2.2 11 0 7) (H.2.2 11 0 6) (nI p) (x + nI (w (93 + 8 * o + 6))) (nI r + 1) := by
            rw [gw_X5_releaseExcess_5, if_neg r1980, fr.2, if_neg f0, l2', if_pos on, b5.2, if_neg (fun z => dw0 (w0.mp z)), b1.2]
          have em : gw_X12_adjust_55 ((m + 1 + e') + 1) hm (nI p) y x = gw_X12_adjust_55 (m + 1 + e') (g_X12_holds hm (nI o) (-nI (w (93 + 8 * o + 6)))) (nI p) y (x + nI (w (93 + 8 * o + 6))) := by
            rw [gw_X12_adjust_55, e21, e9, nI_clamp (show 21 + p < 2 ^ 31 by omega), nI_clamp (show 9 + p < 2 ^ 31 by omega), m9, m21, if_neg nl, l4', m4.2, if_neg (fun z => z (w1.mpr dw)), m6.2]
          rw [ec, em]
          refine ⟨?_, ?_, ?_, t6, t7⟩
          · rw [pw_X5_releaseExcess_5, fr.2, l2', b5.2, b1.2]
            exact ⟨fun z => (r1980 z).elim, fun _ => ⟨fr.1, fun z => (f0 z).elim, fun _ => ⟨l1', fun _ => ⟨b5.1, fun z => (dw0 (w0.mp z)).elim, fun _ => ⟨b1.1, t1, t3⟩⟩, fun z => (on z).elim⟩⟩⟩
          · rw [pw_X12_adjust_55, e21, e9, nI_clamp (show 21 + p < 2 ^ 31 by omega), nI_clamp (show 9 + p < 2 ^ 31 by omega), m9, m21, l4', m4.2, m6.2]
            exact ⟨v21, v9, fun z => (nl z).elim, fun _ => ⟨l3', m4.1, fun z => (z (w1.mpr dw)).elim, fun _ => ⟨m6.1, t2, t4⟩⟩⟩
          · rw [fw_X5_releaseExcess_5, if_neg r1980, fr.2, if_neg f0, l2', if_pos on, b5.2, if_neg (fun z => dw0 (w0.mp z)), b1.2, t5, fw_X12_adjust_55, e21, e9, nI_clamp (show 21 + p < 2 ^ 31 by omega), nI_clamp (show 9 + p < 2 ^ 31 by omega), m9, m21, if_neg nl, l4', m4.2, if_neg (fun z => z (w1.mpr dw)), m6.2]
        · have dw0 : w (93 + 8 * o + 4) = 0 := by omega
          have en : (-1 : Int32) = -nI 1 := by decide
          obtain ⟨t1, t2, t3, t4, t5, t6, t7⟩ := step 1 (-1) (by omega) (by omega) en
          have e1 : nI 1 = 1 := rfl
          rw [e1] at t3 t4 t5 t6 t7
          have ec : gw_X5_releaseExcess_5 ((m + 1 + e) + 1) h (H.2.2 11 0 7) (H.2.2 11 0 6) (nI p) x (nI r) = gw_X5_releaseExcess_5 (m + 1 + e) (g_X5_changeReserved h (H.2.2 11 0 7) (H.2.2 11 0 6) (nI o) (-1)) (H.2.2 11 0 7) (H.2.2 11 0 6) (nI p) (x + 1) (nI r + 1) := by
            rw [gw_X5_releaseExcess_5, if_neg r1980, fr.2, if_neg f0, l2', if_pos on, b5.2, if_pos (w0.mpr dw0)]
          have em : gw_X12_adjust_55 ((m + 1 + e') + 1) hm (nI p) y x = gw_X12_adjust_55 (m + 1 + e') (g_X12_holds hm (nI o) (-1)) (nI p) y (x + 1) := by
            rw [gw_X12_adjust_55, e21, e9, nI_clamp (show 21 + p < 2 ^ 31 by omega), nI_clamp (show 9 + p < 2 ^ 31 by omega), m9, m21, if_neg nl, l4', m4.2, if_pos (fun z => dw (w1.mp z))]
          rw [ec, em]
          refine ⟨?_, ?_, ?_, t6, t7⟩
          · rw [pw_X5_releaseExcess_5, fr.2, l2', b5.2]
            exact ⟨fun z => (r1980 z).elim, fun _ => ⟨fr.1, fun z => (f0 z).elim, fun _ => ⟨l1', fun _ => ⟨b5.1, fun _ => ⟨t1, t3⟩, fun z => (z (w0.mpr dw0)).elim⟩, fun z => (on z).elim⟩⟩⟩
          · rw [pw_X12_adjust_55, e21, e9, nI_clamp (show 21 + p < 2 ^ 31 by omega), nI_clamp (show 9 + p < 2 ^ 31 by omega), m9, m21, l4', m4.2]
            exact ⟨v21, v9, fun z => (nl z).elim, fun _ => ⟨l3', m4.1, fun _ => ⟨t2, t4⟩, fun z => (dw (w1.mp z)).elim⟩⟩
          · rw [fw_X5_releaseExcess_5, if_neg r1980, fr.2, if_neg f0, l2', if_pos on, b5.2, if_pos (w0.mpr dw0), t5, fw_X12_adjust_55, e21, e9, nI_clamp (show 21 + p < 2 ^ 31 by omega), nI_clamp (show 9 + p < 2 ^ 31 by omega), m9, m21, if_neg nl, l4', m4.2, if_pos (fun z => dw (w1.mp z))]
theorem z_adjust (hn : n < 512) (A : RA h hm n) (a u : Int32) : p_X11_adjust h a u ∧ p_X12_adjust hm a u ∧ ZT (x_X11_adjust h a u) (f_X11_adjust h a u) (f_X12_adjust hm a u) (g_X12_adjust hm a u) [(1, 1), (2, 2)] ∧ RA (g_X11_adjust h a u) (g_X12_adjust hm a u) (n + 1) := by
  obtain ⟨T, w, S, W⟩ := RA_iff.mp A
  obtain ⟨p1, p2, k⟩ := kk_part W.1 a
  obtain ⟨J, I, R, C, G⟩ := id W.1
  have bT := J.1
  have hw1 := I.1
  have ka := k_arg0 (hp_i hm 12 0 0 0) u 9999 (by omega)
  have e9 : nI 9999 = 9999 := rfl
  rw [e9] at ka
  have Ah : ∀ x, RA h (hp_i (hp_i hm 12 0 0 0) 12 0 0 x) (n + 1) := fun x => (A.thr.thr).mono (by omega)
  have z1 : ∀ x : Int32, (hp_i (hp_i hm 12 0 0 0) 12 0 0 x).1 12 0 0 = x := fun x => rfl
  unfold p_X11_adjust p_X12_adjust x_X11_adjust f_X11_adjust f_X12_adjust g_X11_adjust g_X12_adjust ZT
  rcases k with ⟨p, hp, rfl, x1, f1, g1⟩ | ⟨x1, f1, g1⟩
  · rcases ka.2 with ⟨st, hst, rfl, i1, i2⟩ | ⟨i1, i2⟩
    · obtain ⟨q1, q2, W', q4⟩ := RW.record (W.thr (x := 0))
      have gr : (g_X3_record h (h.2.2 11 0 7)).2.2 = h.2.2 := gr_X3_record
      have in1 := a_inside (g_X3_record h (h.2.2 11 0 7)) (show p < 12 by omega) (by omega)
      have e12 : nI 12 = 12 := rfl
      rw [e12] at in1
      have vp : vp_in (nI p) 12 := vp_in_nI (by omega) (by omega)
      have eS : g_X10_setStock (g_X3_record h (h.2.2 11 0 7)) (h.2.2 11 0 7) (nI p) (nI st) = hp_i (g_X3_record h (h.2.2 11 0 7)) 48 (h.2.2 11 0 7) p (nI st) := by
        unfold g_X10_setStock
        rw [in1.2, if_neg (by decide), nI_clamp (show p < 2 ^ 31 by omega)]
      have pS : p_X10_setStock (g_X3_record h (h.2.2 11 0 7)) (h.2.2 11 0 7) (nI p) (nI st) := by
        unfold p_X10_setStock
        rw [in1.2]
        exact ⟨in1.1, fun z => absurd z (by decide), fun _ => ⟨vp, trivial⟩⟩
      have E0 : EC (hp_i (g_X3_record h (h.2.2 11 0 7)) 48 (h.2.2 11 0 7) p (nI st)) (g_X3_record h (h.2.2 11 0 7)) ((g_X3_record h (h.2.2 11 0 7)).2.2 11 0 7) p st := by
        rw [gr]
        exact ⟨fun t i hti => hp_i_n hti, fun j => hp_i_g, hp_i_21, hp_i_22⟩
      have M0 : EM (hp_i (g_X12_keeps (hp_i hm 12 0 0 0)) 58 0 (9 + p) (nI st)) (g_X12_keeps (hp_i hm 12 0 0 0)) p st := ⟨fun j => hp_i_g, fun t ht => hp_i_t ht⟩
      have su : oa_sum (fun o => w (93 + 8 * o + 6)) 0 (w 1) ≤ 1980 := by
        have z := oa_sum_le (f := fun o => w (93 + 8 * o + 6)) (B := 99) (w 1) 0 (fun j _ hj => by
          have := I.2.2.2 j (by omega)
          show w (93 + 8 * j + 6) ≤ 99
          omega)
        have := Nat.mul_le_mul_right 99 hw1.2.1
        omega
      obtain ⟨e, he⟩ := oa_fuel (show 1980 < 1000000 by omega)
      obtain ⟨r1, r2, r3, ⟨w', H', K', r4, r5, r6, r7⟩, r8⟩ := s_adj (y := nI st) J hp hst 1980 0 e e _ _ _ _ w 0 W' E0 M0 (by omega) su (by omega)
      rw [gr, ← he, nI_0] at r1 r3 r5
      rw [← he] at r2 r6 r8
      have fin := ((r4.stock r5 r6 hp hst r7).mono (n' := n + 1) (by omega)).ra
      have q5 : (gw_X12_adjust_55 oa_N (hp_i (g_X12_keeps (hp_i hm 12 0 0 0)) 58 0 (9 + p) (nI st)) (nI p) (nI st) 0).1 12 0 0 = 0 := by
        rw [r8, hp_i_t (by omega)]
        exact q4
      have ix : (9 : Int32) + nI p = nI (9 + p) := nI_add 9 p
      have vx : vp_in (nI (9 + p)) 301 := vp_in_nI (by omega) (by omega)
      simp [p1, p2, x1, f1, g1, ka.1, i1, i2, p_X11_checkArgument, x_X11_checkArgument, p_X12_throwsIf, f_X12_throwsIf, g_X12_throwsIf, gr, q1, q2, eS, pS, hp_i_22, p_X5_releaseExcess, f_X5_releaseExcess, g_X5_releaseExcess, ix, vx, nI_clamp (show 9 + p < 2 ^ 31 by omega), r1, r2, r3, fin, q5]
    · simp [p1, p2, x1, f1, g1, ka.1, i1, i2, z1, p_X11_checkArgument, x_X11_checkArgument, p_X12_throwsIf, f_X12_throwsIf, g_X12_throwsIf]
      exact Ah 2
  · simp [p1, p2, x1, f1, g1, z1]
    exact Ah 1
end RAS
