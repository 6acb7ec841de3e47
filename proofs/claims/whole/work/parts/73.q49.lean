/-! a day passes -/
def ob_ap (v : Nat → Nat) (p k : Nat) : Nat := if v (33 + 3 * k) = p then v (33 + 3 * k + 1) else 0
def DI (T w v : Nat → Nat) (N d s k : Nat) : Prop := s ≤ k ∧ N ≤ 20 ∧
  (∀ j, j < s → v (33 + 3 * j) < T 0 ∧ 1 ≤ v (33 + 3 * j + 1) ∧ v (33 + 3 * j + 1) ≤ 999 ∧ d < v (33 + 3 * j + 2) ∧ v (33 + 3 * j + 2) ≤ d + 60) ∧
  (∀ j, k ≤ j → j < N → v (33 + 3 * j) < T 0 ∧ 1 ≤ v (33 + 3 * j + 1) ∧ v (33 + 3 * j + 1) ≤ 999 ∧ d ≤ v (33 + 3 * j + 2) ∧ v (33 + 3 * j + 2) ≤ d + 60) ∧
  (∀ p, p < 12 → w (9 + p) ≤ v (9 + p) ∧ v (9 + p) + oa_sum (ob_ap v p) 0 s + oa_sum (ob_ap v p) k (N - k) ≤ w (9 + p) + ob_pend w p) ∧
  (∀ j, ¬ j = 0 → ¬ (9 ≤ j ∧ j < 21) → ¬ (33 ≤ j ∧ j < 93) → v j = w j) ∧ v 0 = d
def DM (hm : Hp) (v : Nat → Nat) : Prop := ∀ j, j < 301 → ¬ (4 ≤ j ∧ j ≤ 8) → hm.1 58 0 j = nI (v j)
def DC (h : Hp) (L : Nat) (v : Nat → Nat) (N : Nat) : Prop := h.1 10 L 0 = nI (v 0) ∧ h.1 10 L 1 = nI N ∧ (∀ p, p < 12 → h.1 48 L p = nI (v (9 + p))) ∧ (∀ j, j < N → h.1 50 L j = nI (v (33 + 3 * j)) ∧ h.1 51 L j = nI (v (33 + 3 * j + 1)) ∧ h.1 52 L j = nI (v (33 + 3 * j + 2)))
def ob_come (v : Nat → Nat) (k j : Nat) : Nat := if j = 9 + v (33 + 3 * k) then v j + v (33 + 3 * k + 1) else v j
def ob_move (v : Nat → Nat) (s k j : Nat) : Nat := if 33 + 3 * s ≤ j ∧ j < 33 + 3 * s + 3 then v (j - 3 * s + 3 * k) else v j
section RAP
variable {h hm h' hm' K : Hp} {c L : Nat} {T w w' v : Nat → Nat} {n n' S N d s k : Nat}
theorem ob_mv0 : ob_move v s k (33 + 3 * s) = v (33 + 3 * k) := by
  unfold ob_move
  rw [if_pos (by omega), show 33 + 3 * s - 3 * s + 3 * k = 33 + 3 * k by omega]
theorem ob_mv1 : ob_move v s k (33 + 3 * s + 1) = v (33 + 3 * k + 1) := by
  unfold ob_move
  rw [if_pos (by omega), show 33 + 3 * s + 1 - 3 * s + 3 * k = 33 + 3 * k + 1 by omega]
theorem ob_mv2 : ob_move v s k (33 + 3 * s + 2) = v (33 + 3 * k + 2) := by
  unfold ob_move
  rw [if_pos (by omega), show 33 + 3 * s + 2 - 3 * s + 3 * k = 33 + 3 * k + 2 by omega]
theorem ob_mvn {j : Nat} (hj : ¬ (33 + 3 * s ≤ j ∧ j < 33 + 3 * s + 3)) : ob_move v s k j = v j := by unfold ob_move; rw [if_neg hj]
theorem DI.come (J : IT T) (D : DI T w v N d s k) (hk : k < N) (hd : v (33 + 3 * k + 2) = d) : DI T w (ob_come v k) N d s (k + 1) := by
  obtain ⟨d1, d2, d3, d4, d5, d6, d7⟩ := D
  have bT := J.1
  have q := d4 k (Nat.le_refl _) hk
  have hv : ∀ j, ¬ j = 9 + v (33 + 3 * k) → ob_come v k j = v j := fun j hj => by unfold ob_come; rw [if_neg hj]
  have ap : ∀ p j, ob_ap (ob_come v k) p j = ob_ap v p j := fun p j => by unfold ob_ap; rw [hv _ (by omega), hv _ (by omega)]
  refine ⟨by omega, d2, fun j hj => ?_, fun j h1 h2 => ?_, fun p hp => ?_, fun j h1 h2 h3 => ?_, ?_⟩
  · rw [hv (33 + 3 * j) (by omega), hv (33 + 3 * j + 1) (by omega), hv (33 + 3 * j + 2) (by omega)]; exact d3 j hj
  · rw [hv (33 + 3 * j) (by omega), hv (33 + 3 * j + 1) (by omega), hv (33 + 3 * j + 2) (by omega)]; exact d4 j (by omega) h2
  · obtain ⟨e1, e2⟩ := d5 p hp
    have s1 : oa_sum (ob_ap v p) k (N - k) = ob_ap v p k + oa_sum (ob_ap v p) (k + 1) (N - (k + 1)) := by
      rw [show N - k = (N - (k + 1)) + 1 by omega]; rfl
    rw [oa_sum_congr (g := ob_ap v p) _ _ (fun j _ _ => ap p j), oa_sum_congr (g := ob_ap v p) _ _ (fun j _ _ => ap p j)]
    rw [s1] at e2
    by_cases z : p = v (33 + 3 * k)
    · have a : ob_ap v p k = v (33 + 3 * k + 1) := by unfold ob_ap; rw [if_pos z.symm]
      have b : ob_come v k (9 + p) = v (9 + p) + v (33 + 3 * k + 1) := by unfold ob_come; rw [if_pos (by omega)]
      rw [b]
      omega
    · rw [hv (9 + p) (by omega)]
      omega
  · rw [hv j (by omega)]; exact d6 j h1 h2 h3
  · rw [hv 0 (by omega)]; exact d7
theorem DI.move (J : IT T) (D : DI T w v N d s k) (hk : k < N) (hd : ¬ v (33 + 3 * k + 2) = d) : DI T w (ob_move v s k) N d (s + 1) (k + 1) := by
  obtain ⟨d1, d2, d3, d4, d5, d6, d7⟩ := D
  have q := d4 k (Nat.le_refl _) hk
  refine ⟨by omega, d2, fun j hj => ?_, fun j h1 h2 => ?_, fun p hp => ?_, fun j h1 h2 h3 => ?_, ?_⟩
  · by_cases z : j = s
    · rw [z, ob_mv0, ob_mv1, ob_mv2]; omega
    · rw [ob_mvn (by omega), ob_mvn (by omega), ob_mvn (by omega)]; exact d3 j (by omega)
  · rw [ob_mvn (by omega), ob_mvn (by omega), ob_mvn (by omega)]; exact d4 j (by omega) h2
  · obtain ⟨e1, e2⟩ := d5 p hp
    have s1 : oa_sum (ob_ap v p) k (N - k) = ob_ap v p k + oa_sum (ob_ap v p) (k + 1) (N - (k + 1)) := by
      rw [show N - k = (N - (k + 1)) + 1 by omega]; rfl
    have a0 : ob_ap (ob_move v s k) p (0 + s) = ob_ap v p k := by unfold ob_ap; rw [Nat.zero_add, ob_mv0, ob_mv1]
    rw [oa_sum_snoc, a0, oa_sum_congr (f := ob_ap (ob_move v s k) p) (g := ob_ap v p) s 0 (fun j _ hj => by unfold ob_ap; rw [ob_mvn (by omega), ob_mvn (by omega)]), oa_sum_congr (f := ob_ap (ob_move v s k) p) (g := ob_ap v p) (N - (k + 1)) (k + 1) (fun j hj _ => by unfold ob_ap; rw [ob_mvn (by omega), ob_mvn (by omega)]), ob_mvn (by omega)]
    rw [s1] at e2
    omega
  · rw [ob_mvn (by omega)]; exact d6 j h1 h2 h3
  · rw [ob_mvn (by omega)]; exact d7
theorem m_cp3 {x1 x3 : Int32} (hs : s ≤ k) (hk : k < 20) : ∀ (m i e : Nat) (K : Hp), i + m = 3 →
    pi_X12_comesNow_78 (m + 1 + e) K x1 (nI s) x3 (nI (33 + 3 * k)) (nI i) ∧ (∀ j, (iw_h_X12_comesNow_78 (m + 1 + e) K x1 (nI s) x3 (nI (33 + 3 * k)) (nI i)).1 58 0 j = if 33 + 3 * s + i ≤ j ∧ j < 33 + 3 * s + 3 then K.1 58 0 (j - 3 * s + 3 * k) else K.1 58 0 j) ∧ (∀ t, ¬ t = 58 → (iw_h_X12_comesNow_78 (m + 1 + e) K x1 (nI s) x3 (nI (33 + 3 * k)) (nI i)).1 t 0 = K.1 t 0) := by
  intro m
  induction m with
  | zero =>
    intro i e K hi
    rw [show 0 + 1 + e = e + 1 by omega]
    have c1 : (3 : Int32) ≤ nI i := nI_le (a := 3) (by omega) (by omega)
    have ef : iw_h_X12_comesNow_78 (e + 1) K x1 (nI s) x3 (nI (33 + 3 * k)) (nI i) = K := by rw [iw_h_X12_comesNow_78, if_pos c1]
    rw [ef]
    refine ⟨?_, fun j => by rw [if_neg (by omega)], fun t _ => rfl⟩
    simp [pi_X12_comesNow_78, c1]
  | succ m ih =>
    intro i e K hi
    rw [show m + 1 + 1 + e = (m + 1 + e) + 1 by omega]
    have c1 : ¬ (3 : Int32) ≤ nI i := nI_ge (b := 3) (by omega) (by omega)
    have e1 : nI (33 + 3 * k) + nI i = nI (33 + 3 * k + i) := nI_add _ _
    have e2 : (33 : Int32) + 3 * nI s + nI i = nI (33 + 3 * s + i) := oa_ix3 33 3 s i
    have v1 : vp_in (nI (33 + 3 * k + i)) 301 := vp_in_nI (by omega) (by omega)
    have v2 : vp_in (nI (33 + 3 * s + i)) 301 := vp_in_nI (by omega) (by omega)
    obtain ⟨r1, r2, r3⟩ := ih (i + 1) e (hp_i K 58 0 (33 + 3 * s + i) (K.1 58 0 (33 + 3 * k + i))) (by omega)
    rw [nI_succ] at r1 r2 r3
    have ef : iw_h_X12_comesNow_78 ((m + 1 + e) + 1) K x1 (nI s) x3 (nI (33 + 3 * k)) (nI i) = iw_h_X12_comesNow_78 (m + 1 + e) (hp_i K 58 0 (33 + 3 * s + i) (K.1 58 0 (33 + 3 * k + i))) x1 (nI s) x3 (nI (33 + 3 * k)) (nI i + 1) := by
      rw [iw_h_X12_comesNow_78, if_neg c1, e2, e1, nI_clamp (show 33 + 3 * s + i < 2 ^ 31 by omega), nI_clamp (show 33 + 3 * k + i < 2 ^ 31 by omega)]
    rw [ef]
    refine ⟨?_, fun j => ?_, fun t ht => ?_⟩
    · rw [pi_X12_comesNow_78, e2, e1, nI_clamp (show 33 + 3 * s + i < 2 ^ 31 by omega), nI_clamp (show 33 + 3 * k + i < 2 ^ 31 by omega)]
      exact ⟨fun z => (c1 z).elim, fun _ => ⟨v1, v2, r1⟩⟩
    · rw [r2 j]
      by_cases a : 33 + 3 * s + (i + 1) ≤ j ∧ j < 33 + 3 * s + 3
      · rw [if_pos a, if_pos (by omega), hp_i_g]
        by_cases b : j - 3 * s + 3 * k = 33 + 3 * s + i
        · omega
        · rw [if_neg b]
      · rw [if_neg a, hp_i_g]
        by_cases b : j = 33 + 3 * s + i
        · rw [if_pos b, if_pos (by omega), show j - 3 * s + 3 * k = 33 + 3 * k + i by omega]
        · rw [if_neg b, if_neg (by omega)]
    · rw [r3 t ht, hp_i_t ht]
theorem s_day (J : IT T) (hN : N = w 2) : ∀ (m k s e e' : Nat) (h hm : Hp) (v : Nat → Nat), k + m = N → DI T w v N d s k → DM hm v → DC h L v N →
    pw_X10_passDay_14 (m + 1 + e) h L (nI s) (nI k) ∧ pw_X12_comesNow_6 (m + 1 + e') hm (nI (k - s)) (nI s) (nI k) ∧ fw_X10_passDay_14 (m + 1 + e) h L (nI s) (nI k) = fw_X12_comesNow_6 (m + 1 + e') hm (nI (k - s)) (nI s) (nI k) ∧
    (∃ v' s', DI T w v' N d s' N ∧ (∀ j, j < 301 → ¬ (4 ≤ j ∧ j ≤ 8) → (gw_X12_comesNow_6 (m + 1 + e') hm (nI (k - s)) (nI s) (nI k)).1 58 0 j = nI (if j = 2 then s' else v' j)) ∧ (∀ j, 4 ≤ j → j ≤ 8 → (gw_X12_comesNow_6 (m + 1 + e') hm (nI (k - s)) (nI s) (nI k)).1 58 0 j = hm.1 58 0 j) ∧ (∀ t, ¬ t = 58 → (gw_X12_comesNow_6 (m + 1 + e') hm (nI (k - s)) (nI s) (nI k)).1 t 0 = hm.1 t 0) ∧
      (gw_X10_passDay_14 (m + 1 + e) h L (nI s) (nI k)).1 10 L 0 = nI d ∧ (gw_X10_passDay_14 (m + 1 + e) h L (nI s) (nI k)).1 10 L 1 = nI s' ∧ (∀ p, p < 12 → (gw_X10_passDay_14 (m + 1 + e) h L (nI s) (nI k)).1 48 L p = nI (v' (9 + p))) ∧ (∀ j, j < N → (gw_X10_passDay_14 (m + 1 + e) h L (nI s) (nI k)).1 50 L j = nI (v' (33 + 3 * j)) ∧ (gw_X10_passDay_14 (m + 1 + e) h L (nI s) (nI k)).1 51 L j = nI (v' (33 + 3 * j + 1)) ∧ (gw_X10_passDay_14 (m + 1 + e) h L (nI s) (nI k)).1 52 L j = nI (v' (33 + 3 * j + 2)))) := by
  have bT := J.1
  intro m
  induction m with
  | zero =>
    intro k s e e' h hm v hk D M C
    obtain rfl : k = N := by omega
    rw [show 0 + 1 + e = e + 1 by omega, show 0 + 1 + e' = e' + 1 by omega]
    obtain ⟨c1, c2, c3, c4⟩ := C
    obtain ⟨d1, d2, d3, d4, d5, d6, d7⟩ := id D
    have le : nI k ≤ nI k := nI_le (by omega) (by omega)
    have m2 : hm.1 58 0 2 = nI k := by rw [M 2 (by omega) (by omega), d6 2 (by omega) (by omega) (by omega), hN]
    have ec : gw_X10_passDay_14 (e + 1) h L (nI s) (nI k) = hp_i h 10 L 1 (nI s) := by rw [gw_X10_passDay_14, c2, if_pos le]
    have em : gw_X12_comesNow_6 (e' + 1) hm (nI (k - s)) (nI s) (nI k) = hp_i hm 58 0 2 (nI s) := by rw [gw_X12_comesNow_6, m2, if_pos le]
    rw [ec, em]
    refine ⟨?_, ?_, ?_, v, s, D, fun j h1 h2 => ?_, fun j h1 h2 => ?_, fun t ht => ?_, ?_, ?_, fun p hp => ?_, fun j hj => ?_⟩
    · simp [pw_X10_passDay_14, c2]
    · simp [pw_X12_comesNow_6, m2]
    · rw [fw_X10_passDay_14, c2, if_pos le, fw_X12_comesNow_6, m2, if_pos le]
      exact oa_sub d1
    · rw [hp_i_g]
      by_cases z : j = 2
      · rw [if_pos z, if_pos z]
      · rw [if_neg z, if_neg z]; exact M j h1 h2
    · rw [hp_i_g, if_neg (by omega)]
    · rw [hp_i_t ht]
    · rw [hp_i_g, if_neg (by omega), c1, d7]
    · rw [hp_i_g, if_pos rfl]
    · rw [hp_i_t (by omega)]; exact c3 p hp
    · rw [hp_i_t (by omega), hp_i_t (by omega), hp_i_t (by omega)]; exact c4 j hj
  | succ m ih =>
    intro k s e e' h hm v hk D M C
    rw [show m + 1 + 1 + e = (m + 1 + e) + 1 by omega, show m + 1 + 1 + e' = (m + 1 + e') + 1 by omega]
    obtain ⟨c1, c2, c3, c4⟩ := id C
    obtain ⟨d1, d2, d3, d4, d5, d6, d7⟩ := id D
    have hk2 : k < N := by omega
    have q := d4 k (Nat.le_refl _) hk2
    obtain ⟨x50, x51, x52⟩ := c4 k hk2
    have nle : ¬ nI N ≤ nI k := nI_ge hk2 (by omega)
    have m2 : hm.1 58 0 2 = nI N := by rw [M 2 (by omega) (by omega), d6 2 (by omega) (by omega) (by omega), hN]
    have m0 : hm.1 58 0 0 = nI d := by rw [M 0 (by omega) (by omega), d7]
    rw [d7] at c1
    have ix0 : (33 : Int32) + 3 * nI k = nI (33 + 3 * k) := oa_ix2 33 3 k
    have ix1 : nI (33 + 3 * k) + 1 = nI (33 + 3 * k + 1) := nI_add _ 1
    have ix2 : nI (33 + 3 * k) + 2 = nI (33 + 3 * k + 2) := nI_add _ 2
    have m50 : hm.1 58 0 (33 + 3 * k) = nI (v (33 + 3 * k)) := M _ (by omega) (by omega)
    have m51 : hm.1 58 0 (33 + 3 * k + 1) = nI (v (33 + 3 * k + 1)) := M _ (by omega) (by omega)
    have m52 : hm.1 58 0 (33 + 3 * k + 2) = nI (v (33 + 3 * k + 2)) := M _ (by omega) (by omega)
    have vk : vp_in (nI k) 20 := vp_in_nI (by omega) (by omega)
    have vs : vp_in (nI s) 20 := vp_in_nI (by omega) (by omega)
    have w0 : vp_in (nI (33 + 3 * k)) 301 := vp_in_nI (by omega) (by omega)
    have w1 : vp_in (nI (33 + 3 * k + 1)) 301 := vp_in_nI (by omega) (by omega)
    have w2 : vp_in (nI (33 + 3 * k + 2)) 301 := vp_in_nI (by omega) (by omega)
    by_cases hd : v (33 + 3 * k + 2) = d
    · -- it comes
      have e9 : (9 : Int32) + nI (v (33 + 3 * k)) = nI (9 + v (33 + 3 * k)) := nI_add 9 _
      have v9 : vp_in (nI (9 + v (33 + 3 * k))) 301 := vp_in_nI (by omega) (by omega)
      have m9 : hm.1 58 0 (9 + v (33 + 3 * k)) = nI (v (9 + v (33 + 3 * k))) := M _ (by omega) (by omega)
      have in1 := a_inside h (show v (33 + 3 * k) < 12 by omega) (by omega)
      have e12 : nI 12 = 12 := rfl
      rw [e12] at in1
      have vp : vp_in (nI (v (33 + 3 * k))) 12 := vp_in_nI (by omega) (by omega)
      have st : p_X10_stockOf h L (nI (v (33 + 3 * k))) ∧ f_X10_stockOf h L (nI (v (33 + 3 * k))) = nI (v (9 + v (33 + 3 * k))) := by
        refine ⟨?_, ?_⟩
        · simp [p_X10_stockOf, in1, vp]
        · simp [f_X10_stockOf, in1, nI_clamp (show v (33 + 3 * k) < 2 ^ 31 by omega), c3 _ (show v (33 + 3 * k) < 12 by omega)]
      have eg : ∀ y, g_X10_setStock h L (nI (v (33 + 3 * k))) y = hp_i h 48 L (v (33 + 3 * k)) y := fun y => by
        unfold g_X10_setStock
        rw [in1.2, if_neg (by decide), nI_clamp (show v (33 + 3 * k) < 2 ^ 31 by omega)]
      have pg : ∀ y, p_X10_setStock h L (nI (v (33 + 3 * k))) y := fun y => by
        unfold p_X10_setStock
        rw [in1.2]
        exact ⟨in1.1, fun z => absurd z (by decide), fun _ => ⟨vp, trivial⟩⟩
      have cv : ∀ j, ¬ j = 9 + v (33 + 3 * k) → ob_come v k j = v j := fun j hj => by unfold ob_come; rw [if_neg hj]
      have cv9 : ob_come v k (9 + v (33 + 3 * k)) = v (9 + v (33 + 3 * k)) + v (33 + 3 * k + 1) := by unfold ob_come; rw [if_pos rfl]
      obtain ⟨r1, r2, r3, r4⟩ := ih (k + 1) s e e' (hp_i h 48 L (v (33 + 3 * k)) (nI (v (9 + v (33 + 3 * k)) + v (33 + 3 * k + 1)))) (hp_i hm 58 0 (9 + v (33 + 3 * k)) (nI (v (9 + v (33 + 3 * k)) + v (33 + 3 * k + 1)))) (ob_come v k) (by omega) (D.come J hk2 hd) (fun j h1 h2 => by
        rw [hp_i_g]
        by_cases z : j = 9 + v (33 + 3 * k)
        · rw [if_pos z, z, cv9]
        · rw [if_neg z, cv j z]; exact M j h1 h2) ⟨by rw [hp_i_t (by omega), cv 0 (by omega), d7]; exact c1, by rw [hp_i_t (by omega)]; exact c2, fun p hp => by
        rw [hp_i_g]
        by_cases z : p = v (33 + 3 * k)
        · rw [if_pos z, z, cv9]
        · rw [if_neg z, cv _ (by omega)]; exact c3 p hp, fun j hj => by
        rw [hp_i_t (by omega), hp_i_t (by omega), hp_i_t (by omega), cv _ (by omega), cv _ (by omega), cv _ (by omega)]; exact c4 j hj⟩
      rw [nI_succ, show k + 1 - s = (k - s) + 1 by omega, nI_succ (k - s)] at r2 r3 r4
      rw [nI_succ] at r1
      have ec : gw_X10_passDay_14 ((m + 1 + e) + 1) h L (nI s) (nI k) = gw_X10_passDay_14 (m + 1 + e) (hp_i h 48 L (v (33 + 3 * k)) (nI (v (9 + v (33 + 3 * k)) + v (33 + 3 * k + 1)))) L (nI s) (nI k + 1) := by
        rw [gw_X10_passDay_14, c2, if_neg nle, c1, nI_clamp (show k < 2 ^ 31 by omega), x52, hd, if_neg (fun z => z rfl), x50, x51, st.2, eg, nI_add]
      have em : gw_X12_comesNow_6 ((m + 1 + e') + 1) hm (nI (k - s)) (nI s) (nI k) = gw_X12_comesNow_6 (m + 1 + e') (hp_i hm 58 0 (9 + v (33 + 3 * k)) (nI (v (9 + v (33 + 3 * k)) + v (33 + 3 * k + 1)))) (nI (k - s) + 1) (nI s) (nI k + 1) := by
        rw [gw_X12_comesNow_6, m2, if_neg nle, m0, ix0, ix2, ix1, nI_clamp (show 33 + 3 * k + 2 < 2 ^ 31 by omega), nI_clamp (show 33 + 3 * k + 1 < 2 ^ 31 by omega), nI_clamp (show 33 + 3 * k < 2 ^ 31 by omega), m52, hd, if_neg (fun z => z rfl), m50, m51, e9, nI_clamp (show 9 + v (33 + 3 * k) < 2 ^ 31 by omega), m9, nI_add]
      rw [ec, em]
      refine ⟨?_, ?_, ?_, ?_⟩
      · rw [pw_X10_passDay_14, c2, c1, nI_clamp (show k < 2 ^ 31 by omega), x52, hd, x50, x51, st.2, eg, nI_add]
        exact ⟨fun z => (nle z).elim, fun _ => ⟨vk, fun z => (z rfl).elim, fun _ => ⟨vk, st.1, vk, pg _, r1⟩⟩⟩
      · rw [pw_X12_comesNow_6, m2, m0, ix0, ix2, ix1, nI_clamp (show 33 + 3 * k + 2 < 2 ^ 31 by omega), nI_clamp (show 33 + 3 * k + 1 < 2 ^ 31 by omega), nI_clamp (show 33 + 3 * k < 2 ^ 31 by omega), m52, hd, m50, m51, e9, nI_clamp (show 9 + v (33 + 3 * k) < 2 ^ 31 by omega), m9, nI_add]
        exact ⟨fun z => (nle z).elim, fun _ => ⟨w2, fun z => (z rfl).elim, fun _ => ⟨w0, v9, w1, v9, r2⟩⟩⟩
      · rw [fw_X10_passDay_14, c2, if_neg nle, c1, nI_clamp (show k < 2 ^ 31 by omega), x52, hd, if_neg (fun z => z rfl), x50, x51, st.2, eg, nI_add, fw_X12_comesNow_6, m2, if_neg nle, m0, ix0, ix2, ix1, nI_clamp (show 33 + 3 * k + 2 < 2 ^ 31 by omega), nI_clamp (show 33 + 3 * k + 1 < 2 ^ 31 by omega), nI_clamp (show 33 + 3 * k < 2 ^ 31 by omega), m52, hd, if_neg (fun z => z rfl), m50, m51, e9, nI_clamp (show 9 + v (33 + 3 * k) < 2 ^ 31 by omega), m9, nI_add, r3]
      · obtain ⟨v', s', t1, t2, t3, t4, t6, t7, t8, t9⟩ := r4
        refine ⟨v', s', t1, t2, fun j h1 h2 => ?_, fun t ht => ?_, t6, t7, t8, t9⟩
        · rw [t3 j h1 h2, hp_i_g, if_neg (by omega)]
        · rw [t4 t ht, hp_i_t ht]
    · -- it stays
      have hne : ¬ nI (v (33 + 3 * k + 2)) = nI d := by
        intro z
        by_cases y : d < 2 ^ 30
        · exact hd ((nI_eq (by omega) (by omega)).mp z)
        · exact hd (by
            have a := congrArg (fun x : Int32 => x.toBitVec.toNat) z
            have b : ∀ x : Nat, (nI x).toBitVec.toNat = x % 2 ^ 32 := fun x => rfl
            simp only [b] at a
            omega)
      obtain ⟨e3, he3⟩ := oa_fuel (show 3 < 1000000 by omega)
      obtain ⟨g1, g2, g3⟩ := m_cp3 (x1 := nI (k - s)) (x3 := nI k) d1 (show k < 20 by omega) 3 0 e3 hm (by omega)
      rw [← he3, nI_0] at g1 g2 g3
      have cmv : ∀ j, j < N → (hp_i (hp_i (hp_i h 50 L s (nI (v (33 + 3 * k)))) 51 L s (nI (v (33 + 3 * k + 1)))) 52 L s (nI (v (33 + 3 * k + 2)))).1 50 L j = nI (ob_move v s k (33 + 3 * j)) ∧ (hp_i (hp_i (hp_i h 50 L s (nI (v (33 + 3 * k)))) 51 L s (nI (v (33 + 3 * k + 1)))) 52 L s (nI (v (33 + 3 * k + 2)))).1 51 L j = nI (ob_move v s k (33 + 3 * j + 1)) ∧ (hp_i (hp_i (hp_i h 50 L s (nI (v (33 + 3 * k)))) 51 L s (nI (v (33 + 3 * k + 1)))) 52 L s (nI (v (33 + 3 * k + 2)))).1 52 L j = nI (ob_move v s k (33 + 3 * j + 2)) := fun j hj => by
        rw [hp_i_t (show ¬ 50 = 52 by omega), hp_i_t (show ¬ 50 = 51 by omega), hp_i_g, hp_i_t (show ¬ 51 = 52 by omega), hp_i_g, hp_i_t (show ¬ 51 = 50 by omega), hp_i_g, hp_i_t (show ¬ 52 = 51 by omega), hp_i_t (show ¬ 52 = 50 by omega)]
        by_cases z : j = s
        · rw [if_pos z, if_pos z, if_pos z, z, ob_mv0, ob_mv1, ob_mv2]
          exact ⟨rfl, rfl, rfl⟩
        · rw [if_neg z, if_neg z, if_neg z, ob_mvn (by omega), ob_mvn (by omega), ob_mvn (by omega)]
          exact c4 j hj
      obtain ⟨r1, r2, r3, r4⟩ := ih (k + 1) (s + 1) e e' (hp_i (hp_i (hp_i h 50 L s (nI (v (33 + 3 * k)))) 51 L s (nI (v (33 + 3 * k + 1)))) 52 L s (nI (v (33 + 3 * k + 2)))) (iw_h_X12_comesNow_78 oa_N hm (nI (k - s)) (nI s) (nI k) (nI (33 + 3 * k)) 0) (ob_move v s k) (by omega) (D.move J hk2 hd) (fun j h1 h2 => by
        rw [g2 j]
        unfold ob_move
        by_cases z : 33 + 3 * s ≤ j ∧ j < 33 + 3 * s + 3
        · rw [if_pos (by omega), if_pos z]; exact M _ (by omega) (by omega)
        · rw [if_neg (by omega), if_neg z]; exact M j h1 h2) ⟨by rw [hp_i_t (by omega), hp_i_t (by omega), hp_i_t (by omega), ob_mvn (by omega), d7]; exact c1, by rw [hp_i_t (by omega), hp_i_t (by omega), hp_i_t (by omega)]; exact c2, fun p hp => by
        rw [hp_i_t (by omega), hp_i_t (by omega), hp_i_t (by omega), ob_mvn (by omega)]; exact c3 p hp, cmv⟩
      rw [nI_succ k, nI_succ s, show k + 1 - (s + 1) = k - s by omega] at r2 r3 r4
      rw [nI_succ k, nI_succ s] at r1
      have ec : gw_X10_passDay_14 ((m + 1 + e) + 1) h L (nI s) (nI k) = gw_X10_passDay_14 (m + 1 + e) (hp_i (hp_i (hp_i h 50 L s (nI (v (33 + 3 * k)))) 51 L s (nI (v (33 + 3 * k + 1)))) 52 L s (nI (v (33 + 3 * k + 2)))) L (nI s + 1) (nI k + 1) := by
        rw [gw_X10_passDay_14, c2, if_neg nle, c1, nI_clamp (show k < 2 ^ 31 by omega), nI_clamp (show s < 2 ^ 31 by omega), x52, if_pos hne, x50, x51]
      have em : gw_X12_comesNow_6 ((m + 1 + e') + 1) hm (nI (k - s)) (nI s) (nI k) = gw_X12_comesNow_6 (m + 1 + e') (iw_h_X12_comesNow_78 oa_N hm (nI (k - s)) (nI s) (nI k) (nI (33 + 3 * k)) 0) (nI (k - s)) (nI s + 1) (nI k + 1) := by
        rw [gw_X12_comesNow_6, m2, if_neg nle, m0, ix0, ix2, nI_clamp (show 33 + 3 * k + 2 < 2 ^ 31 by omega), m52, if_pos hne]
      rw [ec, em]
      refine ⟨?_, ?_, ?_, ?_⟩
      · rw [pw_X10_passDay_14, c2, c1, nI_clamp (show k < 2 ^ 31 by omega), nI_clamp (show s < 2 ^ 31 by omega), x52, x50, x51]
        exact ⟨fun z => (nle z).elim, fun _ => ⟨vk, fun _ => ⟨vk, vs, vk, vs, vk, vs, r1⟩, fun z => (hne z).elim⟩⟩
      · rw [pw_X12_comesNow_6, m2, m0, ix0, ix2, nI_clamp (show 33 + 3 * k + 2 < 2 ^ 31 by omega), m52]
        exact ⟨fun z => (nle z).elim, fun _ => ⟨w2, fun _ => ⟨g1, r2⟩, fun z => (hne z).elim⟩⟩
      · rw [fw_X10_passDay_14, c2, if_neg nle, c1, nI_clamp (show k < 2 ^ 31 by omega), nI_clamp (show s < 2 ^ 31 by omega), x52, if_pos hne, x50, x51, fw_X12_comesNow_6, m2, if_neg nle, m0, ix0, ix2, nI_clamp (show 33 + 3 * k + 2 < 2 ^ 31 by omega), m52, if_pos hne, r3]
      · obtain ⟨v', s', t1, t2, t3, t4, t6, t7, t8, t9⟩ := r4
        refine ⟨v', s', t1, t2, fun j h1 h2 => ?_, fun t ht => ?_, t6, t7, t8, t9⟩
        · rw [t3 j h1 h2, g2 j, if_neg (by omega)]
        · rw [t4 t ht, g3 t ht]
end RAP
