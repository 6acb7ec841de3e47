theorem hp_i_g {h : Hp} {t i k j : Nat} {x : Int32} : (hp_i h t i k x).1 t i j = if j = k then x else h.1 t i j := by
  unfold hp_i
  rw [hp_a_s]
  rfl
section QAI
variable {h hm : Hp} {c L : Nat} {T w F : Nat → Nat} {n : Nat}
theorem RG.turn {k : Nat} {x : Int32} (G : RG h L w) : RG (hp_i h 15 0 k x) L w := G
theorem a_turnI {o : Nat} {t : Nat → Nat} (I : IW T w n) (ho : o < w 1) (ht : ∀ j, j < o → t j < o) : ∀ (pl e : Nat) (h : Hp), RG h L w → pl ≤ o → (∀ j, j < pl → h.1 15 0 j = nI (t j)) →
    pi_X6_fillTurns_18 (pl + 1 + e) h L 15 0 20 (nI o) (nI pl) ∧ ∃ p, iw_x3_X6_fillTurns_18 (pl + 1 + e) h L 15 0 20 (nI o) (nI pl) = nI p ∧ p ≤ pl ∧ (∀ j, p ≤ j → j < pl → oa_ah w o (t j) = true) ∧ (p = 0 ∨ ¬ oa_ah w o (t (p - 1)) = true) ∧
      (∀ j, j < p → (iw_h_X6_fillTurns_18 (pl + 1 + e) h L 15 0 20 (nI o) (nI pl)).1 15 0 j = nI (t j)) ∧ (∀ j, p < j → j ≤ pl → (iw_h_X6_fillTurns_18 (pl + 1 + e) h L 15 0 20 (nI o) (nI pl)).1 15 0 j = nI (t (j - 1))) ∧ (∀ j, pl < j → (iw_h_X6_fillTurns_18 (pl + 1 + e) h L 15 0 20 (nI o) (nI pl)).1 15 0 j = h.1 15 0 j) := by
  have hw := I.1.2.1
  intro pl
  induction pl with
  | zero =>
    intro e h G hp hr
    rw [show 0 + 1 + e = e + 1 by omega]
    have c1 : nI 0 ≤ 0 := by decide
    refine ⟨?_, 0, ?_, Nat.le_refl _, fun j h1 h2 => by omega, Or.inl rfl, fun j hj => by omega, fun j h1 h2 => by omega, fun j hj => ?_⟩
    · simp [pi_X6_fillTurns_18, c1]
    · simp [iw_x3_X6_fillTurns_18, c1]
    · simp [iw_h_X6_fillTurns_18, c1]
  | succ pl ih =>
    intro e h G hp hr
    rw [show pl + 1 + 1 + e = (pl + 1 + e) + 1 by omega]
    have c1 : ¬ nI (pl + 1) ≤ 0 := nI_nle (by omega) (by omega)
    have e1 : nI (pl + 1) - 1 = nI pl := nI_pred pl
    have e2 : nI (pl + 1) + -1 = nI pl := by rw [nI_succ]; grind
    have v1 : vp_in (nI pl) 20 := vp_in_nI (by omega) (by omega)
    have v2 : vp_in (nI (pl + 1)) 20 := vp_in_nI (by omega) (by omega)
    have r1 := hr pl (by omega)
    have b := a_before G I ho (ht pl (by omega))
    by_cases d : oa_ah w o (t pl) = true
    · obtain ⟨i1, p, i2, i3, i4, i5, i6, i7, i8⟩ := ih e (hp_i h 15 0 (pl + 1) (nI (t pl))) G.turn (by omega) (fun j hj => by rw [hp_i_g, if_neg (by omega)]; exact hr j (by omega))
      rw [d, if_pos rfl] at b
      have ef : iw_h_X6_fillTurns_18 ((pl + 1 + e) + 1) h L 15 0 20 (nI o) (nI (pl + 1)) = iw_h_X6_fillTurns_18 (pl + 1 + e) (hp_i h 15 0 (pl + 1) (nI (t pl))) L 15 0 20 (nI o) (nI pl) := by
        rw [iw_h_X6_fillTurns_18, e1, nI_clamp (show pl < 2 ^ 31 by omega), r1, b.2, if_neg c1, if_neg (by decide), nI_clamp (show pl + 1 < 2 ^ 31 by omega), e2]
      refine ⟨?_, p, ?_, by omega, fun j h1 h2 => ?_, i5, fun j hj => ?_, fun j h1 h2 => ?_, fun j hj => ?_⟩
      · simp only [pi_X6_fillTurns_18, e1, nI_clamp (show pl < 2 ^ 31 by omega), r1, b.2, nI_clamp (show pl + 1 < 2 ^ 31 by omega), e2]
        simp [c1, v1, v2, b.1, i1]
      · simp only [iw_x3_X6_fillTurns_18, e1, nI_clamp (show pl < 2 ^ 31 by omega), r1, b.2, nI_clamp (show pl + 1 < 2 ^ 31 by omega), e2]
        simp [c1, i2]
      · by_cases z : j = pl
        · rw [z]; exact d
        · exact i4 j h1 (by omega)
      · rw [ef]; exact i6 j hj
      · rw [ef]
        by_cases z : j = pl + 1
        · rw [z, i8 (pl + 1) (by omega), hp_i_g, if_pos rfl]; rfl
        · exact i7 j h1 (by omega)
      · rw [ef, i8 j (by omega), hp_i_g, if_neg (by omega)]
    · rw [if_neg d] at b
      have ef : iw_h_X6_fillTurns_18 ((pl + 1 + e) + 1) h L 15 0 20 (nI o) (nI (pl + 1)) = h := by
        rw [iw_h_X6_fillTurns_18, e1, nI_clamp (show pl < 2 ^ 31 by omega), r1, b.2, if_neg c1, if_pos rfl]
      refine ⟨?_, pl + 1, ?_, Nat.le_refl _, fun j h1 h2 => by omega, Or.inr d, fun j hj => ?_, fun j h1 h2 => by omega, fun j hj => ?_⟩
      · simp only [pi_X6_fillTurns_18, e1, nI_clamp (show pl < 2 ^ 31 by omega), r1, b.2]
        simp [c1, v1, b.1]
      · simp only [iw_x3_X6_fillTurns_18, e1, nI_clamp (show pl < 2 ^ 31 by omega), r1, b.2]
        simp [c1]
      · rw [ef]; exact hr j hj
      · rw [ef]
/-- turns: sorted, of the orders below m -/
def oa_srt (w t : Nat → Nat) (m : Nat) : Prop := (∀ j, j < m → t j < m) ∧ (∀ i j, i < j → j < m → oa_ah w (t i) (t j) = true) ∧ (∀ o, o < m → ∃ j, j < m ∧ t j = o)
def oa_ins (t : Nat → Nat) (p o j : Nat) : Nat := if j < p then t j else if j = p then o else t (j - 1)
theorem oa_srt_ins {t : Nat → Nat} {o p : Nat} (S : oa_srt w t o) (hp : p ≤ o) (h1 : ∀ j, p ≤ j → j < o → oa_ah w o (t j) = true) (h2 : p = 0 ∨ ¬ oa_ah w o (t (p - 1)) = true) : oa_srt w (oa_ins t p o) (o + 1) := by
  obtain ⟨s1, s2, s3⟩ := S
  have low : ∀ i, i < p → oa_ah w (t i) o = true := by
    intro i hi
    rcases h2 with h2 | h2
    · omega
    · have t1 := s1 (p - 1) (by omega)
      have z : oa_ah w (t (p - 1)) o = true := by
        rcases oa_ah_to (w := w) (show o ≠ t (p - 1) by omega) with z | z
        · exact (h2 z).elim
        · exact z
      by_cases e : i = p - 1
      · rw [e]; exact z
      · exact oa_ah_tr (s2 i (p - 1) (by omega) (by omega)) z
  refine ⟨fun j hj => ?_, fun i j hi hj => ?_, fun q hq => ?_⟩
  · unfold oa_ins
    split
    · have := s1 j (by omega); omega
    · split
      · omega
      · have := s1 (j - 1) (by omega); omega
  · unfold oa_ins
    by_cases a : j < p
    · rw [if_pos (show i < p by omega), if_pos a]
      exact s2 i j hi (by omega)
    · by_cases b : j = p
      · rw [if_pos (show i < p by omega), if_neg a, if_pos b]
        exact low i (by omega)
      · rw [if_neg a, if_neg b]
        by_cases c : i < p
        · rw [if_pos c]
          exact s2 i (j - 1) (by omega) (by omega)
        · by_cases d : i = p
          · rw [if_neg c, if_pos d]
            exact h1 (j - 1) (by omega) (by omega)
          · rw [if_neg c, if_neg d]
            exact s2 (i - 1) (j - 1) (by omega) (by omega)
  · by_cases e : q = o
    · exact ⟨p, by omega, by unfold oa_ins; rw [if_neg (by omega), if_pos rfl, e]⟩
    · obtain ⟨j, hj, rfl⟩ := s3 q (by omega)
      by_cases a : j < p
      · exact ⟨j, by omega, by unfold oa_ins; rw [if_pos a]⟩
      · exact ⟨j + 1, by omega, by unfold oa_ins; rw [if_neg (by omega), if_neg (by omega)]; rfl⟩
theorem a_turnL (I : IW T w n) : ∀ (m o e : Nat) (h : Hp) (t : Nat → Nat), RG h L w → o + m = w 1 → oa_srt w t o → (∀ j, j < o → h.1 15 0 j = nI (t j)) →
    pw_X6_fillTurns_2 (m + 1 + e) h L 15 0 20 (nI o) ∧ ∃ t', oa_srt w t' (w 1) ∧ ∀ j, j < w 1 → (gw_X6_fillTurns_2 (m + 1 + e) h L 15 0 20 (nI o)).1 15 0 j = nI (t' j) := by
  have hw := I.1.2.1
  intro m
  induction m with
  | zero =>
    intro o e h t G ho S hr
    obtain rfl : o = w 1 := by omega
    rw [show 0 + 1 + e = e + 1 by omega]
    have c1 : nI (w 1) ≤ nI (w 1) := nI_le (by omega) (by omega)
    refine ⟨?_, t, S, fun j hj => ?_⟩
    · simp [pw_X6_fillTurns_2, G.1.2.1]
    · rw [gw_X6_fillTurns_2, G.1.2.1, if_pos c1]
      exact hr j hj
  | succ m ih =>
    intro o e h t G ho S hr
    rw [show m + 1 + 1 + e = (m + 1 + e) + 1 by omega]
    have c1 : ¬ nI (w 1) ≤ nI o := nI_ge (by omega) (by omega)
    have c2 : ¬ Int32.ofNat 20 ≤ nI o := nI_ge (b := 20) (by omega) (by omega)
    obtain ⟨e2, he⟩ := oa_fuel (show o < 1000000 by omega)
    obtain ⟨i1, p, i2, i3, i4, i5, i6, i7, i8⟩ := a_turnI (t := t) I (show o < w 1 by omega) S.1 o e2 h G (Nat.le_refl _) hr
    rw [← he] at i1 i2 i6 i7 i8
    have v1 : vp_in (nI p) 20 := vp_in_nI (by omega) (by omega)
    have G1 : RG (iw_h_X6_fillTurns_18 oa_N h L 15 0 20 (nI o) (nI o)) L w := G.same (fun t ht => fr_iw_h_X6_fillTurns_18 (by omega) _ _ _ _ _ _)
    obtain ⟨r1, t', r2, r3⟩ := ih (o + 1) e (hp_i (iw_h_X6_fillTurns_18 oa_N h L 15 0 20 (nI o) (nI o)) 15 0 p (nI o)) (oa_ins t p o) G1.turn (by omega) (oa_srt_ins S i3 i4 i5) (fun j hj => by
      rw [hp_i_g]
      unfold oa_ins
      by_cases a : j = p
      · rw [if_pos a, if_neg (by omega), if_pos a]
      · rw [if_neg a]
        by_cases b : j < p
        · rw [if_pos b]; exact i6 j b
        · rw [if_neg b, if_neg a]; exact i7 j (by omega) (by omega))
    rw [nI_succ] at r1 r3
    refine ⟨?_, t', r2, fun j hj => ?_⟩
    · simp only [pw_X6_fillTurns_2, G.1.2.1, i2, nI_clamp (show p < 2 ^ 31 by omega)]
      simp only [c1, c2, not_false_eq_true, false_implies, true_implies, true_and, not_true_eq_false]
      exact ⟨i1, v1, r1⟩
    · rw [gw_X6_fillTurns_2, G.1.2.1, if_neg c1, if_neg c2, i2, nI_clamp (show p < 2 ^ 31 by omega)]
      exact r3 j hj
theorem a_fillTurns (I : IW T w n) (G : RG h L w) : p_X6_fillTurns h L 15 0 20 ∧ ∃ t, oa_srt w t (w 1) ∧ ∀ j, j < w 1 → (g_X6_fillTurns h L 15 0 20).1 15 0 j = nI (t j) := by
  obtain ⟨e, he⟩ := oa_fuel (show w 1 < 1000000 by have := I.1; omega)
  have a := a_turnL I (w 1) 0 e h (fun j => j) G (by omega) ⟨fun j hj => by omega, fun i j _ hj => by omega, fun o ho => by omega⟩ (fun j hj => by omega)
  rw [← he, nI_0] at a
  exact a
theorem a_fillJ {t0 i0 N : Nat} {x : Int32} (hN : N < 1000) : ∀ (m k e : Nat) (h : Hp), k + m = N →
    pw_J7_fill_53178_5 (m + 1 + e) h t0 i0 N x (nI k) (Int32.ofNat N) ∧ (∀ j, k ≤ j → j < N → (gw_J7_fill_53178_5 (m + 1 + e) h t0 i0 N x (nI k) (Int32.ofNat N)).1 t0 i0 j = x) ∧ (∀ j, (j < k ∨ N ≤ j) → (gw_J7_fill_53178_5 (m + 1 + e) h t0 i0 N x (nI k) (Int32.ofNat N)).1 t0 i0 j = h.1 t0 i0 j) := by
  intro m
  induction m with
  | zero =>
    intro k e h hk
    rw [show 0 + 1 + e = e + 1 by omega]
    have c1 : Int32.ofNat N ≤ nI k := nI_le (a := N) (by omega) (by omega)
    refine ⟨?_, fun j h1 h2 => by omega, fun j hj => ?_⟩
    · simp [pw_J7_fill_53178_5, c1]
    · rw [gw_J7_fill_53178_5, if_pos c1]
  | succ m ih =>
    intro k e h hk
    rw [show m + 1 + 1 + e = (m + 1 + e) + 1 by omega]
    have c1 : ¬ Int32.ofNat N ≤ nI k := nI_ge (b := N) (by omega) (by omega)
    have v1 : vp_in (nI k) N := vp_in_nI (by omega) (by omega)
    obtain ⟨r1, r2, r3⟩ := ih (k + 1) e (hp_i h t0 i0 k x) (by omega)
    rw [nI_succ] at r1 r2 r3
    refine ⟨?_, fun j h1 h2 => ?_, fun j hj => ?_⟩
    · simp only [pw_J7_fill_53178_5, nI_clamp (show k < 2 ^ 31 by omega)]
      simp [c1, v1, r1]
    · rw [gw_J7_fill_53178_5, if_neg c1, nI_clamp (show k < 2 ^ 31 by omega)]
      by_cases z : j = k
      · rw [r3 j (by omega), hp_i_g, if_pos z]
      · exact r2 j (by omega) h2
    · rw [gw_J7_fill_53178_5, if_neg c1, nI_clamp (show k < 2 ^ 31 by omega), r3 j (by omega), hp_i_g, if_neg (by omega)]
theorem a_fillA {t0 i0 N : Nat} {x : Int32} (h : Hp) (hN : N < 1000) : p_J7_fill_53178 h t0 i0 N x ∧ (∀ j, j < N → (g_J7_fill_53178 h t0 i0 N x).1 t0 i0 j = x) ∧ (∀ j, N ≤ j → (g_J7_fill_53178 h t0 i0 N x).1 t0 i0 j = h.1 t0 i0 j) := by
  obtain ⟨e, he⟩ := oa_fuel (show N < 1000000 by omega)
  have a := a_fillJ (t0 := t0) (i0 := i0) (x := x) hN N 0 e h (by omega)
  rw [← he, nI_0] at a
  exact ⟨a.1, fun j hj => a.2.1 j (by omega) hj, fun j hj => a.2.2 j (Or.inr hj)⟩
end QAI
