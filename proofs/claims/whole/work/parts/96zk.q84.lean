/-! load: a line of a bill, the model's loops -/
section MLI
variable {h k : Hp} {x : Nat → Nat} {t s c q l p v m : Nat} {T : Nat → Nat} {x1 x2 x3 x4 : Int32}
theorem m_118F (hb : f_X12_hasFailed k = 1) (f : Nat) (x5 : Int32) : pw_X12_line_118 (f + 1) k x1 x2 x3 x4 x5 ∧ gw_X12_line_118 (f + 1) k x1 x2 x3 x4 x5 = k := by
  have nF : ¬ f_X12_hasFailed k = 0 := by rw [hb]; decide
  rw [pw_X12_line_118, gw_X12_line_118, if_pos nF, if_neg nF, ite_self]
  exact ⟨⟨fun _ => ⟨m_pF _, fun z => (nF z).elim, fun _ => trivial⟩, fun _ => ⟨m_pF _, fun _ => ⟨m_pF _, fun z => (nF z).elim, fun _ => trivial⟩, fun z => (nF z).elim⟩⟩, rfl⟩
theorem m_72F (hb : f_X12_hasFailed k = 1) (hq : q < 8) (hl : l ≤ 6) : ∀ (n f j : Nat), j + n = l → pw_X12_line_72 (n + 1 + f) k (nI q) (nI l) x3 x4 (nI j) ∧ gw_X12_line_72 (n + 1 + f) k (nI q) (nI l) x3 x4 (nI j) = k := by
  intro n
  induction n with
  | zero =>
    intro f j hj
    have c1 : nI l ≤ nI j := nI_le (by omega) (by omega)
    obtain ⟨e, he⟩ := oa_fuel (show 0 < 1000000 by omega)
    have r := m_118F (x1 := nI q) (x2 := nI l) (x3 := x3) (x4 := x4) hb e 0
    rw [show 0 + 1 + f = f + 1 by omega, pw_X12_line_72, gw_X12_line_72, if_pos c1, he, show 0 + 1 + e = e + 1 by omega]
    exact ⟨⟨fun _ => r.1, fun z => (z c1).elim⟩, r.2⟩
  | succ n ih =>
    intro f j hj
    have c1 : ¬ nI l ≤ nI j := nI_ge (by omega) (by omega)
    have en : nI j + 1 = nI (j + 1) := nI_add j 1
    have e2 : ((196 : Int32) + 6 * nI q) + nI j = nI (196 + 6 * q + j) := oa_ix3 196 6 q j
    have r := ih f (j + 1) (by omega)
    rw [show n + 1 + 1 + f = (n + 1 + f) + 1 by omega, pw_X12_line_72, gw_X12_line_72, if_neg c1, e2, en, m_mustF hb]
    exact ⟨⟨fun z => (c1 z).elim, fun _ => ⟨vp_in_nI (by omega) (by omega), m_pM _ _ _, r.1⟩⟩, r.2⟩
theorem m_72 (R : RD k T) (hq : q < 8) (hl : l ≤ 6) (hm : m < 20) (hi : ∀ j, j < l → T (196 + 6 * q + j) < 20) (e7 : k.1 12 0 7 = -1) (e5 : k.1 12 0 5 = nI s) (hs : s < 2 ^ 31) : ∀ (n f j : Nat), j + n = l →
    ((∀ j', j ≤ j' → j' < l → ¬ T (196 + 6 * q + j') = m) ∧ (pw_X12_line_118 oa_N k (nI q) (nI l) x3 (nI m) 0 → pw_X12_line_72 (n + 1 + f) k (nI q) (nI l) x3 (nI m) (nI j)) ∧ gw_X12_line_72 (n + 1 + f) k (nI q) (nI l) x3 (nI m) (nI j) = gw_X12_line_118 oa_N k (nI q) (nI l) x3 (nI m) 0) ∨
    ((∃ j', j ≤ j' ∧ j' < l ∧ T (196 + 6 * q + j') = m) ∧ pw_X12_line_72 (n + 1 + f) k (nI q) (nI l) x3 (nI m) (nI j) ∧ gw_X12_line_72 (n + 1 + f) k (nI q) (nI l) x3 (nI m) (nI j) = g_X12_must k 0 3) := by
  intro n
  induction n with
  | zero =>
    intro f j hj
    have c1 : nI l ≤ nI j := nI_le (by omega) (by omega)
    rw [show 0 + 1 + f = f + 1 by omega, pw_X12_line_72, gw_X12_line_72, if_pos c1]
    exact Or.inl ⟨fun j' y1 y2 => by omega, fun z => ⟨fun _ => z, fun z => (z c1).elim⟩, rfl⟩
  | succ n ih =>
    intro f j hj
    have c1 : ¬ nI l ≤ nI j := nI_ge (by omega) (by omega)
    have en : nI j + 1 = nI (j + 1) := nI_add j 1
    have e2 : ((196 : Int32) + 6 * nI q) + nI j = nI (196 + 6 * q + j) := oa_ix3 196 6 q j
    have vj : vp_in (nI (196 + 6 * q + j)) 506 := vp_in_nI (by omega) (by omega)
    have ij := hi j (by omega)
    rw [show n + 1 + 1 + f = (n + 1 + f) + 1 by omega, pw_X12_line_72, gw_X12_line_72, if_neg c1, e2, en, nI_clamp (by omega), R _ (by omega)]
    by_cases d : T (196 + 6 * q + j) = m
    · have b7 : (g_X12_must k 0 3).1 12 0 7 = nI s := by
        rw [m_must0 e7, hp_i_g, if_neg (by omega), hp_i_g, if_pos rfl, e5]
      have hb := m_bad hs b7
      have r := m_72F (x3 := x3) (x4 := nI m) hb hq hl n f (j + 1) (by omega)
      rw [d, if_pos rfl]
      exact Or.inr ⟨⟨j, by omega, by omega, d⟩, ⟨fun z => (c1 z).elim, fun _ => ⟨vj, m_pM _ _ _, r.1⟩⟩, r.2⟩
    · have c2 : ¬ nI (T (196 + 6 * q + j)) = nI m := fun z => d ((nI_eq (by omega) (by omega)).mp z)
      rw [if_neg c2, m_must1 (show ¬ (1 : Int32) = 0 by decide)]
      rcases ih f (j + 1) (by omega) with ⟨r1, r2, r3⟩ | ⟨⟨j', r0, r1, r4⟩, r2, r3⟩
      · refine Or.inl ⟨fun j' y1 y2 => ?_, fun z => ⟨fun z => (c1 z).elim, fun _ => ⟨vj, m_pM _ _ _, r2 z⟩⟩, r3⟩
        by_cases y : j' = j
        · rw [y]; exact d
        · exact r1 j' (by omega) y2
      · exact Or.inr ⟨⟨j', by omega, r1, r4⟩, ⟨fun z => (c1 z).elim, fun _ => ⟨vj, m_pM _ _ _, r2⟩⟩, r3⟩
/-- the last writes of the model's line -/
def ob_ML (k : Hp) (q l : Nat) (v m : Int32) : Hp := hp_i (hp_i (hp_i (g_X12_letters k) 12 0 4 (k.1 12 0 4 + f_X12_letters k)) 57 0 (196 + 6 * q + l) m) 57 0 (244 + 6 * q + l) v
theorem ob_iu_c {T' : Nat → Nat} (e : ¬ m < 12 → T' (292 + 12 * (m - 12) + p) = T (292 + 12 * (m - 12) + p)) : ob_iu T' m p = ob_iu T m p := by
  unfold ob_iu
  by_cases z : m < 12
  · rw [if_pos z, if_pos z]
  · rw [if_neg z, if_neg z, e z]
theorem m_118 (hq : q < 8) (hl : l < 6) (hm : m < 12 + q) (hv : v ≤ 20) (hs : s < 2 ^ 31) : ∀ (n f p : Nat) (k : Hp) (T : Nat → Nat), p + n = 12 → RD k T → (∀ p', p' < 12 → T (292 + 12 * q + p') ≤ 9999 ∧ ob_iu T m p' ≤ 9999) → k.1 12 0 7 = -1 → k.1 12 0 5 = nI s →
    ((∀ p', p ≤ p' → p' < 12 → T (292 + 12 * q + p') + v * ob_iu T m p' ≤ 9999) ∧ ∃ k', (∀ a j, ¬ (a = 57 ∧ j = 0) → k'.1 a j = k.1 a j) ∧ (∀ a, k'.1 57 0 a = if 292 + 12 * q + p ≤ a ∧ a < 292 + 12 * q + 12 then nI (T a + v * ob_iu T m (a - (292 + 12 * q))) else k.1 57 0 a) ∧
        (p_X12_letters k' → pw_X12_line_118 (n + 1 + f) k (nI q) (nI l) (nI v) (nI m) (nI p)) ∧ gw_X12_line_118 (n + 1 + f) k (nI q) (nI l) (nI v) (nI m) (nI p) = ob_ML k' q l (nI v) (nI m)) ∨
    ((∃ p', p ≤ p' ∧ p' < 12 ∧ 9999 < T (292 + 12 * q + p') + v * ob_iu T m p') ∧ pw_X12_line_118 (n + 1 + f) k (nI q) (nI l) (nI v) (nI m) (nI p) ∧ ∃ k', (∀ a j, ¬ (a = 57 ∧ j = 0) → k'.1 a j = k.1 a j) ∧ gw_X12_line_118 (n + 1 + f) k (nI q) (nI l) (nI v) (nI m) (nI p) = g_X12_must k' 0 5) := by
  have eq6 : (196 : Int32) + 6 * nI q + nI l = nI (196 + 6 * q + l) := oa_ix3 196 6 q l
  have eq4 : (244 : Int32) + 6 * nI q + nI l = nI (244 + 6 * q + l) := oa_ix3 244 6 q l
  intro n
  induction n with
  | zero =>
    intro f p k T hp R hN e7 e5
    have c1 : (12 : Int32) ≤ nI p := nI_le (a := 12) (by omega) (by omega)
    have hF := m_ok e7
    rw [show 0 + 1 + f = f + 1 by omega, pw_X12_line_118, gw_X12_line_118, if_pos c1, if_pos hF, eq6, eq4, nI_clamp (by omega), nI_clamp (by omega)]
    refine Or.inl ⟨fun p' y1 y2 => by omega, k, fun _ _ _ => rfl, fun a => ?_, fun z => ⟨fun _ => ⟨m_pF _, fun _ => ⟨z, vp_in_nI (by omega) (by omega), vp_in_nI (by omega) (by omega), trivial⟩, fun z => (z hF).elim⟩, fun z => (z c1).elim⟩, rfl⟩
    rw [if_neg (by omega)]
  | succ n ih =>
    intro f p k T hp R hN e7 e5
    have c1 : ¬ (12 : Int32) ≤ nI p := nI_ge (b := 12) (by omega) (by omega)
    have hF := m_ok e7
    have nF : ¬ ¬ f_X12_hasFailed k = 0 := fun z => z hF
    have en : nI p + 1 = nI (p + 1) := nI_add p 1
    have e2 : (292 : Int32) + 12 * nI q + nI p = nI (292 + 12 * q + p) := oa_ix3 292 12 q p
    have vj : vp_in (nI (292 + 12 * q + p)) 506 := vp_in_nI (by omega) (by omega)
    obtain ⟨lN, lu⟩ := hN p (by omega)
    have lv : v * ob_iu T m p ≤ 20 * 9999 := Nat.mul_le_mul hv lu
    -- the step, whatever the item is
    have key : ((∀ p', p ≤ p' → p' < 12 → T (292 + 12 * q + p') + v * ob_iu T m p' ≤ 9999) ∧ ∃ k', (∀ a j, ¬ (a = 57 ∧ j = 0) → k'.1 a j = k.1 a j) ∧ (∀ a, k'.1 57 0 a = if 292 + 12 * q + p ≤ a ∧ a < 292 + 12 * q + 12 then nI (T a + v * ob_iu T m (a - (292 + 12 * q))) else k.1 57 0 a) ∧
        (p_X12_letters k' → pw_X12_line_118 (n + 1 + f) (g_X12_must (hp_i k 57 0 (292 + 12 * q + p) (nI (T (292 + 12 * q + p) + v * ob_iu T m p))) (if 9999 < nI (T (292 + 12 * q + p) + v * ob_iu T m p) then (0 : Int32) else 1) 5) (nI q) (nI l) (nI v) (nI m) (nI (p + 1))) ∧ gw_X12_line_118 (n + 1 + f) (g_X12_must (hp_i k 57 0 (292 + 12 * q + p) (nI (T (292 + 12 * q + p) + v * ob_iu T m p))) (if 9999 < nI (T (292 + 12 * q + p) + v * ob_iu T m p) then (0 : Int32) else 1) 5) (nI q) (nI l) (nI v) (nI m) (nI (p + 1)) = ob_ML k' q l (nI v) (nI m)) ∨
      ((∃ p', p ≤ p' ∧ p' < 12 ∧ 9999 < T (292 + 12 * q + p') + v * ob_iu T m p') ∧ pw_X12_line_118 (n + 1 + f) (g_X12_must (hp_i k 57 0 (292 + 12 * q + p) (nI (T (292 + 12 * q + p) + v * ob_iu T m p))) (if 9999 < nI (T (292 + 12 * q + p) + v * ob_iu T m p) then (0 : Int32) else 1) 5) (nI q) (nI l) (nI v) (nI m) (nI (p + 1)) ∧ ∃ k', (∀ a j, ¬ (a = 57 ∧ j = 0) → k'.1 a j = k.1 a j) ∧ gw_X12_line_118 (n + 1 + f) (g_X12_must (hp_i k 57 0 (292 + 12 * q + p) (nI (T (292 + 12 * q + p) + v * ob_iu T m p))) (if 9999 < nI (T (292 + 12 * q + p) + v * ob_iu T m p) then (0 : Int32) else 1) 5) (nI q) (nI l) (nI v) (nI m) (nI (p + 1)) = g_X12_must k' 0 5) := by
      by_cases d : T (292 + 12 * q + p) + v * ob_iu T m p ≤ 9999
      · rw [if_neg (show ¬ (9999 : Int32) < nI (T (292 + 12 * q + p) + v * ob_iu T m p) from nI_nlt (a := 9999) (by omega) (by omega)), m_must1 (show ¬ (1 : Int32) = 0 by decide)]
        have same : ∀ p', p' < 12 → ob_iu (fun a => if a = 292 + 12 * q + p then T (292 + 12 * q + p) + v * ob_iu T m p else T a) m p' = ob_iu T m p' := fun p' y => ob_iu_c (fun z => if_neg (by omega))
        have r := ih f (p + 1) (hp_i k 57 0 (292 + 12 * q + p) (nI (T (292 + 12 * q + p) + v * ob_iu T m p))) (fun a => if a = 292 + 12 * q + p then T (292 + 12 * q + p) + v * ob_iu T m p else T a) (by omega)
          (fun a ha => by
            rw [hp_i_g]
            show _ = nI (if a = 292 + 12 * q + p then T (292 + 12 * q + p) + v * ob_iu T m p else T a)
            by_cases y : a = 292 + 12 * q + p
            · rw [if_pos y, if_pos y]
            · rw [if_neg y, if_neg y]; exact R a ha)
          (fun p' y => by
            rw [same p' y]
            refine ⟨?_, (hN p' y).2⟩
            show (if 292 + 12 * q + p' = 292 + 12 * q + p then T (292 + 12 * q + p) + v * ob_iu T m p else T (292 + 12 * q + p')) ≤ 9999
            split
            · exact d
            · exact (hN p' y).1)
          (by rw [hp_i_t (by omega)]; exact e7) (by rw [hp_i_t (by omega)]; exact e5)
        rcases r with ⟨r1, k', r2, r3, r4, r5⟩ | ⟨⟨p', r1, r2, r3⟩, r4, k', r5, r6⟩
        · refine Or.inl ⟨fun p' y1 y2 => ?_, k', fun a j y => (r2 a j y).trans (hp_i_n y), fun a => ?_, r4, r5⟩
          · by_cases y : p' = p
            · rw [y]; exact d
            · have := r1 p' (by omega) y2
              rw [same p' y2] at this
              rw [show (if 292 + 12 * q + p' = 292 + 12 * q + p then T (292 + 12 * q + p) + v * ob_iu T m p else T (292 + 12 * q + p')) = T (292 + 12 * q + p') from if_neg (by omega)] at this
              exact this
          · rw [r3 a]
            by_cases y2 : 292 + 12 * q + (p + 1) ≤ a ∧ a < 292 + 12 * q + 12
            · rw [if_pos y2, if_pos (show 292 + 12 * q + p ≤ a ∧ a < 292 + 12 * q + 12 by omega), same _ (by omega), if_neg (show ¬ a = 292 + 12 * q + p by omega)]
            · rw [if_neg y2, hp_i_g]
              by_cases y : a = 292 + 12 * q + p
              · rw [if_pos y, if_pos (by omega), y, show 292 + 12 * q + p - (292 + 12 * q) = p by omega]
              · rw [if_neg y, if_neg (by omega)]
        · refine Or.inr ⟨⟨p', by omega, r2, ?_⟩, r4, k', fun a j y => (r5 a j y).trans (hp_i_n y), r6⟩
          rw [same p' r2] at r3
          rw [show (if 292 + 12 * q + p' = 292 + 12 * q + p then T (292 + 12 * q + p) + v * ob_iu T m p else T (292 + 12 * q + p')) = T (292 + 12 * q + p') from if_neg (by omega)] at r3
          exact r3
      · rw [if_pos (show (9999 : Int32) < nI (T (292 + 12 * q + p) + v * ob_iu T m p) from nI_lt (a := 9999) (by omega) (by omega))]
        have b7 : (g_X12_must (hp_i k 57 0 (292 + 12 * q + p) (nI (T (292 + 12 * q + p) + v * ob_iu T m p))) 0 5).1 12 0 7 = nI s := by
          rw [m_must0 (by rw [hp_i_t (by omega)]; exact e7), hp_i_g, if_neg (by omega), hp_i_g, if_pos rfl, hp_i_t (by omega), e5]
        have hb := m_bad hs b7
        have r := m_118F (x1 := nI q) (x2 := nI l) (x3 := nI v) (x4 := nI m) hb (n + f) (nI (p + 1))
        rw [show n + f + 1 = n + 1 + f by omega] at r
        exact Or.inr ⟨⟨p, by omega, by omega, by omega⟩, r.1, _, fun a j y => hp_i_n y, r.2⟩
    rw [show n + 1 + 1 + f = (n + 1 + f) + 1 by omega, pw_X12_line_118, gw_X12_line_118, if_neg c1, if_neg nF, e2, en, nI_clamp (by omega), R _ (by omega)]
    have cell : ∀ z : Int32, (hp_i k 57 0 (292 + 12 * q + p) z).1 57 0 (292 + 12 * q + p) = z := fun z => hp_i_g.trans (if_pos rfl)
    by_cases d : m < 12
    · have n12 : ¬ (12 : Int32) ≤ nI m := nI_ge (b := 12) d (by omega)
      have val : nI (T (292 + 12 * q + p)) + nI v * (if ¬ nI m = nI p then (0 : Int32) else 1) = nI (T (292 + 12 * q + p) + v * ob_iu T m p) := by
        unfold ob_iu
        rw [if_pos d]
        by_cases y : m = p
        · have y2 : nI m = nI p := by rw [y]
          have m1 : nI v * 1 = nI (v * 1) := oa_mul v 1
          rw [if_neg (fun z => z y2), if_pos y, m1, nI_add]
        · have y2 : ¬ nI m = nI p := fun z => y ((nI_eq (by omega) (by omega)).mp z)
          have m0 : nI v * 0 = nI (v * 0) := oa_mul v 0
          rw [if_pos y2, if_neg y, m0, nI_add]
      rw [if_neg n12, val]
      simp only [cell]
      rcases key with ⟨r1, k', r2, r3, r4, r5⟩ | ⟨r1, r4, r5⟩
      · exact Or.inl ⟨r1, k', r2, r3, fun z => ⟨fun z => (c1 z).elim, fun _ => ⟨m_pF _, fun z => (nF z).elim, fun _ => ⟨vj, fun z => (n12 z).elim, fun _ => ⟨vj, vj, m_pM _ _ _, r4 z⟩⟩⟩⟩, r5⟩
      · exact Or.inr ⟨r1, ⟨fun z => (c1 z).elim, fun _ => ⟨m_pF _, fun z => (nF z).elim, fun _ => ⟨vj, fun z => (n12 z).elim, fun _ => ⟨vj, vj, m_pM _ _ _, r4⟩⟩⟩⟩, r5⟩
    · have n12 : (12 : Int32) ≤ nI m := nI_le (a := 12) (by omega) (by omega)
      have e3 : nI m - 12 = nI (m - 12) := oa_sub (b := 12) (by omega)
      have e4 : (292 : Int32) + 12 * nI (m - 12) + nI p = nI (292 + 12 * (m - 12) + p) := oa_ix3 292 12 (m - 12) p
      have vi : vp_in (nI (292 + 12 * (m - 12) + p)) 506 := vp_in_nI (by omega) (by omega)
      have val : nI (T (292 + 12 * q + p)) + nI v * nI (T (292 + 12 * (m - 12) + p)) = nI (T (292 + 12 * q + p) + v * ob_iu T m p) := by
        unfold ob_iu
        rw [if_neg d, oa_mul, nI_add]
      rw [if_pos n12, e3, e4, nI_clamp (by omega), R _ (by omega), val]
      simp only [cell]
      rcases key with ⟨r1, k', r2, r3, r4, r5⟩ | ⟨r1, r4, r5⟩
      · exact Or.inl ⟨r1, k', r2, r3, fun z => ⟨fun z => (c1 z).elim, fun _ => ⟨m_pF _, fun z => (nF z).elim, fun _ => ⟨vj, fun _ => ⟨vi, vj, vj, m_pM _ _ _, r4 z⟩, fun z => (z n12).elim⟩⟩⟩, r5⟩
      · exact Or.inr ⟨r1, ⟨fun z => (c1 z).elim, fun _ => ⟨m_pF _, fun z => (nF z).elim, fun _ => ⟨vj, fun _ => ⟨vi, vj, vj, m_pM _ _ _, r4⟩, fun z => (z n12).elim⟩⟩⟩, r5⟩
end MLI
