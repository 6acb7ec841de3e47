/-! load: numbers of the model -/
theorem p_X12_in_t (h : Hp) (a b c : Int32) : p_X12_in h a b c := by
  unfold p_X12_in
  refine ⟨?_, trivial⟩
  split
  · exact Or.inl rfl
  · split
    · exact Or.inl rfl
    · exact Or.inr rfl
section NBM
variable {h h' : Hp} {x : Nat → Nat} {t i k m s lo hi : Nat}
theorem m_pF (h : Hp) : p_X12_hasFailed h := by
  unfold p_X12_hasFailed
  refine ⟨?_, trivial⟩
  split
  · exact Or.inl rfl
  · exact Or.inr rfl
theorem m_pM (h : Hp) (a b : Int32) : p_X12_must h a b := ⟨fun _ => trivial, fun _ => ⟨m_pF h, trivial⟩⟩
theorem m_ok (e : h.1 12 0 7 = -1) : f_X12_hasFailed h = 0 := by unfold f_X12_hasFailed; rw [if_pos e]
theorem ob_m1 {s : Nat} (hs : s < 2 ^ 31) : ¬ nI s = -1 := by
  intro z
  have := nI_pos' hs
  rw [z] at this
  revert this
  decide
theorem m_bad (hs : s < 2 ^ 31) (e : h.1 12 0 7 = nI s) : f_X12_hasFailed h = 1 := by unfold f_X12_hasFailed; rw [e, if_neg (ob_m1 hs)]
theorem m_must1 {a b : Int32} (ha : ¬ a = 0) : g_X12_must h a b = h := by unfold g_X12_must; rw [if_pos ha]
theorem m_mustF {a b : Int32} (hf : f_X12_hasFailed h = 1) : g_X12_must h a b = h := by
  unfold g_X12_must
  rw [hf]
  split
  · rfl
  · rw [if_neg (by decide)]
theorem m_must0 {b : Int32} (e : h.1 12 0 7 = -1) : g_X12_must h 0 b = hp_i (hp_i h 12 0 7 (h.1 12 0 5)) 12 0 8 b := by
  unfold g_X12_must
  rw [if_neg (by decide), if_pos (m_ok e)]
def MV (h h' : Hp) (e : Nat) : Prop := h'.1 12 0 4 = nI e ∧ (∀ k, ¬ k = 4 → h'.1 12 0 k = h.1 12 0 k) ∧ (∀ T i, ¬ (T = 12 ∧ i = 0) → h'.1 T i = h.1 T i)
def ob_ef (H : Hp) (V lo hi : Int32) : Int32 := if 4 < (H.1 12 0 4 - H.1 12 0 5) then (if f_X12_hasFailed (g_X12_must H 0 2) = 0 then V else lo) else (if f_X12_hasFailed (g_X12_must H (if f_X12_in H V lo hi = 0 then (0 : Int32) else 1) 2) = 0 then V else lo)
def ob_eg (H : Hp) (V lo hi : Int32) : Hp := if 4 < (H.1 12 0 4 - H.1 12 0 5) then g_X12_must H 0 2 else g_X12_must H (if f_X12_in H V lo hi = 0 then (0 : Int32) else 1) 2
theorem l_mnum {lo hi : Int32} : ∀ (m f n : Nat) (h : Hp), s + n + m = t → XM h x t → h.1 12 0 4 = nI (s + n) → h.1 12 0 5 = nI s →
    pw_X12_number_28 (m + 1 + f) h lo hi (nI (ob_nv x s (min n 4))) ∧ ∃ H, MV h H (ob_ED x t 2 (s + n)) ∧ fw_X12_number_28 (m + 1 + f) h lo hi (nI (ob_nv x s (min n 4))) = ob_ef H (nI (ob_nv x s (min (ob_ED x t 2 (s + n) - s) 4))) lo hi ∧ gw_X12_number_28 (m + 1 + f) h lo hi (nI (ob_nv x s (min n 4))) = ob_eg H (nI (ob_nv x s (min (ob_ED x t 2 (s + n) - s) 4))) lo hi := by
  intro m
  induction m with
  | zero =>
    intro f n h hn X e4 e5
    rw [show 0 + 1 + f = f + 1 by omega]
    have bt := X.1
    have a1 := m_at (lo := 48) (hi := 57) X e4 (by omega) (by omega) (by omega)
    have f1 : f_X12_isAt h 48 57 = 0 := a1.2.trans (if_neg (by omega))
    have ee : ob_ED x t 2 (s + n) = s + n := (ob_ED_f (by omega)).trans (if_neg (by omega))
    rw [pw_X12_number_28, fw_X12_number_28, gw_X12_number_28, if_pos f1, if_pos f1, ee, show s + n - s = n by omega]
    refine ⟨⟨a1.1, fun _ => ⟨fun _ => ⟨m_pM _ _ _, m_pF _, trivial⟩, fun _ => ⟨?_, m_pM _ _ _, m_pF _, trivial⟩⟩, fun z => (z f1).elim⟩, h, ⟨e4, fun _ _ => rfl, fun _ _ _ => rfl⟩, rfl, rfl⟩
    exact p_X12_in_t _ _ _ _
  | succ m ih =>
    intro f n h hn X e4 e5
    rw [show m + 1 + 1 + f = (m + 1 + f) + 1 by omega]
    have bt := X.1
    have a1 := m_at (lo := 48) (hi := 57) X e4 (by omega) (by omega) (by omega)
    have kk := ob_kk_2 (x (s + n))
    rw [pw_X12_number_28, fw_X12_number_28, gw_X12_number_28]
    by_cases d : 48 ≤ x (s + n) ∧ x (s + n) ≤ 57
    · have f1 : ¬ f_X12_isAt h 48 57 = 0 := by rw [show f_X12_isAt h 48 57 = _ from a1.2, if_pos (by omega)]; decide
      have ee : ob_ED x t 2 (s + n) = ob_ED x t 2 (s + (n + 1)) := (ob_ED_f (by omega)).trans (if_pos ⟨by omega, kk.mpr d⟩)
      have en : nI (s + n) + 1 = nI (s + (n + 1)) := nI_add (s + n) 1
      have sub : h.1 12 0 4 - h.1 12 0 5 = nI n := by rw [e4, e5, oa_sub (by omega)]; congr 1; omega
      have g4 : (hp_i h 12 0 4 (h.1 12 0 4 + 1)).1 12 0 4 = nI (s + (n + 1)) := by rw [hp_i_g, if_pos rfl, e4, en]
      have g5 : (hp_i h 12 0 4 (h.1 12 0 4 + 1)).1 12 0 5 = nI s := by rw [hp_i_g, if_neg (by omega), e5]
      obtain ⟨r1, H, M, r2, r3⟩ := ih f (n + 1) (hp_i h 12 0 4 (h.1 12 0 4 + 1)) (by omega) (X.set (by omega)) g4 g5
      have M' : MV h H (ob_ED x t 2 (s + (n + 1))) := ⟨M.1, fun k hk => (M.2.1 k hk).trans (hp_i_g.trans (if_neg hk)), fun T i hT => (M.2.2 T i hT).trans (hp_i_n hT)⟩
      rw [if_neg f1, if_neg f1, sub, ee]
      by_cases d4 : 4 ≤ n
      · have c4 : (4 : Int32) ≤ nI n := nI_le (a := 4) d4 (by omega)
        rw [show min (n + 1) 4 = min n 4 by omega] at r1 r2 r3
        rw [if_pos c4, if_pos c4]
        exact ⟨⟨a1.1, fun z => (f1 z).elim, fun _ => ⟨fun _ => r1, fun z => (z c4).elim⟩⟩, H, M', r2, r3⟩
      · have c4 : ¬ (4 : Int32) ≤ nI n := nI_ge (b := 4) (by omega) (by omega)
        have v1 : vp_in (h.1 12 0 4) 900 := by rw [e4]; exact vp_in_nI (by omega) (by omega)
        have ev : 10 * nI (ob_nv x s (min n 4)) + h.1 54 0 ((h.1 12 0 4).toNatClampNeg) - 48 = nI (ob_nv x s (min (n + 1) 4)) := by
          rw [e4, nI_clamp (by omega), (X.2.2 (s + n) (by omega)).2, ob_sb_lt _ (by omega), show min n 4 = n by omega, show min (n + 1) 4 = n + 1 by omega]
          have m1 : 10 * nI (ob_nv x s n) = nI (10 * ob_nv x s n) := oa_mul 10 _
          have m2 : nI (10 * ob_nv x s n + x (s + n)) - 48 = nI (10 * ob_nv x s n + x (s + n) - 48) := oa_sub (b := 48) (by omega)
          rw [m1, nI_add, m2, ob_nv]
          congr 1
          omega
        rw [if_neg c4, if_neg c4, ev]
        exact ⟨⟨a1.1, fun z => (f1 z).elim, fun _ => ⟨fun z => (c4 z).elim, fun _ => ⟨v1, r1⟩⟩⟩, H, M', r2, r3⟩
    · have f1 : f_X12_isAt h 48 57 = 0 := a1.2.trans (if_neg (by omega))
      have ee : ob_ED x t 2 (s + n) = s + n := (ob_ED_f (by omega)).trans (if_neg (fun z => d (kk.mp z.2)))
      rw [if_pos f1, if_pos f1, ee, show s + n - s = n by omega]
      refine ⟨⟨a1.1, fun _ => ⟨fun _ => ⟨m_pM _ _ _, m_pF _, trivial⟩, fun _ => ⟨?_, m_pM _ _ _, m_pF _, trivial⟩⟩, fun z => (z f1).elim⟩, h, ⟨e4, fun _ _ => rfl, fun _ _ _ => rfl⟩, rfl, rfl⟩
      exact p_X12_in_t _ _ _ _
end NBM
