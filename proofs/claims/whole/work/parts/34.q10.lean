section PZ
variable {h hm h' : Hp} {c L : Nat} {T w F : Nat → Nat} {n : Nat}
theorem RC.same (C : RC h c T) (hf : ∀ t, t = 1 ∨ (19 ≤ t ∧ t ≤ 32) → ∀ i, h'.1 t i = h.1 t i) (hl : h'.2.1 = h.2.1) : RC h' c T := by
  unfold RC
  rw [hl]
  simp only [hf 1 (by omega), hf 20 (by omega), hf 23 (by omega), hf 25 (by omega), hf 27 (by omega), hf 29 (by omega), hf 22 (by omega), hf 30 (by omega), hf 31 (by omega), hf 32 (by omega)]
  exact C
theorem RG.same (G : RG h L w) (hf : ∀ t, t = 6 ∨ t = 10 ∨ (36 ≤ t ∧ t ≤ 52) → h'.1 t L = h.1 t L) : RG h' L w := by
  unfold RG
  simp only [hf 10 (by omega), hf 6 (by omega), hf 48 (by omega), hf 49 (by omega), hf 50 (by omega), hf 51 (by omega), hf 52 (by omega), hf 36 (by omega), hf 37 (by omega), hf 38 (by omega), hf 39 (by omega), hf 40 (by omega), hf 41 (by omega), hf 42 (by omega), hf 43 (by omega)]
  exact G
/-- the row of free pieces, whole -/
theorem a_fillFree {t1 i1 : Nat} (ht : t1 = 53 ∨ t1 = 13) (I : IW T w n) (G : RG h L w) : p_X10_fillFree h L t1 i1 12 ∧ (∀ p, p < 12 → (g_X10_fillFree h L t1 i1 12).1 t1 i1 p = nI (w (9 + p) - w (21 + p))) := by
  obtain ⟨e, he⟩ := oa_fuel (show 12 < 1000000 by omega)
  have a := a_fill (i1 := i1) ht I 12 0 e h G rfl
  rw [← he, nI_0] at a
  exact ⟨a.1, fun p hp => a.2.1 p (by omega) hp⟩
/-- class: tightest part and most units of a row -/
theorem a_tightest {q t2 i2 : Nat} (J : IT T) (C : RC h c T) (hq : q < T 1) (hF : ∀ p, p < 12 → h.1 t2 i2 p = nI (F p) ∧ F p < 1000000) : p_X1_tightestPart h c (nI q) t2 i2 12 ∧ f_X1_tightestPart h c (nI q) t2 i2 12 = oa_oi (oa_lst T F q (T 0) 0 none) := by
  obtain ⟨e, he⟩ := oa_fuel (show T 0 < 1000000 by have := J.1.1; omega)
  have a := a_tight J C hq hF (T 0) 0 e none 0 (by omega) (fun b' hb' => nomatch hb')
  rw [← he, nI_0] at a
  exact a
theorem m_leastOf {q : Nat} (hn : n ≤ 512) (J : IT T) (R : RM hm T w) (I : IW T w n) (hq : q < T 1) : p_X12_leastOf hm (nI q) ∧ f_X12_leastOf hm (nI q) = oa_oi (oa_lst T (fun p => w (9 + p) - w (21 + p)) q (T 0) 0 none) := by
  obtain ⟨e, he⟩ := oa_fuel (show T 0 < 1000000 by have := J.1.1; omega)
  have a := m_least hn J R I hq (T 0) 0 e none (by omega) (fun b' hb' => nomatch hb')
  rw [← he, nI_0] at a
  exact a
end PZ
