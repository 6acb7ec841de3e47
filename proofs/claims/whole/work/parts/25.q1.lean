/-! pure: checks, then the calls that only ask -/
section PQ
variable {h hm : Hp} {T w : Nat → Nat} {n : Nat}
/-- an index in range or not -/
theorem oa_rng (a : Int32) (N : Nat) (hN : N < 2 ^ 31) : (∃ q, q < N ∧ a = nI q) ∨ (a < 0 ∨ nI N ≤ a) := by
  by_cases c : a < 0
  · exact Or.inr (Or.inl c)
  · obtain ⟨q, hq, rfl⟩ := nI_of c
    by_cases d : q < N
    · exact Or.inl ⟨q, d, rfl⟩
    · exact Or.inr (Or.inr (nI_le (by omega) (by omega)))
theorem k_inside (h : Hp) (a : Int32) (N : Nat) (hN : N < 2 ^ 31) : p_X11_isInside h a (nI N) ∧ ((∃ q, q < N ∧ a = nI q ∧ f_X11_isInside h a (nI N) = 1) ∨ ((a < 0 ∨ nI N ≤ a) ∧ f_X11_isInside h a (nI N) = 0)) := by
  refine ⟨?_, ?_⟩
  · unfold p_X11_isInside; grind
  · rcases oa_rng a N hN with ⟨q, hq, rfl⟩ | c
    · refine Or.inl ⟨q, hq, rfl, ?_⟩
      have c1 : ¬ nI q < 0 := nI_pos (by omega)
      have c2 : ¬ nI N ≤ nI q := nI_ge hq hN
      simp [f_X11_isInside, c1, c2]
    · refine Or.inr ⟨c, ?_⟩
      unfold f_X11_isInside
      rcases c with c | c <;> simp [c]
theorem k_in (hm : Hp) (a : Int32) (N : Nat) (hN : N < 2 ^ 31) : p_X12_in hm a 0 (nI N - 1) ∧ ((∃ q, q < N ∧ a = nI q ∧ f_X12_in hm a 0 (nI N - 1) = 1) ∨ ((a < 0 ∨ nI N ≤ a) ∧ f_X12_in hm a 0 (nI N - 1) = 0)) := by
  refine ⟨?_, ?_⟩
  · unfold p_X12_in; grind
  · have h0 : 0 ≤ nI N := nI_pos' hN
    rcases oa_rng a N hN with ⟨q, hq, rfl⟩ | c
    · refine Or.inl ⟨q, hq, rfl, ?_⟩
      have c1 : 0 ≤ nI q := nI_pos' (by omega)
      have c2 : nI q < nI N := nI_lt hq hN
      unfold f_X12_in
      grind
    · refine Or.inr ⟨c, ?_⟩
      unfold f_X12_in
      grind
theorem k_product (J : IT T) (R : RC h (h.2.2 11 0 6) T) (a : Int32) : p_X11_checkProduct h a ∧ ((∃ q, q < T 1 ∧ a = nI q ∧ x_X11_checkProduct h a = 0) ∨ ((a < 0 ∨ nI (T 1) ≤ a) ∧ x_X11_checkProduct h a = 1)) := by
  have b := J.1.2.1
  have k := k_inside h a (T 1) (by omega)
  unfold p_X11_checkProduct x_X11_checkProduct
  rw [R.1.2.1]
  refine ⟨⟨k.1, by grind⟩, ?_⟩
  rcases k.2 with ⟨q, h1, h2, h3⟩ | ⟨h1, h2⟩
  · exact Or.inl ⟨q, h1, h2, by rw [h3]; decide⟩
  · exact Or.inr ⟨h1, by rw [h2]; decide⟩
theorem k_part (J : IT T) (R : RC h (h.2.2 11 0 6) T) (a : Int32) : p_X11_checkPart h a ∧ ((∃ q, q < T 0 ∧ a = nI q ∧ x_X11_checkPart h a = 0) ∨ ((a < 0 ∨ nI (T 0) ≤ a) ∧ x_X11_checkPart h a = 1)) := by
  have b := J.1.1
  have k := k_inside h a (T 0) (by omega)
  unfold p_X11_checkPart x_X11_checkPart
  rw [R.1.1]
  refine ⟨⟨k.1, by grind⟩, ?_⟩
  rcases k.2 with ⟨q, h1, h2, h3⟩ | ⟨h1, h2⟩
  · exact Or.inl ⟨q, h1, h2, by rw [h3]; decide⟩
  · exact Or.inr ⟨h1, by rw [h2]; decide⟩
theorem k_noProduct (J : IT T) (R : RM hm T w) (a : Int32) : p_X12_noProduct hm a ∧ ((∃ q, q < T 1 ∧ a = nI q ∧ f_X12_noProduct hm a = 0 ∧ g_X12_noProduct hm a = hm) ∨ ((a < 0 ∨ nI (T 1) ≤ a) ∧ f_X12_noProduct hm a = 1 ∧ g_X12_noProduct hm a = hp_i hm 12 0 0 1)) := by
  have b := J.1.2.1
  have k := k_in hm a (T 1) (by omega)
  unfold p_X12_noProduct f_X12_noProduct g_X12_noProduct
  rw [R.1 1 (by omega)]
  rcases k.2 with ⟨q, h1, h2, h3⟩ | ⟨h1, h2⟩
  · rw [h3]
    refine ⟨⟨k.1, by simp [p_X12_throwsIf, f_X12_throwsIf]⟩, Or.inl ⟨q, h1, h2, by simp [f_X12_throwsIf], by simp [g_X12_throwsIf]⟩⟩
  · rw [h2]
    refine ⟨⟨k.1, by simp [p_X12_throwsIf, f_X12_throwsIf]⟩, Or.inr ⟨h1, by simp [f_X12_throwsIf], by simp [g_X12_throwsIf]⟩⟩
theorem k_noPart (J : IT T) (R : RM hm T w) (a : Int32) : p_X12_noPart hm a ∧ ((∃ q, q < T 0 ∧ a = nI q ∧ f_X12_noPart hm a = 0 ∧ g_X12_noPart hm a = hm) ∨ ((a < 0 ∨ nI (T 0) ≤ a) ∧ f_X12_noPart hm a = 1 ∧ g_X12_noPart hm a = hp_i hm 12 0 0 1)) := by
  have b := J.1.1
  have k := k_in hm a (T 0) (by omega)
  unfold p_X12_noPart f_X12_noPart g_X12_noPart
  rw [R.1 0 (by omega)]
  rcases k.2 with ⟨q, h1, h2, h3⟩ | ⟨h1, h2⟩
  · rw [h3]
    refine ⟨⟨k.1, by simp [p_X12_throwsIf, f_X12_throwsIf]⟩, Or.inl ⟨q, h1, h2, by simp [f_X12_throwsIf], by simp [g_X12_throwsIf]⟩⟩
  · rw [h2]
    refine ⟨⟨k.1, by simp [p_X12_throwsIf, f_X12_throwsIf]⟩, Or.inr ⟨h1, by simp [f_X12_throwsIf], by simp [g_X12_throwsIf]⟩⟩
theorem RM.thr {x : Int32} (R : RM hm T w) : RM (hp_i hm 12 0 0 x) T w := R
theorem oa_excl {q N : Nat} (hN : N < 2 ^ 31) (hq : q < N) (c : nI q < 0 ∨ nI N ≤ nI q) : False := by
  rcases c with c | c
  · exact nI_pos (by omega) c
  · exact nI_ge hq hN c
/-- need -/
theorem q_need (J : IT T) (R : RM hm T w) (C : RC h (h.2.2 11 0 6) T) (a b : Int32) : p_X11_need h a b ∧ p_X12_need hm a b ∧
    ((x_X11_need h a b = 0 ∧ f_X11_need h a b = f_X12_need hm a b ∧ g_X12_need hm a b = hp_i hm 12 0 0 0) ∨ (x_X11_need h a b = 1 ∧ g_X12_need hm a b = hp_i (hp_i hm 12 0 0 0) 12 0 0 1)) := by
  have bT := J.1
  obtain ⟨p1, k1⟩ := k_product J C a
  obtain ⟨p2, k2⟩ := k_part J C b
  obtain ⟨p3, k3⟩ := k_noProduct (hm := hp_i hm 12 0 0 0) J R a
  obtain ⟨p4, k4⟩ := k_noPart (hm := hp_i hm 12 0 0 0) J R b
  unfold p_X11_need p_X12_need x_X11_need f_X11_need f_X12_need g_X12_need
  rcases k1 with ⟨q, hq, rfl, x1⟩ | ⟨c1, x1⟩
  · rcases k3 with ⟨q', hq', -, f3, g3⟩ | ⟨c, -⟩
    · rcases k2 with ⟨p, hp, rfl, x2⟩ | ⟨c2, x2⟩
      · rcases k4 with ⟨p', hp', -, f4, g4⟩ | ⟨c, -⟩
        · have n1 := a_needOf J C hq hp
          have n2 := m_needs (hm := hp_i hm 12 0 0 0) R (show q < 8 by omega) (show p < 12 by omega)
          simp [p1, p2, p3, p4, x1, x2, f3, g3, f4, g4, n1.1, n1.2, n2.1, n2.2]
        · exact (oa_excl (by omega) hp c).elim
      · rcases k4 with ⟨p', hp', rfl, f4, g4⟩ | ⟨c, f4, g4⟩
        · exact (oa_excl (by omega) hp' c2).elim
        · simp [p1, p2, p3, p4, x1, x2, f3, g3, f4, g4]
    · exact (oa_excl (by omega) hq c).elim
  · rcases k3 with ⟨q', hq', rfl, -⟩ | ⟨c, f3, g3⟩
    · exact (oa_excl (by omega) hq' c1).elim
    · simp [p1, p3, x1, f3, g3]
end PQ
