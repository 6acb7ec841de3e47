/-! the relation holds at the start -/
theorem st_T {k : Nat} (hk : k < 506) : bz_h.1 56 0 k = nI (ob_T0 k) := by
  show (if k < 506 then (if k = 390 then (100 : Int32) else if k = 389 then 9 else if k = 388 then 0 else if k = 2 then 1 else if k = 2 then 1 else 0) else 0) = nI (if k = 2 then 1 else if k = 389 then 9 else if k = 390 then 100 else 0)
  rw [if_pos hk]
  by_cases c1 : k = 390
  · subst c1; rfl
  by_cases c2 : k = 389
  · subst c2; rfl
  by_cases c3 : k = 2
  · subst c3; rfl
  rw [if_neg c1, if_neg c2, if_neg c3, if_neg c3, if_neg c3, if_neg c2, if_neg c1]
  by_cases c4 : k = 388
  · rw [if_pos c4]; rfl
  · rw [if_neg c4]; rfl
theorem st_T0 {k : Nat} (h1 : k ≠ 2) (h2 : k ≠ 389) (h3 : k ≠ 390) : ob_T0 k = 0 := by
  unfold ob_T0
  rw [if_neg h1, if_neg h2, if_neg h3]
theorem st_le (k : Nat) : ob_T0 k ≤ 100 := by
  unfold ob_T0
  by_cases c1 : k = 2
  · rw [if_pos c1]; omega
  rw [if_neg c1]
  by_cases c2 : k = 389
  · rw [if_pos c2]; omega
  rw [if_neg c2]
  by_cases c3 : k = 390
  · rw [if_pos c3]; omega
  rw [if_neg c3]; omega
theorem st_IT : IT ob_T0 := by
  refine ⟨⟨by decide, by decide, by decide, by decide⟩, fun p hp => absurd hp (Nat.not_lt_zero p), fun q hq => absurd hq (Nat.not_lt_zero q), fun q l hq => absurd hq (Nat.not_lt_zero q), fun q p hq => absurd hq (Nat.not_lt_zero q), fun q hq => absurd hq (Nat.not_lt_zero q), fun r hr => ?_, fun k hk => ?_, fun k hk => ?_⟩
  · have : r < 1 := hr
    have : r = 0 := by omega
    subst this
    exact ⟨by decide, by decide, by decide, by decide⟩
  · have := st_le k; omega
  · have := st_le (4 + k); omega
theorem st_IW : IW ob_T0 (fun _ => 0) 0 := by
  refine ⟨⟨Nat.zero_le _, Nat.zero_le _, Nat.zero_le _, Nat.zero_le _⟩, fun p hp => ⟨?_, Nat.le_refl _, fun h0 => absurd h0 (Nat.not_lt_zero p)⟩, fun k hk => absurd hk (Nat.not_lt_zero k), fun o ho => absurd ho (Nat.not_lt_zero o)⟩
  show 0 + 0 ≤ _
  omega
theorem st_RA : RA bz_h bz_h 0 := by
  have hw : ∀ k, bz_h.1 58 0 k = nI 0 := fun k => rfl
  refine ⟨ob_T0, fun _ => 0, ⟨st_IT, st_IW, ?_, ?_, ?_⟩, ⟨0, Nat.le_refl _, ?_⟩, ⟨0, 0, by omega, by omega, rfl, rfl, rfl, fun k hk => absurd hk (Nat.not_lt_zero k)⟩, ⟨0, by omega, rfl, rfl, fun k hk => absurd hk (Nat.not_lt_zero k)⟩, ⟨rfl, rfl⟩, ⟨0, by omega, rfl, rfl, fun k hk => absurd hk (Nat.not_lt_zero k)⟩, ⟨⟨by decide, by decide⟩, ⟨by decide, by decide⟩⟩⟩
  · exact ⟨fun k hk => st_T hk, fun k hk _ => hw k⟩
  · refine ⟨⟨rfl, rfl, rfl⟩, fun p hp => absurd hp (Nat.not_lt_zero p), fun q hq => absurd hq (Nat.not_lt_zero q), fun q l hq => absurd hq (Nat.not_lt_zero q), fun q p hq => absurd hq (Nat.not_lt_zero q), fun q hq => absurd hq (Nat.not_lt_zero q), fun r hr => ?_, fun p hp => absurd hp (Nat.not_lt_zero p), fun q hq => absurd hq (Nat.not_lt_zero q)⟩
    have : r < 1 := hr
    have : r = 0 := by omega
    subst this
    exact ⟨rfl, rfl, rfl⟩
  · exact ⟨⟨rfl, rfl, rfl⟩, fun p _ => ⟨rfl, rfl⟩, fun k hk => absurd hk (Nat.not_lt_zero k), fun o ho => absurd ho (Nat.not_lt_zero o)⟩
  · exact ⟨fun k _ => rfl, rfl, rfl, fun j hj => absurd hj (Nat.not_lt_zero j)⟩
