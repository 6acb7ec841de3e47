section PZC
variable {h hm : Hp} {c L : Nat} {T w F : Nat → Nat} {n : Nat}
/-- most units: the least of F p / need -/
theorem oa_most_ok {q : Nat} (J : IT T) (hq : q < T 1) (F : Nat → Nat) : (∀ p, p < T 0 → 0 < oa_need T q p → oa_most T F q ≤ F p / oa_need T q p) ∧ ∃ p, p < T 0 ∧ 0 < oa_need T q p ∧ oa_most T F q = F p / oa_need T q p := by
  obtain ⟨b, e, hb, hb0, hm⟩ := oa_lst_some J hq F
  have m : oa_most T F q = F b / oa_need T q b := by unfold oa_most; rw [e]
  rw [m]
  exact ⟨hm, b, hb, hb0, rfl⟩
/-- units that fit -/
theorem oa_most_fit {q u : Nat} (J : IT T) (hq : q < T 1) (F : Nat → Nat) : u ≤ oa_most T F q ↔ ∀ p, p < T 0 → u * oa_need T q p ≤ F p := by
  obtain ⟨h1, p0, hp0, hn0, he⟩ := oa_most_ok J hq F
  constructor
  · intro hu p hp
    by_cases z : oa_need T q p = 0
    · rw [z]; omega
    · have := h1 p hp (by omega)
      exact (Nat.le_div_iff_mul_le (by omega)).mp (by omega)
  · intro hu
    rw [he]
    exact (Nat.le_div_iff_mul_le hn0).mpr (hu p0 hp0)
end PZC
