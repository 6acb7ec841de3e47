section PZE
variable {h hm : Hp} {c L : Nat} {T w F : Nat → Nat} {n : Nat}
theorem oa_aft_none {q q2 u : Nat} : ∀ (m k x : Nat), (∃ p, k ≤ p ∧ p < k + m ∧ F p < u * oa_need T q2 p) → oa_aft T F q q2 u m k x = none := by
  intro m
  induction m with
  | zero => intro k x ⟨p, h1, h2, _⟩; omega
  | succ m ih =>
    intro k x ⟨p, h1, h2, h3⟩
    rw [oa_aft]
    by_cases d : F k < u * oa_need T q2 k
    · rw [if_pos d]
    · rw [if_neg d]
      refine ih (k + 1) _ ⟨p, ?_, by omega, h3⟩
      have : p ≠ k := by rintro rfl; exact d h3
      omega
theorem oa_aft_some {q q2 u : Nat} : ∀ (m k x : Nat), (∀ p, k ≤ p → p < k + m → u * oa_need T q2 p ≤ F p) → ∃ r, oa_aft T F q q2 u m k x = some r ∧ r ≤ x ∧ (∀ p, k ≤ p → p < k + m → 0 < oa_need T q p → r ≤ (F p - u * oa_need T q2 p) / oa_need T q p) ∧ (r = x ∨ ∃ p, k ≤ p ∧ p < k + m ∧ 0 < oa_need T q p ∧ r = (F p - u * oa_need T q2 p) / oa_need T q p) := by
  intro m
  induction m with
  | zero => intro k x _; exact ⟨x, rfl, Nat.le_refl _, fun p h1 h2 => by omega, Or.inl rfl⟩
  | succ m ih =>
    intro k x hk
    rw [oa_aft, if_neg (by have := hk k (Nat.le_refl _) (by omega); omega)]
    obtain ⟨r, e, r1, r2, r3⟩ := ih (k + 1) (if oa_need T q k = 0 then x else if (F k - u * oa_need T q2 k) / oa_need T q k < x then (F k - u * oa_need T q2 k) / oa_need T q k else x) (fun p h1 h2 => hk p (by omega) (by omega))
    refine ⟨r, e, ?_, ?_, ?_⟩
    · split at r1
      · exact r1
      · split at r1 <;> omega
    · intro p h1 h2 h3
      by_cases e1 : p = k
      · subst e1
        rw [if_neg (by omega)] at r1
        split at r1 <;> omega
      · exact r2 p (by omega) (by omega) h3
    · rcases r3 with r3 | ⟨p, h1, h2, h3, h4⟩
      · split at r3
        · exact Or.inl r3
        · split at r3
          · exact Or.inr ⟨k, Nat.le_refl _, by omega, by omega, r3⟩
          · exact Or.inl r3
      · exact Or.inr ⟨p, by omega, by omega, h3, h4⟩
/-- both ways come to the same -/
theorem oa_after_eq {q q2 u : Nat} (J : IT T) (hq : q < T 1) (hq2 : q2 < T 1) (F F' : Nat → Nat) (hF : ∀ p, p < T 0 → F' p = F p - u * oa_need T q2 p) : oa_aft T F q q2 u (T 0) 0 (oa_most T F q) = if u ≤ oa_most T F q2 then some (oa_most T F' q) else none := by
  by_cases d : u ≤ oa_most T F q2
  · rw [if_pos d]
    have fit := (oa_most_fit J hq2 F).mp d
    obtain ⟨r, e, r1, r2, r3⟩ := oa_aft_some (T := T) (F := F) (q := q) (q2 := q2) (u := u) (T 0) 0 (oa_most T F q) (fun p _ h2 => fit p (by omega))
    obtain ⟨m1, p1, hp1, hn1, e1⟩ := oa_most_ok J hq F
    obtain ⟨n1, p2, hp2, hn2, e2⟩ := oa_most_ok J hq F'
    rw [e]
    congr 1
    apply Nat.le_antisymm
    · rw [e2, hF p2 hp2]
      exact r2 p2 (by omega) (by omega) hn2
    · rcases r3 with r3 | ⟨p, h1, h2, h3, h4⟩
      · rw [r3, e1]
        refine Nat.le_trans (n1 p1 hp1 hn1) (Nat.div_le_div_right ?_)
        rw [hF p1 hp1]
        omega
      · rw [h4, ← hF p (by omega)]
        exact n1 p (by omega) h3
  · rw [if_neg d]
    refine oa_aft_none _ _ _ ?_
    have := mt (oa_most_fit J hq2 F).mpr d
    simp only [Classical.not_forall] at this
    obtain ⟨p, hp, h3⟩ := this
    exact ⟨p, by omega, by omega, by omega⟩
end PZE
