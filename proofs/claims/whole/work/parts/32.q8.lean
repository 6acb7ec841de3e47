section PX
variable {h hm : Hp} {c : Nat} {T w F : Nat → Nat} {n : Nat}
theorem m_least {q : Nat} (hn : n ≤ 512) (J : IT T) (R : RM hm T w) (I : IW T w n) (hq : q < T 1) : ∀ (m k e : Nat) (b : Option Nat), k + m = T 0 → (∀ b', b = some b' → b' < k ∧ 0 < oa_need T q b') →
    pw_X12_leastOf_4 (m + 1 + e) hm (nI q) (oa_oi b) (nI k) ∧ fw_X12_leastOf_4 (m + 1 + e) hm (nI q) (oa_oi b) (nI k) = oa_oi (oa_lst T (fun p => w (9 + p) - w (21 + p)) q m k b) := by
  have bT := J.1
  have k0 : hm.1 56 0 0 = nI (T 0) := R.1 0 (by omega)
  intro m
  induction m with
  | zero =>
    intro k e b hk hb
    rw [show 0 + 1 + e = e + 1 by omega]
    have c1 : nI (T 0) ≤ nI k := nI_le (by omega) (by omega)
    simp [pw_X12_leastOf_4, fw_X12_leastOf_4, k0, c1, oa_lst]
  | succ m ih =>
    intro k e b hk hb
    rw [show m + 1 + 1 + e = (m + 1 + e) + 1 by omega]
    have c1 : ¬ nI (T 0) ≤ nI k := nI_ge (by omega) (by omega)
    have a1 := m_needs R (show q < 8 by omega) (show k < 12 by omega)
    have f1 := m_free R I (show k < 12 by omega)
    have jn : oa_need T q k ≤ 9999 := J.2.2.2.2.1 q k hq (by omega)
    have ik := (I.2.1 k (by omega)).1
    have ih' := fun b => ih (k + 1) e b (by omega)
    simp only [nI_succ] at ih'
    simp only [pw_X12_leastOf_4, fw_X12_leastOf_4, k0, a1.2, f1.2, oa_lst]
    by_cases d0 : oa_need T q k = 0
    · have e0 : nI (oa_need T q k) ≤ 0 := by rw [d0]; decide
      have r := ih' b (fun b' hb' => ⟨by have := (hb b' hb').1; omega, (hb b' hb').2⟩)
      simp [c1, nI_0, a1.1, e0, d0, r]
    · have e0 : ¬ nI (oa_need T q k) ≤ 0 := nI_nle (by omega) (by omega)
      have e1 : ¬ nI (oa_need T q k) = 0 := nI_ne0 (by omega) (by omega)
      have e2 : nI (w (9 + k) - w (21 + k)) / nI (oa_need T q k) = nI ((w (9 + k) - w (21 + k)) / oa_need T q k) := pk_div (by omega) (by omega) (by omega)
      have dl : (w (9 + k) - w (21 + k)) / oa_need T q k ≤ w (9 + k) - w (21 + k) := Nat.div_le_self _ _
      have r := ih' (some k) (fun b' hb' => by cases hb'; exact ⟨by omega, by omega⟩)
      cases b with
      | none =>
        have o1 : oa_oi none = -1 := rfl
        have o2 : oa_oi (some k) = nI k := rfl
        rw [o2] at r
        simp [c1, a1.1, e0, d0, r, o1]
      | some b' =>
        obtain ⟨hb2, hb3⟩ := hb b' rfl
        have o1 : oa_oi (some b') = nI b' := rfl
        have o2 : oa_oi (some k) = nI k := rfl
        have o3 : ¬ nI b' = -1 := oa_oi_some hb2 (by omega)
        have a2 := m_needs R (show q < 8 by omega) (show b' < 12 by omega)
        have f2 := m_free R I (show b' < 12 by omega)
        have jb : oa_need T q b' ≤ 9999 := J.2.2.2.2.1 q b' hq (by omega)
        have ib := (I.2.1 b' (by omega)).1
        have g1 : ¬ nI (oa_need T q b') = 0 := nI_ne0 (by omega) (by omega)
        have g2 : nI (w (9 + b') - w (21 + b')) / nI (oa_need T q b') = nI ((w (9 + b') - w (21 + b')) / oa_need T q b') := pk_div (by omega) (by omega) (by omega)
        have dl2 : (w (9 + b') - w (21 + b')) / oa_need T q b' ≤ w (9 + b') - w (21 + b') := Nat.div_le_self _ _
        have le : (nI ((w (9 + b') - w (21 + b')) / oa_need T q b') ≤ nI ((w (9 + k) - w (21 + k)) / oa_need T q k)) ↔ (w (9 + b') - w (21 + b')) / oa_need T q b' ≤ (w (9 + k) - w (21 + k)) / oa_need T q k := nI_leI (by omega) (by omega)
        by_cases d1 : (w (9 + k) - w (21 + k)) / oa_need T q k < (w (9 + b') - w (21 + b')) / oa_need T q b'
        · have d2 : ¬ (w (9 + b') - w (21 + b')) / oa_need T q b' ≤ (w (9 + k) - w (21 + k)) / oa_need T q k := by omega
          rw [o2] at r
          simp [c1, a1.1, f1.1, e0, e1, e2, d0, r, o1, o3, a2, f2, g1, g2, le, d1, d2]
        · have d2 : (w (9 + b') - w (21 + b')) / oa_need T q b' ≤ (w (9 + k) - w (21 + k)) / oa_need T q k := by omega
          have r2 := ih' (some b') (fun b2 hb' => by cases hb'; exact ⟨by omega, by omega⟩)
          rw [o1] at r2
          simp [c1, a1.1, f1.1, e0, e1, e2, d0, r2, o1, o3, a2, f2, g1, g2, le, d1, d2]
theorem oa_lst_s (T F : Nat → Nat) (q m k : Nat) (b : Option Nat) : oa_lst T F q (m + 1) k b = oa_lst T F q m (k + 1) (if oa_need T q k = 0 then b else match b with
    | none => some k
    | some c => if F k / oa_need T q k < F c / oa_need T q c then some k else some c) := rfl
/-- what comes out: the first least, if some part is needed -/
theorem oa_lst_ok {q N : Nat} : ∀ (m k : Nat) (b : Option Nat), k + m = N → (∀ b', b = some b' → b' < k ∧ 0 < oa_need T q b' ∧ ∀ p, p < k → 0 < oa_need T q p → F b' / oa_need T q b' ≤ F p / oa_need T q p) → (b = none → ∀ p, p < k → oa_need T q p = 0) →
    (∀ b', oa_lst T F q m k b = some b' → b' < N ∧ 0 < oa_need T q b' ∧ ∀ p, p < N → 0 < oa_need T q p → F b' / oa_need T q b' ≤ F p / oa_need T q p) ∧ (oa_lst T F q m k b = none → ∀ p, p < N → oa_need T q p = 0) := by
  intro m
  induction m with
  | zero =>
    intro k b hk h1 h2
    obtain rfl : k = N := by omega
    exact ⟨h1, h2⟩
  | succ m ih =>
    intro k b hk h1 h2
    rw [oa_lst_s]
    refine ih (k + 1) _ (by omega) ?_ ?_
    · intro b' hb'
      by_cases d0 : oa_need T q k = 0
      · rw [if_pos d0] at hb'
        obtain ⟨a1, a2, a3⟩ := h1 b' hb'
        refine ⟨by omega, a2, fun p hp hp0 => a3 p (by have : p ≠ k := (by rintro rfl; omega); omega) hp0⟩
      · rw [if_neg d0] at hb'
        cases b with
        | none =>
          obtain rfl : k = b' := by simpa using hb'
          refine ⟨by omega, by omega, fun p hp hp0 => ?_⟩
          by_cases e : p = k
          · rw [e]; exact Nat.le_refl _
          · have := h2 rfl p (by omega); omega
        | some c =>
          obtain ⟨a1, a2, a3⟩ := h1 c rfl
          simp only at hb'
          by_cases d1 : F k / oa_need T q k < F c / oa_need T q c
          · rw [if_pos d1] at hb'
            obtain rfl : k = b' := by simpa using hb'
            refine ⟨by omega, by omega, fun p hp hp0 => ?_⟩
            by_cases e : p = k
            · rw [e]; exact Nat.le_refl _
            · have := a3 p (by omega) hp0; omega
          · rw [if_neg d1] at hb'
            obtain rfl : c = b' := by simpa using hb'
            refine ⟨by omega, a2, fun p hp hp0 => ?_⟩
            by_cases e : p = k
            · rw [e]; omega
            · exact a3 p (by omega) hp0
    · intro hb' p hp
      by_cases d0 : oa_need T q k = 0
      · rw [if_pos d0] at hb'
        by_cases e : p = k
        · rw [e]; exact d0
        · exact h2 hb' p (by omega)
      · rw [if_neg d0] at hb'
        cases b with
        | none => simp at hb'
        | some c => simp only at hb'; split at hb' <;> simp at hb'
end PX
