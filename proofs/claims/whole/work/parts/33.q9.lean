section PY
variable {h hm : Hp} {L : Nat} {T w : Nat → Nat} {n : Nat}
theorem RG.row {t1 i1 k : Nat} {x : Int32} (G : RG h L w) (ht : t1 = 53 ∨ t1 = 13) : RG (hp_i h t1 i1 k x) L w := by
  rcases ht with rfl | rfl <;> exact G
theorem a_fill {t1 i1 : Nat} (ht : t1 = 53 ∨ t1 = 13) (I : IW T w n) : ∀ (m k e : Nat) (h : Hp), RG h L w → k + m = 12 →
    pw_X10_fillFree_2 (m + 1 + e) h L t1 i1 12 (nI k) ∧ (∀ p, k ≤ p → p < 12 → (gw_X10_fillFree_2 (m + 1 + e) h L t1 i1 12 (nI k)).1 t1 i1 p = nI (w (9 + p) - w (21 + p))) ∧ (∀ p, p < k → (gw_X10_fillFree_2 (m + 1 + e) h L t1 i1 12 (nI k)).1 t1 i1 p = h.1 t1 i1 p) := by
  intro m
  induction m with
  | zero =>
    intro k e h G hk
    rw [show 0 + 1 + e = e + 1 by omega]
    have c1 : (12 : Int32) ≤ nI k := nI_le (a := 12) (b := k) (by omega) (by omega)
    refine ⟨?_, fun p h1 h2 => by omega, fun p hp => ?_⟩
    · simp [pw_X10_fillFree_2, c1]
    · simp [gw_X10_fillFree_2, c1]
  | succ m ih =>
    intro k e h G hk
    rw [show m + 1 + 1 + e = (m + 1 + e) + 1 by omega]
    have c1 : ¬ (12 : Int32) ≤ nI k := nI_ge (a := k) (b := 12) (by omega) (by omega)
    have v1 : vp_in (nI k) 12 := vp_in_nI (by omega) (by omega)
    have a1 := a_freeOf G I (show k < 12 by omega)
    obtain ⟨r1, r2, r3⟩ := ih (k + 1) e (hp_i h t1 i1 k (nI (w (9 + k) - w (21 + k)))) (G.row ht) (by omega)
    rw [nI_succ] at r1 r2 r3
    refine ⟨?_, fun p h1 h2 => ?_, fun p hp => ?_⟩
    · simp [pw_X10_fillFree_2, c1, v1, a1, r1, nI_clamp (show k < 2 ^ 31 by omega)]
    · rw [gw_X10_fillFree_2]
      simp only [a1.2, nI_clamp (show k < 2 ^ 31 by omega)]
      rw [if_neg (show ¬ Int32.ofNat 12 ≤ nI k from c1)]
      by_cases e1 : p = k
      · subst e1
        rw [r3 p (by omega)]
        unfold hp_i
        rw [hp_a_s]
        simp [upd]
      · exact r2 p (by omega) h2
    · rw [gw_X10_fillFree_2]
      simp only [a1.2, nI_clamp (show k < 2 ^ 31 by omega)]
      rw [if_neg (show ¬ Int32.ofNat 12 ≤ nI k from c1)]
      rw [r3 p (by omega)]
      unfold hp_i
      rw [hp_a_s]
      have : ¬ p = k := by omega
      simp [upd, this]
end PY
