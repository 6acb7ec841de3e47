theorem oa_neg {a b : Nat} (h : a < b) (hb : b < 2 ^ 31) : ¬ (0 : Int32) ≤ nI a - nI b := by
  intro z
  have e1 := nI_toInt (n := a) (by omega)
  have e2 := nI_toInt (n := b) hb
  have e3 := Int32.le_iff_toInt_le.mp z
  rw [Int32.toInt_sub, e1, e2, Int32.toInt_zero] at e3
  rw [Int.bmod_def] at e3
  omega
def oa_aft (T F : Nat → Nat) (q q2 u : Nat) : Nat → Nat → Nat → Option Nat
  | 0, _, x => some x
  | m + 1, k, x => if F k < u * oa_need T q2 k then none else oa_aft T F q q2 u m (k + 1) (if oa_need T q k = 0 then x else if (F k - u * oa_need T q2 k) / oa_need T q k < x then (F k - u * oa_need T q2 k) / oa_need T q k else x)
section PZD
variable {h hm : Hp} {c L : Nat} {T w : Nat → Nat} {n : Nat}
theorem m_after {q q2 u : Nat} (hn : n ≤ 512) (J : IT T) (R : RM hm T w) (I : IW T w n) (hq : q < T 1) (hq2 : q2 < T 1) (hu : u ≤ 999) : ∀ (m k e x : Nat), k + m = T 0 → x < 1000000 →
    pw_X12_buildableAfter_62 (m + 1 + e) hm (nI q) (nI q2) (nI u) (nI x) (nI k) ∧ fw_X12_buildableAfter_62 (m + 1 + e) hm (nI q) (nI q2) (nI u) (nI x) (nI k) = oa_oi (oa_aft T (fun p => w (9 + p) - w (21 + p)) q q2 u m k x) := by
  have bT := J.1
  have k0 : hm.1 56 0 0 = nI (T 0) := R.1 0 (by omega)
  intro m
  induction m with
  | zero =>
    intro k e x hk hx
    rw [show 0 + 1 + e = e + 1 by omega]
    have c1 : nI (T 0) ≤ nI k := nI_le (by omega) (by omega)
    simp [pw_X12_buildableAfter_62, fw_X12_buildableAfter_62, k0, c1, oa_aft, oa_oi]
  | succ m ih =>
    intro k e x hk hx
    rw [show m + 1 + 1 + e = (m + 1 + e) + 1 by omega]
    have c1 : ¬ nI (T 0) ≤ nI k := nI_ge (by omega) (by omega)
    have a1 := m_needs R (show q < 8 by omega) (show k < 12 by omega)
    have a2 := m_needs R (show q2 < 8 by omega) (show k < 12 by omega)
    have f1 := m_free R I (show k < 12 by omega)
    have jn : oa_need T q k ≤ 9999 := J.2.2.2.2.1 q k hq (by omega)
    have jn2 : oa_need T q2 k ≤ 9999 := J.2.2.2.2.1 q2 k hq2 (by omega)
    have ik := (I.2.1 k (by omega)).1
    have um : u * oa_need T q2 k ≤ 999 * 9999 := Nat.mul_le_mul hu jn2
    have ih' := fun x hx => ih (k + 1) e x (by omega) hx
    simp only [nI_succ] at ih'
    simp only [pw_X12_buildableAfter_62, fw_X12_buildableAfter_62, k0, a1.2, a2.2, f1.2, oa_mul, oa_aft]
    by_cases d : w (9 + k) - w (21 + k) < u * oa_need T q2 k
    · have d0 : ¬ oa_need T q2 k = 0 := by intro z; rw [z] at d; omega
      have e0 : ¬ nI (oa_need T q2 k) ≤ 0 := nI_nle (by omega) (by omega)
      have e1 := oa_neg d (by omega)
      have e1' : nI (w (9 + k) - w (21 + k)) - nI (u * oa_need T q2 k) < 0 := Int32.not_le.mp e1
      simp [c1, a1.1, a2.1, f1.1, e0, e1, e1', d, oa_oi]
    · have e1 : nI (w (9 + k) - w (21 + k)) - nI (u * oa_need T q2 k) = nI (w (9 + k) - w (21 + k) - u * oa_need T q2 k) := oa_sub (by omega)
      have e2 : (0 : Int32) ≤ nI (w (9 + k) - w (21 + k) - u * oa_need T q2 k) := nI_pos' (by omega)
      rw [e1]
      by_cases g0 : oa_need T q k = 0
      · have g1 : nI (oa_need T q k) ≤ 0 := by rw [g0]; decide
        have r := ih' x hx
        by_cases e0 : nI (oa_need T q2 k) ≤ 0
        · simp [c1, a1.1, a2.1, f1.1, e0, e2, d, g0, g1, nI_0, r]
        · have e0' := Int32.not_le.mp e0
          simp [c1, a1.1, a2.1, f1.1, e0, e0', e2, d, g0, g1, nI_0, r]
      · have g1 : ¬ nI (oa_need T q k) ≤ 0 := nI_nle (by omega) (by omega)
        have g2 : ¬ nI (oa_need T q k) = 0 := nI_ne0 (by omega) (by omega)
        have g3 : nI (w (9 + k) - w (21 + k) - u * oa_need T q2 k) / nI (oa_need T q k) = nI ((w (9 + k) - w (21 + k) - u * oa_need T q2 k) / oa_need T q k) := pk_div (by omega) (by omega) (by omega)
        have dl : (w (9 + k) - w (21 + k) - u * oa_need T q2 k) / oa_need T q k ≤ w (9 + k) - w (21 + k) - u * oa_need T q2 k := Nat.div_le_self _ _
        have lt : (nI ((w (9 + k) - w (21 + k) - u * oa_need T q2 k) / oa_need T q k) < nI x) ↔ (w (9 + k) - w (21 + k) - u * oa_need T q2 k) / oa_need T q k < x := nI_ltI (by omega) (by omega)
        by_cases g4 : (w (9 + k) - w (21 + k) - u * oa_need T q2 k) / oa_need T q k < x
        · have r := ih' ((w (9 + k) - w (21 + k) - u * oa_need T q2 k) / oa_need T q k) (by omega)
          by_cases e0 : nI (oa_need T q2 k) ≤ 0
          · simp [c1, a1.1, a2.1, f1.1, e0, e2, d, g0, g1, g2, g3, lt, g4, r]
          · simp [c1, a1.1, a2.1, f1.1, e0, e2, d, g0, g1, g2, g3, lt, g4, r]
        · have r := ih' x hx
          by_cases e0 : nI (oa_need T q2 k) ≤ 0
          · simp [c1, a1.1, a2.1, f1.1, e0, e2, d, g0, g1, g2, g3, lt, g4, r]
          · simp [c1, a1.1, a2.1, f1.1, e0, e2, d, g0, g1, g2, g3, lt, g4, r]
end PZD
