theorem oa_neg {a b : Nat} (h : a < b) (hb : b < 2 ^ 31) : ¬ (0 : Int32) ≤ nI a - nI b := by
  intro z
  have e1 := nI_toInt (n := a) (by omega)
  have e2 := nI_toInt (n := b) hb
  have e3 := Int32.le_iff_toInt_le.mp z
  rw [Int32.toInt_sub, e1, e2, Int32.toInt_zero] at e3
  rw [Int.bmod_def] at e3
  omega
def oa_aft (T F : Nat → Nat) (q q2 u : Nat) : Nat → Nat → Nat → Option Nat
  | 0, _, x => some x
  | m + 1, k, x => if F k < u * oa_need T q2 k then none else oa_aft T F q q2 u m (k + 1) (if oa_need T q k = 0 then x else if (F k - u * oa_need T q2 k) / oa_need T q k < x then (F k - u * oa_need T q2 k) / oa_need T q k else x)
