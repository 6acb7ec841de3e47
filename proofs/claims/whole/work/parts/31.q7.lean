/-! the part that allows the fewest units -/
def oa_oi : Option Nat → Int32
  | none => -1
  | some b => nI b
def oa_lst (T F : Nat → Nat) (q : Nat) : Nat → Nat → Option Nat → Option Nat
  | 0, _, b => b
  | m + 1, k, b => oa_lst T F q m (k + 1) (if oa_need T q k = 0 then b else match b with
    | none => some k
    | some c => if F k / oa_need T q k < F c / oa_need T q c then some k else some c)
section PW
variable {h hm : Hp} {c : Nat} {T w F : Nat → Nat} {n : Nat}
theorem oa_oi_some {b k : Nat} (hb : b < k) (hk : k ≤ 12) : ¬ nI b = -1 := by
  intro z
  have : (0 : Int32) ≤ nI b := nI_pos' (by omega)
  rw [z] at this
  revert this
  decide
theorem a_tight {q t2 i2 : Nat} (J : IT T) (C : RC h c T) (hq : q < T 1) (hF : ∀ p, p < 12 → h.1 t2 i2 p = nI (F p) ∧ F p < 1000000) : ∀ (m k e : Nat) (b : Option Nat) (x4 : Int32), k + m = T 0 → (∀ b', b = some b' → x4 = nI (F b' / oa_need T q b') ∧ b' < k ∧ 0 < oa_need T q b') →
    pw_X1_tightestPart_8 (m + 1 + e) h c (nI q) t2 i2 12 (oa_oi b) x4 (nI k) ∧ fw_X1_tightestPart_8 (m + 1 + e) h c (nI q) t2 i2 12 (oa_oi b) x4 (nI k) = oa_oi (oa_lst T F q m k b) := by
  have bT := J.1
  have k0 := C.1.1
  intro m
  induction m with
  | zero =>
    intro k e b x4 hk hb
    rw [show 0 + 1 + e = e + 1 by omega]
    have c1 : nI (T 0) ≤ nI k := nI_le (by omega) (by omega)
    simp [pw_X1_tightestPart_8, fw_X1_tightestPart_8, k0, c1, oa_lst]
  | succ m ih =>
    intro k e b x4 hk hb
    rw [show m + 1 + 1 + e = (m + 1 + e) + 1 by omega]
    have c1 : ¬ nI (T 0) ≤ nI k := nI_ge (by omega) (by omega)
    have c2 : ¬ Int32.ofNat 12 ≤ nI k := nI_ge (a := k) (b := 12) (by omega) (by omega)
    have c3 : ¬ (12 : Int32) ≤ nI k := c2
    have a1 := a_needOf J C hq (show k < T 0 by omega)
    have jn : oa_need T q k ≤ 9999 := J.2.2.2.2.1 q k hq (by omega)
    have v1 : vp_in (nI k) 12 := vp_in_nI (by omega) (by omega)
    have hk1 := hF k (by omega)
    have ih' := fun b x4 => ih (k + 1) e b x4 (by omega)
    simp only [nI_succ] at ih'
    simp only [pw_X1_tightestPart_8, fw_X1_tightestPart_8, k0, a1.2, nI_clamp (show k < 2 ^ 31 by omega), hk1.1, oa_lst]
    by_cases d0 : oa_need T q k = 0
    · have e0 : nI (oa_need T q k) ≤ 0 := by rw [d0]; decide
      have r := ih' b x4 (fun b' hb' => ⟨(hb b' hb').1, by have := (hb b' hb').2.1; omega, (hb b' hb').2.2⟩)
      simp [c1, c2, c3, nI_0, a1.1, e0, d0, r]
    · have e0 : ¬ nI (oa_need T q k) ≤ 0 := nI_nle (by omega) (by omega)
      have e1 : ¬ nI (oa_need T q k) = 0 := nI_ne0 (by omega) (by omega)
      have e2 : nI (F k) / nI (oa_need T q k) = nI (F k / oa_need T q k) := pk_div (by omega) (by omega) (by omega)
      have dl : F k / oa_need T q k ≤ F k := Nat.div_le_self _ _
      have r := ih' (some k) (nI (F k / oa_need T q k)) (fun b' hb' => by cases hb'; exact ⟨rfl, by omega, by omega⟩)
      cases b with
      | none =>
        have o1 : oa_oi none = -1 := rfl
        have o2 : oa_oi (some k) = nI k := rfl
        rw [o2] at r
        simp [c1, c2, c3, nI_0, a1.1, e0, e1, e2, d0, v1, r, o1]
      | some b' =>
        obtain ⟨rfl, hb2, hb3⟩ := hb b' rfl
        have o1 : oa_oi (some b') = nI b' := rfl
        have o2 : oa_oi (some k) = nI k := rfl
        have o3 : ¬ nI b' = -1 := oa_oi_some hb2 (by omega)
        have hb4 := hF b' (by omega)
        have dl2 : F b' / oa_need T q b' ≤ F b' := Nat.div_le_self _ _
        have le : (nI (F b' / oa_need T q b') ≤ nI (F k / oa_need T q k)) ↔ F b' / oa_need T q b' ≤ F k / oa_need T q k := nI_leI (by omega) (by omega)
        by_cases d1 : F k / oa_need T q k < F b' / oa_need T q b'
        · have d2 : ¬ F b' / oa_need T q b' ≤ F k / oa_need T q k := by omega
          rw [o2] at r
          simp [c1, c2, c3, nI_0, a1.1, e0, e1, e2, d0, v1, r, o1, o3, le, d1, d2]
        · have d2 : F b' / oa_need T q b' ≤ F k / oa_need T q k := by omega
          have r2 := ih' (some b') (nI (F b' / oa_need T q b')) (fun b2 hb' => by cases hb'; exact ⟨rfl, by omega, by omega⟩)
          rw [o1] at r2
          simp [c1, c2, c3, nI_0, a1.1, e0, e1, e2, d0, v1, r2, o1, o3, le, d1, d2]
end PW
