/-! built together: what the halving comes to -/
def oa_lim (b A : Nat → Nat) : Nat → Nat → Option Nat → Option Nat
  | 0, _, x => x
  | m + 1, k, x => oa_lim b A m (k + 1) (if b k = 0 then x else match x with
    | none => some k
    | some c => if A k * b c < A c * b k then some k else some c)
theorem oa_lim_s (b A : Nat → Nat) (m k : Nat) (x : Option Nat) : oa_lim b A (m + 1) k x = oa_lim b A m (k + 1) (if b k = 0 then x else match x with
    | none => some k
    | some c => if A k * b c < A c * b k then some k else some c) := rfl
theorem oa_cross {ak ac ap bk bc bp : Nat} (h1 : ak * bc ≤ ac * bk) (h2 : ac * bp ≤ ap * bc) (h0 : 0 < bc) : ak * bp ≤ ap * bk := by
  refine Nat.le_of_mul_le_mul_right ?_ h0
  have e1 : ak * bp * bc = ak * bc * bp := by rw [Nat.mul_right_comm]
  have e2 : ac * bk * bp = ac * bp * bk := by rw [Nat.mul_right_comm]
  have e3 : ap * bk * bc = ap * bc * bk := by rw [Nat.mul_right_comm]
  rw [e1, e3]
  exact Nat.le_trans (Nat.mul_le_mul_right bp h1) (by rw [e2]; exact Nat.mul_le_mul_right bk h2)
theorem oa_lim_ok {b A : Nat → Nat} {N : Nat} : ∀ (m k : Nat) (x : Option Nat), k + m = N → (∀ c, x = some c → c < k ∧ 0 < b c ∧ ∀ p, p < k → 0 < b p → A c * b p ≤ A p * b c) → (x = none → ∀ p, p < k → b p = 0) →
    (∀ c, oa_lim b A m k x = some c → c < N ∧ 0 < b c ∧ ∀ p, p < N → 0 < b p → A c * b p ≤ A p * b c) ∧ (oa_lim b A m k x = none → ∀ p, p < N → b p = 0) := by
  intro m
  induction m with
  | zero =>
    intro k x hk h1 h2
    obtain rfl : k = N := by omega
    exact ⟨h1, h2⟩
  | succ m ih =>
    intro k x hk h1 h2
    rw [oa_lim_s]
    refine ih (k + 1) _ (by omega) ?_ ?_
    · intro c hc
      by_cases d0 : b k = 0
      · rw [if_pos d0] at hc
        obtain ⟨a1, a2, a3⟩ := h1 c hc
        refine ⟨by omega, a2, fun p hp hp0 => a3 p (by have : p ≠ k := (by rintro rfl; omega); omega) hp0⟩
      · rw [if_neg d0] at hc
        cases x with
        | none =>
          obtain rfl : k = c := by simpa using hc
          refine ⟨by omega, by omega, fun p hp hp0 => ?_⟩
          by_cases e : p = k
          · rw [e]; exact Nat.le_refl _
          · have := h2 rfl p (by omega); omega
        | some c' =>
          obtain ⟨a1, a2, a3⟩ := h1 c' rfl
          simp only at hc
          by_cases d1 : A k * b c' < A c' * b k
          · rw [if_pos d1] at hc
            obtain rfl : k = c := by simpa using hc
            refine ⟨by omega, by omega, fun p hp hp0 => ?_⟩
            by_cases e : p = k
            · rw [e]; exact Nat.le_refl _
            · exact oa_cross (Nat.le_of_lt d1) (a3 p (by omega) hp0) a2
          · rw [if_neg d1] at hc
            obtain rfl : c' = c := by simpa using hc
            refine ⟨by omega, a2, fun p hp hp0 => ?_⟩
            by_cases e : p = k
            · rw [e]; omega
            · exact a3 p (by omega) hp0
    · intro hc p hp
      by_cases d0 : b k = 0
      · rw [if_pos d0] at hc
        by_cases e : p = k
        · rw [e]; exact d0
        · exact h2 hc p (by omega)
      · rw [if_neg d0] at hc
        cases x with
        | none => simp at hc
        | some c => simp only at hc; split at hc <;> simp at hc
def oa_tA (T F : Nat → Nat) (q x p : Nat) : Nat := F p - x * oa_need T q p
def oa_tL (T F : Nat → Nat) (q r x : Nat) : Option Nat := oa_lim (oa_need T r) (oa_tA T F q x) (T 0) 0 none
def oa_ty (T F : Nat → Nat) (q r x : Nat) : Nat := match oa_tL T F q r x with
  | none => 0
  | some l => oa_tA T F q x l / oa_need T r l
def oa_tS (T F : Nat → Nat) (q r x : Nat) : Nat := x + oa_ty T F q r x
section QAE
variable {h hm : Hp} {c L : Nat} {T w F : Nat → Nat} {n q r : Nat}
theorem oa_div_le {x y c d : Nat} (hc : 0 < c) (hd : 0 < d) (h1 : x * d ≤ y * c) : x / c ≤ y / d := by
  rw [Nat.le_div_iff_mul_le hd]
  refine Nat.le_of_mul_le_mul_right ?_ hc
  refine Nat.le_trans ?_ h1
  rw [Nat.mul_right_comm]
  exact Nat.mul_le_mul_right d (Nat.div_mul_le_self x c)
theorem oa_tL_some (J : IT T) (hr : r < T 1) (x : Nat) : ∃ l, oa_tL T F q r x = some l ∧ l < T 0 ∧ 0 < oa_need T r l ∧ (∀ p, p < T 0 → 0 < oa_need T r p → oa_tA T F q x l * oa_need T r p ≤ oa_tA T F q x p * oa_need T r l) ∧ oa_ty T F q r x = oa_tA T F q x l / oa_need T r l := by
  have k := oa_lim_ok (b := oa_need T r) (A := oa_tA T F q x) (N := T 0) (T 0) 0 none (by omega) (fun _ z => nomatch z) (fun _ p hp => by omega)
  unfold oa_ty oa_tL
  cases e : oa_lim (oa_need T r) (oa_tA T F q x) (T 0) 0 none with
  | none =>
    obtain ⟨p, hp, hp0⟩ := J.2.2.2.2.2.1 r hr
    have := k.2 e p hp
    unfold oa_need at this
    omega
  | some l =>
    obtain ⟨k1, k2, k3⟩ := k.1 l e
    exact ⟨l, rfl, k1, k2, k3, rfl⟩
/-- one less unit leaves a row's need more -/
theorem oa_tA_s {x p : Nat} (hx : (x + 1) * oa_need T q p ≤ F p) : oa_tA T F q x p = oa_tA T F q (x + 1) p + oa_need T q p := by
  unfold oa_tA
  rw [Nat.succ_mul] at hx ⊢
  omega
theorem oa_tA_d {x d p : Nat} (hx : (x + d) * oa_need T q p ≤ F p) : oa_tA T F q x p = oa_tA T F q (x + d) p + d * oa_need T q p := by
  unfold oa_tA
  rw [Nat.add_mul] at hx ⊢
  omega
/-- it doesn't gain: nothing behind is better -/
theorem oa_nogain {x l m top : Nat} (J : IT T) (hr : r < T 1) (fit : ∀ p, p < T 0 → top * oa_need T q p ≤ F p) (hx : x + 1 ≤ top) (hl : oa_tL T F q r x = some l) (hm : oa_tL T F q r (x + 1) = some m)
    (hg : (oa_tA T F q (x + 1) m + oa_need T r m) * oa_need T r l ≤ oa_tA T F q x l * oa_need T r m) : ∀ x', x < x' → x' ≤ top → oa_tS T F q r x' ≤ oa_tS T F q r x := by
  intro x' h1 h2
  obtain ⟨l', e1, l1, l2, l3, l4⟩ := oa_tL_some (F := F) (q := q) J hr x
  obtain rfl : l = l' := by rw [hl] at e1; simpa using e1
  obtain ⟨m', e2, m1, m2, m3, m4⟩ := oa_tL_some (F := F) (q := q) J hr (x + 1)
  obtain rfl : m = m' := by rw [hm] at e2; simpa using e2
  obtain ⟨k, e3, k1, k2, k3, k4⟩ := oa_tL_some (F := F) (q := q) J hr x'
  have ft : ∀ z p, z ≤ top → p < T 0 → z * oa_need T q p ≤ F p := fun z p hz hp => Nat.le_trans (Nat.mul_le_mul_right _ hz) (fit p hp)
  have s1 := oa_tA_s (F := F) (q := q) (p := m) (ft (x + 1) m hx m1)
  -- b m ≤ a m
  have s2 := l3 m m1 m2
  have s3 : oa_tA T F q (x + 1) m + oa_need T r m ≤ oa_tA T F q x m := Nat.le_of_mul_le_mul_right (Nat.le_trans hg s2) l2
  have s4 : oa_need T r m ≤ oa_need T q m := by omega
  obtain ⟨d, rfl⟩ : ∃ d, x' = x + 1 + d := ⟨x' - (x + 1), by omega⟩
  have s5 := oa_tA_d (F := F) (q := q) (p := m) (ft (x + 1 + d) m h2 m1)
  have s6 : d * oa_need T r m ≤ d * oa_need T q m := Nat.mul_le_mul_left d s4
  have s7 : oa_ty T F q r (x + 1 + d) ≤ oa_tA T F q (x + 1 + d) m / oa_need T r m := by
    rw [k4]
    exact oa_div_le k2 m2 (k3 m m1 m2)
  have s8 : oa_tA T F q (x + 1 + d) m / oa_need T r m + (d + 1) = (oa_tA T F q (x + 1 + d) m + (d + 1) * oa_need T r m) / oa_need T r m := by
    rw [Nat.add_mul_div_right _ _ m2]
  have s9 : oa_tA T F q (x + 1 + d) m + (d + 1) * oa_need T r m ≤ oa_tA T F q (x + 1) m + oa_need T r m := by
    rw [Nat.succ_mul]
    omega
  have s10 : (oa_tA T F q (x + 1) m + oa_need T r m) / oa_need T r m ≤ oa_ty T F q r x := by
    rw [l4]
    exact oa_div_le m2 l2 hg
  have s11 := Nat.div_le_div_right (c := oa_need T r m) s9
  unfold oa_tS
  omega
/-- it gains: nothing ahead is better -/
theorem oa_gain {x l m top : Nat} (J : IT T) (hr : r < T 1) (fit : ∀ p, p < T 0 → top * oa_need T q p ≤ F p) (hx : x + 1 ≤ top) (hl : oa_tL T F q r x = some l) (hm : oa_tL T F q r (x + 1) = some m)
    (hg : ¬ (oa_tA T F q (x + 1) m + oa_need T r m) * oa_need T r l ≤ oa_tA T F q x l * oa_need T r m) : ∀ x', x' < x + 1 → oa_tS T F q r x' ≤ oa_tS T F q r (x + 1) := by
  intro x' h1
  obtain ⟨l', e1, l1, l2, l3, l4⟩ := oa_tL_some (F := F) (q := q) J hr x
  obtain rfl : l = l' := by rw [hl] at e1; simpa using e1
  obtain ⟨m', e2, m1, m2, m3, m4⟩ := oa_tL_some (F := F) (q := q) J hr (x + 1)
  obtain rfl : m = m' := by rw [hm] at e2; simpa using e2
  obtain ⟨k, e3, k1, k2, k3, k4⟩ := oa_tL_some (F := F) (q := q) J hr x'
  have ft : ∀ z p, z ≤ top → p < T 0 → z * oa_need T q p ≤ F p := fun z p hz hp => Nat.le_trans (Nat.mul_le_mul_right _ hz) (fit p hp)
  have hg' : oa_tA T F q x l * oa_need T r m < (oa_tA T F q (x + 1) m + oa_need T r m) * oa_need T r l := Nat.not_le.mp hg
  have s1 := oa_tA_s (F := F) (q := q) (p := l) (ft (x + 1) l hx l1)
  have s2 := m3 l l1 l2
  -- a l < b l
  have s3 : oa_tA T F q x l * oa_need T r m < (oa_tA T F q (x + 1) l + oa_need T r l) * oa_need T r m := by
    refine Nat.lt_of_lt_of_le hg' ?_
    rw [Nat.add_mul, Nat.add_mul, Nat.mul_comm (oa_need T r m) (oa_need T r l)]
    exact Nat.add_le_add_right s2 _
  have s4 : oa_tA T F q x l < oa_tA T F q (x + 1) l + oa_need T r l := Nat.lt_of_mul_lt_mul_right s3
  have s5 : oa_need T q l ≤ oa_need T r l := by omega
  obtain ⟨d, rfl⟩ : ∃ d, x = x' + d := ⟨x - x', by omega⟩
  have s6 := oa_tA_d (F := F) (q := q) (p := l) (ft (x' + d) l (by omega) l1)
  have s7 : d * oa_need T q l ≤ d * oa_need T r l := Nat.mul_le_mul_left d s5
  have s8 : oa_ty T F q r x' ≤ oa_tA T F q x' l / oa_need T r l := by
    rw [k4]
    exact oa_div_le k2 l2 (k3 l l1 l2)
  have s9 : oa_tA T F q x' l ≤ oa_tA T F q (x' + d) l + d * oa_need T r l := by omega
  have s10 := Nat.div_le_div_right (c := oa_need T r l) s9
  rw [Nat.add_mul_div_right _ _ l2] at s10
  have s11 : oa_tA T F q (x' + d) l / oa_need T r l ≤ (oa_tA T F q (x' + d + 1) m + oa_need T r m) / oa_need T r m := oa_div_le l2 m2 (Nat.le_of_lt hg')
  rw [Nat.add_div_right _ m2] at s11
  unfold oa_tS
  omega
end QAE
