/-! bits (out of kit/laws/BITS.to-paste: the family bt) -/
def bt (x : Int32) (i : Nat) : Bool := x.toBitVec.getLsbD i
theorem b_ext {x y : Int32} (h : ∀ i, i < 32 → bt x i = bt y i) : x = y := Int32.toBitVec_inj.mp (BitVec.eq_of_getLsbD_eq (fun i hi => h i hi))
theorem b_or (x y : Int32) (i : Nat) : bt (x ||| y) i = (bt x i || bt y i) := by unfold bt; rw [Int32.toBitVec_or, BitVec.getLsbD_or]
theorem b_and (x y : Int32) (i : Nat) : bt (x &&& y) i = (bt x i && bt y i) := by unfold bt; rw [Int32.toBitVec_and, BitVec.getLsbD_and]
theorem b_xor (x y : Int32) (i : Nat) : bt (x ^^^ y) i = (bt x i ^^ bt y i) := by unfold bt; rw [Int32.toBitVec_xor, BitVec.getLsbD_xor]
theorem b_big {x : Int32} {i : Nat} (h : 32 ≤ i) : bt x i = false := BitVec.getLsbD_of_ge _ _ h
theorem b_m1 : ∀ i, i < 32 → bt (-1) i = true := by decide +kernel
theorem b_0 (i : Nat) : bt 0 i = false := BitVec.getLsbD_zero
theorem s_l : ∀ n, n < 32 → ((nI n &&& 31).toBitVec.smod 32).toNat = n := by decide +kernel
theorem s_u : ∀ n, n < 32 → (((nI n).toUInt32 &&& Int32.toUInt32 31).toBitVec % 32).toNat = n := by decide +kernel
theorem b_shl (n : Nat) (hn : n < 32) (x : Int32) {i : Nat} (hi : i < 32) : bt (x <<< (nI n &&& 31)) i = (decide (n ≤ i) && bt x (i - n)) := by
  unfold bt
  rw [Int32.toBitVec_shiftLeft]
  show (x.toBitVec <<< ((nI n &&& 31).toBitVec.smod 32).toNat).getLsbD i = _
  rw [s_l n hn, BitVec.getLsbD_shiftLeft]
  rcases Nat.lt_or_ge i n with h | h
  · simp [h, Nat.not_le.mpr h]
  · simp [hi, h, Nat.not_lt.mpr h]
theorem b_ushr (n : Nat) (hn : n < 32) (x : Int32) (i : Nat) : bt ((x.toUInt32 >>> ((nI n).toUInt32 &&& Int32.toUInt32 31)).toInt32) i = bt x (n + i) := by
  show (x.toUInt32 >>> ((nI n).toUInt32 &&& Int32.toUInt32 31)).toBitVec.getLsbD i = x.toUInt32.toBitVec.getLsbD (n + i)
  rw [UInt32.toBitVec_shiftRight]
  show (x.toUInt32.toBitVec >>> (((nI n).toUInt32 &&& Int32.toUInt32 31).toBitVec % 32).toNat).getLsbD i = _
  rw [s_u n hn, BitVec.getLsbD_ushiftRight]
theorem b_sshr (n : Nat) (hn : n < 32) (x : Int32) {i : Nat} (hi : i < 32) : bt (x >>> (nI n &&& 31)) i = if n + i < 32 then bt x (n + i) else bt x 31 := by
  unfold bt
  rw [Int32.toBitVec_shiftRight]
  show (x.toBitVec.sshiftRight ((nI n &&& 31).toBitVec.smod 32).toNat).getLsbD i = _
  rw [s_l n hn, BitVec.getLsbD_sshiftRight, BitVec.msb_eq_getLsbD_last]
  simp [hi]
theorem b_1 : ∀ i, i < 32 → bt 1 i = decide (i = 0) := by decide +kernel
theorem bt_test (x : Int32) {k : Nat} (hk : k < 32) : ((x >>> (nI k &&& 31)) &&& 1) = 0 ↔ bt x k = false := by
  constructor
  · intro h
    have h1 : bt ((x >>> (nI k &&& 31)) &&& 1) 0 = bt 0 0 := by rw [h]
    rw [b_and, b_sshr k hk x (by omega), b_0, b_1 0 (by omega), if_pos (by omega)] at h1
    simpa using h1
  · intro h
    apply b_ext
    intro i hi
    rw [b_and, b_0, b_1 i hi]
    by_cases d : i = 0
    · subst d
      rw [b_sshr k hk x (by omega), if_pos (by omega)]
      simp [h]
    · simp [d]
theorem bt_set (x : Int32) {o k : Nat} (ho : o < 32) (hk : k < 32) : bt (x ||| (1 <<< (nI o &&& 31))) k = (bt x k || decide (k = o)) := by
  rw [b_or, b_shl o ho 1 hk]
  congr 1
  by_cases d : o ≤ k
  · rw [b_1 _ (by omega)]
    by_cases e : k = o
    · subst e; simp
    · have : ¬ k - o = 0 := by omega
      simp [d, e, this]
  · have : ¬ k = o := by omega
    simp [d, this]
/-- order o is served ahead of order p -/
def oa_ah (w : Nat → Nat) (o p : Nat) : Bool := decide (w (93 + 8 * o + 3) < w (93 + 8 * p + 3) ∨ (w (93 + 8 * o + 3) = w (93 + 8 * p + 3) ∧ (w (93 + 8 * p + 2) < w (93 + 8 * o + 2) ∨ (w (93 + 8 * o + 2) = w (93 + 8 * p + 2) ∧ o < p))))
theorem oa_ah_i (w : Nat → Nat) (o p : Nat) : oa_ah w o p = true ↔ (w (93 + 8 * o + 3) < w (93 + 8 * p + 3) ∨ (w (93 + 8 * o + 3) = w (93 + 8 * p + 3) ∧ (w (93 + 8 * p + 2) < w (93 + 8 * o + 2) ∨ (w (93 + 8 * o + 2) = w (93 + 8 * p + 2) ∧ o < p)))) := by
  unfold oa_ah
  exact decide_eq_true_iff
theorem oa_ah_as {w : Nat → Nat} {o p : Nat} (h1 : oa_ah w o p = true) (h2 : oa_ah w p o = true) : False := by
  rw [oa_ah_i] at h1 h2
  omega
theorem oa_ah_tr {w : Nat → Nat} {o p q : Nat} (h1 : oa_ah w o p = true) (h2 : oa_ah w p q = true) : oa_ah w o q = true := by
  rw [oa_ah_i] at h1 h2 ⊢
  omega
theorem oa_ah_to {w : Nat → Nat} {o p : Nat} (h1 : o ≠ p) : oa_ah w o p = true ∨ oa_ah w p o = true := by
  rw [oa_ah_i, oa_ah_i]
  omega
def oa_nx (w : Nat → Nat) (P : Nat → Bool) : Nat → Nat → Option Nat → Option Nat
  | 0, _, b => b
  | m + 1, k, b => oa_nx w P m (k + 1) (if P k = true then (match b with
    | none => some k
    | some c => if oa_ah w k c = true then some k else some c) else b)
theorem oa_nx_s (w : Nat → Nat) (P : Nat → Bool) (m k : Nat) (b : Option Nat) : oa_nx w P (m + 1) k b = oa_nx w P m (k + 1) (if P k = true then (match b with
    | none => some k
    | some c => if oa_ah w k c = true then some k else some c) else b) := rfl
theorem oa_nx_ok {w : Nat → Nat} {P : Nat → Bool} {N : Nat} : ∀ (m k : Nat) (b : Option Nat), k + m = N → (∀ c, b = some c → c < k ∧ P c = true ∧ ∀ p, p < k → P p = true → p = c ∨ oa_ah w c p = true) → (b = none → ∀ p, p < k → P p = false) →
    (∀ c, oa_nx w P m k b = some c → c < N ∧ P c = true ∧ ∀ p, p < N → P p = true → p = c ∨ oa_ah w c p = true) ∧ (oa_nx w P m k b = none → ∀ p, p < N → P p = false) := by
  intro m
  induction m with
  | zero =>
    intro k b hk h1 h2
    obtain rfl : k = N := by omega
    exact ⟨h1, h2⟩
  | succ m ih =>
    intro k b hk h1 h2
    rw [oa_nx_s]
    refine ih (k + 1) _ (by omega) ?_ ?_
    · intro c hc
      by_cases d0 : P k = true
      · rw [if_pos d0] at hc
        cases b with
        | none =>
          obtain rfl : k = c := by simpa using hc
          refine ⟨by omega, d0, fun p hp hp0 => ?_⟩
          by_cases e : p = k
          · exact Or.inl e
          · have := h2 rfl p (by omega); rw [this] at hp0; exact (Bool.false_ne_true hp0).elim
        | some c' =>
          obtain ⟨a1, a2, a3⟩ := h1 c' rfl
          simp only at hc
          by_cases d1 : oa_ah w k c' = true
          · rw [if_pos d1] at hc
            obtain rfl : k = c := by simpa using hc
            refine ⟨by omega, d0, fun p hp hp0 => ?_⟩
            by_cases e : p = k
            · exact Or.inl e
            · rcases a3 p (by omega) hp0 with z | z
              · exact Or.inr (by rw [z]; exact d1)
              · exact Or.inr (oa_ah_tr d1 z)
          · rw [if_neg d1] at hc
            obtain rfl : c' = c := by simpa using hc
            refine ⟨by omega, a2, fun p hp hp0 => ?_⟩
            by_cases e : p = k
            · subst e
              rcases oa_ah_to (w := w) (show p ≠ c' by omega) with z | z
              · exact (d1 z).elim
              · exact Or.inr z
            · exact a3 p (by omega) hp0
      · rw [if_neg d0] at hc
        obtain ⟨a1, a2, a3⟩ := h1 c hc
        refine ⟨by omega, a2, fun p hp hp0 => a3 p (by have : p ≠ k := (by rintro rfl; exact d0 hp0); omega) hp0⟩
    · intro hc p hp
      by_cases d0 : P k = true
      · rw [if_pos d0] at hc
        cases b with
        | none => simp at hc
        | some c => simp only at hc; split at hc <;> simp at hc
      · rw [if_neg d0] at hc
        by_cases e : p = k
        · rw [e]; simpa using d0
        · exact h2 hc p (by omega)
theorem oa_nx_all {w : Nat → Nat} {P : Nat → Bool} (N : Nat) : (∀ c, oa_nx w P N 0 none = some c → c < N ∧ P c = true ∧ ∀ p, p < N → P p = true → p = c ∨ oa_ah w c p = true) ∧ (oa_nx w P N 0 none = none → ∀ p, p < N → P p = false) :=
  oa_nx_ok N 0 none (by omega) (fun _ z => nomatch z) (fun _ p hp => by omega)
section QAH
variable {h hm : Hp} {c L : Nat} {T w F : Nat → Nat} {n : Nat}
theorem m_ahead {o p : Nat} (R : RM hm T w) (I : IW T w n) (ho : o < w 1) (hp : p < w 1) : p_X12_isAhead hm (nI o) (nI p) ∧ f_X12_isAhead hm (nI o) (nI p) = if oa_ah w o p = true then 1 else 0 := by
  have hw := I.1.2.1
  have m1 := m_ord R I ho
  have m2 := m_ord R I hp
  have i1 := I.2.2.2 o ho
  have i2 := I.2.2.2 p hp
  have e3 : (nI (w (93 + 8 * o + 3)) = nI (w (93 + 8 * p + 3))) ↔ w (93 + 8 * o + 3) = w (93 + 8 * p + 3) := nI_eq (by omega) (by omega)
  have e2 : (nI (w (93 + 8 * o + 2)) = nI (w (93 + 8 * p + 2))) ↔ w (93 + 8 * o + 2) = w (93 + 8 * p + 2) := nI_eq (by omega) (by omega)
  have l3 : (nI (w (93 + 8 * p + 3)) ≤ nI (w (93 + 8 * o + 3))) ↔ w (93 + 8 * p + 3) ≤ w (93 + 8 * o + 3) := nI_leI (by omega) (by omega)
  have l2 : (nI (w (93 + 8 * o + 2)) ≤ nI (w (93 + 8 * p + 2))) ↔ w (93 + 8 * o + 2) ≤ w (93 + 8 * p + 2) := nI_leI (by omega) (by omega)
  have lo : (nI p ≤ nI o) ↔ p ≤ o := nI_leI (by omega) (by omega)
  refine ⟨?_, ?_⟩
  · unfold p_X12_isAhead
    simp only [m1, m2]
    grind
  · unfold f_X12_isAhead
    simp only [m1, m2, e3, e2, l3, l2, lo, oa_ah_i]
    by_cases a : w (93 + 8 * o + 3) = w (93 + 8 * p + 3)
    · by_cases b : w (93 + 8 * o + 2) = w (93 + 8 * p + 2)
      · by_cases c : p ≤ o
        · rw [if_pos a, if_pos b, if_pos c, if_neg (by omega)]
        · rw [if_pos a, if_pos b, if_neg c, if_pos (by omega)]
      · by_cases c : w (93 + 8 * o + 2) ≤ w (93 + 8 * p + 2)
        · rw [if_pos a, if_neg b, if_pos c, if_neg (by omega)]
        · rw [if_pos a, if_neg b, if_neg c, if_pos (by omega)]
    · by_cases c : w (93 + 8 * p + 3) ≤ w (93 + 8 * o + 3)
      · rw [if_neg a, if_pos c, if_neg (by omega)]
      · rw [if_neg a, if_neg c, if_pos (by omega)]
theorem a_before {o p : Nat} (G : RG h L w) (I : IW T w n) (ho : o < w 1) (hp : p < o) : p_X6_isServedBefore h L (nI o) (nI p) ∧ f_X6_isServedBefore h L (nI o) (nI p) = if oa_ah w o p = true then 1 else 0 := by
  have hw := I.1.2.1
  have m1 := a_ord G I ho
  have m2 := a_ord G I (show p < w 1 by omega)
  have i1 := I.2.2.2 o ho
  have i2 := I.2.2.2 p (by omega)
  have e3 : (nI (w (93 + 8 * o + 3)) = nI (w (93 + 8 * p + 3))) ↔ w (93 + 8 * o + 3) = w (93 + 8 * p + 3) := nI_eq (by omega) (by omega)
  have l3 : (nI (w (93 + 8 * p + 3)) ≤ nI (w (93 + 8 * o + 3))) ↔ w (93 + 8 * p + 3) ≤ w (93 + 8 * o + 3) := nI_leI (by omega) (by omega)
  have l2 : (nI (w (93 + 8 * o + 2)) ≤ nI (w (93 + 8 * p + 2))) ↔ w (93 + 8 * o + 2) ≤ w (93 + 8 * p + 2) := nI_leI (by omega) (by omega)
  refine ⟨?_, ?_⟩
  · unfold p_X6_isServedBefore
    simp only [m1, m2]
    grind
  · unfold f_X6_isServedBefore
    simp only [m1, m2, e3, l3, l2, oa_ah_i]
    by_cases a : w (93 + 8 * o + 3) = w (93 + 8 * p + 3)
    · by_cases c : w (93 + 8 * o + 2) ≤ w (93 + 8 * p + 2)
      · rw [if_pos a, if_pos c, if_neg (by omega)]
      · rw [if_pos a, if_neg c, if_pos (by omega)]
    · by_cases c : w (93 + 8 * p + 3) ≤ w (93 + 8 * o + 3)
      · rw [if_neg a, if_pos c, if_neg (by omega)]
      · rw [if_neg a, if_neg c, if_pos (by omega)]
/-- whom a rung may serve -/
def oa_pn (T w gt : Nat → Nat) (r : Nat) (D : Int32) (o : Nat) : Bool := !bt D o && decide (gt o < oa_open w o ∧ T (388 + 3 * r) ≤ w (93 + 8 * o + 2) ∧ w (93 + 8 * o + 2) ≤ T (388 + 3 * r + 1))
theorem m_nextL {r : Nat} {gt : Nat → Nat} {D : Int32} (J : IT T) (R : RM hm T w) (I : IW T w n) (hr : r < T 2) (hD : hm.1 12 0 22 = D) (hg : ∀ o, o < 20 → hm.1 62 0 o = nI (gt o) ∧ gt o < 1000000) : ∀ (m k e : Nat) (b : Option Nat), k + m = w 1 → (∀ b', b = some b' → b' < k) →
    pw_X12_nextIn_4 (m + 1 + e) hm (nI r) (oa_oi b) (nI k) ∧ fw_X12_nextIn_4 (m + 1 + e) hm (nI r) (oa_oi b) (nI k) = oa_oi (oa_nx w (oa_pn T w gt r D) m k b) := by
  have bT := J.1
  have hw := I.1.2.1
  have r0 : hm.1 58 0 1 = nI (w 1) := R.2 1 (by omega) (by omega)
  have jr := J.2.2.2.2.2.2.1 r hr
  have e1 : (388 : Int32) + 3 * nI r = nI (388 + 3 * r) := oa_ix2 388 3 r
  have e2 : nI (388 + 3 * r) + 1 = nI (388 + 3 * r + 1) := nI_add _ 1
  have v1 : vp_in (nI (388 + 3 * r)) 506 := vp_in_nI (by omega) (by omega)
  have v2 : vp_in (nI (388 + 3 * r + 1)) 506 := vp_in_nI (by omega) (by omega)
  have t1 : hm.1 56 0 (388 + 3 * r) = nI (T (388 + 3 * r)) := R.1 _ (by omega)
  have t2 : hm.1 56 0 (388 + 3 * r + 1) = nI (T (388 + 3 * r + 1)) := R.1 _ (by omega)
  intro m
  induction m with
  | zero =>
    intro k e b hk hb
    rw [show 0 + 1 + e = e + 1 by omega]
    have c1 : nI (w 1) ≤ nI k := nI_le (by omega) (by omega)
    simp [pw_X12_nextIn_4, fw_X12_nextIn_4, r0, c1, oa_nx]
  | succ m ih =>
    intro k e b hk hb
    rw [show m + 1 + 1 + e = (m + 1 + e) + 1 by omega]
    have c1 : ¬ nI (w 1) ≤ nI k := nI_ge (by omega) (by omega)
    have ho : k < w 1 := by omega
    have i := I.2.2.2 k ho
    have ol := oa_open_le I ho
    have m1 := m_ord R I ho
    have m2 := m_open R I ho
    have hg2 := hg k (by omega)
    have kv : vp_in (nI k) 20 := vp_in_nI (by omega) (by omega)
    have ih' := fun b hb => ih (k + 1) e b (by omega) hb
    simp only [nI_succ] at ih'
    have rk := ih' (some k) (fun b' z => by cases z; omega)
    have rb := ih' b (fun b' z => by have := hb b' z; omega)
    have o3 : oa_oi (some k) = nI k := rfl
    have lg : (nI (oa_open w k) ≤ nI (gt k)) ↔ oa_open w k ≤ gt k := nI_leI (by omega) (by omega)
    have li : f_X12_in hm (nI (w (93 + 8 * k + 2))) (nI (T (388 + 3 * r))) (nI (T (388 + 3 * r + 1))) = if T (388 + 3 * r) ≤ w (93 + 8 * k + 2) ∧ w (93 + 8 * k + 2) ≤ T (388 + 3 * r + 1) then 1 else 0 := by
      have a1 : (nI (w (93 + 8 * k + 2)) < nI (T (388 + 3 * r))) ↔ w (93 + 8 * k + 2) < T (388 + 3 * r) := nI_ltI (by omega) (by omega)
      have a2 : (nI (T (388 + 3 * r + 1)) < nI (w (93 + 8 * k + 2))) ↔ T (388 + 3 * r + 1) < w (93 + 8 * k + 2) := nI_ltI (by omega) (by omega)
      unfold f_X12_in
      simp only [a1, a2]
      grind
    have pi : p_X12_in hm (nI (w (93 + 8 * k + 2))) (nI (T (388 + 3 * r))) (nI (T (388 + 3 * r + 1))) := by unfold p_X12_in; grind
    have bk : ((D >>> (nI k &&& 31)) &&& 1) = 0 ↔ bt D k = false := bt_test D (by omega)
    simp only [pw_X12_nextIn_4, fw_X12_nextIn_4, r0, hD, bk, m1, m2, e2, e1, nI_clamp (show k < 2 ^ 31 by omega), hg2.1, nI_clamp (show 388 + 3 * r < 2 ^ 31 by omega), nI_clamp (show 388 + 3 * r + 1 < 2 ^ 31 by omega), t1, t2, lg, li, oa_nx]
    by_cases d0 : bt D k = false
    · by_cases d1 : oa_open w k ≤ gt k
      · have pk : ¬ oa_pn T w gt r D k = true := by
          unfold oa_pn
          have : ¬ gt k < oa_open w k := by omega
          simp [this]
        simp [c1, d0, d1, kv, pk, rb]
      · by_cases d2 : T (388 + 3 * r) ≤ w (93 + 8 * k + 2) ∧ w (93 + 8 * k + 2) ≤ T (388 + 3 * r + 1)
        · have pk : oa_pn T w gt r D k = true := by
            unfold oa_pn
            have : gt k < oa_open w k := by omega
            simp [d0, this, d2]
          cases b with
          | none =>
            have o1 : oa_oi none = -1 := rfl
            rw [o3] at rk
            simp [c1, d0, d1, d2, kv, v1, v2, pi, pk, o1, rk]
          | some b' =>
            have hb' := hb b' rfl
            have o1 : oa_oi (some b') = nI b' := rfl
            have o5 : ¬ nI b' = -1 := by
              intro z
              have : (0 : Int32) ≤ nI b' := nI_pos' (by omega)
              rw [z] at this
              revert this
              decide
            have ma := m_ahead R I ho (show b' < w 1 by omega)
            rw [o1] at rb
            rw [o3] at rk
            by_cases d3 : oa_ah w k b' = true
            · simp [c1, d0, d1, d2, kv, v1, v2, pi, pk, o1, o5, ma, d3, rk]
            · simp [c1, d0, d1, d2, kv, v1, v2, pi, pk, o1, o5, ma, d3, rb]
        · have pk : ¬ oa_pn T w gt r D k = true := by
            unfold oa_pn
            simp [d2]
          simp [c1, d0, d1, d2, kv, v1, v2, pi, pk, rb]
    · have pk : ¬ oa_pn T w gt r D k = true := by
        unfold oa_pn
        simp [d0]
      simp [c1, d0, pk, rb]
theorem m_nextIn {r : Nat} {gt : Nat → Nat} {D : Int32} (J : IT T) (R : RM hm T w) (I : IW T w n) (hr : r < T 2) (hD : hm.1 12 0 22 = D) (hg : ∀ o, o < 20 → hm.1 62 0 o = nI (gt o) ∧ gt o < 1000000) : p_X12_nextIn hm (nI r) ∧ f_X12_nextIn hm (nI r) = oa_oi (oa_nx w (oa_pn T w gt r D) (w 1) 0 none) := by
  obtain ⟨e, he⟩ := oa_fuel (show w 1 < 1000000 by have := I.1; omega)
  have a := m_nextL J R I hr hD hg (w 1) 0 e none (by omega) (fun _ z => nomatch z)
  rw [← he, nI_0] at a
  exact a
/-- whom the covering may serve -/
def oa_po (w : Nat → Nat) (D : Int32) (o : Nat) : Bool := !bt D o && decide (0 < oa_open w o)
theorem m_nextOL {D : Int32} (R : RM hm T w) (I : IW T w n) : ∀ (m k e : Nat) (b : Option Nat), k + m = w 1 → (∀ b', b = some b' → b' < k) →
    pw_X12_nextOpen_4 (m + 1 + e) hm D (oa_oi b) (nI k) ∧ fw_X12_nextOpen_4 (m + 1 + e) hm D (oa_oi b) (nI k) = oa_oi (oa_nx w (oa_po w D) m k b) := by
  have hw := I.1.2.1
  have r0 : hm.1 58 0 1 = nI (w 1) := R.2 1 (by omega) (by omega)
  intro m
  induction m with
  | zero =>
    intro k e b hk hb
    rw [show 0 + 1 + e = e + 1 by omega]
    have c1 : nI (w 1) ≤ nI k := nI_le (by omega) (by omega)
    simp [pw_X12_nextOpen_4, fw_X12_nextOpen_4, r0, c1, oa_nx]
  | succ m ih =>
    intro k e b hk hb
    rw [show m + 1 + 1 + e = (m + 1 + e) + 1 by omega]
    have c1 : ¬ nI (w 1) ≤ nI k := nI_ge (by omega) (by omega)
    have ho : k < w 1 := by omega
    have ol := oa_open_le I ho
    have m2 := m_open R I ho
    have ih' := fun b hb => ih (k + 1) e b (by omega) hb
    simp only [nI_succ] at ih'
    have rk := ih' (some k) (fun b' z => by cases z; omega)
    have rb := ih' b (fun b' z => by have := hb b' z; omega)
    have o3 : oa_oi (some k) = nI k := rfl
    have lg : (nI (oa_open w k) ≤ 0) ↔ oa_open w k ≤ 0 := nI_leI (b := 0) (by omega) (by omega)
    have bk : ((D >>> (nI k &&& 31)) &&& 1) = 0 ↔ bt D k = false := bt_test D (by omega)
    simp only [pw_X12_nextOpen_4, fw_X12_nextOpen_4, r0, bk, m2, lg, oa_nx]
    by_cases d0 : bt D k = false
    · by_cases d1 : oa_open w k ≤ 0
      · have pk : ¬ oa_po w D k = true := by
          unfold oa_po
          have : ¬ 0 < oa_open w k := by omega
          simp [this]
        simp [c1, d0, d1, pk, rb]
      · have pk : oa_po w D k = true := by
          unfold oa_po
          have : 0 < oa_open w k := by omega
          simp [d0, this]
        cases b with
        | none =>
          have o1 : oa_oi none = -1 := rfl
          rw [o3] at rk
          simp [c1, d0, d1, pk, o1, rk]
        | some b' =>
          have hb' := hb b' rfl
          have o1 : oa_oi (some b') = nI b' := rfl
          have o5 : ¬ nI b' = -1 := by
            intro z
            have : (0 : Int32) ≤ nI b' := nI_pos' (by omega)
            rw [z] at this
            revert this
            decide
          have ma := m_ahead R I ho (show b' < w 1 by omega)
          rw [o1] at rb
          rw [o3] at rk
          by_cases d3 : oa_ah w k b' = true
          · simp [c1, d0, d1, pk, o1, o5, ma, d3, rk]
          · simp [c1, d0, d1, pk, o1, o5, ma, d3, rb]
    · have pk : ¬ oa_po w D k = true := by
        unfold oa_po
        simp [d0]
      simp [c1, d0, pk, rb]
theorem m_nextOpen {D : Int32} (R : RM hm T w) (I : IW T w n) : p_X12_nextOpen hm D ∧ f_X12_nextOpen hm D = oa_oi (oa_nx w (oa_po w D) (w 1) 0 none) := by
  obtain ⟨e, he⟩ := oa_fuel (show w 1 < 1000000 by have := I.1; omega)
  have a := m_nextOL (D := D) R I (w 1) 0 e none (by omega) (fun _ z => nomatch z)
  rw [← he, nI_0] at a
  exact a
end QAH
