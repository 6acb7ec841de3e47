/-! pure: the relation. T: what is told (the model's row told, as numbers), w: what actions change (its row now), both of Nat -/
theorem oa_fuel {m : Nat} (h : m < 1000000) : ∃ e, oa_N = m + 1 + e := ⟨1000000 - (m + 1), by unfold oa_N; omega⟩
theorem oa_ix2 (c d a : Nat) : nI c + nI d * nI a = nI (c + d * a) := by
  unfold nI; rw [Int32.ofNat_add, Int32.ofNat_mul]
theorem oa_ix3 (c d a b : Nat) : nI c + nI d * nI a + nI b = nI (c + d * a + b) := by
  unfold nI; rw [Int32.ofNat_add, Int32.ofNat_add, Int32.ofNat_mul]
theorem oa_mul (a b : Nat) : nI a * nI b = nI (a * b) := by
  unfold nI; rw [Int32.ofNat_mul]
theorem oa_sub {a b : Nat} (h : b ≤ a) : nI a - nI b = nI (a - b) := by
  have e : nI a = nI (a - b) + nI b := by rw [nI_add]; congr 1; omega
  rw [e]
  grind
/-- f i + .. , m terms -/
def oa_sum (f : Nat → Nat) : Nat → Nat → Nat
  | _, 0 => 0
  | i, m + 1 => f i + oa_sum f (i + 1) m
/-- the model's rows -/
def RM (hm : Hp) (T w : Nat → Nat) : Prop := (∀ k, k < 506 → hm.1 56 0 k = nI (T k)) ∧ (∀ k, k < 301 → ¬ (4 ≤ k ∧ k ≤ 8) → hm.1 58 0 k = nI (w k))
/-- what is told is in range -/
def IT (T : Nat → Nat) : Prop :=
  (T 0 ≤ 12 ∧ T 1 ≤ 8 ∧ 1 ≤ T 2 ∧ T 2 ≤ 6) ∧
  (∀ p, p < T 0 → 1 ≤ T (176 + p) ∧ T (176 + p) ≤ 60) ∧
  (∀ q, q < T 1 → 1 ≤ T (188 + q) ∧ T (188 + q) ≤ 6) ∧
  (∀ q l, q < T 1 → l < T (188 + q) → T (196 + 6 * q + l) < 12 + q ∧ (T (196 + 6 * q + l) < 12 → T (196 + 6 * q + l) < T 0) ∧ 1 ≤ T (244 + 6 * q + l) ∧ T (244 + 6 * q + l) ≤ 20) ∧
  (∀ q p, q < T 1 → p < T 0 → T (292 + 12 * q + p) ≤ 9999) ∧
  (∀ q, q < T 1 → ∃ p, p < T 0 ∧ 0 < T (292 + 12 * q + p)) ∧
  (∀ r, r < T 2 → T (388 + 3 * r) ≤ 9 ∧ T (388 + 3 * r + 1) ≤ 9 ∧ 1 ≤ T (388 + 3 * r + 2) ∧ T (388 + 3 * r + 2) ≤ 100) ∧
  (∀ k, k < 506 → T k < 1000000) ∧ (∀ k, k < 160 → T (4 + k) < 128)
/-- the level of a product: how deep products lie in it (fuel n) -/
def oa_lvl (T : Nat → Nat) : Nat → Nat → Nat
  | 0, _ => 1
  | n + 1, q => (List.range (T (188 + q))).foldl (fun a l => if T (196 + 6 * q + l) < 12 then a else max a (1 + oa_lvl T n (T (196 + 6 * q + l) - 12))) 1
/-- the letters of a name as one long -/
def oa_nm (T : Nat → Nat) (k : Nat) : Int64 := (List.range 8).foldl (fun (a : Int64) i => if T (4 + 8 * k + i) = 0 then a else a <<< 8 ||| (nI (T (4 + 8 * k + i))).toInt64) 0
/-- the catalog c of h holds what T tells -/
def RC (h : Hp) (c : Nat) (T : Nat → Nat) : Prop :=
  (h.1 1 c 0 = nI (T 0) ∧ h.1 1 c 1 = nI (T 1) ∧ h.1 1 c 2 = nI (T 2)) ∧
  (∀ p, p < T 0 → h.1 20 c p = nI (T (176 + p))) ∧
  (∀ q, q < T 1 → h.1 23 c q = nI (T (188 + q))) ∧
  (∀ q l, q < T 1 → l < T (188 + q) → h.1 25 (8 * c + q) l = nI (if T (196 + 6 * q + l) < 12 then T (196 + 6 * q + l) else T (196 + 6 * q + l) + 88) ∧ h.1 27 (8 * c + q) l = nI (T (244 + 6 * q + l))) ∧
  (∀ q p, q < T 1 → p < T 0 → h.1 29 (8 * c + q) p = nI (T (292 + 12 * q + p))) ∧
  (∀ q, q < T 1 → h.1 22 c q = nI (oa_lvl T 8 q)) ∧
  (∀ r, r < T 2 → h.1 30 c r = nI (T (388 + 3 * r)) ∧ h.1 31 c r = nI (T (388 + 3 * r + 1)) ∧ h.1 32 c r = nI (T (388 + 3 * r + 2))) ∧
  (∀ p, p < T 0 → h.2.1 19 c p = oa_nm T p) ∧ (∀ q, q < T 1 → h.2.1 21 c q = oa_nm T (12 + q))
/-- open units of an order -/
def oa_open (w : Nat → Nat) (o : Nat) : Nat := if w (93 + 8 * o + 7) = 1 then 0 else w (93 + 8 * o + 1) - w (93 + 8 * o + 5) - w (93 + 8 * o + 6)
def oa_need (T : Nat → Nat) (q p : Nat) : Nat := T (292 + 12 * q + p)
/-- pieces of a part that are on their way -/
def ob_pend (w : Nat → Nat) (p : Nat) : Nat := oa_sum (fun k => if w (33 + 3 * k) = p then w (33 + 3 * k + 1) else 0) 0 (w 2)
/-- what actions change is in range, after at most n calls -/
def IW (T w : Nat → Nat) (n : Nat) : Prop :=
  (w 0 ≤ 100 * n ∧ w 1 ≤ 20 ∧ w 2 ≤ 20 ∧ w 3 ≤ 16) ∧
  (∀ p, p < 12 → w (9 + p) + ob_pend w p ≤ 9999 + 999 * n ∧ w (21 + p) ≤ w (9 + p) ∧ (p < T 0 → w (21 + p) = oa_sum (fun o => w (93 + 8 * o + 6) * oa_need T (w (93 + 8 * o)) p) 0 (w 1))) ∧
  (∀ k, k < w 2 → w (33 + 3 * k) < T 0 ∧ 1 ≤ w (33 + 3 * k + 1) ∧ w (33 + 3 * k + 1) ≤ 999 ∧ w 0 < w (33 + 3 * k + 2) ∧ w (33 + 3 * k + 2) ≤ w 0 + 60 ∧ k < n) ∧
  (∀ o, o < w 1 → w (93 + 8 * o) < T 1 ∧ 1 ≤ w (93 + 8 * o + 1) ∧ w (93 + 8 * o + 1) ≤ 99 ∧ w (93 + 8 * o + 2) ≤ 9 ∧ w (93 + 8 * o + 3) ≤ 999 ∧ w (93 + 8 * o + 4) ≤ 1 ∧ w (93 + 8 * o + 5) + w (93 + 8 * o + 6) ≤ w (93 + 8 * o + 1) ∧ w (93 + 8 * o + 7) ≤ 1 ∧ (w (93 + 8 * o + 7) = 1 → w (93 + 8 * o + 6) = 0))
/-- the ledger L of h holds w -/
def RG (h : Hp) (L : Nat) (w : Nat → Nat) : Prop :=
  (h.1 10 L 0 = nI (w 0) ∧ h.1 6 L 0 = nI (w 1) ∧ h.1 10 L 1 = nI (w 2)) ∧
  (∀ p, p < 12 → h.1 48 L p = nI (w (9 + p)) ∧ h.1 49 L p = nI (w (21 + p))) ∧
  (∀ k, k < w 2 → h.1 50 L k = nI (w (33 + 3 * k)) ∧ h.1 51 L k = nI (w (33 + 3 * k + 1)) ∧ h.1 52 L k = nI (w (33 + 3 * k + 2))) ∧
  (∀ o, o < w 1 → h.1 36 L o = nI (w (93 + 8 * o)) ∧ h.1 37 L o = nI (w (93 + 8 * o + 1)) ∧ h.1 38 L o = nI (w (93 + 8 * o + 2)) ∧ h.1 39 L o = nI (w (93 + 8 * o + 3)) ∧ h.1 40 L o = nI (w (93 + 8 * o + 4)) ∧ h.1 43 L o = nI (w (93 + 8 * o + 5)) ∧ h.1 42 L o = nI (w (93 + 8 * o + 6)) ∧ h.1 41 L o = nI (w (93 + 8 * o + 7)))
/-! class accessors -/
section PA
variable {h hm : Hp} {c L : Nat} {T w : Nat → Nat}
theorem a_needOf {q p : Nat} (I : IT T) (R : RC h c T) (hq : q < T 1) (hp : p < T 0) : p_X1_needOf h c (nI q) (nI p) ∧ f_X1_needOf h c (nI q) (nI p) = nI (oa_need T q p) := by
  obtain ⟨⟨i1, i2, -⟩, -⟩ := I
  obtain ⟨⟨k1, k2, k3⟩, -, -, -, kn, -⟩ := R
  have c1 : ¬ nI q < 0 := nI_pos (by omega)
  have c2 : ¬ nI p < 0 := nI_pos (by omega)
  have c3 : ¬ nI (T 1) ≤ nI q := nI_ge hq (by omega)
  have c4 : ¬ nI (T 0) ≤ nI p := nI_ge hp (by omega)
  refine ⟨?_, ?_⟩
  · simp [p_X1_needOf, k1, k2, c1, c2, c3, c4]
    exact ⟨vp_in_nI (by omega) (by omega), vp_in_nI (by omega) (by omega)⟩
  · simp [f_X1_needOf, k1, k2, c1, c2, c3, c4, nI_clamp (show q < 2 ^ 31 by omega), nI_clamp (show p < 2 ^ 31 by omega), kn q p hq hp, oa_need]
theorem m_needs {q p : Nat} (R : RM hm T w) (hq : q < 8) (hp : p < 12) : p_X12_needs hm (nI q) (nI p) ∧ f_X12_needs hm (nI q) (nI p) = nI (oa_need T q p) := by
  have e : (292 : Int32) + 12 * nI q + nI p = nI (292 + 12 * q + p) := oa_ix3 292 12 q p
  refine ⟨⟨?_, trivial⟩, ?_⟩
  · rw [e]; exact vp_in_nI (by omega) (by omega)
  · unfold f_X12_needs; rw [e, nI_clamp (by omega), R.1 _ (by omega)]; rfl
theorem m_free {p n : Nat} (R : RM hm T w) (I : IW T w n) (hp : p < 12) : p_X12_free hm (nI p) ∧ f_X12_free hm (nI p) = nI (w (9 + p) - w (21 + p)) := by
  have e1 : (9 : Int32) + nI p = nI (9 + p) := nI_add 9 p
  have e2 : (21 : Int32) + nI p = nI (21 + p) := nI_add 21 p
  refine ⟨⟨?_, ?_, trivial⟩, ?_⟩
  · rw [e1]; exact vp_in_nI (by omega) (by omega)
  · rw [e2]; exact vp_in_nI (by omega) (by omega)
  · unfold f_X12_free; rw [e1, e2, nI_clamp (by omega), nI_clamp (by omega), R.2 _ (by omega) (by omega), R.2 _ (by omega) (by omega)]
    exact oa_sub (I.2.1 p hp).2.1
theorem a_freeOf {p n : Nat} (R : RG h L w) (I : IW T w n) (hp : p < 12) : p_X10_freeOf h L (nI p) ∧ f_X10_freeOf h L (nI p) = nI (w (9 + p) - w (21 + p)) := by
  have c1 : ¬ nI p < 0 := nI_pos (by omega)
  have c2 : ¬ (12 : Int32) ≤ nI p := nI_ge (a := p) (b := 12) hp (by omega)
  have e := R.2.1 p hp
  refine ⟨?_, ?_⟩
  · simp [p_X10_freeOf, p_X10_stockOf, p_X10_reservedOf, p_X11_isInside, f_X11_isInside, c1, c2]
    exact vp_in_nI (by omega) (by omega)
  · simp [f_X10_freeOf, f_X10_stockOf, f_X10_reservedOf, f_X11_isInside, c1, c2, nI_clamp (show p < 2 ^ 31 by omega), e.1, e.2]
    exact oa_sub (I.2.1 p hp).2.1
/-- an order's cells -/
theorem a_order {o n : Nat} (R : RG h L w) (I : IW T w n) (ho : o < w 1) : f_X11_isInside h (nI o) (h.1 6 L 0) = 1 ∧ p_X11_isInside h (nI o) (h.1 6 L 0) ∧ vp_in (nI o) 20 ∧ (nI o).toNatClampNeg = o := by
  obtain ⟨⟨i0, i1, -⟩, -⟩ := I
  have c1 : ¬ nI o < 0 := nI_pos (by omega)
  have c2 : ¬ nI (w 1) ≤ nI o := nI_ge ho (by omega)
  refine ⟨?_, ?_, vp_in_nI (by omega) (by omega), nI_clamp (by omega)⟩
  · simp [f_X11_isInside, R.1.2.1, c1, c2]
  · simp [p_X11_isInside, R.1.2.1, c1, c2]
theorem m_of {o k : Nat} (R : RM hm T w) (ho : o < 20) (hk : k < 8) : p_X12_of hm (nI o) (nI k) ∧ f_X12_of hm (nI o) (nI k) = nI (w (93 + 8 * o + k)) := by
  have e : (93 : Int32) + 8 * nI o + nI k = nI (93 + 8 * o + k) := oa_ix3 93 8 o k
  refine ⟨⟨?_, trivial⟩, ?_⟩
  · rw [e]; exact vp_in_nI (by omega) (by omega)
  · unfold f_X12_of; rw [e, nI_clamp (by omega), R.2 _ (by omega) (by omega)]
theorem m_open {o n : Nat} (R : RM hm T w) (I : IW T w n) (ho : o < w 1) : p_X12_open hm (nI o) ∧ f_X12_open hm (nI o) = nI (oa_open w o) := by
  have b := I.1.2.1
  have i := I.2.2.2 o ho
  have m1 := m_of R (show o < 20 by omega) (show 1 < 8 by omega)
  have m5 := m_of R (show o < 20 by omega) (show 5 < 8 by omega)
  have m6 := m_of R (show o < 20 by omega) (show 6 < 8 by omega)
  have m7 := m_of R (show o < 20 by omega) (show 7 < 8 by omega)
  refine ⟨⟨m7.1, fun _ => ⟨m1.1, m5.1, m6.1, trivial⟩, fun _ => trivial⟩, ?_⟩
  unfold f_X12_open oa_open
  have e7 : f_X12_of hm (nI o) 7 = nI (w (93 + 8 * o + 7)) := m7.2
  have e1 : f_X12_of hm (nI o) 1 = nI (w (93 + 8 * o + 1)) := m1.2
  have e5 : f_X12_of hm (nI o) 5 = nI (w (93 + 8 * o + 5)) := m5.2
  have e6 : f_X12_of hm (nI o) 6 = nI (w (93 + 8 * o + 6)) := m6.2
  rw [e7, e1, e5, e6, oa_sub (by omega), oa_sub (by omega)]
  by_cases c : w (93 + 8 * o + 7) = 1
  · simp [c]; rfl
  · have : ¬ nI (w (93 + 8 * o + 7)) = 1 := fun z => c ((nI_eq (b := 1) (by omega) (by omega)).mp z)
    simp [c, this]
theorem a_open {o n : Nat} (R : RG h L w) (I : IW T w n) (ho : o < w 1) : p_X6_openOf h L (nI o) ∧ f_X6_openOf h L (nI o) = nI (oa_open w o) := by
  obtain ⟨a1, a2, a3, a4⟩ := a_order R I ho
  have i := I.2.2.2 o ho
  obtain ⟨r1, r2, r3, r4, r5, r6, r7, r8⟩ := R.2.2.2 o ho
  refine ⟨⟨a2, fun _ => trivial, fun _ => ⟨a3, fun _ => ⟨a3, a3, a3, trivial⟩, fun _ => trivial⟩⟩, ?_⟩
  unfold f_X6_openOf oa_open
  rw [a1, a4, r2, r6, r7, r8, oa_sub (by omega), oa_sub (by omega)]
  by_cases c : w (93 + 8 * o + 7) = 1
  · have : ¬ nI 1 = 0 := by decide
    simp [c, this]; rfl
  · have : w (93 + 8 * o + 7) = 0 := by omega
    have e : nI 0 = 0 := rfl
    simp [this, e]
    congr 1
    omega
def oa_cm (w : Nat → Nat) (p : Nat) (X : Int32) (k : Nat) : Nat := if w (33 + 3 * k) = p ∧ ¬ X < nI (w (33 + 3 * k + 2)) then w (33 + 3 * k + 1) else 0
theorem a_until {p n : Nat} {X : Int32} (J : IT T) (R : RG h L w) (I : IW T w n) (hp : p < 12) : ∀ (m k e : Nat) (x3 : Int32), k + m = w 2 →
    pw_X10_arrivingUntil_5 (m + 1 + e) h L (nI p) X x3 (nI k) ∧ fw_X10_arrivingUntil_5 (m + 1 + e) h L (nI p) X x3 (nI k) = x3 + nI (oa_sum (oa_cm w p X) k m) := by
  have hw := I.1.2.2.1
  intro m
  induction m with
  | zero =>
    intro k e x3 hk
    rw [show 0 + 1 + e = e + 1 by omega]
    simp only [pw_X10_arrivingUntil_5, fw_X10_arrivingUntil_5, R.1.2.2]
    have : nI (w 2) ≤ nI k := nI_le (by omega) (by omega)
    simp [this, oa_sum, nI_0]
  | succ m ih =>
    intro k e x3 hk
    rw [show m + 1 + 1 + e = (m + 1 + e) + 1 by omega]
    have c1 : ¬ nI (w 2) ≤ nI k := nI_ge (by omega) (by omega)
    have kv : vp_in (nI k) 20 := vp_in_nI (by omega) (by omega)
    obtain ⟨r1, r2, r3⟩ := R.2.2.1 k (by omega)
    have i := I.2.2.1 k (by omega)
    have it := J.1.1
    simp only [pw_X10_arrivingUntil_5, fw_X10_arrivingUntil_5, R.1.2.2, nI_clamp (show k < 2 ^ 31 by omega), r1, r2, r3]
    have ih' := fun x => ih (k + 1) e x (by omega)
    simp only [nI_succ] at ih'
    rw [oa_sum, ← nI_add]
    by_cases c2 : w (33 + 3 * k) = p
    · have c2' : nI (w (33 + 3 * k)) = nI p := by rw [c2]
      by_cases c3 : X < nI (w (33 + 3 * k + 2))
      · simp [c1, c2', c3, kv, ih', oa_cm, c2, nI_0]
      · simp [c1, c2', c3, kv, ih', oa_cm, c2]
        grind
    · have c2' : ¬ nI (w (33 + 3 * k)) = nI p := fun z => c2 ((nI_eq (by omega) (by omega)).mp z)
      simp [c1, c2', kv, ih', oa_cm, c2, nI_0]
theorem m_arrival {k n : Nat} (R : RM hm T w) (I : IW T w n) (hk : k < w 2) : (vp_in (33 + 3 * nI k) 301 ∧ vp_in (33 + 3 * nI k + 1) 301 ∧ vp_in (33 + 3 * nI k + 2) 301) ∧ hm.1 58 0 ((33 + 3 * nI k).toNatClampNeg) = nI (w (33 + 3 * k)) ∧ hm.1 58 0 ((33 + 3 * nI k + 1).toNatClampNeg) = nI (w (33 + 3 * k + 1)) ∧ hm.1 58 0 ((33 + 3 * nI k + 2).toNatClampNeg) = nI (w (33 + 3 * k + 2)) := by
  have hw := I.1.2.2.1
  have e0 : (33 : Int32) + 3 * nI k = nI (33 + 3 * k) := oa_ix2 33 3 k
  have e1 : (33 : Int32) + 3 * nI k + 1 = nI (33 + 3 * k + 1) := oa_ix3 33 3 k 1
  have e2 : (33 : Int32) + 3 * nI k + 2 = nI (33 + 3 * k + 2) := oa_ix3 33 3 k 2
  rw [e1, e2, e0, nI_clamp (by omega), nI_clamp (by omega), nI_clamp (by omega)]
  exact ⟨⟨vp_in_nI (by omega) (by omega), vp_in_nI (by omega) (by omega), vp_in_nI (by omega) (by omega)⟩, R.2 _ (by omega) (by omega), R.2 _ (by omega) (by omega), R.2 _ (by omega) (by omega)⟩
theorem m_comes {p n : Nat} {X : Int32} (J : IT T) (R : RM hm T w) (I : IW T w n) (hp : p < 12) : ∀ (m k e : Nat) (x3 : Int32), k + m = w 2 →
    pw_X12_comesBy_5 (m + 1 + e) hm (nI p) X x3 (nI k) ∧ fw_X12_comesBy_5 (m + 1 + e) hm (nI p) X x3 (nI k) = x3 + nI (oa_sum (oa_cm w p X) k m) := by
  have hw := I.1.2.2.1
  have r0 : hm.1 58 0 2 = nI (w 2) := R.2 2 (by omega) (by omega)
  intro m
  induction m with
  | zero =>
    intro k e x3 hk
    rw [show 0 + 1 + e = e + 1 by omega]
    simp only [pw_X12_comesBy_5, fw_X12_comesBy_5, r0]
    have : nI (w 2) ≤ nI k := nI_le (by omega) (by omega)
    simp [this, oa_sum, nI_0]
  | succ m ih =>
    intro k e x3 hk
    rw [show m + 1 + 1 + e = (m + 1 + e) + 1 by omega]
    have c1 : ¬ nI (w 2) ≤ nI k := nI_ge (by omega) (by omega)
    obtain ⟨⟨v0, v1, v2⟩, r1, r2, r3⟩ := m_arrival R I (show k < w 2 by omega)
    have i := I.2.2.1 k (by omega)
    have it := J.1.1
    simp only [pw_X12_comesBy_5, fw_X12_comesBy_5, r0, r1, r2, r3]
    have ih' := fun x => ih (k + 1) e x (by omega)
    simp only [nI_succ] at ih'
    rw [oa_sum, ← nI_add]
    by_cases c2 : w (33 + 3 * k) = p
    · have c2' : nI (w (33 + 3 * k)) = nI p := by rw [c2]
      by_cases c3 : X < nI (w (33 + 3 * k + 2))
      · simp [c1, c2', c3, v0, v1, v2, ih', oa_cm, c2, nI_0]
      · simp [c1, c2', c3, v0, v1, v2, ih', oa_cm, c2]
        grind
    · have c2' : ¬ nI (w (33 + 3 * k)) = nI p := fun z => c2 ((nI_eq (by omega) (by omega)).mp z)
      simp [c1, c2', v0, ih', oa_cm, c2, nI_0]
/-- the same, whole -/
theorem a_arrivingUntil {p n : Nat} {X : Int32} (J : IT T) (R : RG h L w) (I : IW T w n) (hp : p < 12) : p_X10_arrivingUntil h L (nI p) X ∧ f_X10_arrivingUntil h L (nI p) X = nI (oa_sum (oa_cm w p X) 0 (w 2)) := by
  obtain ⟨e, he⟩ := oa_fuel (show w 2 < 1000000 by have := I.1.2.2.1; omega)
  have a := a_until (X := X) J R I hp (w 2) 0 e 0 (by omega)
  rw [← he] at a
  refine ⟨a.1, ?_⟩
  unfold f_X10_arrivingUntil
  exact a.2.trans (by grind)
theorem m_comesBy {p n : Nat} {X : Int32} (J : IT T) (R : RM hm T w) (I : IW T w n) (hp : p < 12) : p_X12_comesBy hm (nI p) X ∧ f_X12_comesBy hm (nI p) X = nI (oa_sum (oa_cm w p X) 0 (w 2)) := by
  obtain ⟨e, he⟩ := oa_fuel (show w 2 < 1000000 by have := I.1.2.2.1; omega)
  have a := m_comes (X := X) J R I hp (w 2) 0 e 0 (by omega)
  rw [← he] at a
  refine ⟨a.1, ?_⟩
  unfold f_X12_comesBy
  exact a.2.trans (by grind)
end PA
