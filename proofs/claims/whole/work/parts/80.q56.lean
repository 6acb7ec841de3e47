/-! names: letters packed into a long -/
section NAM
variable {H h : Hp} {B : List Int32} {T w : Nat → Nat}
def bt64 (x : Int64) (i : Nat) : Bool := x.toBitVec.getLsbD i
/-- byte j of a long -/
def ob_by8 (v : Int64) (j : Nat) : Int32 := (((v.toUInt64 >>> ((nI (8 * j)).toInt64.toUInt64 &&& Int64.toUInt64 63)).toInt64).toInt32) &&& 255
theorem s_u64 : ∀ n, n < 64 → (((nI n).toInt64.toUInt64 &&& Int64.toUInt64 63).toBitVec % 64).toNat = n := by decide +kernel
theorem b_255 : ∀ i, i < 32 → bt 255 i = decide (i < 8) := by decide +kernel
theorem bt_by8 (v : Int64) {j i : Nat} (hj : j < 8) (hi : i < 32) : bt (ob_by8 v j) i = (decide (i < 8) && bt64 v (8 * j + i)) := by
  unfold ob_by8
  rw [b_and, b_255 i hi, Bool.and_comm]
  congr 1
  show (BitVec.signExtend 32 (v.toUInt64 >>> ((nI (8 * j)).toInt64.toUInt64 &&& Int64.toUInt64 63)).toBitVec).getLsbD i = v.toUInt64.toBitVec.getLsbD (8 * j + i)
  rw [BitVec.getLsbD_signExtend, if_pos (show i < 64 by omega), UInt64.toBitVec_shiftRight]
  show (decide (i < 32) && (v.toUInt64.toBitVec >>> (((nI (8 * j)).toInt64.toUInt64 &&& Int64.toUInt64 63).toBitVec % 64).toNat).getLsbD i) = _
  rw [s_u64 (8 * j) (by omega), BitVec.getLsbD_ushiftRight]
  simp [hi]
theorem ob_tb : ∀ c, c < 128 → ∀ i, i < 64 → bt64 (nI c).toInt64 i = c.testBit i := by decide +kernel
theorem ob_tb2 : ∀ c, c < 128 → ∀ i, i < 32 → bt (nI c) i = c.testBit i := by decide +kernel
theorem ob_tb8 : ∀ c, c < 128 → ∀ i, i < 64 → ¬ i < 8 → c.testBit i = false := by decide +kernel
theorem bt64_push (v : Int64) {c i : Nat} (hc : c < 128) (hi : i < 64) : bt64 (v <<< 8 ||| (nI c).toInt64) i = if i < 8 then c.testBit i else bt64 v (i - 8) := by
  have e : bt64 (v <<< 8 ||| (nI c).toInt64) i = (bt64 (v <<< 8) i || bt64 (nI c).toInt64 i) := by
    unfold bt64; rw [Int64.toBitVec_or, BitVec.getLsbD_or]
  have e2 : bt64 (v <<< 8) i = (decide (8 ≤ i) && bt64 v (i - 8)) := by
    unfold bt64
    rw [Int64.toBitVec_shiftLeft]
    show (v.toBitVec <<< ((8 : Int64).toBitVec.smod 64).toNat).getLsbD i = _
    rw [show ((8 : Int64).toBitVec.smod 64).toNat = 8 by decide +kernel, BitVec.getLsbD_shiftLeft]
    by_cases l : i < 8
    · simp [l, Nat.not_le.mpr l]
    · simp [hi, l, Nat.not_lt.mp l]
  rw [e, e2, ob_tb c hc i hi]
  by_cases l : i < 8
  · rw [if_pos l]; simp [Nat.not_le.mpr l]
  · rw [if_neg l, ob_tb8 c hc i hi l]; simp [Nat.not_lt.mp l]
/-- letters from the last on: push in front of the list is the latest letter -/
def ob_pk : List Nat → Int64
  | [] => 0
  | c :: l => ob_pk l <<< 8 ||| (nI c).toInt64
theorem ob_pk_bit : ∀ (l : List Nat), (∀ c ∈ l, c < 128) → ∀ j i, j < 8 → i < 8 → bt64 (ob_pk l) (8 * j + i) = (l.getD j 0).testBit i := by
  intro l
  induction l with
  | nil =>
    intro _ j i hj hi
    show BitVec.getLsbD (0 : Int64).toBitVec _ = _
    simp
  | cons c l ih =>
    intro hl j i hj hi
    unfold ob_pk
    rw [bt64_push _ (hl c List.mem_cons_self) (by omega)]
    cases j with
    | zero => rw [if_pos (by omega)]; simp
    | succ j =>
      rw [if_neg (by omega), show 8 * (j + 1) + i - 8 = 8 * j + i by omega, ih (fun c hc => hl c (List.mem_cons_of_mem _ hc)) j i (by omega) hi]
      simp
theorem ob_getD_lt {l : List Nat} (hl : ∀ c ∈ l, c < 128) (j : Nat) : l.getD j 0 < 128 := by
  rw [List.getD_eq_getElem?_getD]
  by_cases h : j < l.length
  · rw [List.getElem?_eq_getElem h]
    exact hl _ (List.getElem_mem h)
  · rw [List.getElem?_eq_none (by omega)]; decide
theorem ob_pk_by {l : List Nat} (hl : ∀ c ∈ l, c < 128) {j : Nat} (hj : j < 8) : ob_by8 (ob_pk l) j = nI (l.getD j 0) := by
  apply b_ext
  intro i hi
  have b := ob_getD_lt hl j
  rw [bt_by8 _ hj hi, ob_tb2 _ b i hi]
  by_cases l8 : i < 8
  · rw [ob_pk_bit l hl j i hj l8]; simp [l8]
  · rw [ob_tb8 _ b i (by omega) l8]; simp [l8]
/-- the letters of name k, the last first -/
def ob_nl (T : Nat → Nat) (k : Nat) : List Nat := (((List.range 8).map (fun i => T (4 + 8 * k + i))).filter (fun c => ! decide (c = 0))).reverse
theorem ob_fold (l : List Nat) : ∀ (a : List Nat), l.foldl (fun (x : Int64) c => if c = 0 then x else x <<< 8 ||| (nI c).toInt64) (ob_pk a) = ob_pk ((l.filter (fun c => ! decide (c = 0))).reverse ++ a) := by
  induction l with
  | nil => intro a; rfl
  | cons c l ih =>
    intro a
    rw [List.foldl_cons]
    by_cases z : c = 0
    · rw [if_pos z, ih, List.filter_cons_of_neg (by simp [z])]
    · rw [if_neg z]
      have := ih (c :: a)
      rw [show ob_pk (c :: a) = ob_pk a <<< 8 ||| (nI c).toInt64 from rfl] at this
      rw [this, List.filter_cons_of_pos (by simp [z]), List.reverse_cons, List.append_assoc]
      rfl
theorem ob_nm_pk (k : Nat) : oa_nm T k = ob_pk (ob_nl T k) := by
  have := ob_fold ((List.range 8).map (fun i => T (4 + 8 * k + i))) []
  rw [List.foldl_map, List.append_nil] at this
  exact this
theorem ob_nl_ok (J : IT T) {k : Nat} (hk : k < 20) : (∀ c ∈ ob_nl T k, c < 128 ∧ ¬ c = 0) ∧ (ob_nl T k).length ≤ 8 := by
  have j8 := J.2.2.2.2.2.2.2.2
  refine ⟨fun c hc => ?_, ?_⟩
  · unfold ob_nl at hc
    rw [List.mem_reverse, List.mem_filter, List.mem_map] at hc
    obtain ⟨⟨i, hi, rfl⟩, hz⟩ := hc
    rw [List.mem_range] at hi
    have := j8 (8 * k + i) (by omega)
    rw [← Nat.add_assoc] at this
    exact ⟨this, by simpa using hz⟩
  · unfold ob_nl
    rw [List.length_reverse]
    refine Nat.le_trans (List.length_filter_le _ _) ?_
    rw [List.length_map, List.length_range]
    exact Nat.le_refl _
def ob_nw (T : Nat → Nat) (k : Nat) : List Int32 := (ob_nl T k).reverse.map (fun c => ob_nb (nI c))
theorem ob_take {l : List Nat} {m : Nat} (hm : m < l.length) : (l.take (m + 1)).reverse.map (fun c => ob_nb (nI c)) = ob_nb (nI (l.getD m 0)) :: (l.take m).reverse.map (fun c => ob_nb (nI c)) := by
  rw [List.take_succ_eq_append_getElem hm, List.reverse_append, List.map_append, List.getD_eq_getElem?_getD, List.getElem?_eq_getElem hm]
  rfl
theorem l_name {l : List Nat} (hl : ∀ c ∈ l, c < 128 ∧ ¬ c = 0) : ∀ (m e : Nat) (h : Hp) (B : List Int32), m ≤ 8 → TC H h B → B.length + m ≤ 200 → pw_X2_putName_3 (m + 1 + e) h (ob_pk l) (nI (8 * m) - 8) ∧ TC H (gw_X2_putName_3 (m + 1 + e) h (ob_pk l) (nI (8 * m) - 8)) (B ++ (l.take m).reverse.map (fun c => ob_nb (nI c))) := by
  intro m
  induction m with
  | zero =>
    intro e h B hm t hb
    rw [show 0 + 1 + e = e + 1 by omega]
    have c : nI (8 * 0) - 8 < 0 := by decide
    simp only [pw_X2_putName_3, gw_X2_putName_3]
    rw [if_pos c]
    refine ⟨⟨fun _ => trivial, fun z => (z c).elim⟩, ?_⟩
    rw [List.take_zero, List.reverse_nil, List.map_nil, List.append_nil]
    exact t
  | succ m ih =>
    intro e h B hm t hb
    rw [show m + 1 + 1 + e = (m + 1 + e) + 1 by omega]
    have e8 : nI (8 * (m + 1)) - 8 = nI (8 * m) := by
      have : nI (8 * (m + 1)) - nI 8 = nI (8 * (m + 1) - 8) := oa_sub (by omega)
      rw [show 8 * (m + 1) - 8 = 8 * m by omega] at this
      exact this
    have c : ¬ nI (8 * m) < 0 := nI_pos (by omega)
    have e9 : nI (8 * m) + (-8) = nI (8 * m) - 8 := by grind
    have by1 : ((((ob_pk l).toUInt64 >>> ((nI (8 * m)).toInt64.toUInt64 &&& Int64.toUInt64 63)).toInt64).toInt32) &&& 255 = nI (l.getD m 0) := ob_pk_by (fun c hc => (hl c hc).1) (by omega)
    have b := ob_getD_lt (fun c hc => (hl c hc).1) m
    rw [e8]
    simp only [pw_X2_putName_3, gw_X2_putName_3, by1, e9]
    rw [if_neg c]
    by_cases z : m < l.length
    · have nz : ¬ l.getD m 0 = 0 := by
        rw [List.getD_eq_getElem?_getD, List.getElem?_eq_getElem z]
        exact (hl _ (List.getElem_mem z)).2
      have nz2 : ¬ nI (l.getD m 0) = 0 := nI_ne0 (by omega) (by omega)
      have p := s_put (a := nI (l.getD m 0)) t (by omega)
      have r := ih e _ _ (by omega) p.2 (by rw [List.length_append]; simp; omega)
      rw [if_neg nz2, ob_take z]
      refine ⟨⟨fun y => (c y).elim, fun _ => ⟨fun y => (nz2 y).elim, fun _ => ⟨p.1, r.1⟩⟩⟩, ?_⟩
      have := r.2
      rw [List.append_assoc] at this
      exact this
    · have z0 : l.getD m 0 = 0 := by rw [List.getD_eq_getElem?_getD, List.getElem?_eq_none (by omega)]; rfl
      have z1 : nI (l.getD m 0) = 0 := by rw [z0]; rfl
      have r := ih e _ _ (by omega) t (by omega)
      rw [if_pos z1, List.take_of_length_le (by omega)]
      rw [List.take_of_length_le (by omega)] at r
      exact ⟨⟨fun y => (c y).elim, fun _ => ⟨fun _ => r.1, fun y => (y z1).elim⟩⟩, r.2⟩
theorem s_name (J : IT T) {k : Nat} (hk : k < 20) (t : TC H h B) (hb : B.length + 8 ≤ 200) : p_X2_putName h (oa_nm T k) ∧ TC H (g_X2_putName h (oa_nm T k)) (B ++ ob_nw T k) := by
  obtain ⟨n1, n2⟩ := ob_nl_ok J hk
  obtain ⟨e, he⟩ := oa_fuel (show 8 < 1000000 by omega)
  have r := l_name n1 8 e h B (by omega) t (by omega)
  rw [List.take_of_length_le n2, ← he, ← ob_nm_pk, show nI (8 * 8) - 8 = 56 by decide] at r
  exact r
theorem l_says (J : IT T) {k : Nat} (hk : k < 20) (R : RM H T w) : ∀ (m i e : Nat) (h : Hp) (B : List Int32), m + i = 8 → TM H h B → B.length + m ≤ 320 → pw_X12_saysName_2 (m + 1 + e) h (nI k) (nI i) ∧ TM H (gw_X12_saysName_2 (m + 1 + e) h (nI k) (nI i)) (B ++ (((List.range' i m).map (fun i => T (4 + 8 * k + i))).filter (fun c => ! decide (c = 0))).map (fun c => ob_nb (nI c))) := by
  have j8 := J.2.2.2.2.2.2.2.2
  intro m
  induction m with
  | zero =>
    intro i e h B hi t hl
    rw [show 0 + 1 + e = e + 1 by omega, show i = 8 by omega]
    have c : (8 : Int32) ≤ nI 8 := by decide
    simp only [pw_X12_saysName_2, gw_X12_saysName_2]
    rw [if_pos c]
    refine ⟨⟨fun _ => trivial, fun z => (z c).elim⟩, ?_⟩
    have : B ++ (((List.range' 8 0).map (fun i => T (4 + 8 * k + i))).filter (fun c => ! decide (c = 0))).map (fun c => ob_nb (nI c)) = B := List.append_nil _
    rw [this]
    exact t
  | succ m ih =>
    intro i e h B hi t hl
    rw [show m + 1 + 1 + e = (m + 1 + e) + 1 by omega]
    have c : ¬ (8 : Int32) ≤ nI i := nI_ge (b := 8) (by omega) (by omega)
    have e1 : nI i + 1 = nI (i + 1) := nI_add i 1
    have e2 : ((4 : Int32) + 8 * nI k) + nI i = nI (4 + 8 * k + i) := by
      have a1 : (8 : Int32) * nI k = nI (8 * k) := oa_mul 8 k
      have a2 : (4 : Int32) + nI (8 * k) = nI (4 + 8 * k) := nI_add 4 (8 * k)
      rw [a1, a2, nI_add]
    have v1 : vp_in (nI (4 + 8 * k + i)) 506 := vp_in_nI (by omega) (by omega)
    have cell : h.1 56 0 (4 + 8 * k + i) = nI (T (4 + 8 * k + i)) := by
      rw [t.2.2.1 56 0 (by omega) (by omega)]
      exact R.1 _ (by omega)
    have b := j8 (8 * k + i) (by omega)
    rw [← Nat.add_assoc] at b
    simp only [pw_X12_saysName_2, gw_X12_saysName_2, e1, e2, nI_clamp (show 4 + 8 * k + i < 2 ^ 31 by omega), cell]
    rw [if_neg c, List.range'_succ, List.map_cons]
    by_cases z : T (4 + 8 * k + i) = 0
    · have z1 : nI (T (4 + 8 * k + i)) = 0 := by rw [z]; rfl
      have r := ih (i + 1) e h B (by omega) t (by omega)
      rw [if_pos z1, List.filter_cons_of_neg (by simp [z])]
      exact ⟨⟨fun y => (c y).elim, fun _ => ⟨v1, fun _ => r.1, fun y => (y z1).elim⟩⟩, r.2⟩
    · have z1 : ¬ nI (T (4 + 8 * k + i)) = 0 := nI_ne0 (by omega) (by omega)
      have p := s_says (a := nI (T (4 + 8 * k + i))) t (by omega)
      have r := ih (i + 1) e _ _ (by omega) p.2 (by rw [List.length_append]; simp; omega)
      rw [if_neg z1, List.filter_cons_of_pos (by simp [z]), List.map_cons]
      refine ⟨⟨fun y => (c y).elim, fun _ => ⟨v1, fun y => (z1 y).elim, fun _ => ⟨v1, p.1, r.1⟩⟩⟩, ?_⟩
      have := r.2
      rw [List.append_assoc] at this
      exact this
theorem s_saysName (J : IT T) {k : Nat} (hk : k < 20) (R : RM H T w) (t : TM H h B) (hb : B.length + 8 ≤ 320) : p_X12_saysName h (nI k) ∧ TM H (g_X12_saysName h (nI k)) (B ++ ob_nw T k) := by
  obtain ⟨e, he⟩ := oa_fuel (show 8 < 1000000 by omega)
  have r := l_says J hk R 8 0 e h B (by omega) t (by omega)
  rw [← he, nI_0, ← List.range_eq_range'] at r
  unfold ob_nw ob_nl
  rw [List.reverse_reverse]
  exact r
end NAM
