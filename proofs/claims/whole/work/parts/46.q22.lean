section QAF
variable {h hm : Hp} {c L : Nat} {T w F : Nat → Nat} {n q r : Nat}
theorem a_left {p x t2 i2 : Nat} (J : IT T) (C : RC h c T) (hq : q < T 1) (hp : p < T 0) (hF : ∀ p, p < 12 → h.1 t2 i2 p = nI (F p) ∧ F p < 1000000) (hx : x < 1000000) (hf : x * oa_need T q p ≤ F p) : p_X1_leftAfter h c (nI q) t2 i2 12 (nI p) (nI x) ∧ f_X1_leftAfter h c (nI q) t2 i2 12 (nI p) (nI x) = lN (oa_tA T F q x p) := by
  have bT := J.1
  have k := k_inside h (nI p) 12 (by omega)
  have e12 : Int32.ofNat 12 = nI 12 := rfl
  have f1 := hF p (by omega)
  have a1 := a_needOf J C hq hp
  have jn : oa_need T q p ≤ 9999 := J.2.2.2.2.1 q p hq hp
  have v1 : vp_in (nI p) 12 := vp_in_nI (by omega) (by omega)
  rcases k.2 with ⟨z, hz, e, i1⟩ | ⟨z, -⟩
  · refine ⟨?_, ?_⟩
    · unfold p_X1_leftAfter
      rw [e12, i1]
      exact ⟨k.1, fun z => by revert z; decide, fun _ => ⟨v1, a1.1, trivial⟩⟩
    · unfold f_X1_leftAfter
      rw [e12, i1, if_neg (by decide), nI_clamp (by omega), f1.1, a1.2, nI_l (by omega), nI_l (by omega), nI_l (by omega), lN_mul, lN_sub hf]
      rfl
  · exact (oa_excl (by omega) (show p < 12 by omega) z).elim
theorem a_limL {x t2 i2 : Nat} (J : IT T) (C : RC h c T) (hq : q < T 1) (hr : r < T 1) (hF : ∀ p, p < 12 → h.1 t2 i2 p = nI (F p) ∧ F p < 1000000) (hx : x < 1000000) (hf : ∀ p, p < T 0 → x * oa_need T q p ≤ F p) : ∀ (m k e : Nat) (b : Option Nat), k + m = T 0 → (∀ b', b = some b' → b' < k) →
    pw_X1_limitingPart_6 (m + 1 + e) h c (nI q) (nI r) t2 i2 12 (nI x) (oa_oi b) (nI k) ∧ fw_X1_limitingPart_6 (m + 1 + e) h c (nI q) (nI r) t2 i2 12 (nI x) (oa_oi b) (nI k) = oa_oi (oa_lim (oa_need T r) (oa_tA T F q x) m k b) := by
  have bT := J.1
  have k0 := C.1.1
  intro m
  induction m with
  | zero =>
    intro k e b hk hb
    rw [show 0 + 1 + e = e + 1 by omega]
    have c1 : nI (T 0) ≤ nI k := nI_le (by omega) (by omega)
    simp [pw_X1_limitingPart_6, fw_X1_limitingPart_6, k0, c1, oa_lim]
  | succ m ih =>
    intro k e b hk hb
    rw [show m + 1 + 1 + e = (m + 1 + e) + 1 by omega]
    have c1 : ¬ nI (T 0) ≤ nI k := nI_ge (by omega) (by omega)
    have hk2 : k < T 0 := by omega
    have a1 := a_needOf J C hr hk2
    have a2 := a_left J C hq hk2 hF hx (hf k hk2)
    have jn : oa_need T r k ≤ 9999 := J.2.2.2.2.1 r k hr hk2
    have ih' := fun b hb => ih (k + 1) e b (by omega) hb
    simp only [nI_succ] at ih'
    have al : oa_tA T F q x k < 1000000 := by have := (hF k (by omega)).2; unfold oa_tA; omega
    have cz : (lN (oa_need T r k) ≤ 0) ↔ oa_need T r k = 0 := (pk_lLE (b := 0) (by omega) (by omega)).trans (by omega)
    simp only [pw_X1_limitingPart_6, fw_X1_limitingPart_6, k0, a1.2, nI_l (show oa_need T r k < 2 ^ 31 by omega), lg_cmp_le, lg_cmp_ge, cz, a2.2, oa_lim]
    have rk := ih' (some k) (fun b' z => by cases z; omega)
    have rb := ih' b (fun b' z => by have := hb b' z; omega)
    have o3 : oa_oi (some k) = nI k := rfl
    by_cases d0 : oa_need T r k = 0
    · simp [c1, a1.1, d0, rb]
    · cases b with
      | none =>
        have o1 : oa_oi none = -1 := rfl
        rw [o3] at rk
        simp [c1, a1.1, d0, o1, rk]
      | some b' =>
        have hb' := hb b' rfl
        have hb2 : b' < T 0 := by omega
        have a3 := a_needOf J C hr hb2
        have a4 := a_left J C hq hb2 hF hx (hf b' hb2)
        have jb : oa_need T r b' ≤ 9999 := J.2.2.2.2.1 r b' hr hb2
        have bl : oa_tA T F q x b' < 1000000 := by have := (hF b' (by omega)).2; unfold oa_tA; omega
        have o1 : oa_oi (some b') = nI b' := rfl
        have o5 : ¬ nI b' = -1 := oa_oi_some hb' (by omega)
        rw [o1] at rb
        rw [o3] at rk
        have n1 : oa_tA T F q x k * oa_need T r b' ≤ 1000000 * 9999 := Nat.mul_le_mul (by omega) jb
        have n2 : oa_tA T F q x b' * oa_need T r k ≤ 1000000 * 9999 := Nat.mul_le_mul (by omega) jn
        have cm : (lN (oa_tA T F q x b' * oa_need T r k) ≤ lN (oa_tA T F q x k * oa_need T r b')) ↔ oa_tA T F q x b' * oa_need T r k ≤ oa_tA T F q x k * oa_need T r b' := pk_lLE (by omega) (by omega)
        simp only [o1, a3.2, a4.2, nI_l (show oa_need T r b' < 2 ^ 31 by omega), lN_mul, cm]
        by_cases d1 : oa_tA T F q x k * oa_need T r b' < oa_tA T F q x b' * oa_need T r k
        · have d2 : ¬ oa_tA T F q x b' * oa_need T r k ≤ oa_tA T F q x k * oa_need T r b' := by omega
          simp [c1, a1.1, a2.1, a3.1, a4.1, d0, o5, d1, d2, rk]
        · have d2 : oa_tA T F q x b' * oa_need T r k ≤ oa_tA T F q x k * oa_need T r b' := by omega
          simp [c1, a1.1, a2.1, a3.1, a4.1, d0, o5, d1, d2, rb, o1]
theorem a_limit {x t2 i2 : Nat} (J : IT T) (C : RC h c T) (hq : q < T 1) (hr : r < T 1) (hF : ∀ p, p < 12 → h.1 t2 i2 p = nI (F p) ∧ F p < 1000000) (hx : x < 1000000) (hf : ∀ p, p < T 0 → x * oa_need T q p ≤ F p) :
    p_X1_limitingPart h c (nI q) (nI r) t2 i2 12 (nI x) ∧ f_X1_limitingPart h c (nI q) (nI r) t2 i2 12 (nI x) = oa_oi (oa_tL T F q r x) := by
  obtain ⟨e, he⟩ := oa_fuel (show T 0 < 1000000 by have := J.1; omega)
  have a := a_limL J C hq hr hF hx hf (T 0) 0 e none (by omega) (fun _ z => nomatch z)
  rw [← he, nI_0] at a
  exact a
theorem a_gains {x l m t2 i2 : Nat} (J : IT T) (C : RC h c T) (hq : q < T 1) (hr : r < T 1) (hF : ∀ p, p < 12 → h.1 t2 i2 p = nI (F p) ∧ F p < 1000000) (hx : x + 1 < 1000000) (hf : ∀ p, p < T 0 → (x + 1) * oa_need T q p ≤ F p) (hl : oa_tL T F q r x = some l) (hm : oa_tL T F q r (x + 1) = some m) :
    p_X1_oneMoreGains h c (nI q) (nI r) t2 i2 12 (nI x) ∧ f_X1_oneMoreGains h c (nI q) (nI r) t2 i2 12 (nI x) = if (oa_tA T F q (x + 1) m + oa_need T r m) * oa_need T r l ≤ oa_tA T F q x l * oa_need T r m then 0 else 1 := by
  have hf0 : ∀ p, p < T 0 → x * oa_need T q p ≤ F p := fun p hp => Nat.le_trans (Nat.mul_le_mul_right _ (by omega)) (hf p hp)
  have bT := J.1
  obtain ⟨l', e1, l1, l2, -, -⟩ := oa_tL_some (F := F) (q := q) J hr x
  obtain rfl : l = l' := by rw [hl] at e1; simpa using e1
  obtain ⟨m', e2, m1, m2, -, -⟩ := oa_tL_some (F := F) (q := q) J hr (x + 1)
  obtain rfl : m = m' := by rw [hm] at e2; simpa using e2
  have b1 := a_limit J C hq hr hF (show x < 1000000 by omega) hf0
  have b2 := a_limit J C hq hr hF hx hf
  rw [hl] at b1
  rw [hm, nI_succ] at b2
  have o1 : oa_oi (some l) = nI l := rfl
  have o2 : oa_oi (some m) = nI m := rfl
  rw [o1] at b1
  rw [o2] at b2
  have a1 := a_needOf J C hr l1
  have a2 := a_needOf J C hr m1
  have a3 := a_left J C hq l1 hF (show x < 1000000 by omega) (hf0 l l1)
  have a4 := a_left J C hq m1 hF hx (hf m m1)
  rw [nI_succ] at a4
  have jl : oa_need T r l ≤ 9999 := J.2.2.2.2.1 r l hr l1
  have jm : oa_need T r m ≤ 9999 := J.2.2.2.2.1 r m hr m1
  have bl : oa_tA T F q x l < 1000000 := by have := (hF l (by omega)).2; unfold oa_tA; omega
  have bm : oa_tA T F q (x + 1) m < 1000000 := by have := (hF m (by omega)).2; unfold oa_tA; omega
  have n1 : (oa_tA T F q (x + 1) m + oa_need T r m) * oa_need T r l ≤ 1010000 * 9999 := Nat.mul_le_mul (by omega) jl
  have n2 : oa_tA T F q x l * oa_need T r m ≤ 1000000 * 9999 := Nat.mul_le_mul (by omega) jm
  have cm : (lN ((oa_tA T F q (x + 1) m + oa_need T r m) * oa_need T r l) ≤ lN (oa_tA T F q x l * oa_need T r m)) ↔ (oa_tA T F q (x + 1) m + oa_need T r m) * oa_need T r l ≤ oa_tA T F q x l * oa_need T r m := pk_lLE (by omega) (by omega)
  unfold p_X1_oneMoreGains f_X1_oneMoreGains
  simp only [b1.2, b2.2, a1.2, a2.2, a3.2, a4.2, nI_l (show oa_need T r l < 2 ^ 31 by omega), nI_l (show oa_need T r m < 2 ^ 31 by omega), lN_add, lN_mul, lg_cmp_le, cm]
  refine ⟨⟨b1.1, b2.1, a1.1, a2.1, a3.1, a4.1, ?_, trivial⟩, trivial⟩
  split
  · exact Or.inl rfl
  · exact Or.inr rfl
/-- the answer at the end of the halving -/
theorem a_togEnd {x t2 i2 : Nat} (J : IT T) (C : RC h c T) (hq : q < T 1) (hr : r < T 1) (hF : ∀ p, p < 12 → h.1 t2 i2 p = nI (F p) ∧ F p < 1000000) (hx : x < 1000000) (hf : ∀ p, p < T 0 → x * oa_need T q p ≤ F p) :
    ∃ l, p_X1_limitingPart h c (nI q) (nI r) t2 i2 12 (nI x) ∧ f_X1_limitingPart h c (nI q) (nI r) t2 i2 12 (nI x) = nI l ∧ p_X1_needOf h c (nI r) (nI l) ∧ f_X1_needOf h c (nI r) (nI l) = nI (oa_need T r l) ∧ ¬ nI (oa_need T r l) ≤ 0 ∧ p_X1_leftAfter h c (nI q) t2 i2 12 (nI l) (nI x) ∧ ¬ (nI (oa_need T r l)).toInt64 = 0 ∧ nI x + ((f_X1_leftAfter h c (nI q) t2 i2 12 (nI l) (nI x)) / (nI (oa_need T r l)).toInt64).toInt32 = nI (oa_tS T F q r x) := by
  have bT := J.1
  obtain ⟨l, e1, l1, l2, -, l4⟩ := oa_tL_some (F := F) (q := q) J hr x
  have b1 := a_limit J C hq hr hF hx hf
  rw [e1] at b1
  have a1 := a_needOf J C hr l1
  have a3 := a_left J C hq l1 hF hx (hf l l1)
  have jl : oa_need T r l ≤ 9999 := J.2.2.2.2.1 r l hr l1
  have bl : oa_tA T F q x l < 1000000 := by have := (hF l (by omega)).2; unfold oa_tA; omega
  refine ⟨l, b1.1, b1.2, a1.1, a1.2, nI_nle l2 (by omega), a3.1, ?_, ?_⟩
  · rw [nI_l (by omega)]
    intro z
    have := (pk_lEQ (a := oa_need T r l) (b := 0) (by omega) (by omega)).mp z
    omega
  · rw [a3.2, nI_l (by omega), pk_lDiv (by omega) l2 (by omega), lN_i, nI_add]
    unfold oa_tS
    rw [l4]
theorem a_search {top t2 i2 : Nat} (J : IT T) (C : RC h c T) (hq : q < T 1) (hr : r < T 1) (hF : ∀ p, p < 12 → h.1 t2 i2 p = nI (F p) ∧ F p < 1000000) (ht : top < 1000000) (fit : ∀ p, p < T 0 → top * oa_need T q p ≤ F p) : ∀ (m k e lo hi : Nat), k + m = 32 → lo ≤ hi → hi ≤ top → hi - lo < 2 ^ m → (∀ x, x < lo → oa_tS T F q r x ≤ oa_tS T F q r lo) → (∀ x, hi < x → x ≤ top → oa_tS T F q r x ≤ oa_tS T F q r hi) →
    pw_X1_mostTogether_14 (m + 1 + e) h c (nI q) (nI r) t2 i2 12 (nI lo) (nI hi) (nI k) ∧ ∃ s, fw_X1_mostTogether_14 (m + 1 + e) h c (nI q) (nI r) t2 i2 12 (nI lo) (nI hi) (nI k) = nI (oa_tS T F q r s) ∧ s ≤ top ∧ ∀ x, x ≤ top → oa_tS T F q r x ≤ oa_tS T F q r s := by
  have ft : ∀ z, z ≤ top → ∀ p, p < T 0 → z * oa_need T q p ≤ F p := fun z hz p hp => Nat.le_trans (Nat.mul_le_mul_right _ hz) (fit p hp)
  intro m
  induction m with
  | zero =>
    intro k e lo hi hk h1 h2 h3 h4 h5
    obtain rfl : lo = hi := by omega
    obtain rfl : k = 32 := by omega
    rw [show 0 + 1 + e = e + 1 by omega]
    obtain ⟨l, z1, z2, z3, z4, z5, z6, z7, z8⟩ := a_togEnd J C hq hr hF (show lo < 1000000 by omega) (ft lo h2)
    have c1 : (32 : Int32) ≤ nI 32 := by decide
    refine ⟨?_, lo, ?_, h2, fun x hx => ?_⟩
    · simp only [pw_X1_mostTogether_14, z2, z4]
      simp [c1, z1, z3, z5, z6, z7]
    · simp only [fw_X1_mostTogether_14, z2, z4]
      rw [if_pos c1, if_neg z5, z8]
    · by_cases d : x < lo
      · exact h4 x d
      · by_cases d2 : x = lo
        · rw [d2]; exact Nat.le_refl _
        · exact h5 x (by omega) hx
  | succ m ih =>
    intro k e lo hi hk h1 h2 h3 h4 h5
    rw [show m + 1 + 1 + e = (m + 1 + e) + 1 by omega]
    have c1 : ¬ (32 : Int32) ≤ nI k := nI_ge (b := 32) (by omega) (by omega)
    have le : (nI hi ≤ nI lo) ↔ hi ≤ lo := nI_leI (by omega) (by omega)
    by_cases d : hi ≤ lo
    · obtain rfl : lo = hi := by omega
      obtain ⟨l, z1, z2, z3, z4, z5, z6, z7, z8⟩ := a_togEnd J C hq hr hF (show lo < 1000000 by omega) (ft lo h2)
      refine ⟨?_, lo, ?_, h2, fun x hx => ?_⟩
      · simp only [pw_X1_mostTogether_14, z2, z4]
        simp [c1, z1, z3, z5, z6, z7]
      · simp only [fw_X1_mostTogether_14, z2, z4]
        rw [if_neg c1, if_pos (le.mpr d), if_neg z5, z8]
      · by_cases d : x < lo
        · exact h4 x d
        · by_cases d2 : x = lo
          · rw [d2]; exact Nat.le_refl _
          · exact h5 x (by omega) hx
    · have mid : nI lo + (nI hi - nI lo) / 2 = nI (lo + (hi - lo) / 2) := by
        have e1 : nI hi - nI lo = nI (hi - lo) := oa_sub (by omega)
        have e2 : nI (hi - lo) / 2 = nI ((hi - lo) / 2) := pk_div (d := 2) (by omega) (by omega) (by omega)
        rw [e1, e2, nI_add]
      have hm1 : lo + (hi - lo) / 2 < hi := by omega
      obtain ⟨l, el, -⟩ := oa_tL_some (F := F) (q := q) J hr (lo + (hi - lo) / 2)
      obtain ⟨g, eg, -⟩ := oa_tL_some (F := F) (q := q) J hr (lo + (hi - lo) / 2 + 1)
      obtain ⟨g1, g2⟩ := a_gains J C hq hr hF (show lo + (hi - lo) / 2 + 1 < 1000000 by omega) (ft _ (by omega)) el eg
      rw [Nat.pow_succ] at h3
      by_cases dg : (oa_tA T F q (lo + (hi - lo) / 2 + 1) g + oa_need T r g) * oa_need T r l ≤ oa_tA T F q (lo + (hi - lo) / 2) l * oa_need T r g
      · rw [if_pos dg] at g2
        obtain ⟨r1, s, r2, r3, r4⟩ := ih (k + 1) e lo (lo + (hi - lo) / 2) (by omega) (by omega) (by omega) (by omega) h4 (oa_nogain J hr fit (by omega) el eg dg)
        rw [nI_succ] at r1 r2
        refine ⟨?_, s, ?_, r3, r4⟩
        · simp only [pw_X1_mostTogether_14, mid, g2, le]
          simp [c1, d, g1, r1]
        · simp only [fw_X1_mostTogether_14, mid, g2, le]
          simp [c1, d, r2]
      · rw [if_neg dg] at g2
        obtain ⟨r1, s, r2, r3, r4⟩ := ih (k + 1) e (lo + (hi - lo) / 2 + 1) hi (by omega) (by omega) (by omega) (by omega) (oa_gain J hr fit (by omega) el eg dg) h5
        rw [nI_succ k, nI_succ (lo + (hi - lo) / 2)] at r1 r2
        refine ⟨?_, s, ?_, r3, r4⟩
        · simp only [pw_X1_mostTogether_14, mid, g2, le]
          simp [c1, d, g1, r1]
        · simp only [fw_X1_mostTogether_14, mid, g2, le]
          simp [c1, d, r2]
theorem a_together {t2 i2 : Nat} (J : IT T) (C : RC h c T) (hq : q < T 1) (hr : r < T 1) (hF : ∀ p, p < 12 → h.1 t2 i2 p = nI (F p) ∧ F p < 1000000) :
    p_X1_mostTogether h c (nI q) (nI r) t2 i2 12 ∧ ∃ s, f_X1_mostTogether h c (nI q) (nI r) t2 i2 12 = nI (oa_tS T F q r s) ∧ s ≤ oa_most T F q ∧ ∀ x, x ≤ oa_most T F q → oa_tS T F q r x ≤ oa_tS T F q r s := by
  have bT := J.1
  have a1 := a_most J C hq hF
  have ml : oa_most T F q < 1000000 := by
    obtain ⟨-, p, hp, -, e⟩ := oa_most_ok J hq F
    have i := (hF p (by omega)).2
    have := Nat.div_le_self (F p) (oa_need T q p)
    omega
  obtain ⟨e, he⟩ := oa_fuel (show 32 < 1000000 by omega)
  have a := a_search J C hq hr hF ml ((oa_most_fit J hq F).mp (Nat.le_refl _)) 32 0 e 0 (oa_most T F q) (by omega) (by omega) (by omega) (by omega) (fun x hx => by omega) (fun x h1 h2 => by omega)
  rw [← he, nI_0] at a
  unfold p_X1_mostTogether f_X1_mostTogether
  rw [a1.2]
  exact ⟨⟨a1.1, a.1⟩, a.2⟩
end QAF
