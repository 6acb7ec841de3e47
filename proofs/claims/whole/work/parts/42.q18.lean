section QAB
variable {h hm : Hp} {c L : Nat} {T w F : Nat → Nat} {n : Nat}
theorem a_lead {p : Nat} (J : IT T) (C : RC h c T) (hp : p < T 0) : p_X1_leadTimeOf h c (nI p) ∧ f_X1_leadTimeOf h c (nI p) = nI (T (176 + p)) := by
  have b := J.1
  have k := k_inside h (nI p) (T 0) (by omega)
  have r := C.2.1 p hp
  have v : vp_in (nI p) 12 := vp_in_nI (by omega) (by omega)
  rcases k.2 with ⟨q, hq, e, i1⟩ | ⟨z, -⟩
  · refine ⟨?_, ?_⟩
    · simp [p_X1_leadTimeOf, C.1.1, k.1, i1, v]
    · simp [f_X1_leadTimeOf, C.1.1, i1, r, nI_clamp (show p < 2 ^ 31 by omega)]
  · exact (oa_excl (by omega) hp z).elim
/-- pieces of a part that have come by a day -/
def oa_cb (w : Nat → Nat) (p d : Nat) : Nat := oa_sum (oa_cm w p (nI d)) 0 (w 2)
/-- the earliest arrival by which so many pieces are there (b: of this part alone) -/
def oa_dy (w : Nat → Nat) (p l : Nat) (b : Bool) : Nat → Nat → Nat → Nat
  | 0, _, E => E
  | m + 1, k, E => oa_dy w p l b m (k + 1) (if (b = true → w (33 + 3 * k) = p) ∧ w (33 + 3 * k + 2) < E ∧ l ≤ oa_cb w p (w (33 + 3 * k + 2)) then w (33 + 3 * k + 2) else E)
theorem oa_dy_ok {p l : Nat} {b : Bool} : ∀ (m k E : Nat), oa_dy w p l b m k E ≤ E ∧ (∀ j, k ≤ j → j < k + m → (b = true → w (33 + 3 * j) = p) → l ≤ oa_cb w p (w (33 + 3 * j + 2)) → oa_dy w p l b m k E ≤ w (33 + 3 * j + 2)) ∧
    (oa_dy w p l b m k E = E ∨ ∃ j, k ≤ j ∧ j < k + m ∧ (b = true → w (33 + 3 * j) = p) ∧ l ≤ oa_cb w p (w (33 + 3 * j + 2)) ∧ oa_dy w p l b m k E = w (33 + 3 * j + 2)) := by
  intro m
  induction m with
  | zero => intro k E; exact ⟨Nat.le_refl _, fun j h1 h2 => by omega, Or.inl rfl⟩
  | succ m ih =>
    intro k E
    rw [oa_dy]
    obtain ⟨i1, i2, i3⟩ := ih (k + 1) (if (b = true → w (33 + 3 * k) = p) ∧ w (33 + 3 * k + 2) < E ∧ l ≤ oa_cb w p (w (33 + 3 * k + 2)) then w (33 + 3 * k + 2) else E)
    refine ⟨?_, ?_, ?_⟩
    · refine Nat.le_trans i1 ?_
      split <;> omega
    · intro j h1 h2 h3 h4
      by_cases e : j = k
      · subst e
        by_cases d : w (33 + 3 * j + 2) < E
        · rw [if_pos ⟨h3, d, h4⟩] at i1 ⊢
          exact i1
        · rw [if_neg (fun z => d z.2.1)] at i1 ⊢
          omega
      · exact i2 j (by omega) (by omega) h3 h4
    · rcases i3 with i3 | ⟨j, h1, h2, h3, h4, h5⟩
      · by_cases d : (b = true → w (33 + 3 * k) = p) ∧ w (33 + 3 * k + 2) < E ∧ l ≤ oa_cb w p (w (33 + 3 * k + 2))
        · rw [if_pos d] at i3 ⊢
          exact Or.inr ⟨k, by omega, by omega, d.1, d.2.2, i3⟩
        · rw [if_neg d] at i3 ⊢
          exact Or.inl i3
      · exact Or.inr ⟨j, by omega, by omega, h3, h4, h5⟩
/-- pieces by a day: the last arrival of the part brings them -/
theorem oa_cb_last {p l : Nat} (hl : 0 < l) (hd : ∀ j, j < w 2 → 0 < w (33 + 3 * j + 2) ∧ w (33 + 3 * j + 2) < 1000000) : ∀ d, d < 1000000 → l ≤ oa_cb w p d → ∃ j, j < w 2 ∧ w (33 + 3 * j) = p ∧ w (33 + 3 * j + 2) ≤ d ∧ l ≤ oa_cb w p (w (33 + 3 * j + 2)) := by
  intro d
  induction d with
  | zero =>
    intro h0 h1
    have : oa_cb w p 0 = oa_sum (fun _ => 0) 0 (w 2) := oa_sum_congr _ _ (fun j _ hj => by
      have := hd j (by omega)
      unfold oa_cm
      rw [if_neg]
      intro z
      exact z.2 (nI_lt (by omega) (by omega)))
    have z := oa_sum_le (f := fun _ => 0) (B := 0) (w 2) 0 (fun _ _ _ => Nat.le_refl _)
    omega
  | succ d ih =>
    intro h0 h1
    by_cases e : ∃ j, j < w 2 ∧ w (33 + 3 * j) = p ∧ w (33 + 3 * j + 2) = d + 1
    · obtain ⟨j, h2, h3, h4⟩ := e
      exact ⟨j, h2, h3, by omega, by rw [h4]; exact h1⟩
    · have e2 : oa_cb w p (d + 1) = oa_cb w p d := oa_sum_congr _ _ (fun j _ hj => by
        have hj2 := hd j (by omega)
        have hne : w (33 + 3 * j) = p → w (33 + 3 * j + 2) ≠ d + 1 := fun z1 z2 => e ⟨j, by omega, z1, z2⟩
        have l1 : (nI (d + 1) < nI (w (33 + 3 * j + 2))) ↔ d + 1 < w (33 + 3 * j + 2) := nI_ltI (by omega) (by omega)
        have l2 : (nI d < nI (w (33 + 3 * j + 2))) ↔ d < w (33 + 3 * j + 2) := nI_ltI (by omega) (by omega)
        unfold oa_cm
        simp only [l1, l2]
        by_cases z : w (33 + 3 * j) = p
        · have := hne z
          by_cases z2 : d < w (33 + 3 * j + 2)
          · rw [if_neg (fun q => q.2 (by omega)), if_neg (fun q => q.2 z2)]
          · rw [if_pos ⟨z, by omega⟩, if_pos ⟨z, z2⟩]
        · rw [if_neg (fun q => z q.1), if_neg (fun q => z q.1)])
      rw [e2] at h1
      obtain ⟨j, h2, h3, h4, h5⟩ := ih (by omega) h1
      exact ⟨j, h2, h3, by omega, h5⟩
theorem oa_dy_eq {p l E : Nat} (hl : 0 < l) (hd : ∀ j, j < w 2 → 0 < w (33 + 3 * j + 2) ∧ w (33 + 3 * j + 2) < 1000000) : oa_dy w p l false (w 2) 0 E = oa_dy w p l true (w 2) 0 E := by
  obtain ⟨a1, a2, a3⟩ := oa_dy_ok (w := w) (p := p) (l := l) (b := false) (w 2) 0 E
  obtain ⟨b1, b2, b3⟩ := oa_dy_ok (w := w) (p := p) (l := l) (b := true) (w 2) 0 E
  apply Nat.le_antisymm
  · rcases b3 with b3 | ⟨j, h1, h2, h3, h4, h5⟩
    · rw [b3]; exact a1
    · rw [h5]; exact a2 j h1 h2 (fun z => nomatch z) h4
  · rcases a3 with a3 | ⟨j, h1, h2, h3, h4, h5⟩
    · rw [a3]; exact b1
    · obtain ⟨j', k1, k2, k3, k4⟩ := oa_cb_last (p := p) hl hd _ (hd j (by omega)).2 h4
      rw [h5]
      exact Nat.le_trans (b2 j' (by omega) (by omega) (fun _ => k2) k4) k3
theorem oa_cb_le {p d : Nat} (I : IW T w n) : oa_cb w p d ≤ 20 * 999 := by
  have hw := I.1.2.2.1
  have := oa_sum_le (f := oa_cm w p (nI d)) (B := 999) (w 2) 0 (fun j _ hj => by
    have := I.2.2.1 j (by omega)
    unfold oa_cm
    split <;> omega)
  have h2 : w 2 * 999 ≤ 20 * 999 := Nat.mul_le_mul_right _ hw
  exact Nat.le_trans this h2
/-- class: the loop -/
theorem a_dayL {p l : Nat} {x2 x3 : Int32} (hn : n ≤ 512) (J : IT T) (G : RG h L w) (I : IW T w n) (hp : p < 12) (hl : l < 100000000) : ∀ (m k e E : Nat), k + m = w 2 → E < 1000000 →
    pw_X10_dayFor_30 (m + 1 + e) h L (nI p) x2 x3 (nI l) (nI E) (nI k) ∧ fw_X10_dayFor_30 (m + 1 + e) h L (nI p) x2 x3 (nI l) (nI E) (nI k) = nI (oa_dy w p l false m k E) := by
  have hw := I.1.2.2.1
  have hw0 := I.1.1
  have r0 := G.1.2.2
  intro m
  induction m with
  | zero =>
    intro k e E hk hE
    rw [show 0 + 1 + e = e + 1 by omega]
    have c1 : nI (w 2) ≤ nI k := nI_le (by omega) (by omega)
    simp [pw_X10_dayFor_30, fw_X10_dayFor_30, r0, c1, oa_dy]
  | succ m ih =>
    intro k e E hk hE
    rw [show m + 1 + 1 + e = (m + 1 + e) + 1 by omega]
    have c1 : ¬ nI (w 2) ≤ nI k := nI_ge (by omega) (by omega)
    have kv : vp_in (nI k) 20 := vp_in_nI (by omega) (by omega)
    have ih' := fun E hE => ih (k + 1) e E (by omega) hE
    simp only [nI_succ] at ih'
    have i := I.2.2.1 k (by omega)
    have s3 := (G.2.2.1 k (by omega)).2.2
    have a1 := a_arrivingUntil (X := nI (w (33 + 3 * k + 2))) J G I hp
    have bb := oa_cb_le (p := p) (d := w (33 + 3 * k + 2)) I
    have l1 : (nI E ≤ nI (w (33 + 3 * k + 2))) ↔ E ≤ w (33 + 3 * k + 2) := nI_leI (by omega) (by omega)
    have l2 : (nI (oa_cb w p (w (33 + 3 * k + 2))) < nI l) ↔ oa_cb w p (w (33 + 3 * k + 2)) < l := nI_ltI (by omega) (by omega)
    have a2 : f_X10_arrivingUntil h L (nI p) (nI (w (33 + 3 * k + 2))) = nI (oa_cb w p (w (33 + 3 * k + 2))) := a1.2
    simp only [pw_X10_dayFor_30, fw_X10_dayFor_30, r0, s3, nI_clamp (show k < 2 ^ 31 by omega), a2, l1, l2, oa_dy]
    by_cases d1 : E ≤ w (33 + 3 * k + 2)
    · have d2 : ¬ w (33 + 3 * k + 2) < E := by omega
      simp [c1, kv, d1, d2, ih' E hE]
    · have d2 : w (33 + 3 * k + 2) < E := by omega
      by_cases d3 : oa_cb w p (w (33 + 3 * k + 2)) < l
      · have d4 : ¬ l ≤ oa_cb w p (w (33 + 3 * k + 2)) := by omega
        simp [c1, kv, a1.1, d1, d2, d3, d4, ih' E hE]
      · have d4 : l ≤ oa_cb w p (w (33 + 3 * k + 2)) := by omega
        simp [c1, kv, a1.1, d1, d2, d3, d4, ih' (w (33 + 3 * k + 2)) (by omega)]
/-- model: the loop -/
theorem m_dayL {p X f : Nat} {x3 : Int32} (hn : n ≤ 512) (J : IT T) (R : RM hm T w) (I : IW T w n) (hp : p < 12) (hf : f = w (9 + p) - w (21 + p)) (hX : f < X) (hX2 : X < 100000000) : ∀ (m k e E : Nat), k + m = w 2 → E < 1000000 →
    pw_X12_dayOf_40 (m + 1 + e) hm (nI p) (nI X) x3 (nI E) (nI k) ∧ fw_X12_dayOf_40 (m + 1 + e) hm (nI p) (nI X) x3 (nI E) (nI k) = nI (oa_dy w p (X - f) true m k E) := by
  have hw := I.1.2.2.1
  have hw0 := I.1.1
  have r0 : hm.1 58 0 2 = nI (w 2) := R.2 2 (by omega) (by omega)
  have m1 := m_free R I hp
  rw [← hf] at m1
  intro m
  induction m with
  | zero =>
    intro k e E hk hE
    rw [show 0 + 1 + e = e + 1 by omega]
    have c1 : nI (w 2) ≤ nI k := nI_le (by omega) (by omega)
    simp [pw_X12_dayOf_40, fw_X12_dayOf_40, r0, c1, oa_dy]
  | succ m ih =>
    intro k e E hk hE
    rw [show m + 1 + 1 + e = (m + 1 + e) + 1 by omega]
    have c1 : ¬ nI (w 2) ≤ nI k := nI_ge (by omega) (by omega)
    have ih' := fun E hE => ih (k + 1) e E (by omega) hE
    simp only [nI_succ] at ih'
    have i := I.2.2.1 k (by omega)
    have jt := J.1
    obtain ⟨⟨v0, v1, v2⟩, r1, r2, r3⟩ := m_arrival R I (show k < w 2 by omega)
    have a1 := m_comesBy (X := nI (w (33 + 3 * k + 2))) J R I hp
    have bb := oa_cb_le (p := p) (d := w (33 + 3 * k + 2)) I
    have l0 : (nI (w (33 + 3 * k)) = nI p) ↔ w (33 + 3 * k) = p := nI_eq (by omega) (by omega)
    have l1 : (nI E ≤ nI (w (33 + 3 * k + 2))) ↔ E ≤ w (33 + 3 * k + 2) := nI_leI (by omega) (by omega)
    have a2 : f_X12_comesBy hm (nI p) (nI (w (33 + 3 * k + 2))) = nI (oa_cb w p (w (33 + 3 * k + 2))) := a1.2
    have l2 : (nI (f + oa_cb w p (w (33 + 3 * k + 2))) < nI X) ↔ f + oa_cb w p (w (33 + 3 * k + 2)) < X := nI_ltI (by omega) (by omega)
    simp only [pw_X12_dayOf_40, fw_X12_dayOf_40, r0, r1, r3, a2, m1.2, nI_add, l0, l1, l2, oa_dy]
    by_cases d0 : w (33 + 3 * k) = p
    · by_cases d1 : E ≤ w (33 + 3 * k + 2)
      · have d2 : ¬ w (33 + 3 * k + 2) < E := by omega
        simp [c1, v0, v2, d0, d1, d2, ih' E hE]
      · have d2 : w (33 + 3 * k + 2) < E := by omega
        by_cases d3 : f + oa_cb w p (w (33 + 3 * k + 2)) < X
        · have d4 : ¬ X - f ≤ oa_cb w p (w (33 + 3 * k + 2)) := by omega
          simp [c1, v0, v2, a1.1, m1.1, d0, d1, d2, d3, d4, ih' E hE]
        · have d4 : X - f ≤ oa_cb w p (w (33 + 3 * k + 2)) := by omega
          simp [c1, v0, v2, a1.1, m1.1, d0, d1, d2, d3, d4, ih' (w (33 + 3 * k + 2)) (by omega)]
    · simp [c1, v0, v2, d0, ih' E hE]
/-- the day of a part -/
def oa_day (T w : Nat → Nat) (p X : Nat) : Nat := if w (9 + p) - w (21 + p) < X then oa_dy w p (X - (w (9 + p) - w (21 + p))) true (w 2) 0 (w 0 + T (176 + p)) else w 0
theorem a_day {p X : Nat} (hn : n ≤ 512) (J : IT T) (C : RC h (h.2.2 11 0 6) T) (G : RG h (h.2.2 11 0 7) w) (I : IW T w n) (hp : p < T 0) (hX : X < 100000000) : p_X11_dayOfPart h (nI p) (nI X) ∧ f_X11_dayOfPart h (nI p) (nI X) = nI (oa_day T w p X) := by
  have bT := J.1
  have jl := J.2.1 p hp
  have hw := I.1
  have i := (I.2.1 p (by omega)).1
  have a1 := a_lead J C hp
  have a2 := a_freeOf G I (show p < 12 by omega)
  obtain ⟨e, he⟩ := oa_fuel (show w 2 < 1000000 by omega)
  unfold p_X11_dayOfPart f_X11_dayOfPart p_X10_dayFor f_X10_dayFor oa_day
  rw [a1.2, a2.2, G.1.1, nI_add]
  by_cases d : w (9 + p) - w (21 + p) < X
  · have s : nI X - nI (w (9 + p) - w (21 + p)) = nI (X - (w (9 + p) - w (21 + p))) := oa_sub (by omega)
    rw [s]
    have d1 : 0 < nI (X - (w (9 + p) - w (21 + p))) := nI_lt (a := 0) (by omega) (by omega)
    have l := a_dayL (x2 := nI X) (x3 := nI (T (176 + p))) (l := X - (w (9 + p) - w (21 + p))) hn J G I (show p < 12 by omega) (by omega) (w 2) 0 e (w 0 + T (176 + p)) (by omega) (by omega)
    rw [← he, nI_0] at l
    rw [oa_dy_eq (by omega) (fun j hj => by have := I.2.2.1 j hj; omega)] at l
    simp [a1.1, a2.1, d, d1, l]
  · have d1 : ¬ 0 < nI X - nI (w (9 + p) - w (21 + p)) := by
      intro z
      have z2 := Int32.lt_iff_toInt_lt.mp z
      rw [Int32.toInt_sub, nI_toInt (by omega), nI_toInt (by omega), Int32.toInt_zero, Int.bmod_def] at z2
      omega
    simp [a1.1, a2.1, d, d1]
theorem m_day {p X : Nat} (hn : n ≤ 512) (J : IT T) (R : RM hm T w) (I : IW T w n) (hp : p < T 0) (hX : X < 100000000) : p_X12_dayOf hm (nI p) (nI X) ∧ f_X12_dayOf hm (nI p) (nI X) = nI (oa_day T w p X) := by
  have bT := J.1
  have jl := J.2.1 p hp
  have hw := I.1
  have i := (I.2.1 p (by omega)).1
  have m1 := m_free R I (show p < 12 by omega)
  obtain ⟨e, he⟩ := oa_fuel (show w 2 < 1000000 by omega)
  have r0 : hm.1 58 0 0 = nI (w 0) := R.2 0 (by omega) (by omega)
  have e1 : (176 : Int32) + nI p = nI (176 + p) := nI_add 176 p
  have v1 : vp_in (nI (176 + p)) 506 := vp_in_nI (by omega) (by omega)
  have r1 : hm.1 56 0 (176 + p) = nI (T (176 + p)) := R.1 _ (by omega)
  unfold p_X12_dayOf f_X12_dayOf oa_day
  rw [m1.2, r0, e1, nI_clamp (show 176 + p < 2 ^ 31 by omega), r1, nI_add]
  have lt : (nI (w (9 + p) - w (21 + p)) < nI X) ↔ w (9 + p) - w (21 + p) < X := nI_ltI (by omega) (by omega)
  by_cases d : w (9 + p) - w (21 + p) < X
  · have l := m_dayL (x3 := nI (w 0 + T (176 + p))) hn J R I (show p < 12 by omega) rfl d hX (w 2) 0 e (w 0 + T (176 + p)) (by omega) (by omega)
    rw [← he, nI_0] at l
    simp [m1.1, lt, d, v1, l]
  · simp [m1.1, lt, d]
end QAB
