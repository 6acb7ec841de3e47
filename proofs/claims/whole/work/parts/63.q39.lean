section RAF
variable {h hm h' hm' : Hp} {L : Nat} {v v' : Nat → Int32} {T w w' : Nat → Nat} {n n' S : Nat}
def ob_add (w : Nat → Nat) (q u c d b : Nat) (j : Nat) : Nat := if j = 93 + 8 * w 1 then q else if j = 93 + 8 * w 1 + 1 then u else if j = 93 + 8 * w 1 + 2 then c else if j = 93 + 8 * w 1 + 3 then d else if j = 93 + 8 * w 1 + 4 then b else if 93 + 8 * w 1 + 5 ≤ j ∧ j ≤ 93 + 8 * w 1 + 7 then 0 else if j = 1 then w 1 + 1 else w j
theorem m_addL {r : Nat} {x1 x2 x3 x4 x5 x6 : Int32} (hr : r + 8 ≤ 301) : ∀ (m k e : Nat) (K : Hp), k + m = 8 →
    pw_X12_addOrder_109 (m + 1 + e) K x1 x2 x3 x4 x5 x6 (nI r) (nI k) ∧ ∃ Z, fw_X12_addOrder_109 (m + 1 + e) K x1 x2 x3 x4 x5 x6 (nI r) (nI k) = ((hp_i (hp_i (hp_i (hp_i (hp_i (hp_i Z 58 0 r x1) 58 0 (r + 1) x2) 58 0 (r + 2) x3) 58 0 (r + 3) x4) 58 0 (r + 4) (if x5 = 0 then (0 : Int32) else 1)) 58 0 1 (((hp_i (hp_i (hp_i (hp_i (hp_i Z 58 0 r x1) 58 0 (r + 1) x2) 58 0 (r + 2) x3) 58 0 (r + 3) x4) 58 0 (r + 4) (if x5 = 0 then (0 : Int32) else 1)).1 58 0 1) + 1)).1 58 0 1) - 1 ∧
      gw_X12_addOrder_109 (m + 1 + e) K x1 x2 x3 x4 x5 x6 (nI r) (nI k) = hp_i (hp_i (hp_i (hp_i (hp_i (hp_i Z 58 0 r x1) 58 0 (r + 1) x2) 58 0 (r + 2) x3) 58 0 (r + 3) x4) 58 0 (r + 4) (if x5 = 0 then (0 : Int32) else 1)) 58 0 1 (((hp_i (hp_i (hp_i (hp_i (hp_i Z 58 0 r x1) 58 0 (r + 1) x2) 58 0 (r + 2) x3) 58 0 (r + 3) x4) 58 0 (r + 4) (if x5 = 0 then (0 : Int32) else 1)).1 58 0 1) + 1) ∧
      (∀ j, Z.1 58 0 j = if r + k ≤ j ∧ j < r + 8 then 0 else K.1 58 0 j) ∧ (∀ t, ¬ t = 58 → Z.1 t 0 = K.1 t 0) := by
  have e0 : nI r + 0 = nI r := by grind
  have e1 : nI r + 1 = nI (r + 1) := nI_add _ 1
  have e2 : nI r + 2 = nI (r + 2) := nI_add _ 2
  have e3 : nI r + 3 = nI (r + 3) := nI_add _ 3
  have e4 : nI r + 4 = nI (r + 4) := nI_add _ 4
  have v0 : vp_in (nI r) 301 := vp_in_nI (by omega) (by omega)
  have v1 : vp_in (nI (r + 1)) 301 := vp_in_nI (by omega) (by omega)
  have v2 : vp_in (nI (r + 2)) 301 := vp_in_nI (by omega) (by omega)
  have v3 : vp_in (nI (r + 3)) 301 := vp_in_nI (by omega) (by omega)
  have v4 : vp_in (nI (r + 4)) 301 := vp_in_nI (by omega) (by omega)
  intro m
  induction m with
  | zero =>
    intro k e K hk
    rw [show 0 + 1 + e = e + 1 by omega]
    have c1 : (8 : Int32) ≤ nI k := nI_le (a := 8) (by omega) (by omega)
    refine ⟨?_, K, ?_, ?_, fun j => by rw [if_neg (by omega)], fun t ht => rfl⟩
    · rw [pw_X12_addOrder_109, e0, e1, e2, e3, e4]
      exact ⟨fun _ => ⟨v0, v1, v2, v3, v4, trivial⟩, fun z => (z c1).elim⟩
    · rw [fw_X12_addOrder_109, if_pos c1, e0, e1, e2, e3, e4, nI_clamp (show r < 2 ^ 31 by omega), nI_clamp (show r + 1 < 2 ^ 31 by omega), nI_clamp (show r + 2 < 2 ^ 31 by omega), nI_clamp (show r + 3 < 2 ^ 31 by omega), nI_clamp (show r + 4 < 2 ^ 31 by omega)]
    · rw [gw_X12_addOrder_109, if_pos c1, e0, e1, e2, e3, e4, nI_clamp (show r < 2 ^ 31 by omega), nI_clamp (show r + 1 < 2 ^ 31 by omega), nI_clamp (show r + 2 < 2 ^ 31 by omega), nI_clamp (show r + 3 < 2 ^ 31 by omega), nI_clamp (show r + 4 < 2 ^ 31 by omega)]
  | succ m ih =>
    intro k e K hk
    rw [show m + 1 + 1 + e = (m + 1 + e) + 1 by omega]
    have c1 : ¬ (8 : Int32) ≤ nI k := nI_ge (b := 8) (by omega) (by omega)
    have ek : nI r + nI k = nI (r + k) := nI_add _ _
    have vk : vp_in (nI (r + k)) 301 := vp_in_nI (by omega) (by omega)
    obtain ⟨i1, Z, i2, i3, i4, i5⟩ := ih (k + 1) e (hp_i K 58 0 (r + k) 0) (by omega)
    rw [nI_succ] at i1 i2 i3
    refine ⟨?_, Z, ?_, ?_, fun j => ?_, fun t ht => ?_⟩
    · rw [pw_X12_addOrder_109, ek, nI_clamp (show r + k < 2 ^ 31 by omega)]
      exact ⟨fun z => (c1 z).elim, fun _ => ⟨vk, i1⟩⟩
    · rw [fw_X12_addOrder_109, if_neg c1, ek, nI_clamp (show r + k < 2 ^ 31 by omega)]
      exact i2
    · rw [gw_X12_addOrder_109, if_neg c1, ek, nI_clamp (show r + k < 2 ^ 31 by omega)]
      exact i3
    · rw [i4 j, hp_i_g]
      by_cases a : r + (k + 1) ≤ j ∧ j < r + 8
      · rw [if_pos a, if_pos (by omega)]
      · rw [if_neg a]
        by_cases b : j = r + k
        · rw [if_pos b, if_pos (by omega)]
        · rw [if_neg b, if_neg (by omega)]
    · rw [i5 t ht, hp_i_t ht]
theorem z_addG {q u c d b : Nat} {Z : Hp} (A : RW h hm T w S n) (hq : q < T 1) (hu1 : 1 ≤ u) (hu2 : u ≤ 99) (hc : c ≤ 9) (hd : d ≤ 999) (hb : b ≤ 1) (hk : w 1 < 20) (hZ : ∀ j, Z.1 58 0 j = if 93 + 8 * w 1 ≤ j ∧ j < 93 + 8 * w 1 + 8 then 0 else hm.1 58 0 j) (hZt : ∀ t, ¬ t = 58 → Z.1 t 0 = hm.1 t 0) :
    RW (hp_i (hp_i (hp_i (hp_i (hp_i (hp_i (hp_i (hp_i (hp_i h 36 (h.2.2 11 0 7) (w 1) (nI q)) 37 (h.2.2 11 0 7) (w 1) (nI u)) 38 (h.2.2 11 0 7) (w 1) (nI c)) 39 (h.2.2 11 0 7) (w 1) (nI d)) 40 (h.2.2 11 0 7) (w 1) (nI b)) 41 (h.2.2 11 0 7) (w 1) 0) 42 (h.2.2 11 0 7) (w 1) 0) 43 (h.2.2 11 0 7) (w 1) 0) 6 (h.2.2 11 0 7) 0 (nI (w 1 + 1)))
      (hp_i (hp_i (hp_i (hp_i (hp_i (hp_i Z 58 0 (93 + 8 * w 1) (nI q)) 58 0 (93 + 8 * w 1 + 1) (nI u)) 58 0 (93 + 8 * w 1 + 2) (nI c)) 58 0 (93 + 8 * w 1 + 3) (nI d)) 58 0 (93 + 8 * w 1 + 4) (nI b)) 58 0 1 (nI (w 1 + 1))) T (ob_add w q u c d b) S (n + 1) := by
  obtain ⟨⟨J, I, R, C, G⟩, s1, s2, -⟩ := id A
  obtain ⟨⟨i0, i1, i2, i3⟩, i4, i5, i6⟩ := id I
  have bT := J.1
  have hw : ∀ j, ¬ j = 1 → ¬ (93 + 8 * w 1 ≤ j ∧ j ≤ 93 + 8 * w 1 + 7) → ob_add w q u c d b j = w j := fun j h1 h2 => by
    unfold ob_add
    rw [if_neg (by omega), if_neg (by omega), if_neg (by omega), if_neg (by omega), if_neg (by omega), if_neg (by omega), if_neg h1]
  have w1 : ob_add w q u c d b 1 = w 1 + 1 := by
    unfold ob_add
    rw [if_neg (by omega), if_neg (by omega), if_neg (by omega), if_neg (by omega), if_neg (by omega), if_neg (by omega), if_pos rfl]
  have b0 : ob_add w q u c d b (93 + 8 * w 1) = q := by unfold ob_add; rw [if_pos rfl]
  have b1 : ob_add w q u c d b (93 + 8 * w 1 + 1) = u := by unfold ob_add; rw [if_neg (by omega), if_pos rfl]
  have b2 : ob_add w q u c d b (93 + 8 * w 1 + 2) = c := by unfold ob_add; rw [if_neg (by omega), if_neg (by omega), if_pos rfl]
  have b3 : ob_add w q u c d b (93 + 8 * w 1 + 3) = d := by unfold ob_add; rw [if_neg (by omega), if_neg (by omega), if_neg (by omega), if_pos rfl]
  have b4 : ob_add w q u c d b (93 + 8 * w 1 + 4) = b := by unfold ob_add; rw [if_neg (by omega), if_neg (by omega), if_neg (by omega), if_neg (by omega), if_pos rfl]
  have b5 : ∀ j, 93 + 8 * w 1 + 5 ≤ j → j ≤ 93 + 8 * w 1 + 7 → ob_add w q u c d b j = 0 := fun j h1 h2 => by unfold ob_add; rw [if_neg (by omega), if_neg (by omega), if_neg (by omega), if_neg (by omega), if_neg (by omega), if_pos (by omega)]
  have cm : ∀ j, (hp_i (hp_i (hp_i (hp_i (hp_i (hp_i Z 58 0 (93 + 8 * w 1) (nI q)) 58 0 (93 + 8 * w 1 + 1) (nI u)) 58 0 (93 + 8 * w 1 + 2) (nI c)) 58 0 (93 + 8 * w 1 + 3) (nI d)) 58 0 (93 + 8 * w 1 + 4) (nI b)) 58 0 1 (nI (w 1 + 1))).1 58 0 j = if j = 1 then nI (w 1 + 1) else if j = 93 + 8 * w 1 + 4 then nI b else if j = 93 + 8 * w 1 + 3 then nI d else if j = 93 + 8 * w 1 + 2 then nI c else if j = 93 + 8 * w 1 + 1 then nI u else if j = 93 + 8 * w 1 then nI q else if 93 + 8 * w 1 ≤ j ∧ j < 93 + 8 * w 1 + 8 then 0 else hm.1 58 0 j := fun j => by rw [hp_i_g, hp_i_g, hp_i_g, hp_i_g, hp_i_g, hp_i_g, hZ]
  have cm' : ∀ j, ¬ j = 1 → ¬ (93 + 8 * w 1 ≤ j ∧ j ≤ 93 + 8 * w 1 + 7) → (hp_i (hp_i (hp_i (hp_i (hp_i (hp_i Z 58 0 (93 + 8 * w 1) (nI q)) 58 0 (93 + 8 * w 1 + 1) (nI u)) 58 0 (93 + 8 * w 1 + 2) (nI c)) 58 0 (93 + 8 * w 1 + 3) (nI d)) 58 0 (93 + 8 * w 1 + 4) (nI b)) 58 0 1 (nI (w 1 + 1))).1 58 0 j = hm.1 58 0 j := fun j h1 h2 => by
    rw [cm, if_neg h1, if_neg (by omega), if_neg (by omega), if_neg (by omega), if_neg (by omega), if_neg (by omega), if_neg (by omega)]
  refine A.upd (by omega) (fun t i ht hh => ?_) rfl rfl (fun t ht h58 => ?_) (fun k hk => ?_) ?_ ?_ ?_ (show S ≤ n + 1 by omega) (s2.keep i3 (fun t h1 h2 => ?_) (fun k hk' => cm' k (by omega) (by omega)) (hw 3 (by omega) (by omega)))
  · have q' : ∀ t', LG t' → ¬ (t = t' ∧ i = h.2.2 11 0 7) := fun t' lt z => hh ⟨by rw [z.1]; exact lt, z.2⟩
    rw [hp_i_n (q' 6 (by unfold LG; omega)), hp_i_n (q' 43 (by unfold LG; omega)), hp_i_n (q' 42 (by unfold LG; omega)), hp_i_n (q' 41 (by unfold LG; omega)), hp_i_n (q' 40 (by unfold LG; omega)), hp_i_n (q' 39 (by unfold LG; omega)), hp_i_n (q' 38 (by unfold LG; omega)), hp_i_n (q' 37 (by unfold LG; omega)), hp_i_n (q' 36 (by unfold LG; omega))]
  · rw [hp_i_t h58, hp_i_t h58, hp_i_t h58, hp_i_t h58, hp_i_t h58, hp_i_t h58, hZt t h58]
  · rw [hp_i_t (by omega), hp_i_t (by omega), hp_i_t (by omega), hp_i_t (by omega), hp_i_t (by omega), hp_i_t (by omega), hZt 12 (by omega)]
  · refine ⟨⟨?_, ?_, ?_, ?_⟩, fun p' hp' => ?_, fun k hk' => ?_, fun o ho => ?_⟩
    · rw [hw 0 (by omega) (by omega)]; omega
    · rw [w1]; omega
    · rw [hw 2 (by omega) (by omega)]; exact i2
    · rw [hw 3 (by omega) (by omega)]; exact i3
    · rw [hw (9 + p') (by omega) (by omega), hw (21 + p') (by omega) (by omega)]
      obtain ⟨x1, x2, x3⟩ := i4 p' hp'
      rw [ob_pend_same (w := w) (hw 2 (by omega) (by omega)) (fun j h1 h2 => hw j (by omega) (by omega)) i2]
      refine ⟨by omega, x2, fun hp0 => ?_⟩
      rw [w1, oa_sum_snoc, b5 (93 + 8 * (0 + w 1) + 6) (by omega) (by omega), x3 hp0]
      rw [Nat.zero_mul, Nat.add_zero]
      exact oa_sum_congr _ _ (fun j _ hj => by rw [hw (93 + 8 * j + 6) (by omega) (by omega), hw (93 + 8 * j) (by omega) (by omega)])
    · rw [hw 2 (by omega) (by omega)] at hk'
      rw [hw 0 (by omega) (by omega), hw (33 + 3 * k) (by omega) (by omega), hw (33 + 3 * k + 1) (by omega) (by omega), hw (33 + 3 * k + 2) (by omega) (by omega)]
      have := i5 k hk'
      omega
    · rw [w1] at ho
      by_cases z : o = w 1
      · rw [z, b0, b1, b2, b3, b4, b5 (93 + 8 * w 1 + 5) (by omega) (by omega), b5 (93 + 8 * w 1 + 6) (by omega) (by omega), b5 (93 + 8 * w 1 + 7) (by omega) (by omega)]
        omega
      · rw [hw (93 + 8 * o) (by omega) (by omega), hw (93 + 8 * o + 1) (by omega) (by omega), hw (93 + 8 * o + 2) (by omega) (by omega), hw (93 + 8 * o + 3) (by omega) (by omega), hw (93 + 8 * o + 4) (by omega) (by omega), hw (93 + 8 * o + 5) (by omega) (by omega), hw (93 + 8 * o + 6) (by omega) (by omega), hw (93 + 8 * o + 7) (by omega) (by omega)]
        exact i6 o (by omega)
  · intro j h1 h2
    rcases (show j = 1 ∨ j = 93 + 8 * w 1 ∨ j = 93 + 8 * w 1 + 1 ∨ j = 93 + 8 * w 1 + 2 ∨ j = 93 + 8 * w 1 + 3 ∨ j = 93 + 8 * w 1 + 4 ∨ (93 + 8 * w 1 + 5 ≤ j ∧ j ≤ 93 + 8 * w 1 + 7) ∨ (¬ j = 1 ∧ ¬ (93 + 8 * w 1 ≤ j ∧ j ≤ 93 + 8 * w 1 + 7)) by omega) with z | z | z | z | z | z | ⟨z1, z2⟩ | ⟨z1, z2⟩
    · rw [cm, z, w1, if_pos rfl]
    · rw [cm, z, b0, if_neg (by omega), if_neg (by omega), if_neg (by omega), if_neg (by omega), if_neg (by omega), if_pos rfl]
    · rw [cm, z, b1, if_neg (by omega), if_neg (by omega), if_neg (by omega), if_neg (by omega), if_pos rfl]
    · rw [cm, z, b2, if_neg (by omega), if_neg (by omega), if_neg (by omega), if_pos rfl]
    · rw [cm, z, b3, if_neg (by omega), if_neg (by omega), if_pos rfl]
    · rw [cm, z, b4, if_neg (by omega), if_pos rfl]
    · rw [cm, b5 j z1 z2, if_neg (by omega), if_neg (by omega), if_neg (by omega), if_neg (by omega), if_neg (by omega), if_neg (by omega), if_pos (by omega)]
      exact nI_0.symm
    · rw [cm' j z1 z2, hw j z1 z2]
      exact R.2 j h1 h2
  · obtain ⟨⟨g1, g2, g3⟩, g4, g5, g6⟩ := id G
    refine ⟨⟨?_, ?_, ?_⟩, fun p' hp' => ?_, fun k hk' => ?_, fun o ho => ?_⟩
    · rw [hw 0 (by omega) (by omega)]; simp [hp_i_t]; exact g1
    · rw [w1, hp_i_g, if_pos rfl]
    · rw [hw 2 (by omega) (by omega)]; simp [hp_i_t]; exact g3
    · rw [hw (9 + p') (by omega) (by omega), hw (21 + p') (by omega) (by omega)]; simp [hp_i_t]; exact g4 p' hp'
    · rw [hw 2 (by omega) (by omega)] at hk'
      rw [hw (33 + 3 * k) (by omega) (by omega), hw (33 + 3 * k + 1) (by omega) (by omega), hw (33 + 3 * k + 2) (by omega) (by omega)]
      simp [hp_i_t]
      exact g5 k hk'
    · rw [w1] at ho
      simp [hp_i_t, hp_i_g]
      by_cases z : o = w 1
      · rw [z, b0, b1, b2, b3, b4, b5 (93 + 8 * w 1 + 5) (by omega) (by omega), b5 (93 + 8 * w 1 + 6) (by omega) (by omega), b5 (93 + 8 * w 1 + 7) (by omega) (by omega)]
        simp [nI_0]
      · rw [if_neg z, if_neg z, if_neg z, if_neg z, if_neg z, if_neg z, if_neg z, if_neg z, hw (93 + 8 * o) (by omega) (by omega), hw (93 + 8 * o + 1) (by omega) (by omega), hw (93 + 8 * o + 2) (by omega) (by omega), hw (93 + 8 * o + 3) (by omega) (by omega), hw (93 + 8 * o + 4) (by omega) (by omega), hw (93 + 8 * o + 5) (by omega) (by omega), hw (93 + 8 * o + 6) (by omega) (by omega), hw (93 + 8 * o + 7) (by omega) (by omega)]
        exact g6 o (by omega)
  · simp only [hp_i_t (show ¬ t = 6 by omega), hp_i_t (show ¬ t = 43 by omega), hp_i_t (show ¬ t = 42 by omega), hp_i_t (show ¬ t = 41 by omega), hp_i_t (show ¬ t = 40 by omega), hp_i_t (show ¬ t = 39 by omega), hp_i_t (show ¬ t = 38 by omega), hp_i_t (show ¬ t = 37 by omega), hp_i_t (show ¬ t = 36 by omega)]
end RAF
