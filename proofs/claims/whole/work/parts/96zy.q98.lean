/-! load: the model takes over what it read -/
section TKO
variable {h hm K : Hp} {x : Nat → Nat} {t s rr c L n : Nat} {T : Nat → Nat}
/-- what actions change, when a text was just read -/
def ob_w0 (T : Nat → Nat) (a : Nat) : Nat := if a = 1 then T 3 else if 9 ≤ a ∧ a < 21 then T (164 + (a - 9)) else if 93 ≤ a ∧ a < 93 + 8 * T 3 ∧ (a - 93) % 8 < 5 then T (406 + 5 * ((a - 93) / 8) + (a - 93) % 8) else 0
theorem l_t108 {o : Nat} (ho : o < 20) (R : ∀ k, k < 506 → hm.1 56 0 k = nI (T k)) : ∀ (m f k : Nat) (H : Hp), k + m = 5 → (∀ a i, ¬ (a = 58 ∧ i = 0) → H.1 a i = hm.1 a i) → pi_X12_takesOver_108 (m + 1 + f) H (nI o) (nI k) ∧ (∀ a i, ¬ (a = 58 ∧ i = 0) → (iw_h_X12_takesOver_108 (m + 1 + f) H (nI o) (nI k)).1 a i = H.1 a i) ∧ (∀ a, (iw_h_X12_takesOver_108 (m + 1 + f) H (nI o) (nI k)).1 58 0 a = if 93 + 8 * o + k ≤ a ∧ a < 93 + 8 * o + 5 then nI (T (406 + 5 * o + (a - (93 + 8 * o)))) else H.1 58 0 a) := by
  intro m
  induction m with
  | zero =>
    intro f k H hk HC
    have c1 : (5 : Int32) ≤ nI k := nI_le (a := 5) (by omega) (by omega)
    rw [show 0 + 1 + f = f + 1 by omega, pi_X12_takesOver_108, iw_h_X12_takesOver_108, if_pos c1]
    exact ⟨⟨fun _ => trivial, fun z => (z c1).elim⟩, fun _ _ _ => rfl, fun a => by rw [if_neg (by omega)]⟩
  | succ m ih =>
    intro f k H hk HC
    have c1 : ¬ (5 : Int32) ≤ nI k := nI_ge (b := 5) (by omega) (by omega)
    have i1 : (93 : Int32) + 8 * nI o + nI k = nI (93 + 8 * o + k) := oa_ix3 93 8 o k
    have i2 : (406 : Int32) + 5 * nI o + nI k = nI (406 + 5 * o + k) := oa_ix3 406 5 o k
    have en : nI k + 1 = nI (k + 1) := nI_add k 1
    obtain ⟨r1, r2, r3⟩ := ih f (k + 1) (hp_i H 58 0 (93 + 8 * o + k) (nI (T (406 + 5 * o + k)))) (by omega) (fun a i y => by rw [hp_i_n y]; exact HC a i y)
    rw [show m + 1 + 1 + f = (m + 1 + f) + 1 by omega, pi_X12_takesOver_108, iw_h_X12_takesOver_108, if_neg c1, i1, i2, en, nI_clamp (by omega), nI_clamp (by omega), HC 56 0 (by omega), R _ (by omega)]
    refine ⟨⟨fun z => (c1 z).elim, fun _ => ⟨vp_in_nI (by omega) (by omega), vp_in_nI (by omega) (by omega), r1⟩⟩, fun a i y => (r2 a i y).trans (hp_i_n y), fun a => ?_⟩
    rw [r3 a, hp_i_g]
    by_cases y : a = 93 + 8 * o + k
    · rw [if_neg (by omega), if_pos y, if_pos (by omega), y, show 93 + 8 * o + k - (93 + 8 * o) = k by omega]
    · rw [if_neg y]
      by_cases z : 93 + 8 * o + (k + 1) ≤ a ∧ a < 93 + 8 * o + 5
      · rw [if_pos z, if_pos (by omega)]
      · rw [if_neg z, if_neg (by omega)]
theorem l_t96 (h3 : T 3 ≤ 20) (R : ∀ k, k < 506 → hm.1 56 0 k = nI (T k)) : ∀ (m f o : Nat) (H : Hp), o + m = T 3 → (∀ a i, ¬ (a = 58 ∧ i = 0) → H.1 a i = hm.1 a i) → pw_X12_takesOver_96 (m + 1 + f) H (nI o) ∧ ∃ H', gw_X12_takesOver_96 (m + 1 + f) H (nI o) = hp_i H' 12 0 16 0 ∧ (∀ a i, ¬ (a = 58 ∧ i = 0) → H'.1 a i = H.1 a i) ∧ (∀ a, H'.1 58 0 a = if 93 + 8 * o ≤ a ∧ a < 93 + 8 * T 3 ∧ (a - 93) % 8 < 5 then nI (T (406 + 5 * ((a - 93) / 8) + (a - 93) % 8)) else H.1 58 0 a) := by
  intro m
  induction m with
  | zero =>
    intro f o H ho HC
    have r3 : H.1 56 0 3 = nI (T 3) := by rw [HC 56 0 (by omega)]; exact R 3 (by omega)
    have c1 : nI (T 3) ≤ nI o := nI_le (by omega) (by omega)
    rw [show 0 + 1 + f = f + 1 by omega, pw_X12_takesOver_96, gw_X12_takesOver_96, r3, if_pos c1]
    exact ⟨⟨fun _ => trivial, fun z => (z c1).elim⟩, H, rfl, fun _ _ _ => rfl, fun a => by rw [if_neg (by omega)]⟩
  | succ m ih =>
    intro f o H ho HC
    have r3 : H.1 56 0 3 = nI (T 3) := by rw [HC 56 0 (by omega)]; exact R 3 (by omega)
    have c1 : ¬ nI (T 3) ≤ nI o := nI_ge (by omega) (by omega)
    have en : nI o + 1 = nI (o + 1) := nI_add o 1
    obtain ⟨f1, hf1⟩ := oa_fuel (show 5 < 1000000 by omega)
    have J := l_t108 (o := o) (by omega) R 5 f1 0 H (by omega) HC
    rw [← hf1, nI_0] at J
    obtain ⟨j1, j2, j3⟩ := J
    obtain ⟨r1, H', r2, r4, r5⟩ := ih f (o + 1) (iw_h_X12_takesOver_108 oa_N H (nI o) 0) (by omega) (fun a i y => (j2 a i y).trans (HC a i y))
    rw [show m + 1 + 1 + f = (m + 1 + f) + 1 by omega, pw_X12_takesOver_96, gw_X12_takesOver_96, r3, if_neg c1, en]
    refine ⟨⟨fun z => (c1 z).elim, fun _ => ⟨j1, r1⟩⟩, H', r2, fun a i y => (r4 a i y).trans (j2 a i y), fun a => ?_⟩
    rw [r5 a, j3 a]
    by_cases z : 93 + 8 * (o + 1) ≤ a ∧ a < 93 + 8 * T 3 ∧ (a - 93) % 8 < 5
    · rw [if_pos z, if_pos (by omega)]
    · rw [if_neg z]
      by_cases y : 93 + 8 * o + 0 ≤ a ∧ a < 93 + 8 * o + 5
      · have q1 : (a - 93) / 8 = o := by omega
        have q2 : (a - 93) % 8 = a - (93 + 8 * o) := by omega
        rw [if_pos y, if_pos (by omega), q1, q2]
      · rw [if_neg y, if_neg (by omega)]
theorem l_t51 (R : ∀ k, k < 506 → hm.1 56 0 k = nI (T k)) : ∀ (m f p : Nat) (H : Hp), p + m = 12 → (∀ a i, ¬ (a = 58 ∧ i = 0) → H.1 a i = hm.1 a i) → ∃ H', (∀ a i, ¬ (a = 58 ∧ i = 0) → H'.1 a i = H.1 a i) ∧ (∀ a, H'.1 58 0 a = if 9 + p ≤ a ∧ a < 21 then nI (T (164 + (a - 9))) else H.1 58 0 a) ∧ (pw_X12_takesOver_96 oa_N (hp_i H' 58 0 1 (nI (T 3))) 0 → pw_X12_takesOver_51 (m + 1 + f) H (nI p)) ∧ gw_X12_takesOver_51 (m + 1 + f) H (nI p) = gw_X12_takesOver_96 oa_N (hp_i H' 58 0 1 (nI (T 3))) 0 := by
  intro m
  induction m with
  | zero =>
    intro f p H hp HC
    have r3 : H.1 56 0 3 = nI (T 3) := by rw [HC 56 0 (by omega)]; exact R 3 (by omega)
    have c1 : (12 : Int32) ≤ nI p := nI_le (a := 12) (by omega) (by omega)
    rw [show 0 + 1 + f = f + 1 by omega, pw_X12_takesOver_51, gw_X12_takesOver_51, r3, if_pos c1]
    exact ⟨H, fun _ _ _ => rfl, fun a => by rw [if_neg (by omega)], fun z => ⟨fun _ => z, fun z => (z c1).elim⟩, rfl⟩
  | succ m ih =>
    intro f p H hp HC
    have c1 : ¬ (12 : Int32) ≤ nI p := nI_ge (b := 12) (by omega) (by omega)
    have i1 : (9 : Int32) + nI p = nI (9 + p) := nI_add 9 p
    have i2 : (164 : Int32) + nI p = nI (164 + p) := nI_add 164 p
    have en : nI p + 1 = nI (p + 1) := nI_add p 1
    obtain ⟨H', r1, r2, r3, r4⟩ := ih f (p + 1) (hp_i H 58 0 (9 + p) (nI (T (164 + p)))) (by omega) (fun a i y => by rw [hp_i_n y]; exact HC a i y)
    rw [show m + 1 + 1 + f = (m + 1 + f) + 1 by omega, pw_X12_takesOver_51, gw_X12_takesOver_51, if_neg c1, i1, i2, en, nI_clamp (by omega), nI_clamp (by omega), HC 56 0 (by omega), R (164 + p) (by omega)]
    refine ⟨H', fun a i y => (r1 a i y).trans (hp_i_n y), fun a => ?_, fun z => ⟨fun z => (c1 z).elim, fun _ => ⟨vp_in_nI (by omega) (by omega), vp_in_nI (by omega) (by omega), r3 z⟩⟩, r4⟩
    rw [r2 a, hp_i_g]
    by_cases y : a = 9 + p
    · rw [if_neg (by omega), if_pos y, if_pos (by omega), y, show 9 + p - 9 = p by omega]
    · rw [if_neg y]
      by_cases z : 9 + (p + 1) ≤ a ∧ a < 21
      · rw [if_pos z, if_pos (by omega)]
      · rw [if_neg z, if_neg (by omega)]
theorem l_t29 : ∀ (m f j : Nat) (H : Hp), j + m = 301 → ∃ H', (∀ a i, ¬ (a = 58 ∧ i = 0) → H'.1 a i = H.1 a i) ∧ (∀ a, H'.1 58 0 a = if j ≤ a ∧ a < 301 then 0 else H.1 58 0 a) ∧ (pw_X12_takesOver_51 oa_N H' 0 → pw_X12_takesOver_29 (m + 1 + f) H (nI j)) ∧ gw_X12_takesOver_29 (m + 1 + f) H (nI j) = gw_X12_takesOver_51 oa_N H' 0 := by
  intro m
  induction m with
  | zero =>
    intro f j H hj
    have c1 : (301 : Int32) ≤ nI j := nI_le (a := 301) (by omega) (by omega)
    rw [show 0 + 1 + f = f + 1 by omega, pw_X12_takesOver_29, gw_X12_takesOver_29, if_pos c1]
    exact ⟨H, fun _ _ _ => rfl, fun a => by rw [if_neg (by omega)], fun z => ⟨fun _ => z, fun z => (z c1).elim⟩, rfl⟩
  | succ m ih =>
    intro f j H hj
    have c1 : ¬ (301 : Int32) ≤ nI j := nI_ge (b := 301) (by omega) (by omega)
    have en : nI j + 1 = nI (j + 1) := nI_add j 1
    obtain ⟨H', r1, r2, r3, r4⟩ := ih f (j + 1) (hp_i H 58 0 j 0) (by omega)
    rw [show m + 1 + 1 + f = (m + 1 + f) + 1 by omega, pw_X12_takesOver_29, gw_X12_takesOver_29, if_neg c1, en, nI_clamp (by omega)]
    refine ⟨H', fun a i y => (r1 a i y).trans (hp_i_n y), fun a => ?_, fun z => ⟨fun z => (c1 z).elim, fun _ => ⟨vp_in_nI (by omega) (by omega), r3 z⟩⟩, r4⟩
    rw [r2 a, hp_i_g]
    by_cases y : a = j
    · rw [if_neg (by omega), if_pos y, if_pos (by omega)]
    · rw [if_neg y]
      by_cases z : j + 1 ≤ a ∧ a < 301
      · rw [if_pos z, if_pos (by omega)]
      · rw [if_neg z, if_neg (by omega)]
theorem l_t2 (R : RD hm T) : ∀ (m f j : Nat) (H : Hp), j + m = 506 → (∀ a i, ¬ (a = 56 ∧ i = 0) → H.1 a i = hm.1 a i) → ∃ H', (∀ a i, ¬ (a = 56 ∧ i = 0) → H'.1 a i = hm.1 a i) ∧ (∀ a, H'.1 56 0 a = if j ≤ a ∧ a < 506 then nI (T a) else H.1 56 0 a) ∧ (pw_X12_takesOver_29 oa_N H' 0 → pw_X12_takesOver_2 (m + 1 + f) H (nI j)) ∧ gw_X12_takesOver_2 (m + 1 + f) H (nI j) = gw_X12_takesOver_29 oa_N H' 0 := by
  intro m
  induction m with
  | zero =>
    intro f j H hj HC
    have c1 : (506 : Int32) ≤ nI j := nI_le (a := 506) (by omega) (by omega)
    rw [show 0 + 1 + f = f + 1 by omega, pw_X12_takesOver_2, gw_X12_takesOver_2, if_pos c1]
    exact ⟨H, HC, fun a => by rw [if_neg (by omega)], fun z => ⟨fun _ => z, fun z => (z c1).elim⟩, rfl⟩
  | succ m ih =>
    intro f j H hj HC
    have c1 : ¬ (506 : Int32) ≤ nI j := nI_ge (b := 506) (by omega) (by omega)
    have en : nI j + 1 = nI (j + 1) := nI_add j 1
    obtain ⟨H', r1, r2, r3, r4⟩ := ih f (j + 1) (hp_i H 56 0 j (nI (T j))) (by omega) (fun a i y => by rw [hp_i_n y]; exact HC a i y)
    have vj : vp_in (nI j) 506 := vp_in_nI (by omega) (by omega)
    rw [show m + 1 + 1 + f = (m + 1 + f) + 1 by omega, pw_X12_takesOver_2, gw_X12_takesOver_2, if_neg c1, en, nI_clamp (by omega), HC 57 0 (by omega), R j (by omega)]
    refine ⟨H', r1, fun a => ?_, fun z => ⟨fun z => (c1 z).elim, fun _ => ⟨vj, vj, r3 z⟩⟩, r4⟩
    rw [r2 a, hp_i_g]
    by_cases y : a = j
    · rw [if_neg (by omega), if_pos y, if_pos (by omega), y]
    · rw [if_neg y]
      by_cases z : j + 1 ≤ a ∧ a < 506
      · rw [if_pos z, if_pos (by omega)]
      · rw [if_neg z, if_neg (by omega)]
theorem m_takesO (R : RD hm T) (h3 : T 3 ≤ 20) : p_X12_takesOver hm ∧ (∀ k, k < 506 → (g_X12_takesOver hm).1 56 0 k = nI (T k)) ∧ (∀ k, k < 301 → (g_X12_takesOver hm).1 58 0 k = nI (ob_w0 T k)) ∧ (∀ k, (g_X12_takesOver hm).1 12 0 k = if k = 16 then 0 else hm.1 12 0 k) ∧ (∀ a i, ¬ (a = 12 ∧ i = 0) → ¬ (a = 56 ∧ i = 0) → ¬ (a = 58 ∧ i = 0) → (g_X12_takesOver hm).1 a i = hm.1 a i) := by
  obtain ⟨f1, e1⟩ := oa_fuel (show 506 < 1000000 by omega)
  obtain ⟨f2, e2⟩ := oa_fuel (show 301 < 1000000 by omega)
  obtain ⟨f3, e3⟩ := oa_fuel (show 12 < 1000000 by omega)
  obtain ⟨f4, e4⟩ := oa_fuel (show T 3 < 1000000 by omega)
  obtain ⟨A, a1, a2, a3, a4⟩ := l_t2 R 506 f1 0 hm (by omega) (fun _ _ _ => rfl)
  have RA' : ∀ k, k < 506 → A.1 56 0 k = nI (T k) := fun k hk => by rw [a2 k, if_pos (by omega)]
  obtain ⟨B, b1, b2, b3, b4⟩ := l_t29 301 f2 0 A (by omega)
  obtain ⟨C, c1, c2, c3, c4⟩ := l_t51 RA' 12 f3 0 B (by omega) b1
  obtain ⟨d0, D, d1, d2, d3⟩ := l_t96 h3 RA' (T 3) f4 0 (hp_i C 58 0 1 (nI (T 3))) (by omega) (fun a i y => by rw [hp_i_n y, c1 a i y, b1 a i y])
  rw [← e1, nI_0] at a3 a4
  rw [← e2, nI_0] at b3 b4
  rw [← e3, nI_0] at c3 c4
  rw [← e4, nI_0] at d0 d1
  have eq : g_X12_takesOver hm = hp_i D 12 0 16 0 := by
    unfold g_X12_takesOver
    rw [a4, b4, c4, d1]
  have oth : ∀ a i, ¬ (a = 56 ∧ i = 0) → ¬ (a = 58 ∧ i = 0) → D.1 a i = hm.1 a i := fun a i y1 y2 => by rw [d2 a i y2, hp_i_n y2, c1 a i y2, b1 a i y2, a1 a i y1]
  refine ⟨a3 (b3 (c3 d0)), fun k hk => ?_, fun k hk => ?_, fun k => ?_, fun a i y1 y2 y3 => ?_⟩
  · rw [eq, hp_i_t (by omega), d2 56 0 (by omega), hp_i_t (by omega), c1 56 0 (by omega), b1 56 0 (by omega)]
    exact RA' k hk
  · rw [eq, hp_i_t (by omega), d3 k, hp_i_g, c2 k, b2 k, if_pos (show 0 ≤ k ∧ k < 301 by omega)]
    unfold ob_w0
    by_cases y1 : 93 + 8 * 0 ≤ k ∧ k < 93 + 8 * T 3 ∧ (k - 93) % 8 < 5
    · rw [if_pos y1, if_neg (by omega), if_neg (by omega), if_pos (by omega)]
    · rw [if_neg y1]
      by_cases y2 : k = 1
      · rw [if_pos y2, if_pos y2]
      · rw [if_neg y2, if_neg y2]
        by_cases y3 : 9 ≤ k ∧ k < 21
        · rw [if_pos (by omega), if_pos y3]
        · rw [if_neg (by omega), if_neg y3, if_neg (by omega)]; rfl
  · rw [eq, hp_i_g, oth 12 0 (by omega) (by omega)]
  · rw [eq, hp_i_n y1]; exact oth a i y2 y3
end TKO
