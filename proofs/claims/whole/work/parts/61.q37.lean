section RAD
variable {h hm h' hm' : Hp} {L : Nat} {T w : Nat → Nat} {n S : Nat}
theorem m_keep54 {d : Nat} (hd : d < 12) : ∀ (m k e : Nat) (hm : Hp), hm.1 12 0 16 = nI d → k + m = 301 →
    pw_X12_keeps_54 (m + 1 + e) hm (nI k) ∧ (∀ j, k ≤ j → j < 301 → (gw_X12_keeps_54 (m + 1 + e) hm (nI k)).1 59 0 (301 * d + j) = hm.1 58 0 j) ∧ (∀ j, ¬ (301 * d + k ≤ j ∧ j < 301 * d + 301) → (gw_X12_keeps_54 (m + 1 + e) hm (nI k)).1 59 0 j = hm.1 59 0 j) ∧ (gw_X12_keeps_54 (m + 1 + e) hm (nI k)).1 12 0 16 = nI (d + 1) ∧ (∀ j, ¬ j = 16 → (gw_X12_keeps_54 (m + 1 + e) hm (nI k)).1 12 0 j = hm.1 12 0 j) := by
  intro m
  induction m with
  | zero =>
    intro k e hm h16 hk
    rw [show 0 + 1 + e = e + 1 by omega]
    have c1 : (301 : Int32) ≤ nI k := nI_le (a := 301) (by omega) (by omega)
    have ef : gw_X12_keeps_54 (e + 1) hm (nI k) = hp_i hm 12 0 16 (nI (d + 1)) := by rw [gw_X12_keeps_54, if_pos c1, h16, ← nI_succ]
    rw [ef]
    refine ⟨?_, fun j h1 h2 => by omega, fun j hj => rfl, by rw [hp_i_g, if_pos rfl], fun j hj => by rw [hp_i_g, if_neg hj]⟩
    simp [pw_X12_keeps_54, c1]
  | succ m ih =>
    intro k e hm h16 hk
    rw [show m + 1 + 1 + e = (m + 1 + e) + 1 by omega]
    have c1 : ¬ (301 : Int32) ≤ nI k := nI_ge (b := 301) (by omega) (by omega)
    have e1 : (301 : Int32) * nI d + nI k = nI (301 * d + k) := by
      have : (301 : Int32) * nI d = nI (301 * d) := oa_mul 301 d
      rw [this, nI_add]
    have v1 : vp_in (nI k) 301 := vp_in_nI (by omega) (by omega)
    have v2 : vp_in (nI (301 * d + k)) 3612 := vp_in_nI (by omega) (by omega)
    obtain ⟨r1, r2, r3, r4, r5⟩ := ih (k + 1) e (hp_i hm 59 0 (301 * d + k) (hm.1 58 0 k)) h16 (by omega)
    rw [nI_succ] at r1 r2 r3 r4 r5
    have ef : gw_X12_keeps_54 ((m + 1 + e) + 1) hm (nI k) = gw_X12_keeps_54 (m + 1 + e) (hp_i hm 59 0 (301 * d + k) (hm.1 58 0 k)) (nI k + 1) := by
      rw [gw_X12_keeps_54, if_neg c1, h16, e1, nI_clamp (show 301 * d + k < 2 ^ 31 by omega), nI_clamp (show k < 2 ^ 31 by omega)]
    rw [ef]
    refine ⟨?_, fun j h1 h2 => ?_, fun j hj => ?_, r4, r5⟩
    · rw [pw_X12_keeps_54, h16, e1, nI_clamp (show 301 * d + k < 2 ^ 31 by omega), nI_clamp (show k < 2 ^ 31 by omega)]
      exact ⟨fun z => (c1 z).elim, fun _ => ⟨v1, v2, r1⟩⟩
    · by_cases z : j = k
      · subst z
        rw [r3 (301 * d + j) (by omega), hp_i_g, if_pos rfl]
      · exact r2 j (by omega) h2
    · rw [r3 j (by omega), hp_i_g, if_neg (by omega)]
set_option maxRecDepth 8000 in
theorem m_keep13 : ∀ (m k e : Nat) (hm : Hp), 301 ≤ k → k + m = 3612 →
    ∃ H, (pw_X12_keeps_54 oa_N (hp_i H 12 0 16 ((H.1 12 0 16) - 1)) 0 → pw_X12_keeps_13 (m + 1 + e) hm (nI k)) ∧ gw_X12_keeps_13 (m + 1 + e) hm (nI k) = gw_X12_keeps_54 oa_N (hp_i H 12 0 16 ((H.1 12 0 16) - 1)) 0 ∧ (∀ j, k - 301 ≤ j → j < 3311 → H.1 59 0 j = hm.1 59 0 (j + 301)) ∧ (∀ j, j < k - 301 → H.1 59 0 j = hm.1 59 0 j) ∧ (∀ t, ¬ t = 59 → H.1 t 0 = hm.1 t 0) := by
  intro m
  induction m with
  | zero =>
    intro k e hm h3 hk
    rw [show 0 + 1 + e = e + 1 by omega]
    have c1 : (3612 : Int32) ≤ nI k := nI_le (a := 3612) (by omega) (by omega)
    refine ⟨hm, fun a => ?_, ?_, fun j h1 h2 => by omega, fun j hj => rfl, fun t ht => rfl⟩
    · rw [pw_X12_keeps_13]
      exact ⟨fun _ => a, fun z => (z c1).elim⟩
    · rw [gw_X12_keeps_13, if_pos c1]
  | succ m ih =>
    intro k e hm h3 hk
    rw [show m + 1 + 1 + e = (m + 1 + e) + 1 by omega]
    have c1 : ¬ (3612 : Int32) ≤ nI k := nI_ge (b := 3612) (by omega) (by omega)
    have e1 : nI k - 301 = nI (k - 301) := oa_sub (b := 301) h3
    have v1 : vp_in (nI k) 3612 := vp_in_nI (by omega) (by omega)
    have v2 : vp_in (nI (k - 301)) 3612 := vp_in_nI (by omega) (by omega)
    obtain ⟨H, r1, r2, r3, r4, r5⟩ := ih (k + 1) e (hp_i hm 59 0 (k - 301) (hm.1 59 0 k)) (by omega) (by omega)
    rw [nI_succ] at r1 r2
    refine ⟨H, fun a => ?_, ?_, fun j h1 h2 => ?_, fun j hj => ?_, fun t ht => ?_⟩
    · rw [pw_X12_keeps_13, e1, nI_clamp (show k - 301 < 2 ^ 31 by omega), nI_clamp (show k < 2 ^ 31 by omega)]
      exact ⟨fun z => (c1 z).elim, fun _ => ⟨v1, v2, r1 a⟩⟩
    · rw [gw_X12_keeps_13, if_neg c1, e1, nI_clamp (show k - 301 < 2 ^ 31 by omega), nI_clamp (show k < 2 ^ 31 by omega)]
      exact r2
    · by_cases z : j = k - 301
      · rw [r4 j (by omega), hp_i_g, if_pos z, show j + 301 = k by omega]
      · rw [r3 j (by omega) h2, hp_i_g, if_neg (by omega)]
    · rw [r4 j (by omega), hp_i_g, if_neg (by omega)]
    · rw [r5 t ht, hp_i_t ht]
set_option maxRecDepth 8000 in
theorem m_keeps {d : Nat} (hd : d ≤ 12) (h16 : hm.1 12 0 16 = nI d) : p_X12_keeps hm ∧ ∃ c, d = c + 1 - (if d = 12 then 0 else 1) ∧ c < 12 ∧ (g_X12_keeps hm).1 12 0 16 = nI (c + 1) ∧ (∀ j, ¬ j = 16 → (g_X12_keeps hm).1 12 0 j = hm.1 12 0 j) ∧ (∀ j, j < 301 → (g_X12_keeps hm).1 59 0 (301 * c + j) = hm.1 58 0 j) ∧ (∀ i j, i < c → j < 301 → (g_X12_keeps hm).1 59 0 (301 * i + j) = hm.1 59 0 (301 * (i + (d - c)) + j)) := by
  obtain ⟨e5, he5⟩ := oa_fuel (show 301 < 1000000 by omega)
  by_cases z : d = 12
  · subst z
    have c1 : hm.1 12 0 16 = 12 := h16
    obtain ⟨e3, he3⟩ := oa_fuel (show 3311 < 1000000 by omega)
    obtain ⟨H, r1, r2, r3, r4, r5⟩ := m_keep13 3311 301 e3 hm (by omega) (by omega)
    have e301 : nI 301 = 301 := rfl
    rw [← he3, e301] at r1 r2
    have h12 : H.1 12 0 16 = nI 12 := by rw [r5 12 (by omega), h16]
    have hs : H.1 12 0 16 - 1 = nI 11 := by rw [h12]; exact nI_pred 11
    rw [hs] at r1 r2
    obtain ⟨q1, q2, q3, q4, q5⟩ := m_keep54 (d := 11) (by omega) 301 0 e5 (hp_i H 12 0 16 (nI 11)) (by rw [hp_i_g, if_pos rfl]) (by omega)
    rw [← he5, nI_0] at q1 q2 q3 q4 q5
    have eg : g_X12_keeps hm = gw_X12_keeps_54 oa_N (hp_i H 12 0 16 (nI 11)) 0 := by
      unfold g_X12_keeps
      rw [if_neg (fun z => z c1), r2]
    rw [eg]
    refine ⟨⟨fun z => (z c1).elim, fun _ => r1 q1⟩, 11, by simp, by omega, q4, fun j hj => ?_, fun j hj => ?_, fun i j hi hj => ?_⟩
    · rw [q5 j hj, hp_i_g, if_neg hj, r5 12 (by omega)]
    · rw [q2 j (by omega) hj, hp_i_t (show ¬ 58 = 12 by omega), r5 58 (by omega)]
    · rw [q3 (301 * i + j) (by omega), hp_i_t (show ¬ 59 = 12 by omega), r3 (301 * i + j) (by omega) (by omega), show 301 * i + j + 301 = 301 * (i + (12 - 11)) + j by omega]
  · have c1 : ¬ hm.1 12 0 16 = 12 := by
      rw [h16]
      intro y
      exact z ((nI_eq (b := 12) (by omega) (by omega)).mp y)
    obtain ⟨q1, q2, q3, q4, q5⟩ := m_keep54 (d := d) (by omega) 301 0 e5 hm h16 (by omega)
    rw [← he5, nI_0] at q1 q2 q3 q4 q5
    have eg : g_X12_keeps hm = gw_X12_keeps_54 oa_N hm 0 := by
      unfold g_X12_keeps
      rw [if_pos c1]
    rw [eg]
    refine ⟨⟨fun _ => q1, fun y => (c1 y).elim⟩, d, by simp [z], by omega, q4, q5, fun j hj => q2 j (by omega) hj, fun i j hi hj => ?_⟩
    rw [q3 (301 * i + j) (by
      have : 301 * i + 301 ≤ 301 * d := by have := Nat.mul_le_mul_left 301 (show i + 1 ≤ d from hi); omega
      omega), Nat.sub_self, Nat.add_zero]
/-- an action is recorded -/
theorem RW.record (A : RW h hm T w S n) : p_X3_record h (h.2.2 11 0 7) ∧ p_X12_keeps hm ∧ RW (g_X3_record h (h.2.2 11 0 7)) (g_X12_keeps hm) T w S n ∧ (g_X12_keeps hm).1 12 0 0 = hm.1 12 0 0 := by
  obtain ⟨⟨J, I, R, C, G⟩, s1, s2, ⟨d, x, d1, d2, d3, d4, d5, d6⟩, ⟨t, t1, t2, t3, t4⟩, ⟨e1, e2⟩, ⟨u, u1, u2, u3, u4⟩, r⟩ := A
  obtain ⟨k1, c, k2, k3, k4, k5, k6, k7⟩ := m_keeps d1 d5
  have rL := r.2.1
  have m1 := k_mod h (a := x) (b := 12) (by omega) (by omega) (by omega)
  have e12 : nI 12 = 12 := rfl
  rw [e12, Nat.mod_eq_of_lt d2] at m1
  have vx : vp_in (nI x) 12 := vp_in_nI (by omega) (by omega)
  have cc : ∀ t i, ¬ (LG t ∧ i = 2 + x) → (g_X5_copyFrom h (2 + x) (h.2.2 11 0 7)).1 t i = h.1 t i := fun t i hh => by
    unfold LG at hh
    exact fr_X5_copyFrom (by omega) (by omega) (by omega) (by omega) (by omega) (by omega) (by omega) (by omega) (by omega) (by omega) (by omega) (by omega) (by omega) (by omega) (by omega) (by omega) (by omega) (by omega) (by omega)
  have m2 := k_mod (g_X5_copyFrom h (2 + x) (h.2.2 11 0 7)) (a := x + 1) (b := 12) (by omega) (by omega) (by omega)
  rw [e12] at m2
  have c31 : (g_X5_copyFrom h (2 + x) (h.2.2 11 0 7)).1 3 0 = h.1 3 0 := cc 3 0 (by unfold LG; omega)
  have dn : (if 12 < nI (d + 1) then 12 else nI (d + 1)) = nI (c + 1) := by
    have lt : (12 < nI (d + 1)) ↔ 12 < d + 1 := nI_ltI (a := 12) (by omega) (by omega)
    simp only [lt]
    by_cases z : d = 12
    · rw [if_pos (by omega), ← e12]
      congr 1
      rw [if_pos z] at k2
      omega
    · rw [if_neg (by omega)]
      congr 1
      rw [if_neg z] at k2
      omega
  have ge : g_X3_record h (h.2.2 11 0 7) = hp_i (hp_i (g_X5_copyFrom h (2 + x) (h.2.2 11 0 7)) 3 0 1 (nI ((x + 1) % 12))) 3 0 0 (nI (c + 1)) := by
    unfold g_X3_record
    rw [d4, m1.2, nI_clamp (show x < 2 ^ 31 by omega), c31, d4, ← nI_succ, m2.2]
    have q : (hp_i (g_X5_copyFrom h (2 + x) (h.2.2 11 0 7)) 3 0 1 (nI ((x + 1) % 12))).1 3 0 0 = nI d := by rw [hp_i_g, if_neg (by omega), c31, d3]
    rw [q, ← nI_succ, dn]
  have hg : ∀ t i, ¬ t = 3 → ¬ (LG t ∧ i = 2 + x) → (g_X3_record h (h.2.2 11 0 7)).1 t i = h.1 t i := fun t i h1 h2 => by
    rw [ge, hp_i_t h1, hp_i_t h1]
    exact cc t i h2
  have hcp : ∀ t k, LC t k → (g_X3_record h (h.2.2 11 0 7)).1 t (2 + x) k = h.1 t (h.2.2 11 0 7) k := fun t k hk => by
    have t3 : ¬ t = 3 := by unfold LC at hk; omega
    rw [ge, hp_i_t t3, hp_i_t t3]
    exact a_copy (by omega) t k hk
  have hr : (g_X3_record h (h.2.2 11 0 7)).2.2 = h.2.2 := gr_X3_record
  have fm : ∀ t, ¬ t = 12 → ¬ t = 59 → (g_X12_keeps hm).1 t 0 = hm.1 t 0 := fun t h1 h2 => fr_X12_keeps (by omega) (by omega)
  have f58 := fm 58 (by omega) (by omega)
  refine ⟨?_, k1, ⟨⟨J, I, R.same (fm 56 (by omega) (by omega)) f58, ?_, ?_⟩, s1, ?_, ⟨c + 1, (x + 1) % 12, by omega, Nat.mod_lt _ (by omega), ?_, ?_, k4, fun k hk => ?_⟩, ⟨t, t1, ?_, ?_, ?_⟩, ⟨?_, ?_⟩, ⟨u, u1, ?_, ?_, ?_⟩, ?_⟩, k5 0 (by omega)⟩
  · unfold p_X3_record
    rw [d4, m1.2, nI_clamp (show x < 2 ^ 31 by omega), c31, d4, ← nI_succ]
    exact ⟨m1.1, vx, ⟨trivial, a_cp6, trivial, trivial⟩, m2.1, trivial⟩
  · rw [hr]; exact C.same (fun t ht i => hg t i (by omega) (by unfold LG; omega)) gl_X3_record
  · rw [hr]; exact G.same (fun t ht => hg t _ (by omega) (by unfold LG; omega))
  · rw [hr, f58]; exact s2.same (fun t h1 h2 => hg t _ (by omega) (by unfold LG; omega))
  · rw [ge, hp_i_g, if_pos rfl]
  · rw [ge, hp_i_g, if_neg (by omega), hp_i_g, if_pos rfl]
  · by_cases z : k = c
    · subst z
      refine ⟨w, ?_⟩
      have ix : 2 + ((x + 1) % 12 + 12 - (k + 1) + k) % 12 = 2 + x := by omega
      rw [ix]
      have V : RV h (h.2.2 11 0 7) (hm.1 58 0) T w n := ⟨R.2, I, G, S, s1, s2⟩
      exact V.copy hcp (fun j hj => k6 j hj)
    · obtain ⟨w', V⟩ := d6 (k + (d - c)) (by
        by_cases y : d = 12
        · rw [if_pos y] at k2; omega
        · rw [if_neg y] at k2; omega)
      refine ⟨w', ?_⟩
      have ix : 2 + ((x + 1) % 12 + 12 - (c + 1) + k) % 12 = 2 + (x + 12 - d + (k + (d - c))) % 12 := by
        by_cases y : d = 12
        · rw [if_pos y] at k2; omega
        · rw [if_neg y] at k2; omega
      have ine : ¬ 2 + (x + 12 - d + (k + (d - c))) % 12 = 2 + x := by
        by_cases y : d = 12
        · rw [if_pos y] at k2; omega
        · rw [if_neg y] at k2; omega
      rw [ix]
      exact V.copy (fun t k' hk' => by
        have t3 : ¬ t = 3 := by unfold LC at hk'; omega
        rw [hg t _ t3 (fun q => ine q.2)]) (fun j hj => k7 k j (by omega) hj)
  · rw [hg 4 0 (by omega) (by unfold LG; omega)]; exact t2
  · rw [k5 3 (by omega)]; exact t3
  · rw [hg 35 0 (by omega) (by unfold LG; omega), fm 54 (by omega) (by omega)]; exact t4
  · rw [hg 7 0 (by omega) (by unfold LG; omega), k5 9 (by omega)]; exact e1
  · rw [hg 7 0 (by omega) (by unfold LG; omega), k5 10 (by omega)]; exact e2
  · rw [hg 2 0 (by omega) (by unfold LG; omega)]; exact u2
  · rw [k5 24 (by omega)]; exact u3
  · rw [hg 33 0 (by omega) (by unfold LG; omega), fm 65 (by omega) (by omega)]; exact u4
  · unfold RR; rw [hr]; exact r
end RAD
