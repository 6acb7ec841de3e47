section QAO
variable {h hm hm0 : Hp} {c L : Nat} {T w F t lf qt gt gt0 : Nat → Nat} {fr gv : Nat → Int32} {n r : Nat}
theorem ob_any (x : Int32) : x = nI x.toBitVec.toNat := Int32.toBitVec_inj.mp (by show _ = BitVec.ofNat 32 _; simp)
/-- the class begins -/
theorem a_begin (I : IW T w n) (C : RC h c T) (G : RG h L w) : p_X0_begin h L ∧ ∃ t, oa_srt w t (w 1) ∧ SC (g_X0_begin h L) c L T w t (fun p => w (9 + p) - w (21 + p)) (fun p => (h.1 14 0 p).toBitVec.toNat) (fun _ => 0) (fun _ => -1) (fun _ => 0) := by
  have fl := a_fillFree (t1 := 13) (i1 := 0) (Or.inr rfl) I G
  have f1 : ∀ t, ¬ t = 13 → ∀ i, (g_X10_fillFree h L 13 0 12).1 t i = h.1 t i := fun t ht i => fr_X10_fillFree (by omega)
  have G1 : RG (g_X10_fillFree h L 13 0 12) L w := G.same (fun t ht => f1 t (by omega) _)
  obtain ⟨t1, t, t2, t3⟩ := a_fillTurns I G1
  have b1 := a_fillA (t0 := 16) (i0 := 0) (x := 0) (g_X6_fillTurns (g_X10_fillFree h L 13 0 12) L 15 0 20) (show 20 < 1000 by omega)
  have b2 := a_fillA (t0 := 17) (i0 := 0) (x := -1) (g_J7_fill_53178 (g_X6_fillTurns (g_X10_fillFree h L 13 0 12) L 15 0 20) 16 0 20 0) (show 20 < 1000 by omega)
  have b3 := a_fillA (t0 := 18) (i0 := 0) (x := 0) (g_J7_fill_53178 (g_J7_fill_53178 (g_X6_fillTurns (g_X10_fillFree h L 13 0 12) L 15 0 20) 16 0 20 0) 17 0 20 (-1)) (show 6 < 1000 by omega)
  have F : ∀ t i, ¬ t = 13 → ¬ t = 15 → ¬ t = 16 → ¬ t = 17 → ¬ t = 18 → (g_X0_begin h L).1 t i = h.1 t i := fun t i a b c d e => fr_X0_begin (by omega) (by omega) (by omega) (by omega) (by omega)
  refine ⟨⟨fl.1, t1, b1.1, b2.1, b3.1, trivial⟩, t, t2, C.same (fun t ht i => F t i (by omega) (by omega) (by omega) (by omega) (by omega)) gl_X0_begin, G.same (fun t ht => F t _ (by omega) (by omega) (by omega) (by omega) (by omega)), ⟨fun p hp => ⟨?_, ?_⟩, fun o ho => ⟨?_, ?_⟩, fun j hj => ?_⟩, fun j hj => ?_⟩
  · unfold g_X0_begin
    rw [fr_J7_fill_53178 (show ¬ (13 = 18 ∧ 0 = 0) by omega), fr_J7_fill_53178 (show ¬ (13 = 17 ∧ 0 = 0) by omega), fr_J7_fill_53178 (show ¬ (13 = 16 ∧ 0 = 0) by omega), fr_X6_fillTurns (show ¬ (13 = 15 ∧ 0 = 0) by omega)]
    exact fl.2 p hp
  · rw [F 14 0 (by omega) (by omega) (by omega) (by omega) (by omega)]
    exact ob_any _
  · unfold g_X0_begin
    rw [fr_J7_fill_53178 (show ¬ (16 = 18 ∧ 0 = 0) by omega), fr_J7_fill_53178 (show ¬ (16 = 17 ∧ 0 = 0) by omega)]
    rw [b1.2.1 o ho]
    exact nI_0.symm
  · unfold g_X0_begin
    rw [fr_J7_fill_53178 (show ¬ (17 = 18 ∧ 0 = 0) by omega)]
    exact b2.2.1 o ho
  · exact b3.2.1 j hj
  · unfold g_X0_begin
    rw [fr_J7_fill_53178 (show ¬ (15 = 18 ∧ 0 = 0) by omega), fr_J7_fill_53178 (show ¬ (15 = 17 ∧ 0 = 0) by omega), fr_J7_fill_53178 (show ¬ (15 = 16 ∧ 0 = 0) by omega)]
    exact t3 j hj
theorem m_tries2 (I : IW T w n) : ∀ (m k e : Nat) (hm : Hp), RM hm T w → k + m = 12 →
    ∃ H, (pw_X12_triesAll_27 oa_N H 0 → pw_X12_triesAll_2 (m + 1 + e) hm (nI k)) ∧ gw_X12_triesAll_2 (m + 1 + e) hm (nI k) = gw_X12_triesAll_27 oa_N H 0 ∧ (∀ p, k ≤ p → p < 12 → H.1 60 0 p = nI (w (9 + p) - w (21 + p))) ∧ (∀ p, p < k → H.1 60 0 p = hm.1 60 0 p) ∧ (∀ t, ¬ t = 60 → H.1 t 0 = hm.1 t 0) := by
  intro m
  induction m with
  | zero =>
    intro k e hm R hk
    rw [show 0 + 1 + e = e + 1 by omega]
    have c1 : (12 : Int32) ≤ nI k := nI_le (a := 12) (by omega) (by omega)
    refine ⟨hm, fun a => ?_, ?_, fun p h1 h2 => by omega, fun p hp => rfl, fun t ht => rfl⟩
    · rw [pw_X12_triesAll_2]
      exact ⟨fun _ => a, fun z => (z c1).elim⟩
    · rw [gw_X12_triesAll_2, if_pos c1]
  | succ m ih =>
    intro k e hm R hk
    rw [show m + 1 + 1 + e = (m + 1 + e) + 1 by omega]
    have c1 : ¬ (12 : Int32) ≤ nI k := nI_ge (b := 12) (by omega) (by omega)
    have v1 : vp_in (nI k) 12 := vp_in_nI (by omega) (by omega)
    have m1 := m_free R I (show k < 12 by omega)
    obtain ⟨H, r1, r2, r3, r4, r5⟩ := ih (k + 1) e (hp_i hm 60 0 k (nI (w (9 + k) - w (21 + k)))) (R.row (by omega)) (by omega)
    rw [nI_succ] at r1 r2
    refine ⟨H, fun a => ?_, ?_, fun p h1 h2 => ?_, fun p hp => ?_, fun t ht => ?_⟩
    · rw [pw_X12_triesAll_2, m1.2, nI_clamp (show k < 2 ^ 31 by omega)]
      exact ⟨fun z => (c1 z).elim, fun _ => ⟨m1.1, v1, r1 a⟩⟩
    · rw [gw_X12_triesAll_2, if_neg c1, m1.2, nI_clamp (show k < 2 ^ 31 by omega)]
      exact r2
    · by_cases z : p = k
      · rw [r4 p (by omega), hp_i_g, if_pos z, z]
      · exact r3 p (by omega) h2
    · rw [r4 p (by omega), hp_i_g, if_neg (by omega)]
    · rw [r5 t ht, hp_i_t ht]
theorem m_tries27 : ∀ (m k e : Nat) (hm : Hp), k + m = 20 →
    ∃ H, (pw_X12_triesAll_55 oa_N H 0 → pw_X12_triesAll_27 (m + 1 + e) hm (nI k)) ∧ gw_X12_triesAll_27 (m + 1 + e) hm (nI k) = gw_X12_triesAll_55 oa_N H 0 ∧ (∀ p, k ≤ p → p < 20 → H.1 62 0 p = 0 ∧ H.1 63 0 p = -1) ∧ (∀ p, p < k → H.1 62 0 p = hm.1 62 0 p ∧ H.1 63 0 p = hm.1 63 0 p) ∧ (∀ t, ¬ t = 62 → ¬ t = 63 → H.1 t 0 = hm.1 t 0) := by
  intro m
  induction m with
  | zero =>
    intro k e hm hk
    rw [show 0 + 1 + e = e + 1 by omega]
    have c1 : (20 : Int32) ≤ nI k := nI_le (a := 20) (by omega) (by omega)
    refine ⟨hm, fun a => ?_, ?_, fun p h1 h2 => by omega, fun p hp => ⟨rfl, rfl⟩, fun t _ _ => rfl⟩
    · rw [pw_X12_triesAll_27]
      exact ⟨fun _ => a, fun z => (z c1).elim⟩
    · rw [gw_X12_triesAll_27, if_pos c1]
  | succ m ih =>
    intro k e hm hk
    rw [show m + 1 + 1 + e = (m + 1 + e) + 1 by omega]
    have c1 : ¬ (20 : Int32) ≤ nI k := nI_ge (b := 20) (by omega) (by omega)
    have v1 : vp_in (nI k) 20 := vp_in_nI (by omega) (by omega)
    obtain ⟨H, r1, r2, r3, r4, r5⟩ := ih (k + 1) e (hp_i (hp_i hm 62 0 k 0) 63 0 k (-1)) (by omega)
    rw [nI_succ] at r1 r2
    refine ⟨H, fun a => ?_, ?_, fun p h1 h2 => ?_, fun p hp => ?_, fun t h1 h2 => ?_⟩
    · rw [pw_X12_triesAll_27, nI_clamp (show k < 2 ^ 31 by omega)]
      exact ⟨fun z => (c1 z).elim, fun _ => ⟨v1, v1, r1 a⟩⟩
    · rw [gw_X12_triesAll_27, if_neg c1, nI_clamp (show k < 2 ^ 31 by omega)]
      exact r2
    · by_cases z : p = k
      · rw [(r4 p (by omega)).1, (r4 p (by omega)).2, hp_i_g, hp_i_t (show ¬ 62 = 63 by omega), hp_i_g, if_pos z, if_pos z]
        exact ⟨rfl, rfl⟩
      · exact r3 p (by omega) h2
    · rw [(r4 p (by omega)).1, (r4 p (by omega)).2, hp_i_g, hp_i_t (show ¬ 62 = 63 by omega), hp_i_g, if_neg (by omega), if_neg (by omega)]
      exact ⟨rfl, rfl⟩
    · rw [r5 t h1 h2, hp_i_t h2, hp_i_t h1]
/-- the whole allocation, both sides -/
theorem s_tries (hn : n ≤ 512) (J : IT T) (I : IW T w n) (R : RM hm T w) (C : RC h c T) (G : RG h L w) : p_X0_tryOut h c L ∧ p_X12_triesAll hm ∧ ∃ (lf gt : Nat → Nat) (fr gv : Nat → Int32), (∀ o, o < 20 → (g_X0_tryOut h c L).1 16 0 o = nI (gt o) ∧ (g_X0_tryOut h c L).1 17 0 o = fr o) ∧ (∀ r, r < 6 → (g_X0_tryOut h c L).1 18 0 r = gv r) ∧
    (∀ o, o < 20 → (g_X12_triesAll hm).1 62 0 o = nI (gt o) ∧ (g_X12_triesAll hm).1 63 0 o = fr o) ∧ (∀ r, r < T 2 → (g_X12_triesAll hm).1 64 0 r = gv r) ∧ (∀ k, ¬ k = 22 → (g_X12_triesAll hm).1 12 0 k = hm.1 12 0 k) ∧ NL T w (fun p => w (9 + p) - w (21 + p)) lf (fun _ => 0) gt := by
  have bT := J.1
  obtain ⟨b1, t, b2, b3⟩ := a_begin I C G
  obtain ⟨e2, he2⟩ := oa_fuel (show 12 < 1000000 by omega)
  obtain ⟨e7, he7⟩ := oa_fuel (show 20 < 1000000 by omega)
  obtain ⟨e5, he5⟩ := oa_fuel (show T 2 < 1000000 by omega)
  obtain ⟨H, r1, r2, r3, -, r5⟩ := m_tries2 I 12 0 e2 hm R (by omega)
  rw [← he2, nI_0] at r1 r2
  obtain ⟨K, q1, q2, q3, -, q5⟩ := m_tries27 20 0 e7 H (by omega)
  rw [← he7, nI_0] at q1 q2
  have k60 : K.1 60 0 = H.1 60 0 := q5 60 (by omega) (by omega)
  have RK : RM K T w := R.same ((q5 56 (by omega) (by omega)).trans (r5 56 (by omega))) ((q5 58 (by omega) (by omega)).trans (r5 58 (by omega)))
  have MK0 : ML K (fun p => w (9 + p) - w (21 + p)) (fun p => (K.1 61 0 p).toBitVec.toNat) (fun _ => 0) (fun _ => -1) (fun _ => 0) 0 := ⟨fun p hp => ⟨by rw [k60]; exact r3 p (by omega) hp, ob_any _⟩, fun o ho => ⟨by rw [(q3 o (by omega) ho).1]; exact nI_0.symm, (q3 o (by omega) ho).2⟩, fun r hr => by omega⟩
  have sz : ∀ m k (f : Nat → Nat), oa_sum (fun o => 0 * f o) k m = 0 := by
    intro m
    induction m with
    | zero => intro k f; rfl
    | succ m ih => intro k f; rw [oa_sum, ih]; omega
  have N0 : NL T w (fun p => w (9 + p) - w (21 + p)) (fun p => w (9 + p) - w (21 + p)) (fun _ => 0) (fun _ => 0) := ⟨fun p hp => ⟨Nat.zero_le _, by have := (I.2.1 p hp).1; show w (9 + p) - w (21 + p) < 1000000; omega⟩, fun o ho => by show 0 < 1000000; omega, fun o ho => Nat.zero_le _, fun p hp => by rw [sz]; rfl⟩
  obtain ⟨s1, s2, lf', qt', qm', gt', fr', gv', s3, s4, s5, s6⟩ := s_all (c := c) (L := L) (hm0 := hm) J I b2 (T 2) 0 e5 e5 _ K _ _ _ _ _ _ (by omega) b3 RK MK0 (fun k hk => by rw [q5 12 (by omega) (by omega), r5 12 (by omega)]) N0 (fun _ _ => rfl)
  rw [← he5, nI_0] at s1 s2 s3 s4 s5
  have gm : g_X12_triesAll hm = gw_X12_triesAll_55 oa_N K 0 := r2.trans q2
  rw [gm]
  exact ⟨⟨b1, s1⟩, r1 (q1 s2), lf', gt', fr', gv', s3.2.2.1.2.1, s3.2.2.1.2.2, s4.2.1, s4.2.2, s5, s6⟩
end QAO
