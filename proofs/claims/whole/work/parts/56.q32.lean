section QAN
variable {h hm hm0 : Hp} {c L : Nat} {T w F t lf qt gt gt0 : Nat → Nat} {fr gv : Nat → Int32} {n r : Nat} {D : Int32}
theorem ob_quota {a s : Nat} (ha : a < 1000000) (hs : s ≤ 100) : nI a * nI s / 100 = nI (a * s / 100) ∧ a * s / 100 ≤ a := by
  have : a * s ≤ 1000000 * 100 := Nat.mul_le_mul (by omega) hs
  refine ⟨?_, ?_⟩
  · rw [oa_mul]
    exact pk_div (d := 100) (by omega) (by omega) (by omega)
  · have h2 : a * s ≤ a * 100 := Nat.mul_le_mul_left a hs
    omega
theorem a_quotas {s : Nat} (hs : s ≤ 100) (hl : ∀ p, p < 12 → lf p < 1000000) : ∀ (m k e : Nat) (h : Hp), (∀ p, p < 12 → h.1 13 0 p = nI (lf p)) → k + m = 12 →
    pw_X0_setQuotas_2 (m + 1 + e) h (nI s) (nI k) ∧ (∀ p, k ≤ p → p < 12 → (gw_X0_setQuotas_2 (m + 1 + e) h (nI s) (nI k)).1 14 0 p = nI (lf p * s / 100)) ∧ (∀ p, p < k → (gw_X0_setQuotas_2 (m + 1 + e) h (nI s) (nI k)).1 14 0 p = h.1 14 0 p) := by
  intro m
  induction m with
  | zero =>
    intro k e h hF hk
    rw [show 0 + 1 + e = e + 1 by omega]
    have c1 : (12 : Int32) ≤ nI k := nI_le (a := 12) (by omega) (by omega)
    refine ⟨?_, fun p h1 h2 => by omega, fun p hp => ?_⟩
    · simp [pw_X0_setQuotas_2, c1]
    · rw [gw_X0_setQuotas_2, if_pos c1]
  | succ m ih =>
    intro k e h hF hk
    rw [show m + 1 + 1 + e = (m + 1 + e) + 1 by omega]
    have c1 : ¬ (12 : Int32) ≤ nI k := nI_ge (b := 12) (by omega) (by omega)
    have v1 : vp_in (nI k) 12 := vp_in_nI (by omega) (by omega)
    have q := (ob_quota (hl k (by omega)) hs).1
    obtain ⟨r1, r2, r3⟩ := ih (k + 1) e (hp_i h 14 0 k (nI (lf k * s / 100))) (fun p hp => hF p hp) (by omega)
    rw [nI_succ] at r1 r2 r3
    refine ⟨?_, fun p h1 h2 => ?_, fun p hp => ?_⟩
    · simp only [pw_X0_setQuotas_2, nI_clamp (show k < 2 ^ 31 by omega), hF k (by omega), q]
      simp [c1, v1, r1]
    · rw [gw_X0_setQuotas_2, if_neg c1, nI_clamp (show k < 2 ^ 31 by omega), hF k (by omega), q]
      by_cases z : p = k
      · rw [r3 p (by omega), hp_i_g, if_pos z, z]
      · exact r2 p (by omega) h2
    · rw [gw_X0_setQuotas_2, if_neg c1, nI_clamp (show k < 2 ^ 31 by omega), hF k (by omega), q, r3 p (by omega), hp_i_g, if_neg (by omega)]
theorem m_quotas {s : Nat} (hs : s ≤ 100) (hr : r < 6) (hl : ∀ p, p < 12 → lf p < 1000000) : ∀ (m k e : Nat) (hm : Hp), RM hm T w → T (388 + 3 * r + 2) = s → (∀ p, p < 12 → hm.1 60 0 p = nI (lf p)) → k + m = 12 →
    ∃ H, ((p_X12_nextIn (hp_i (hp_i H 64 0 r 0) 12 0 22 0) (nI r) → pw_X12_triesRung_62 oa_N (hp_i (hp_i H 64 0 r 0) 12 0 22 0) (nI r) (f_X12_nextIn (hp_i (hp_i H 64 0 r 0) 12 0 22 0) (nI r)) → pw_X12_triesRung_2 (m + 1 + e) hm (nI r) (nI k)) ∧ gw_X12_triesRung_2 (m + 1 + e) hm (nI r) (nI k) = gw_X12_triesRung_62 oa_N (hp_i (hp_i H 64 0 r 0) 12 0 22 0) (nI r) (f_X12_nextIn (hp_i (hp_i H 64 0 r 0) 12 0 22 0) (nI r))) ∧
    (∀ p, k ≤ p → p < 12 → H.1 61 0 p = nI (lf p * s / 100)) ∧ (∀ p, p < k → H.1 61 0 p = hm.1 61 0 p) ∧ (∀ t, ¬ t = 61 → H.1 t 0 = hm.1 t 0) := by
  have vr : vp_in (nI r) 6 := vp_in_nI (by omega) (by omega)
  have e1 : (388 : Int32) + 3 * nI r + 2 = nI (388 + 3 * r + 2) := oa_ix3 388 3 r 2
  have v2 : vp_in (nI (388 + 3 * r + 2)) 506 := vp_in_nI (by omega) (by omega)
  intro m
  induction m with
  | zero =>
    intro k e hm R hT hF hk
    rw [show 0 + 1 + e = e + 1 by omega]
    have c1 : (12 : Int32) ≤ nI k := nI_le (a := 12) (by omega) (by omega)
    refine ⟨hm, ⟨fun a b => ?_, ?_⟩, fun p h1 h2 => by omega, fun p hp => rfl, fun t ht => rfl⟩
    · rw [pw_X12_triesRung_2, nI_clamp (show r < 2 ^ 31 by omega)]
      exact ⟨fun _ => ⟨vr, a, b⟩, fun z => (z c1).elim⟩
    · rw [gw_X12_triesRung_2, if_pos c1, nI_clamp (show r < 2 ^ 31 by omega)]
  | succ m ih =>
    intro k e hm R hT hF hk
    rw [show m + 1 + 1 + e = (m + 1 + e) + 1 by omega]
    have c1 : ¬ (12 : Int32) ≤ nI k := nI_ge (b := 12) (by omega) (by omega)
    have v1 : vp_in (nI k) 12 := vp_in_nI (by omega) (by omega)
    have q := (ob_quota (hl k (by omega)) hs).1
    have tr : hm.1 56 0 (388 + 3 * r + 2) = nI s := by rw [R.1 _ (by omega), hT]
    obtain ⟨H, ⟨r1, r0⟩, r2, r3, r4⟩ := ih (k + 1) e (hp_i hm 61 0 k (nI (lf k * s / 100))) (R.row (by omega)) hT (fun p hp => hF p hp) (by omega)
    rw [nI_succ] at r0 r1
    refine ⟨H, ⟨fun a b => ?_, ?_⟩, fun p h1 h2 => ?_, fun p hp => ?_, fun t ht => ?_⟩
    · rw [pw_X12_triesRung_2, nI_clamp (show k < 2 ^ 31 by omega), hF k (by omega), e1, nI_clamp (show 388 + 3 * r + 2 < 2 ^ 31 by omega), tr, q]
      exact ⟨fun z => (c1 z).elim, fun _ => ⟨v1, v2, v1, r1 a b⟩⟩
    · rw [gw_X12_triesRung_2, if_neg c1, nI_clamp (show k < 2 ^ 31 by omega), hF k (by omega), e1, nI_clamp (show 388 + 3 * r + 2 < 2 ^ 31 by omega), tr, q]
      exact r0
    · by_cases z : p = k
      · rw [r3 p (by omega), hp_i_g, if_pos z, z]
      · exact r2 p (by omega) h2
    · rw [r3 p (by omega), hp_i_g, if_neg (by omega)]
    · rw [r4 t ht, hp_i_t ht]
theorem a_share (J : IT T) (C : RC h c T) (hr : r < T 2) : p_X1_shareOf h c (nI r) ∧ f_X1_shareOf h c (nI r) = nI (T (388 + 3 * r + 2)) := by
  have bT := J.1
  obtain ⟨c1, c2, c3⟩ := C.2.2.2.2.2.2.1 r hr
  have ai := a_inside h hr (by omega)
  have vr : vp_in (nI r) 6 := vp_in_nI (by omega) (by omega)
  unfold p_X1_shareOf f_X1_shareOf
  simp [C.1.2.2, ai, nI_clamp (show r < 2 ^ 31 by omega), c3, vr]
/-- all rungs, both sides -/
theorem s_all (J : IT T) (I : IW T w n) (St : oa_srt w t (w 1)) : ∀ (m r e e' : Nat) (h hm : Hp) (lf qt qm gt : Nat → Nat) (fr gv : Nat → Int32), r + m = T 2 → SC h c L T w t lf qt gt fr gv → RM hm T w → ML hm lf qm gt fr gv r → (∀ k, ¬ k = 22 → hm.1 12 0 k = hm0.1 12 0 k) → NL T w F lf (fun _ => 0) gt → (∀ j, r ≤ j → gv j = 0) →
    pw_X0_tryOut_7 (m + 1 + e) h c L (nI r) ∧ pw_X12_triesAll_55 (m + 1 + e') hm (nI r) ∧ ∃ lf' qt' qm' gt' fr' gv', SC (gw_X0_tryOut_7 (m + 1 + e) h c L (nI r)) c L T w t lf' qt' gt' fr' gv' ∧ ML (gw_X12_triesAll_55 (m + 1 + e') hm (nI r)) lf' qm' gt' fr' gv' (T 2) ∧ (∀ k, ¬ k = 22 → (gw_X12_triesAll_55 (m + 1 + e') hm (nI r)).1 12 0 k = hm0.1 12 0 k) ∧ NL T w F lf' (fun _ => 0) gt' := by
  have hw := I.1.2.1
  have bT := J.1
  intro m
  induction m with
  | zero =>
    intro r e e' h hm lf qt qm gt fr gv hr C R M K N Z
    obtain rfl : r = T 2 := by omega
    rw [show 0 + 1 + e = e + 1 by omega, show 0 + 1 + e' = e' + 1 by omega]
    have r2 : hm.1 56 0 2 = nI (T 2) := R.1 2 (by omega)
    have c1 : nI (T 2) ≤ nI (T 2) := nI_le (by omega) (by omega)
    have ec : gw_X0_tryOut_7 (e + 1) h c L (nI (T 2)) = h := by rw [gw_X0_tryOut_7, C.1.1.2.2, if_pos c1]
    have em : gw_X12_triesAll_55 (e' + 1) hm (nI (T 2)) = hm := by rw [gw_X12_triesAll_55, r2, if_pos c1]
    rw [ec, em]
    refine ⟨?_, ?_, lf, qt, qm, gt, fr, gv, C, M, K, N⟩
    · simp [pw_X0_tryOut_7, C.1.1.2.2]
    · simp [pw_X12_triesAll_55, r2]
  | succ m ih =>
    intro r e e' h hm lf qt qm gt fr gv hr C R M K N Z
    rw [show m + 1 + 1 + e = (m + 1 + e) + 1 by omega, show m + 1 + 1 + e' = (m + 1 + e') + 1 by omega]
    have hr2 : r < T 2 := by omega
    have jr := J.2.2.2.2.2.2.1 r hr2
    obtain ⟨C1, C2, C3, C4⟩ := id C
    have r2 : hm.1 56 0 2 = nI (T 2) := R.1 2 (by omega)
    have c1 : ¬ nI (T 2) ≤ nI r := nI_ge (by omega) (by omega)
    have as := a_share J C1 hr2
    have ll : ∀ p, p < 12 → lf p < 1000000 := fun p hp => (N.1 p hp).2
    obtain ⟨e2, he⟩ := oa_fuel (show 12 < 1000000 by omega)
    obtain ⟨q1, q2, q3⟩ := a_quotas (s := T (388 + 3 * r + 2)) jr.2.2.2 ll 12 0 e2 h (fun p hp => (C3.1 p hp).1) (by omega)
    rw [← he, nI_0] at q1 q2 q3
    obtain ⟨H, ⟨p1, p0⟩, p2, p3, p4⟩ := m_quotas (r := r) (T := T) (w := w) jr.2.2.2 (by omega) ll 12 0 e2 hm R rfl (fun p hp => (M.1 p hp).1) (by omega)
    rw [← he, nI_0] at p0 p1
    have fq : ∀ t, ¬ t = 14 → ∀ i, (g_X0_setQuotas h (nI (T (388 + 3 * r + 2)))).1 t i = h.1 t i := fun t ht i => fr_X0_setQuotas (by omega)
    have Cq : SC (g_X0_setQuotas h (nI (T (388 + 3 * r + 2)))) c L T w t lf (fun p => lf p * T (388 + 3 * r + 2) / 100) gt fr gv := by
      refine ⟨C1.same (fun t ht i => fq t (by omega) i) gl_X0_setQuotas, C2.same (fun t ht => fq t (by omega) _), ⟨fun p hp => ⟨?_, q2 p (by omega) hp⟩, fun o ho => ?_, fun j hj => ?_⟩, fun j hj => ?_⟩
      · rw [fq 13 (by omega)]; exact (C3.1 p hp).1
      · rw [fq 16 (by omega), fq 17 (by omega)]; exact C3.2.1 o ho
      · rw [fq 18 (by omega)]; exact C3.2.2 j hj
      · rw [fq 15 (by omega)]; exact C4 j hj
    have Rq : RM (hp_i (hp_i H 64 0 r 0) 12 0 22 0) T w := by
      have R0 : RM H T w := R.same (p4 56 (by omega)) (p4 58 (by omega))
      exact (R0.row (by omega)).done
    have Mq : SM hm0 (hp_i (hp_i H 64 0 r 0) 12 0 22 0) T w lf (fun p => lf p * T (388 + 3 * r + 2) / 100) gt fr gv r 0 := by
      refine ⟨Rq, ⟨fun p hp => ⟨?_, ?_⟩, fun o ho => ⟨?_, ?_⟩, fun j hj => ?_⟩, by rw [hp_i_g, if_pos rfl], fun k hk => ?_⟩
      · rw [hp_i_t (show ¬ 60 = 12 by omega), hp_i_t (show ¬ 60 = 64 by omega), p4 60 (by omega)]; exact (M.1 p hp).1
      · rw [hp_i_t (show ¬ 61 = 12 by omega), hp_i_t (show ¬ 61 = 64 by omega)]; exact p2 p (by omega) hp
      · rw [hp_i_t (show ¬ 62 = 12 by omega), hp_i_t (show ¬ 62 = 64 by omega), p4 62 (by omega)]; exact (M.2.1 o ho).1
      · rw [hp_i_t (show ¬ 63 = 12 by omega), hp_i_t (show ¬ 63 = 64 by omega), p4 63 (by omega)]; exact (M.2.1 o ho).2
      · rw [hp_i_t (show ¬ 64 = 12 by omega), hp_i_g]
        by_cases d : j = r
        · rw [if_pos d, d, Z r (by omega)]
        · rw [if_neg d, p4 64 (by omega)]; exact M.2.2 j (by omega)
      · rw [hp_i_g, if_neg hk, hp_i_t (show ¬ 12 = 64 by omega), p4 12 (by omega)]; exact K k hk
    have Nq : NL T w F lf (fun p => lf p * T (388 + 3 * r + 2) / 100) gt := ⟨fun p hp => ⟨(ob_quota (ll p hp) jr.2.2.2).2, ll p hp⟩, N.2⟩
    obtain ⟨e3, he3⟩ := oa_fuel (show w 1 < 1000000 by omega)
    obtain ⟨s1, s2, lf', qt', gt', fr', gv', D', s3, s4, s5, s6⟩ := s_rung (gt0 := gt) J I St hr2 (w 1) 0 e3 e3 _ _ _ _ _ _ _ _ (by omega) Cq Mq Nq (fun o ho => ⟨fun z => by rw [b_0] at z; exact (Bool.false_ne_true z).elim, fun ⟨j, hj, _⟩ => by omega⟩) (fun o ho _ => rfl)
    rw [← he3, nI_0] at s1 s3
    rw [← he3] at s2 s4
    have nx := m_nextIn (gt := gt) J Rq I hr2 Mq.2.2.1 (fun o ho => ⟨(Mq.2.1.2.1 o ho).1, Nq.2.1 o ho⟩)
    have pr : p_X12_triesRung hm (nI r) := p1 nx.1 s2
    have gr : g_X12_triesRung hm (nI r) = gw_X12_triesRung_62 oa_N (hp_i (hp_i H 64 0 r 0) 12 0 22 0) (nI r) (f_X12_nextIn (hp_i (hp_i H 64 0 r 0) 12 0 22 0) (nI r)) := p0
    rw [← gr] at s4
    obtain ⟨t1, t2, t3⟩ := ih (r + 1) e e' _ _ _ _ _ _ _ _ (by omega) s3 s4.1 s4.2.1 s4.2.2.2 ⟨fun p hp => ⟨Nat.zero_le _, (s5.1 p hp).2⟩, s5.2⟩ (fun j hj => (s6 j (by omega)).trans (Z j (by omega)))
    rw [nI_succ] at t1 t2 t3
    have ec : gw_X0_tryOut_7 ((m + 1 + e) + 1) h c L (nI r) = gw_X0_tryOut_7 (m + 1 + e) (iw_h_X0_tryOut_27 oa_N (g_X0_setQuotas h (nI (T (388 + 3 * r + 2)))) c L (nI r) 0) c L (nI r + 1) := by
      rw [gw_X0_tryOut_7, C1.1.2.2, if_neg c1, as.2]
    have em : gw_X12_triesAll_55 ((m + 1 + e') + 1) hm (nI r) = gw_X12_triesAll_55 (m + 1 + e') (g_X12_triesRung hm (nI r)) (nI r + 1) := by
      rw [gw_X12_triesAll_55, r2, if_neg c1]
    rw [ec, em]
    refine ⟨?_, ?_, t3⟩
    · rw [pw_X0_tryOut_7, C1.1.2.2, as.2]
      exact ⟨fun z => (c1 z).elim, fun _ => ⟨as.1, q1, s1, t1⟩⟩
    · rw [pw_X12_triesAll_55, r2]
      exact ⟨fun z => (c1 z).elim, fun _ => ⟨pr, t2⟩⟩
end QAN
