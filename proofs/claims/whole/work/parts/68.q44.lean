section RAK
variable {h hm h' hm' K : Hp} {c L : Nat} {T w w' gt : Nat → Nat} {n n' S : Nat}
theorem RW.same (A : RW h hm T w S n) (hc : ∀ t, CS t → ∀ i, h'.1 t i = h.1 t i) (hl : h'.2.1 = h.2.1) (hr : h'.2.2 = h.2.2) (hs : ∀ t, MS t → hm'.1 t 0 = hm.1 t 0) (hk : ∀ k, MK k → hm'.1 12 0 k = hm.1 12 0 k) : RW h' hm' T w S n := by
  obtain ⟨⟨J, I, R, C, G⟩, s1, s2, -⟩ := id A
  refine A.upd (Nat.le_refl _) (fun t i ht _ => hc t ht i) hl hr (fun t ht _ => hs t ht) hk I ?_ ?_ s1 ?_
  · rw [hs 58 (by unfold MS; omega)]; exact R.2
  · exact G.same (fun t ht => hc t (by unfold CS; omega) _)
  · rw [hs 58 (by unfold MS; omega)]; exact s2.same (fun t h1 h2 => hc t (by unfold CS; omega) _)
theorem s_alloc (J : IT T) : ∀ (m k e e' : Nat) (h hm : Hp) (w : Nat → Nat) (x : Int32), k + m = w 1 → RW h hm T w S n → (∀ o, o < 20 → h.1 16 0 o = nI (gt o)) → (∀ o, o < 20 → hm.1 62 0 o = nI (gt o)) → (∀ o, k ≤ o → o < w 1 → gt o ≤ oa_open w o) → (∀ p, p < T 0 → w (21 + p) + oa_sum (fun o => gt o * oa_need T (w (93 + 8 * o)) p) k m ≤ w (9 + p)) →
    pw_X11_allocate_30 (m + 1 + e) h x (nI k) ∧ pw_X12_allocate_17 (m + 1 + e') hm x (nI k) ∧ fw_X11_allocate_30 (m + 1 + e) h x (nI k) = fw_X12_allocate_17 (m + 1 + e') hm x (nI k) ∧ (∃ w', RW (gw_X11_allocate_30 (m + 1 + e) h x (nI k)) (gw_X12_allocate_17 (m + 1 + e') hm x (nI k)) T w' S n) ∧ (gw_X12_allocate_17 (m + 1 + e') hm x (nI k)).1 12 0 = hm.1 12 0 := by
  have bT := J.1
  intro m
  induction m with
  | zero =>
    intro k e e' h hm w x hk A h16 h62 hg hs
    rw [show 0 + 1 + e = e + 1 by omega, show 0 + 1 + e' = e' + 1 by omega]
    obtain ⟨J', I, R, C, G⟩ := id A.1
    have hw := I.1
    have r1 : hm.1 58 0 1 = nI (w 1) := R.2 1 (by omega) (by omega)
    have c1 : nI (w 1) ≤ nI k := nI_le (by omega) (by omega)
    refine ⟨?_, ?_, ?_, ⟨w, ?_⟩, ?_⟩
    · simp [pw_X11_allocate_30, G.1.2.1, c1]
    · simp [pw_X12_allocate_17, r1, c1]
    · rw [fw_X11_allocate_30, G.1.2.1, if_pos c1, fw_X12_allocate_17, r1, if_pos c1]
    · rw [gw_X11_allocate_30, G.1.2.1, if_pos c1, gw_X12_allocate_17, r1, if_pos c1]
      exact A
    · rw [gw_X12_allocate_17, r1, if_pos c1]
  | succ m ih =>
    intro k e e' h hm w x hk A h16 h62 hg hs
    rw [show m + 1 + 1 + e = (m + 1 + e) + 1 by omega, show m + 1 + 1 + e' = (m + 1 + e') + 1 by omega]
    obtain ⟨J', I, R, C, G⟩ := id A.1
    have hw := I.1
    have ho : k < w 1 := by omega
    have io := I.2.2.2 k ho
    have r1 : hm.1 58 0 1 = nI (w 1) := R.2 1 (by omega) (by omega)
    have c1 : ¬ nI (w 1) ≤ nI k := nI_ge (by omega) (by omega)
    have vk : vp_in (nI k) 20 := vp_in_nI (by omega) (by omega)
    have gk := hg k (Nat.le_refl _) ho
    have kp : ∀ p, p < T 0 → w (93 + 8 * k + 6) * oa_need T (w (93 + 8 * k)) p ≤ w (21 + p) := fun p hp => by
      rw [(I.2.1 p (by omega)).2.2 hp]
      exact oa_sum_ge (f := fun o => w (93 + 8 * o + 6) * oa_need T (w (93 + 8 * o)) p) (w 1) 0 (by omega) (by omega)
    have hsk : ∀ p, p < T 0 → w (21 + p) + (gt k * oa_need T (w (93 + 8 * k)) p + oa_sum (fun o => gt o * oa_need T (w (93 + 8 * o)) p) (k + 1) m) ≤ w (9 + p) := fun p hp => hs p hp
    obtain ⟨d1, d2, W, d4⟩ := A.hold (o := k) (y := w (93 + 8 * k + 6) + gt k) (x := nI (gt k)) ho (nI_add _ _) (by
      unfold oa_open at gk
      by_cases z : w (93 + 8 * k + 7) = 1
      · rw [if_pos z] at gk; omega
      · rw [if_neg z] at gk; omega) (fun z => by
      unfold oa_open at gk
      rw [if_pos z] at gk
      have := io.2.2.2.2.2.2.2.2 z
      omega) (fun p hp => by
      have := kp p hp
      have := hsk p hp
      rw [Nat.add_mul]
      omega)
    have ag : p_X0_grantOf h (nI k) ∧ f_X0_grantOf h (nI k) = nI (gt k) := by
      have in1 := a_inside h (show k < 20 by omega) (by omega)
      have e20 : nI 20 = 20 := rfl
      rw [e20] at in1
      refine ⟨?_, ?_⟩
      · simp [p_X0_grantOf, in1, vk]
      · simp [f_X0_grantOf, in1, nI_clamp (show k < 2 ^ 31 by omega), h16 k (by omega)]
    have h62k := h62 k (by omega)
    have f62 : (g_X12_holds hm (nI k) (nI (gt k))).1 62 0 = hm.1 62 0 := fr_X12_holds (by omega)
    have f16 : (g_X5_changeReserved h (h.2.2 11 0 7) (h.2.2 11 0 6) (nI k) (nI (gt k))).1 16 0 = h.1 16 0 := fr_X5_changeReserved (by omega) (by omega)
    have e1 : ob_hold T w k (w (93 + 8 * k + 6) + gt k) 1 = w 1 := ob_hold1
    obtain ⟨r2, r3, r4, r5, r6⟩ := ih (k + 1) e e' _ _ (ob_hold T w k (w (93 + 8 * k + 6) + gt k)) (x + nI (gt k)) (by rw [e1]; omega) W (fun o ho => by rw [f16]; exact h16 o ho) (fun o ho => by rw [f62]; exact h62 o ho) (fun o h1 h2 => by
      rw [e1] at h2
      have eo : oa_open (ob_hold T w k (w (93 + 8 * k + 6) + gt k)) o = oa_open w o := by
        unfold oa_open
        rw [ob_holdo (by omega) (by omega) (by omega), ob_holdo (by omega) (by omega) (by omega), ob_holdo (by omega) (by omega) (by omega), ob_holdo (by omega) (by omega) (by omega)]
      rw [eo]
      exact hg o (by omega) h2) (fun p hp => by
      have es : oa_sum (fun o => gt o * oa_need T (ob_hold T w k (w (93 + 8 * k + 6) + gt k) (93 + 8 * o)) p) (k + 1) m = oa_sum (fun o => gt o * oa_need T (w (93 + 8 * o)) p) (k + 1) m := oa_sum_congr _ _ (fun j _ _ => by rw [ob_holdo (by omega) (by omega) (by omega)])
      have e21 : ob_hold T w k (w (93 + 8 * k + 6) + gt k) (21 + p) = w (21 + p) - w (93 + 8 * k + 6) * oa_need T (w (93 + 8 * k)) p + (w (93 + 8 * k + 6) + gt k) * oa_need T (w (93 + 8 * k)) p := by
        unfold ob_hold
        rw [if_neg (by omega), if_pos (by omega), show 21 + p - 21 = p by omega]
      have e9 : ob_hold T w k (w (93 + 8 * k + 6) + gt k) (9 + p) = w (9 + p) := by
        unfold ob_hold
        rw [if_neg (by omega), if_neg (by omega)]
      rw [es, e21, e9, Nat.add_mul]
      have := kp p hp
      have := hsk p hp
      omega)
    rw [nI_succ] at r2 r3 r4 r5 r6
    have ec : gw_X11_allocate_30 ((m + 1 + e) + 1) h x (nI k) = gw_X11_allocate_30 (m + 1 + e) (g_X5_changeReserved h (h.2.2 11 0 7) (h.2.2 11 0 6) (nI k) (nI (gt k))) (x + nI (gt k)) (nI k + 1) := by
      rw [gw_X11_allocate_30, G.1.2.1, if_neg c1, ag.2]
    have em : gw_X12_allocate_17 ((m + 1 + e') + 1) hm x (nI k) = gw_X12_allocate_17 (m + 1 + e') (g_X12_holds hm (nI k) (nI (gt k))) (x + nI (gt k)) (nI k + 1) := by
      rw [gw_X12_allocate_17, r1, if_neg c1, nI_clamp (show k < 2 ^ 31 by omega), h62k, f62, h62k]
    refine ⟨?_, ?_, ?_, ?_, ?_⟩
    · rw [pw_X11_allocate_30, G.1.2.1, ag.2]
      exact ⟨fun z => (c1 z).elim, fun _ => ⟨ag.1, d1, r2⟩⟩
    · rw [pw_X12_allocate_17, r1, nI_clamp (show k < 2 ^ 31 by omega), h62k, f62, h62k]
      exact ⟨fun z => (c1 z).elim, fun _ => ⟨vk, d2, vk, r3⟩⟩
    · rw [fw_X11_allocate_30, G.1.2.1, if_neg c1, ag.2, fw_X12_allocate_17, r1, if_neg c1, nI_clamp (show k < 2 ^ 31 by omega), h62k, f62, h62k]
      exact r4
    · rw [ec, em]
      exact r5
    · rw [em, r6]
      exact d4
theorem z_allocate (hn : n < 512) (A : RA h hm n) : p_X11_allocate h ∧ p_X12_allocate hm ∧ f_X11_allocate h = f_X12_allocate hm ∧ RA (g_X11_allocate h) (g_X12_allocate hm) (n + 1) := by
  obtain ⟨T, w, S, W⟩ := RA_iff.mp A
  obtain ⟨q1, q2, W', q4⟩ := RW.record (W.thr (x := 0))
  obtain ⟨J, I, R, C, G⟩ := id W'.1
  have bT := J.1
  have hw := I.1
  have gr : (g_X3_record h (h.2.2 11 0 7)).2.2 = h.2.2 := gr_X3_record
  obtain ⟨t1, t2, lf, gt, fr, gv, s1, s2, s3, s4, s5, N⟩ := s_tries (by omega) J I R C G
  have Wt : RW (g_X0_tryOut (g_X3_record h (h.2.2 11 0 7)) ((g_X3_record h (h.2.2 11 0 7)).2.2 11 0 6) ((g_X3_record h (h.2.2 11 0 7)).2.2 11 0 7)) (g_X12_triesAll (g_X12_keeps (hp_i hm 12 0 0 0))) T w S n := by
    refine W'.same (fun t ht i => ?_) gl_X0_tryOut gr_X0_tryOut (fun t ht => ?_) (fun k hk => ?_)
    · unfold CS at ht
      exact fr_X0_tryOut (by omega) (by omega) (by omega) (by omega) (by omega) (by omega)
    · unfold MS at ht
      exact fr_X12_triesAll (by omega) (by omega) (by omega) (by omega) (by omega) (by omega)
    · unfold MK at hk
      exact s5 k (by omega)
  obtain ⟨e, he⟩ := oa_fuel (show w 1 < 1000000 by omega)
  obtain ⟨r1, r2, r3, ⟨w', r4⟩, r5⟩ := s_alloc (gt := gt) J (w 1) 0 e e _ _ w 0 (by omega) Wt (fun o ho => (s1 o ho).1) (fun o ho => (s3 o ho).1) (fun o _ ho => N.2.2.1 o ho) (fun p hp => by
    have z := N.2.2.2 p hp
    have z' : lf p + oa_sum (fun o => gt o * oa_need T (w (93 + 8 * o)) p) 0 (w 1) = w (9 + p) - w (21 + p) := z
    have := (I.2.1 p (by omega)).2.1
    omega)
  rw [← he, nI_0] at r1 r2 r3 r4 r5
  exact ⟨⟨q1, t1, r1⟩, ⟨q2, t2, r2⟩, r3, (r4.mono (n' := n + 1) (by omega)).ra⟩
end RAK
