section RNL
variable {h h' hm hm' H : Hp} {x : Nat → Nat} {t i k s c rr : Nat}
theorem ps_rung (P : PS h hm x t s) (W : IWd x t s 2) (h4 : hm.1 12 0 4 = nI s) (h13 : hm.1 12 0 13 = nI rr) (hr : rr < 6) (hc : h.1 1 (h.2.2 7 0 3) 2 = nI rr) : p_X7_readRung h ∧ p_X12_rung hm ∧ psm (g_X12_rung hm) ∧ KX hm (sm4 (g_X12_rung hm)) ∧
    ((f_X7_readRung h = 1 ∧ ∃ v1 v2 v3 s', v1 ≤ 9 ∧ v2 ≤ 9 ∧ 1 ≤ v3 ∧ v3 ≤ 100 ∧ s < s' ∧ PSE (g_X7_readRung h) (sm4 (g_X12_rung hm)) x t s' ∧
      (g_X7_readRung h).1 7 0 = h.1 7 0 ∧ (∀ k, (g_X7_readRung h).1 30 (h.2.2 7 0 3) k = if k = rr then nI v1 else h.1 30 (h.2.2 7 0 3) k) ∧ (∀ k, (g_X7_readRung h).1 31 (h.2.2 7 0 3) k = if k = rr then nI v2 else h.1 31 (h.2.2 7 0 3) k) ∧ (∀ k, (g_X7_readRung h).1 32 (h.2.2 7 0 3) k = if k = rr then nI v3 else h.1 32 (h.2.2 7 0 3) k) ∧ (∀ k, (g_X7_readRung h).1 1 (h.2.2 7 0 3) k = if k = 2 then nI (rr + 1) else h.1 1 (h.2.2 7 0 3) k) ∧
      (∀ k, (sm4 (g_X12_rung hm)).1 57 0 k = if k = 2 then nI (rr + 1) else if k = 388 + 3 * rr + 2 then nI v3 else if k = 388 + 3 * rr + 1 then nI v2 else if k = 388 + 3 * rr then nI v1 else hm.1 57 0 k) ∧ (sm4 (g_X12_rung hm)).1 12 0 13 = nI (rr + 1) ∧ (sm4 (g_X12_rung hm)).1 12 0 8 = hm.1 12 0 8) ∨ (f_X7_readRung h = 0 ∧ FB (g_X7_readRung h) (sm4 (g_X12_rung hm)))) := by
  obtain ⟨p1, p2, p3, p4, p5, -⟩ := id P
  have bt := p1.1
  have hF := m_ok p5
  have m0 : g_X12_must hm (if 6 ≤ hm.1 12 0 13 then (0 : Int32) else 1) 4 = hm := by
    rw [h13, if_neg (show ¬ (6 : Int32) ≤ nI rr from nI_ge (b := 6) hr (by omega))]
    exact m_must1 (by decide)
  have e4 : nI s + 4 = nI (s + 4) := nI_add s 4
  have g4 : (hp_i hm 12 0 4 (hm.1 12 0 4 + 4)).1 12 0 4 = nI (s + (oa_by 2).length) := by rw [hp_i_g, if_pos rfl, h4]; exact e4
  have P1 := ps_word (hm' := hp_i hm 12 0 4 (hm.1 12 0 4 + 4)) P (by decide) W g4 (by rw [hp_i_g, if_neg (by omega)]) (by rw [hp_i_g, if_neg (by omega)]) (hp_i_t (by omega))
  have s1l : s < ob_SK x t (s + (oa_by 2).length) := by
    have el := ob_ED_le (x := x) (k := 1) p3
    have l4 : (oa_by 2).length = 4 := by decide
    have := W.1
    have := (ob_SK_le (x := x) (show s + (oa_by 2).length ≤ t by omega)).1
    omega
  have k13 : (hp_i hm 12 0 4 (hm.1 12 0 4 + 4)).1 12 0 13 = nI rr := by rw [hp_i_g, if_neg (by omega)]; exact h13
  have hk57 : (hp_i hm 12 0 4 (hm.1 12 0 4 + 4)).1 57 0 = hm.1 57 0 := hp_i_t (by omega)
  have kx1 : KX hm (hp_i hm 12 0 4 (hm.1 12 0 4 + 4)) := KX.set4
  have o8 : (hp_i hm 12 0 4 (hm.1 12 0 4 + 4)).1 12 0 8 = hm.1 12 0 8 := by rw [hp_i_g, if_neg (by omega)]
  unfold p_X12_rung g_X12_rung
  rw [m0, if_pos hF]
  generalize hp_i hm 12 0 4 (hm.1 12 0 4 + 4) = k1 at *
  have i0 : (388 : Int32) + 3 * nI rr = nI (388 + 3 * rr) := by
    have : (3 : Int32) * nI rr = nI (3 * rr) := oa_mul 3 rr
    rw [this]
    exact nI_add 388 _
  have i1 : nI (388 + 3 * rr) + 1 = nI (388 + 3 * rr + 1) := nI_add _ 1
  have i2 : nI (388 + 3 * rr) + 2 = nI (388 + 3 * rr + 2) := nI_add _ 2
  have w0 : vp_in (nI (388 + 3 * rr)) 506 := vp_in_nI (by omega) (by omega)
  have w1 : vp_in (nI (388 + 3 * rr + 1)) 506 := vp_in_nI (by omega) (by omega)
  have w2 : vp_in (nI (388 + 3 * rr + 2)) 506 := vp_in_nI (by omega) (by omega)
  rw [k13, i0, i1, i2, nI_clamp (by omega), nI_clamp (by omega), nI_clamp (by omega)]
  have q1 : (g_X9_step h).1 7 0 = h.1 7 0 := fr_X9_step (by omega)
  have q2 : ∀ T j, ¬ T = 9 → (g_X9_step h).1 T j = h.1 T j := fun T j hT => fr_X9_step (by omega)
  have q3 : (g_X9_step h).2.2 = h.2.2 := gr_X9_step
  obtain ⟨pst, P1⟩ := P1
  have hm57 : k1.1 57 0 = hm.1 57 0 := hk57
  unfold p_X7_readRung f_X7_readRung g_X7_readRung
  generalize g_X9_step h = h1 at *
  generalize ob_SK x t (s + (oa_by 2).length) = s1 at *
  have N1 := ps_num P1 (lo := 0) (hi := 9) (by omega) (by omega)
  rw [show nI 0 = 0 from rfl, show nI 9 = 9 from rfl] at N1
  have nn : ¬ ¬ (-1 : Int32) = -1 := fun z => z rfl
  obtain ⟨pa, pb, N1⟩ := N1
  have f1 : ∀ T j, ¬ (T = 7 ∧ j = 0) → ¬ (T = 9 ∧ j = 0) → (g_X7_readNumber h1 0 9).1 T j = h1.1 T j := fun T j h7 h9 => fr_X7_readNumber h7 h9
  have f2 : (g_X7_readNumber h1 0 9).2.2 = h1.2.2 := gr_X7_readNumber
  have f3 : (g_X12_number k1 0 9).1 57 0 = k1.1 57 0 := fr_X12_number (by omega)
  have f4 : (g_X12_number k1 0 9).1 54 0 = k1.1 54 0 := fr_X12_number (by omega)
  rcases N1 with ⟨v1, s2, l1, u1, fa, fb, P2, K2, a7, sa⟩ | ⟨c, fa, fb, C2, F2⟩
  · have n1 := ob_m1 (s := v1) (by omega)
    rw [fa, fb, if_pos n1, if_pos n1]
    have KA := kx1.trans K2.kx
    have a13 : (g_X12_number k1 0 9).1 12 0 13 = nI rr := (K2 13 (by omega) (by omega)).trans k13
    generalize g_X7_readNumber h1 0 9 = h2 at *
    generalize g_X12_number k1 0 9 = k2 at *
    have c3 : (hp_i k2 57 0 (388 + 3 * rr) (nI v1)).1 57 0 (388 + 3 * rr) = nI v1 := hp_i_g.trans (if_pos rfl)
    rw [c3]
    have P3 := P2.set57 (j := 388 + 3 * rr) (v := nI v1)
    have b13 : (hp_i k2 57 0 (388 + 3 * rr) (nI v1)).1 12 0 13 = nI rr := by rw [hp_i_t (by omega)]; exact a13
    have b8 : (hp_i k2 57 0 (388 + 3 * rr) (nI v1)).1 12 0 8 = hm.1 12 0 8 := by rw [hp_i_t (by omega), K2 8 (by omega) (by omega)]; exact o8
    have b57 : ∀ k, (hp_i k2 57 0 (388 + 3 * rr) (nI v1)).1 57 0 k = if k = 388 + 3 * rr then nI v1 else hm.1 57 0 k := fun k => by rw [hp_i_g, f3, hm57]
    have KB := KA.trans (KX.set (hm := k2) (j := 388 + 3 * rr) (v := nI v1))
    generalize hp_i k2 57 0 (388 + 3 * rr) (nI v1) = k3 at *
    have N2 := ps_num P3 (lo := v1) (hi := 9) (by omega) (by omega)
    rw [show nI 9 = 9 from rfl] at N2
    obtain ⟨pc, pd, N2⟩ := N2
    have g1 : ∀ T j, ¬ (T = 7 ∧ j = 0) → ¬ (T = 9 ∧ j = 0) → (g_X7_readNumber h2 (nI v1) 9).1 T j = h2.1 T j := fun T j h7 h9 => fr_X7_readNumber h7 h9
    have g2 : (g_X7_readNumber h2 (nI v1) 9).2.2 = h2.2.2 := gr_X7_readNumber
    have g3 : (g_X12_number k3 (nI v1) 9).1 57 0 = k3.1 57 0 := fr_X12_number (by omega)
    have g4 : (g_X12_number k3 (nI v1) 9).1 54 0 = k3.1 54 0 := fr_X12_number (by omega)
    rcases N2 with ⟨v2, s3, l2, u2, fc, fd, P4, K4, d7, sb⟩ | ⟨c, fc, fd, C4, F4⟩
    · have n2 := ob_m1 (s := v2) (by omega)
      rw [fc, fd, if_pos n2, if_pos n2]
      have KC := KB.trans K4.kx
      have d13 : (g_X12_number k3 (nI v1) 9).1 12 0 13 = nI rr := (K4 13 (by omega) (by omega)).trans b13
      generalize g_X7_readNumber h2 (nI v1) 9 = h3 at *
      generalize g_X12_number k3 (nI v1) 9 = k4 at *
      have P5 := P4.set57 (j := 388 + 3 * rr + 1) (v := nI v2)
      have e13 : (hp_i k4 57 0 (388 + 3 * rr + 1) (nI v2)).1 12 0 13 = nI rr := by rw [hp_i_t (by omega)]; exact d13
      have e8 : (hp_i k4 57 0 (388 + 3 * rr + 1) (nI v2)).1 12 0 8 = hm.1 12 0 8 := by rw [hp_i_t (by omega), K4 8 (by omega) (by omega)]; exact b8
      have e57 : ∀ k, (hp_i k4 57 0 (388 + 3 * rr + 1) (nI v2)).1 57 0 k = if k = 388 + 3 * rr + 1 then nI v2 else if k = 388 + 3 * rr then nI v1 else hm.1 57 0 k := fun k => by rw [hp_i_g, g3, b57 k]
      have KD := KC.trans (KX.set (hm := k4) (j := 388 + 3 * rr + 1) (v := nI v2))
      generalize hp_i k4 57 0 (388 + 3 * rr + 1) (nI v2) = k5 at *
      have N3 := ps_num P5 (lo := 1) (hi := 100) (by omega) (by omega)
      rw [show nI 1 = 1 from rfl, show nI 100 = 100 from rfl] at N3
      obtain ⟨pe, pf, N3⟩ := N3
      have j1 : ∀ T j, ¬ (T = 7 ∧ j = 0) → ¬ (T = 9 ∧ j = 0) → (g_X7_readNumber h3 1 100).1 T j = h3.1 T j := fun T j h7 h9 => fr_X7_readNumber h7 h9
      have j2 : (g_X7_readNumber h3 1 100).2.2 = h3.2.2 := gr_X7_readNumber
      have j3 : (g_X12_number k5 1 100).1 57 0 = k5.1 57 0 := fr_X12_number (by omega)
      have j4 : (g_X12_number k5 1 100).1 54 0 = k5.1 54 0 := fr_X12_number (by omega)
      rcases N3 with ⟨v3, s4, l3, u3, fe, ff, P6, K6, m7, sc⟩ | ⟨c, fe, ff, C6, F6⟩
      · have n3 := ob_m1 (s := v3) (by omega)
        rw [fe, ff, if_pos n3, if_pos n3]
        have KE' := KD.trans K6.kx
        have m13 : (g_X12_number k5 1 100).1 12 0 13 = nI rr := (K6 13 (by omega) (by omega)).trans e13
        generalize g_X7_readNumber h3 1 100 = h4 at *
        generalize g_X12_number k5 1 100 = k6 at *
        have cl : ∀ T j, ¬ T = 7 → ¬ T = 9 → h4.1 T j = h.1 T j := fun T j h7 h9 => ((j1 T j (by omega) (by omega)).trans (g1 T j (by omega) (by omega))).trans ((f1 T j (by omega) (by omega)).trans (q2 T j h9))
        have cr : h4.2.2 = h.2.2 := j2.trans (g2.trans (f2.trans q3))
        have c7 : h4.1 7 0 = h.1 7 0 := m7.trans (d7.trans (a7.trans q1))
        have cc : h4.1 1 (h.2.2 7 0 3) 2 = nI rr := by rw [cl 1 _ (by omega) (by omega)]; exact hc
        have en : nI rr + 1 = nI (rr + 1) := nI_add rr 1
        have nr : ¬ (6 : Int32) ≤ nI rr := nI_ge (b := 6) hr (by omega)
        have vr : vp_in (nI rr) 6 := vp_in_nI hr (by omega)
        have ga : g_X1_addRung h4 (h.2.2 7 0 3) (nI v1) (nI v2) (nI v3) = hp_i (hp_i (hp_i (hp_i h4 30 (h.2.2 7 0 3) rr (nI v1)) 31 (h.2.2 7 0 3) rr (nI v2)) 32 (h.2.2 7 0 3) rr (nI v3)) 1 (h.2.2 7 0 3) 2 (nI (rr + 1)) := by
          unfold g_X1_addRung
          rw [cc, if_neg nr, nI_clamp (by omega), en]
        have pg : p_X1_addRung h4 (h.2.2 7 0 3) (nI v1) (nI v2) (nI v3) := by
          unfold p_X1_addRung
          rw [cc]
          exact ⟨fun z => (nr z).elim, fun _ => ⟨vr, vr, vr, trivial⟩⟩
        have kz13 : (hp_i (hp_i k6 57 0 (388 + 3 * rr + 2) (nI v3)) 12 0 13 (nI (rr + 1))).1 12 0 13 = nI (rr + 1) := hp_i_g.trans (if_pos rfl)
        rw [cr, ga, m13, en, kz13]
        have z7 : (hp_i (hp_i (hp_i (hp_i h4 30 (h.2.2 7 0 3) rr (nI v1)) 31 (h.2.2 7 0 3) rr (nI v2)) 32 (h.2.2 7 0 3) rr (nI v3)) 1 (h.2.2 7 0 3) 2 (nI (rr + 1))).1 7 0 = h.1 7 0 := by
          rw [hp_i_t (by omega), hp_i_t (by omega), hp_i_t (by omega), hp_i_t (by omega)]; exact c7
        have z30 : ∀ k, (hp_i (hp_i (hp_i (hp_i h4 30 (h.2.2 7 0 3) rr (nI v1)) 31 (h.2.2 7 0 3) rr (nI v2)) 32 (h.2.2 7 0 3) rr (nI v3)) 1 (h.2.2 7 0 3) 2 (nI (rr + 1))).1 30 (h.2.2 7 0 3) k = if k = rr then nI v1 else h.1 30 (h.2.2 7 0 3) k := fun k => by
          rw [hp_i_t (by omega), hp_i_t (by omega), hp_i_t (by omega), hp_i_g, cl 30 _ (by omega) (by omega)]
        have z31 : ∀ k, (hp_i (hp_i (hp_i (hp_i h4 30 (h.2.2 7 0 3) rr (nI v1)) 31 (h.2.2 7 0 3) rr (nI v2)) 32 (h.2.2 7 0 3) rr (nI v3)) 1 (h.2.2 7 0 3) 2 (nI (rr + 1))).1 31 (h.2.2 7 0 3) k = if k = rr then nI v2 else h.1 31 (h.2.2 7 0 3) k := fun k => by
          rw [hp_i_t (by omega), hp_i_t (by omega), hp_i_g, hp_i_t (by omega), cl 31 _ (by omega) (by omega)]
        have z32 : ∀ k, (hp_i (hp_i (hp_i (hp_i h4 30 (h.2.2 7 0 3) rr (nI v1)) 31 (h.2.2 7 0 3) rr (nI v2)) 32 (h.2.2 7 0 3) rr (nI v3)) 1 (h.2.2 7 0 3) 2 (nI (rr + 1))).1 32 (h.2.2 7 0 3) k = if k = rr then nI v3 else h.1 32 (h.2.2 7 0 3) k := fun k => by
          rw [hp_i_t (by omega), hp_i_g, hp_i_t (by omega), hp_i_t (by omega), cl 32 _ (by omega) (by omega)]
        have z1 : ∀ k, (hp_i (hp_i (hp_i (hp_i h4 30 (h.2.2 7 0 3) rr (nI v1)) 31 (h.2.2 7 0 3) rr (nI v2)) 32 (h.2.2 7 0 3) rr (nI v3)) 1 (h.2.2 7 0 3) 2 (nI (rr + 1))).1 1 (h.2.2 7 0 3) k = if k = 2 then nI (rr + 1) else h.1 1 (h.2.2 7 0 3) k := fun k => by
          rw [hp_i_g, hp_i_t (by omega), hp_i_t (by omega), hp_i_t (by omega), cl 1 _ (by omega) (by omega)]
        have zs : ∀ T, T = 4 ∨ T = 35 ∨ T = 9 → (hp_i (hp_i (hp_i (hp_i h4 30 (h.2.2 7 0 3) rr (nI v1)) 31 (h.2.2 7 0 3) rr (nI v2)) 32 (h.2.2 7 0 3) rr (nI v3)) 1 (h.2.2 7 0 3) 2 (nI (rr + 1))).1 T 0 = h4.1 T 0 := fun T hT => by
          rw [hp_i_t (by omega), hp_i_t (by omega), hp_i_t (by omega), hp_i_t (by omega)]
        have P7 := (((P6.set57 (j := 388 + 3 * rr + 2) (v := nI v3)).set13 (v := nI (rr + 1))).set57 (j := 2) (v := nI (rr + 1))).cls (zs 4 (by omega)) (zs 35 (by omega)) (zs 9 (by omega))
        have KZ := ((KE'.trans (KX.set (j := 388 + 3 * rr + 2) (v := nI v3))).trans (KX.set13 (v := nI (rr + 1)))).trans (KX.set (j := 2) (v := nI (rr + 1)))
        have y57 : ∀ k, (hp_i (hp_i (hp_i k6 57 0 (388 + 3 * rr + 2) (nI v3)) 12 0 13 (nI (rr + 1))) 57 0 2 (nI (rr + 1))).1 57 0 k = if k = 2 then nI (rr + 1) else if k = 388 + 3 * rr + 2 then nI v3 else if k = 388 + 3 * rr + 1 then nI v2 else if k = 388 + 3 * rr then nI v1 else hm.1 57 0 k := fun k => by
          rw [hp_i_g, hp_i_t (by omega), hp_i_g, j3, e57 k]
        have y13 : (hp_i (hp_i (hp_i k6 57 0 (388 + 3 * rr + 2) (nI v3)) 12 0 13 (nI (rr + 1))) 57 0 2 (nI (rr + 1))).1 12 0 13 = nI (rr + 1) := by rw [hp_i_t (by omega)]; exact kz13
        have y8 : (hp_i (hp_i (hp_i k6 57 0 (388 + 3 * rr + 2) (nI v3)) 12 0 13 (nI (rr + 1))) 57 0 2 (nI (rr + 1))).1 12 0 8 = hm.1 12 0 8 := by rw [hp_i_t (by omega), hp_i_g, if_neg (by omega), hp_i_t (by omega), K6 8 (by omega) (by omega)]; exact e8
        generalize hp_i (hp_i (hp_i (hp_i h4 30 (h.2.2 7 0 3) rr (nI v1)) 31 (h.2.2 7 0 3) rr (nI v2)) 32 (h.2.2 7 0 3) rr (nI v3)) 1 (h.2.2 7 0 3) 2 (nI (rr + 1)) = h5 at *
        generalize hp_i (hp_i (hp_i k6 57 0 (388 + 3 * rr + 2) (nI v3)) 12 0 13 (nI (rr + 1))) 57 0 2 (nI (rr + 1)) = k7 at *
        have E := ps_semi P7
        have fb01 : f_X7_readSemicolon h5 = 0 ∨ f_X7_readSemicolon h5 = 1 := by
          rcases E.2.2 with e | e
          · exact Or.inr e.1
          · exact Or.inl e.1
        refine ⟨⟨pst, pa, fun _ => ⟨pc, fun _ => ⟨pe, fun _ => ⟨pg, E.1, fb01, trivial⟩, fun z => (n3 z).elim⟩, fun z => (n2 z).elim⟩, fun z => (n1 z).elim⟩, ⟨m_pM _ _ _, m_pF _, fun _ => ⟨pb, w0, w0, pd, w1, pf, w2, trivial⟩, fun z => (z hF).elim⟩, E.2.1, ?_, ?_⟩
        · rcases E.2.2 with ⟨-, -, -, -, e⟩ | ⟨-, -, e⟩
          · exact KZ.trans e.kx
          · exact KZ.trans e
        · rcases E.2.2 with ⟨e1, e2, e3, ⟨s5, e4, e5⟩, e6⟩ | ⟨e1, e2, e3⟩
          · have st : ∀ T j, ¬ T = 9 → (g_X7_readSemicolon h5).1 T j = h5.1 T j := fun T j hT => by rw [e2]; exact fr_X9_step (by omega)
            refine Or.inl ⟨e1, v1, v2, v3, s5, u1, u2, l3, u3, by omega, e5, ?_, fun k => ?_, fun k => ?_, fun k => ?_, fun k => ?_, fun k => ?_, ?_, (e6 8 (by omega) (by omega)).trans y8⟩
            · rw [st 7 0 (by omega)]; exact z7
            · rw [st 30 _ (by omega)]; exact z30 k
            · rw [st 31 _ (by omega)]; exact z31 k
            · rw [st 32 _ (by omega)]; exact z32 k
            · rw [st 1 _ (by omega)]; exact z1 k
            · rw [fr_sm4 (by omega)]; exact y57 k
            · exact (e6 13 (by omega) (by omega)).trans y13
          · exact Or.inr ⟨e1, e2⟩
      · rw [fe, if_neg nn, if_neg nn]
        have X6 : XM (g_X12_number k5 1 100) x t := P5.2.2.2.1.same (F6.2.2.2.2 6 (by omega) (by omega) (by omega) (by omega)) j4
        have M6 := F6.mx
        have KE' := KD.trans F6.kx
        have hs1 := P5.2.2.1
        generalize g_X12_number k5 1 100 = k6 at *
        have MZ := ((M6.set (k := 388 + 3 * rr + 2) (v := f_X12_number k5 1 100)).set13 (v := k6.1 12 0 13 + 1)).set (k := 2) (v := (hp_i (hp_i k6 57 0 (388 + 3 * rr + 2) (f_X12_number k5 1 100)) 12 0 13 (k6.1 12 0 13 + 1)).1 12 0 13)
        have XZ := ((X6.set57 (k := 388 + 3 * rr + 2) (v := f_X12_number k5 1 100)).set (k := 13) (v := k6.1 12 0 13 + 1) (by omega)).set57 (k := 2) (v := (hp_i (hp_i k6 57 0 (388 + 3 * rr + 2) (f_X12_number k5 1 100)) 12 0 13 (k6.1 12 0 13 + 1)).1 12 0 13)
        have KZ := ((KE'.trans (KX.set (j := 388 + 3 * rr + 2) (v := f_X12_number k5 1 100))).trans (KX.set13 (v := k6.1 12 0 13 + 1))).trans (KX.set (j := 2) (v := (hp_i (hp_i k6 57 0 (388 + 3 * rr + 2) (f_X12_number k5 1 100)) 12 0 13 (k6.1 12 0 13 + 1)).1 12 0 13))
        have E := fb_end XZ hs1 MZ C6
        refine ⟨⟨pst, pa, fun _ => ⟨pc, fun _ => ⟨pe, fun z => (z rfl).elim, fun _ => trivial⟩, fun z => (n2 z).elim⟩, fun z => (n1 z).elim⟩, ⟨m_pM _ _ _, m_pF _, fun _ => ⟨pb, w0, w0, pd, w1, pf, w2, trivial⟩, fun z => (z hF).elim⟩, E.1, ?_, Or.inr ⟨rfl, E.2.1⟩⟩
        exact KZ.trans (fun k h4 h5 h7 h8 _ => E.2.2 k h4 h5 h7 h8)
    · rw [fc, if_neg nn, if_neg nn]
      have X4 : XM (g_X12_number k3 (nI v1) 9) x t := P3.2.2.2.1.same (F4.2.2.2.2 6 (by omega) (by omega) (by omega) (by omega)) g4
      have M4 := F4.mx
      have KC := KB.trans F4.kx
      have hs1 := P3.2.2.1
      generalize g_X12_number k3 (nI v1) 9 = k4 at *
      have M5 : MX (hp_i k4 57 0 (388 + 3 * rr + 1) (f_X12_number k3 (nI v1) 9)) t s2 c := M4.set
      have X5 : XM (hp_i k4 57 0 (388 + 3 * rr + 1) (f_X12_number k3 (nI v1) 9)) x t := X4.set57
      have KD := KC.trans (KX.set (hm := k4) (j := 388 + 3 * rr + 1) (v := f_X12_number k3 (nI v1) 9))
      generalize hp_i k4 57 0 (388 + 3 * rr + 1) (f_X12_number k3 (nI v1) 9) = k5 at *
      obtain ⟨r2, M6, K6, X6⟩ := mx_num (x := x) (a := 1) (b := 100) (v := f_X12_number k5 1 100) (j := 388 + 3 * rr + 2) (by omega) M5
      have X6 := X6 X5
      have KF := KD.trans K6
      have MZ := (M6.set13 (v := (g_X12_number k5 1 100).1 12 0 13 + 1)).set (k := 2) (v := (hp_i (hp_i (g_X12_number k5 1 100) 57 0 (388 + 3 * rr + 2) (f_X12_number k5 1 100)) 12 0 13 ((g_X12_number k5 1 100).1 12 0 13 + 1)).1 12 0 13)
      have XZ := (X6.set (k := 13) (v := (g_X12_number k5 1 100).1 12 0 13 + 1) (by omega)).set57 (k := 2) (v := (hp_i (hp_i (g_X12_number k5 1 100) 57 0 (388 + 3 * rr + 2) (f_X12_number k5 1 100)) 12 0 13 ((g_X12_number k5 1 100).1 12 0 13 + 1)).1 12 0 13)
      have KZ := (KF.trans (KX.set13 (v := (g_X12_number k5 1 100).1 12 0 13 + 1))).trans (KX.set (j := 2) (v := (hp_i (hp_i (g_X12_number k5 1 100) 57 0 (388 + 3 * rr + 2) (f_X12_number k5 1 100)) 12 0 13 ((g_X12_number k5 1 100).1 12 0 13 + 1)).1 12 0 13))
      have E := fb_end XZ hs1 MZ C4
      refine ⟨⟨pst, pa, fun _ => ⟨pc, fun z => (z rfl).elim, fun _ => trivial⟩, fun z => (n1 z).elim⟩, ⟨m_pM _ _ _, m_pF _, fun _ => ⟨pb, w0, w0, pd, w1, r2, w2, trivial⟩, fun z => (z hF).elim⟩, E.1, ?_, Or.inr ⟨rfl, E.2.1⟩⟩
      exact KZ.trans (fun k h4 h5 h7 h8 _ => E.2.2 k h4 h5 h7 h8)
  · rw [fa, if_neg nn, if_neg nn]
    have X2 : XM (g_X12_number k1 0 9) x t := P1.2.2.2.1.same (F2.2.2.2.2 6 (by omega) (by omega) (by omega) (by omega)) f4
    have M2 := F2.mx
    have KA := kx1.trans F2.kx
    generalize g_X12_number k1 0 9 = k2 at *
    have hs1 := P1.2.2.1
    have M3 : MX (hp_i k2 57 0 (388 + 3 * rr) (f_X12_number k1 0 9)) t s1 c := M2.set
    have X3 : XM (hp_i k2 57 0 (388 + 3 * rr) (f_X12_number k1 0 9)) x t := X2.set57
    have KB := KA.trans (KX.set (hm := k2) (j := 388 + 3 * rr) (v := f_X12_number k1 0 9))
    generalize hp_i k2 57 0 (388 + 3 * rr) (f_X12_number k1 0 9) = k3 at *
    obtain ⟨r1, M4, K4, X4⟩ := mx_num (x := x) (a := k3.1 57 0 (388 + 3 * rr)) (b := 9) (v := f_X12_number k3 (k3.1 57 0 (388 + 3 * rr)) 9) (j := 388 + 3 * rr + 1) (by omega) M3
    have X4 := X4 X3
    have KC := KB.trans K4
    generalize hp_i (g_X12_number k3 (k3.1 57 0 (388 + 3 * rr)) 9) 57 0 (388 + 3 * rr + 1) (f_X12_number k3 (k3.1 57 0 (388 + 3 * rr)) 9) = k4 at *
    obtain ⟨r2, M5, K5, X5⟩ := mx_num (x := x) (a := 1) (b := 100) (v := f_X12_number k4 1 100) (j := 388 + 3 * rr + 2) (by omega) M4
    have X5 := X5 X4
    have KD := KC.trans K5
    have MZ := (M5.set13 (v := (g_X12_number k4 1 100).1 12 0 13 + 1)).set (k := 2) (v := (hp_i (hp_i (g_X12_number k4 1 100) 57 0 (388 + 3 * rr + 2) (f_X12_number k4 1 100)) 12 0 13 ((g_X12_number k4 1 100).1 12 0 13 + 1)).1 12 0 13)
    have XZ := (X5.set (k := 13) (v := (g_X12_number k4 1 100).1 12 0 13 + 1) (by omega)).set57 (k := 2) (v := (hp_i (hp_i (g_X12_number k4 1 100) 57 0 (388 + 3 * rr + 2) (f_X12_number k4 1 100)) 12 0 13 ((g_X12_number k4 1 100).1 12 0 13 + 1)).1 12 0 13)
    have KZ := (KD.trans (KX.set13 (v := (g_X12_number k4 1 100).1 12 0 13 + 1))).trans (KX.set (j := 2) (v := (hp_i (hp_i (g_X12_number k4 1 100) 57 0 (388 + 3 * rr + 2) (f_X12_number k4 1 100)) 12 0 13 ((g_X12_number k4 1 100).1 12 0 13 + 1)).1 12 0 13))
    have E := fb_end XZ hs1 MZ C2
    refine ⟨⟨pst, pa, fun z => (z rfl).elim, fun _ => trivial⟩, ⟨m_pM _ _ _, m_pF _, fun _ => ⟨pb, w0, w0, r1, w1, r2, w2, trivial⟩, fun z => (z hF).elim⟩, E.1, ?_, Or.inr ⟨rfl, E.2.1⟩⟩
    exact KZ.trans (fun k h4 h5 h7 h8 _ => E.2.2 k h4 h5 h7 h8)
end RNL
