/-! load: slot 8 of the model (kind of error) stays through right lines: the same texts as before, of slot 8 in place of 13 -/
section EIG
variable {h h' hm hm' H : Hp} {x : Nat → Nat} {t i k s c : Nat} {T : Nat → Nat}
theorem ps_part8 (P : PS h hm x t s) (W : IWd x t s 0) (h4 : hm.1 12 0 4 = nI s) (R : RD hm T) (U : UN T) (hT : ∀ k, k < 160 → T (4 + k) < 128) (h0 : T 0 < 12) (hT1 : T 1 ≤ 8) (e0 : h.1 1 (h.2.2 7 0 3) 0 = nI (T 0)) (e1 : h.1 1 (h.2.2 7 0 3) 1 = nI (T 1)) (hn0 : ∀ p, p < T 0 → h.2.1 19 (h.2.2 7 0 3) p = oa_nm T p) (hn1 : ∀ p, p < T 1 → h.2.1 21 (h.2.2 7 0 3) p = oa_nm T (12 + p)) : p_X7_readPart h ∧ p_X12_part hm ∧ psm (g_X12_part hm) ∧ KX hm (sm4 (g_X12_part hm)) ∧
    ((f_X7_readPart h = 1 ∧ ∃ v1 v2 s0 s', v1 ≤ 9999 ∧ 1 ≤ v2 ∧ v2 ≤ 60 ∧ s < s' ∧ s0 ≤ t ∧ NS x t s0 ∧ (∀ q, VK T q → ¬ MT T x s0 (ob_ED x t 1 s0 - s0) q) ∧ PSE (g_X7_readPart h) (sm4 (g_X12_part hm)) x t s' ∧
      (g_X7_readPart h).1 7 0 = h.1 7 0 ∧ (∀ k, (g_X7_readPart h).1 48 (h.2.2 7 0 4) k = if k = T 0 then nI v1 else h.1 48 (h.2.2 7 0 4) k) ∧ (∀ k, (g_X7_readPart h).1 20 (h.2.2 7 0 3) k = if k = T 0 then nI v2 else h.1 20 (h.2.2 7 0 3) k) ∧ (∀ k, (g_X7_readPart h).1 1 (h.2.2 7 0 3) k = if k = 0 then nI (T 0 + 1) else h.1 1 (h.2.2 7 0 3) k) ∧
      (g_X7_readPart h).2.1 = (hp_l h 19 (h.2.2 7 0 3) (T 0) (ob_pk (ob_pl x s0 (ob_ED x t 1 s0 - s0)))).2.1 ∧
      (∀ k, (sm4 (g_X12_part hm)).1 57 0 k = if k = 0 then nI (T 0 + 1) else if k = 176 + T 0 then nI v2 else if k = 164 + T 0 then nI v1 else if 4 + 8 * T 0 ≤ k ∧ k < 4 + 8 * T 0 + 8 then nI (if k - (4 + 8 * T 0) < ob_ED x t 1 s0 - s0 then x (s0 + (k - (4 + 8 * T 0))) else 0) else hm.1 57 0 k) ∧ (sm4 (g_X12_part hm)).1 12 0 8 = hm.1 12 0 8) ∨ (f_X7_readPart h = 0 ∧ FB (g_X7_readPart h) (sm4 (g_X12_part hm)))) := by
  obtain ⟨p1, p2, p3, p4, p5, -⟩ := id P
  have bt := p1.1
  have hF := m_ok p5
  have r0 := R 0 (by omega)
  have m0 : g_X12_must hm (if 12 ≤ nI (T 0) then (0 : Int32) else 1) 4 = hm := by
    rw [if_neg (show ¬ (12 : Int32) ≤ nI (T 0) from nI_ge (b := 12) h0 (by omega))]
    exact m_must1 (by decide)
  have e4 : nI s + 4 = nI (s + 4) := nI_add s 4
  have g4 : (hp_i hm 12 0 4 (hm.1 12 0 4 + 4)).1 12 0 4 = nI (s + (oa_by 0).length) := by rw [hp_i_g, if_pos rfl, h4]; exact e4
  have P1 := ps_word (hm' := hp_i hm 12 0 4 (hm.1 12 0 4 + 4)) P (by decide) W g4 (by rw [hp_i_g, if_neg (by omega)]) (by rw [hp_i_g, if_neg (by omega)]) (hp_i_t (by omega))
  have s1l : s < ob_SK x t (s + (oa_by 0).length) := by
    have el := ob_ED_le (x := x) (k := 1) p3
    have l4 : (oa_by 0).length = 4 := by decide
    have := W.1
    have := (ob_SK_le (x := x) (show s + (oa_by 0).length ≤ t by omega)).1
    omega
  have hk57 : (hp_i hm 12 0 4 (hm.1 12 0 4 + 4)).1 57 0 = hm.1 57 0 := hp_i_t (by omega)
  have k13 : (hp_i hm 12 0 4 (hm.1 12 0 4 + 4)).1 12 0 8 = hm.1 12 0 8 := by rw [hp_i_g, if_neg (by omega)]
  have kx1 : KX hm (hp_i hm 12 0 4 (hm.1 12 0 4 + 4)) := KX.set4
  have i1 : (164 : Int32) + nI (T 0) = nI (164 + T 0) := nI_add 164 _
  have i2 : (176 : Int32) + nI (T 0) = nI (176 + T 0) := nI_add 176 _
  have w1 : vp_in (nI (164 + T 0)) 506 := vp_in_nI (by omega) (by omega)
  have w2 : vp_in (nI (176 + T 0)) 506 := vp_in_nI (by omega) (by omega)
  unfold p_X12_part g_X12_part
  rw [r0, m0, if_pos hF, i1, i2, nI_clamp (by omega), nI_clamp (by omega)]
  generalize hp_i hm 12 0 4 (hm.1 12 0 4 + 4) = k1 at *
  have q1 : (g_X9_step h).1 7 0 = h.1 7 0 := fr_X9_step (by omega)
  have q2 : ∀ T j, ¬ T = 9 → (g_X9_step h).1 T j = h.1 T j := fun T j hT => fr_X9_step (by omega)
  have q3 : (g_X9_step h).2.2 = h.2.2 := gr_X9_step
  have q4 : (g_X9_step h).2.1 = h.2.1 := gl_X9_step
  obtain ⟨pst, P1⟩ := P1
  unfold p_X7_readPart f_X7_readPart g_X7_readPart
  generalize g_X9_step h = h1 at *
  generalize ob_SK x t (s + (oa_by 0).length) = s1 at *
  have hs1 := P1.2.2.1
  have R1 : RD k1 T := R.same hk57
  have NN := ps_newName (k := T 0) P1 R1 U hT (by omega) hT1 (by rw [q3, q2 1 _ (by omega)]; exact e0) (by rw [q3, q2 1 _ (by omega)]; exact e1) (fun p hp => by rw [q3, q4]; exact hn0 p hp) (fun p hp => by rw [q3, q4]; exact hn1 p hp) (by omega)
  obtain ⟨na, nb, NN⟩ := NN
  rcases NN with ⟨ff, gg, N, no, pn, fn, H0, ke, kt, rn⟩ | ⟨ff, c, FCc, MFc⟩
  · have n10 : ¬ (1 : Int32) = 0 := by decide
    have nn : ¬ ¬ (-1 : Int32) = -1 := fun z => z rfl
    have te := ob_run hs1 N.1 (Or.inl rfl)
    have el := ob_ED_le (x := x) (k := 1) hs1
    have k24 : (g_X12_newName k1 (nI (T 0))).1 12 0 4 = nI (ob_ED x t 1 s1) := by rw [rn.2.1]; congr 1; omega
    have k2k : ∀ k, ¬ k = 4 → ¬ k = 5 → (g_X12_newName k1 (nI (T 0))).1 12 0 k = k1.1 12 0 k := fun k h4 h5 => (rn.2.2.1 k h4).trans (ke k h4 h5)
    have P2 := ps_step P1 te.1 k24 (k2k 6 (by omega) (by omega)) (k2k 7 (by omega) (by omega)) (fr_X12_newName (by omega) (by omega))
    have k2x : KX k1 (g_X12_newName k1 (nI (T 0))) := fun k h4 h5 _ _ _ => k2k k h4 h5
    have KA := kx1.trans k2x
    have a13 : (g_X12_newName k1 (nI (T 0))).1 12 0 8 = hm.1 12 0 8 := (k2k 8 (by omega) (by omega)).trans k13
    have a57 : ∀ q, (g_X12_newName k1 (nI (T 0))).1 57 0 q = if 4 + 8 * T 0 ≤ q ∧ q < 4 + 8 * T 0 + 8 then nI (if q - (4 + 8 * T 0) < ob_ED x t 1 s1 - s1 then x (s1 + (q - (4 + 8 * T 0))) else 0) else hm.1 57 0 q := fun q => by
      rw [rn.1 q, kt 57 0 (by omega), hk57]
      rfl
    have b1 : (g_X9_step h1).1 7 0 = h1.1 7 0 := fr_X9_step (by omega)
    have b2 : ∀ T j, ¬ T = 9 → (g_X9_step h1).1 T j = h1.1 T j := fun T j hT => fr_X9_step (by omega)
    have b3 : (g_X9_step h1).2.2 = h1.2.2 := gr_X9_step
    have b4 : (g_X9_step h1).2.1 = h1.2.1 := gl_X9_step
    have s2l : s1 ≤ ob_SK x t (ob_ED x t 1 s1) := by have := (ob_SK_le (x := x) el.2).1; omega
    rw [ff, if_pos n10, if_pos n10, gg, fn]
    obtain ⟨ps2, P2⟩ := P2
    generalize g_X9_step h1 = h2 at *
    generalize g_X12_newName k1 (nI (T 0)) = k2 at *
    generalize ob_SK x t (ob_ED x t 1 s1) = s2 at *
    have N1 := ps_num P2 (lo := 0) (hi := 9999) (by omega) (by omega)
    rw [show nI 0 = 0 from rfl, show nI 9999 = 9999 from rfl] at N1
    obtain ⟨pa, pb, N1⟩ := N1
    have f1 : ∀ T j, ¬ (T = 7 ∧ j = 0) → ¬ (T = 9 ∧ j = 0) → (g_X7_readNumber h2 0 9999).1 T j = h2.1 T j := fun T j h7 h9 => fr_X7_readNumber h7 h9
    have f2 : (g_X7_readNumber h2 0 9999).2.2 = h2.2.2 := gr_X7_readNumber
    have f2' : (g_X7_readNumber h2 0 9999).2.1 = h2.2.1 := gl_X7_readNumber
    have f3 : (g_X12_number k2 0 9999).1 57 0 = k2.1 57 0 := fr_X12_number (by omega)
    have f4 : (g_X12_number k2 0 9999).1 54 0 = k2.1 54 0 := fr_X12_number (by omega)
    rcases N1 with ⟨v1, s3, l1, u1, fa, fb, P3, K3, c7, sa⟩ | ⟨c, fa, fb, C3, F3⟩
    · have n1 := ob_m1 (s := v1) (by omega)
      rw [fa, fb, if_pos n1, if_pos n1]
      have KB := KA.trans K3.kx
      have c13 : (g_X12_number k2 0 9999).1 12 0 8 = hm.1 12 0 8 := (K3 8 (by omega) (by omega)).trans a13
      generalize g_X7_readNumber h2 0 9999 = h3 at *
      generalize g_X12_number k2 0 9999 = k3 at *
      have P4 := P3.set57 (j := 164 + T 0) (v := nI v1)
      have d13 : (hp_i k3 57 0 (164 + T 0) (nI v1)).1 12 0 8 = hm.1 12 0 8 := by rw [hp_i_t (by omega)]; exact c13
      have d57 : ∀ q, (hp_i k3 57 0 (164 + T 0) (nI v1)).1 57 0 q = if q = 164 + T 0 then nI v1 else k2.1 57 0 q := fun q => by rw [hp_i_g, f3]
      have KC := KB.trans (KX.set (hm := k3) (j := 164 + T 0) (v := nI v1))
      generalize hp_i k3 57 0 (164 + T 0) (nI v1) = k4 at *
      have N2 := ps_num P4 (lo := 1) (hi := 60) (by omega) (by omega)
      rw [show nI 1 = 1 from rfl, show nI 60 = 60 from rfl] at N2
      obtain ⟨pc, pd, N2⟩ := N2
      have g1 : ∀ T j, ¬ (T = 7 ∧ j = 0) → ¬ (T = 9 ∧ j = 0) → (g_X7_readNumber h3 1 60).1 T j = h3.1 T j := fun T j h7 h9 => fr_X7_readNumber h7 h9
      have g2 : (g_X7_readNumber h3 1 60).2.2 = h3.2.2 := gr_X7_readNumber
      have g2' : (g_X7_readNumber h3 1 60).2.1 = h3.2.1 := gl_X7_readNumber
      have g3 : (g_X12_number k4 1 60).1 57 0 = k4.1 57 0 := fr_X12_number (by omega)
      have g4' : (g_X12_number k4 1 60).1 54 0 = k4.1 54 0 := fr_X12_number (by omega)
      rcases N2 with ⟨v2, s4, l2, u2, fc, fd, P5, K5, d7, sb⟩ | ⟨c, fc, fd, C5, F5⟩
      · have n2 := ob_m1 (s := v2) (by omega)
        rw [fc, fd, if_pos n2, if_pos n2]
        have KD := KC.trans K5.kx
        have e13 : (g_X12_number k4 1 60).1 12 0 8 = hm.1 12 0 8 := (K5 8 (by omega) (by omega)).trans d13
        generalize g_X7_readNumber h3 1 60 = h4 at *
        generalize g_X12_number k4 1 60 = k5 at *
        have cl : ∀ T j, ¬ T = 7 → ¬ T = 9 → h4.1 T j = h.1 T j := fun T j h7 h9 => ((g1 T j (by omega) (by omega)).trans (f1 T j (by omega) (by omega))).trans ((b2 T j h9).trans (q2 T j h9))
        have cr : h4.2.2 = h.2.2 := g2.trans (f2.trans (b3.trans q3))
        have cg : h4.2.1 = h.2.1 := g2'.trans (f2'.trans (b4.trans q4))
        have cs : h4.1 7 0 = h.1 7 0 := d7.trans (c7.trans (b1.trans q1))
        have cc : h4.1 1 (h.2.2 7 0 3) 0 = nI (T 0) := by rw [cl 1 _ (by omega) (by omega)]; exact e0
        have en : nI (T 0) + 1 = nI (T 0 + 1) := nI_add (T 0) 1
        have nr : ¬ (12 : Int32) ≤ nI (T 0) := nI_ge (b := 12) h0 (by omega)
        have vr : vp_in (nI (T 0)) 12 := vp_in_nI h0 (by omega)
        have in1 := a_inside h4 (k := T 0) (N := 12) h0 (by omega)
        rw [show nI 12 = 12 from rfl] at in1
        have gs : g_X10_setStock h4 (h.2.2 7 0 4) (nI (T 0)) (nI v1) = hp_i h4 48 (h.2.2 7 0 4) (T 0) (nI v1) := by
          unfold g_X10_setStock
          rw [in1.2, if_neg (by decide), nI_clamp (by omega)]
        have pg : p_X10_setStock h4 (h.2.2 7 0 4) (nI (T 0)) (nI v1) := by
          unfold p_X10_setStock
          exact ⟨in1.1, fun _ => trivial, fun _ => ⟨vr, trivial⟩⟩
        rw [cr, cc, gs]
        have c5 : (hp_i h4 48 (h.2.2 7 0 4) (T 0) (nI v1)).1 1 (h.2.2 7 0 3) 0 = nI (T 0) := by rw [hp_i_t (by omega)]; exact cc
        have r5 : (hp_i h4 48 (h.2.2 7 0 4) (T 0) (nI v1)).2.2 = h.2.2 := cr
        obtain ⟨nm, hnm⟩ : ∃ nm, nm = ob_pk (ob_pl x s1 (ob_ED x t 1 s1 - s1)) := ⟨_, rfl⟩
        rw [← hnm]
        have ga : g_X1_addPart (hp_i h4 48 (h.2.2 7 0 4) (T 0) (nI v1)) (h.2.2 7 0 3) nm (nI v2) = hp_i (hp_i (hp_l (hp_i h4 48 (h.2.2 7 0 4) (T 0) (nI v1)) 19 (h.2.2 7 0 3) (T 0) nm) 20 (h.2.2 7 0 3) (T 0) (nI v2)) 1 (h.2.2 7 0 3) 0 (nI (T 0 + 1)) := by
          unfold g_X1_addPart
          rw [c5, if_neg nr, nI_clamp (by omega), en]
        have pp : p_X1_addPart (hp_i h4 48 (h.2.2 7 0 4) (T 0) (nI v1)) (h.2.2 7 0 3) nm (nI v2) := by
          unfold p_X1_addPart
          rw [c5]
          exact ⟨fun z => (nr z).elim, fun _ => ⟨vr, vr, trivial⟩⟩
        rw [r5, ga]
        have zs : ∀ T' j, ¬ T' = 48 → ¬ T' = 20 → ¬ T' = 1 → (hp_i (hp_i (hp_l (hp_i h4 48 (h.2.2 7 0 4) (T 0) (nI v1)) 19 (h.2.2 7 0 3) (T 0) nm) 20 (h.2.2 7 0 3) (T 0) (nI v2)) 1 (h.2.2 7 0 3) 0 (nI (T 0 + 1))).1 T' j = h4.1 T' j := fun T' j y1 y2 y3 => by
          rw [hp_i_t y3, hp_i_t y2, hp_l_f, hp_i_t y1]
        have z48 : ∀ k, (hp_i (hp_i (hp_l (hp_i h4 48 (h.2.2 7 0 4) (T 0) (nI v1)) 19 (h.2.2 7 0 3) (T 0) nm) 20 (h.2.2 7 0 3) (T 0) (nI v2)) 1 (h.2.2 7 0 3) 0 (nI (T 0 + 1))).1 48 (h.2.2 7 0 4) k = if k = T 0 then nI v1 else h.1 48 (h.2.2 7 0 4) k := fun k => by
          rw [hp_i_t (by omega), hp_i_t (by omega), hp_l_f, hp_i_g, cl 48 _ (by omega) (by omega)]
        have z20 : ∀ k, (hp_i (hp_i (hp_l (hp_i h4 48 (h.2.2 7 0 4) (T 0) (nI v1)) 19 (h.2.2 7 0 3) (T 0) nm) 20 (h.2.2 7 0 3) (T 0) (nI v2)) 1 (h.2.2 7 0 3) 0 (nI (T 0 + 1))).1 20 (h.2.2 7 0 3) k = if k = T 0 then nI v2 else h.1 20 (h.2.2 7 0 3) k := fun k => by
          rw [hp_i_t (by omega), hp_i_g, hp_l_f, hp_i_t (by omega), cl 20 _ (by omega) (by omega)]
        have z1 : ∀ k, (hp_i (hp_i (hp_l (hp_i h4 48 (h.2.2 7 0 4) (T 0) (nI v1)) 19 (h.2.2 7 0 3) (T 0) nm) 20 (h.2.2 7 0 3) (T 0) (nI v2)) 1 (h.2.2 7 0 3) 0 (nI (T 0 + 1))).1 1 (h.2.2 7 0 3) k = if k = 0 then nI (T 0 + 1) else h.1 1 (h.2.2 7 0 3) k := fun k => by
          rw [hp_i_g, hp_i_t (by omega), hp_l_f, hp_i_t (by omega), cl 1 _ (by omega) (by omega)]
        have zl : (hp_i (hp_i (hp_l (hp_i h4 48 (h.2.2 7 0 4) (T 0) (nI v1)) 19 (h.2.2 7 0 3) (T 0) nm) 20 (h.2.2 7 0 3) (T 0) (nI v2)) 1 (h.2.2 7 0 3) 0 (nI (T 0 + 1))).2.1 = (hp_l h 19 (h.2.2 7 0 3) (T 0) nm).2.1 := by
          rw [hp_i_21, hp_i_21]
          unfold hp_l hp_b
          simp only [hp_i_21, cg]
        have m57 : ∀ k, (hp_i k5 57 0 (176 + T 0) (nI v2)).1 57 0 k = if k = 176 + T 0 then nI v2 else if k = 164 + T 0 then nI v1 else k2.1 57 0 k := fun k => by rw [hp_i_g, g3, d57 k]
        have m0' : (hp_i k5 57 0 (176 + T 0) (nI v2)).1 57 0 0 = nI (T 0) := by
          rw [m57 0, if_neg (by omega), if_neg (by omega), a57 0, if_neg (by omega)]
          exact r0
        rw [m0', en]
        have P7 := ((P5.set57 (j := 176 + T 0) (v := nI v2)).set57 (j := 0) (v := nI (T 0 + 1))).cls (zs 4 0 (by omega) (by omega) (by omega)) (zs 35 0 (by omega) (by omega) (by omega)) (zs 9 0 (by omega) (by omega) (by omega))
        have z7 := (zs 7 0 (by omega) (by omega) (by omega)).trans cs
        have KZ := (KD.trans (KX.set (j := 176 + T 0) (v := nI v2))).trans (KX.set (j := 0) (v := nI (T 0 + 1)))
        have y57 : ∀ k, (hp_i (hp_i k5 57 0 (176 + T 0) (nI v2)) 57 0 0 (nI (T 0 + 1))).1 57 0 k = if k = 0 then nI (T 0 + 1) else if k = 176 + T 0 then nI v2 else if k = 164 + T 0 then nI v1 else k2.1 57 0 k := fun k => by
          rw [hp_i_g, m57 k]
        have y13 : (hp_i (hp_i k5 57 0 (176 + T 0) (nI v2)) 57 0 0 (nI (T 0 + 1))).1 12 0 8 = hm.1 12 0 8 := by rw [hp_i_t (by omega), hp_i_t (by omega)]; exact e13
        generalize hp_i (hp_i (hp_l (hp_i h4 48 (h.2.2 7 0 4) (T 0) (nI v1)) 19 (h.2.2 7 0 3) (T 0) nm) 20 (h.2.2 7 0 3) (T 0) (nI v2)) 1 (h.2.2 7 0 3) 0 (nI (T 0 + 1)) = h5 at *
        generalize hp_i (hp_i k5 57 0 (176 + T 0) (nI v2)) 57 0 0 (nI (T 0 + 1)) = k7 at *
        have E := ps_semi P7
        have fb01 : f_X7_readSemicolon h5 = 0 ∨ f_X7_readSemicolon h5 = 1 := by
          rcases E.2.2 with e | e
          · exact Or.inr e.1
          · exact Or.inl e.1
        refine ⟨⟨pst, na, fun _ => ⟨pn, ps2, pa, fun _ => ⟨pc, fun _ => ⟨pg, pp, E.1, fb01, trivial⟩, fun z => (n2 z).elim⟩, fun z => (n1 z).elim⟩, fun z => (n10 z).elim⟩, ⟨m_pM _ _ _, m_pF _, fun _ => ⟨nb, pb, w1, pd, w2, trivial⟩, fun z => (z hF).elim⟩, E.2.1, ?_, ?_⟩
        · rcases E.2.2 with ⟨-, -, -, -, e⟩ | ⟨-, -, e⟩
          · exact KZ.trans e.kx
          · exact KZ.trans e
        · rcases E.2.2 with ⟨y1, y2, y3, ⟨s5, y4, y5⟩, y6⟩ | ⟨y1, y2, y3⟩
          · have st : ∀ T j, ¬ T = 9 → (g_X7_readSemicolon h5).1 T j = h5.1 T j := fun T j hT => by rw [y2]; exact fr_X9_step (by omega)
            refine Or.inl ⟨y1, v1, v2, s1, s5, u1, l2, u2, by omega, hs1, N, no, y5, ?_, fun k => ?_, fun k => ?_, fun k => ?_, ?_, fun k => ?_, ?_⟩
            · rw [st 7 0 (by omega)]; exact z7
            · rw [st 48 _ (by omega)]; exact z48 k
            · rw [st 20 _ (by omega)]; exact z20 k
            · rw [st 1 _ (by omega)]; exact z1 k
            · rw [y2, gl_X9_step, zl, hnm]
            · rw [fr_sm4 (by omega), y57 k, a57 k]
            · exact (y6 8 (by omega) (by omega)).trans y13
          · exact Or.inr ⟨y1, y2⟩
      · rw [fc, if_neg nn, if_neg nn]
        have X5 : XM (g_X12_number k4 1 60) x t := P4.num4.same (F5.2.2.2.2 6 (by omega) (by omega) (by omega) (by omega)) g4'
        have M5 := F5.mx
        have KD := KC.trans F5.kx
        have hs4 := P4.2.2.1
        generalize g_X12_number k4 1 60 = k5 at *
        have E := fb_end (((X5.set57 (k := 176 + T 0) (v := f_X12_number k4 1 60))).set57 (k := 0) (v := (hp_i k5 57 0 (176 + T 0) (f_X12_number k4 1 60)).1 57 0 0 + 1)) hs4 M5.set.set C5
        refine ⟨⟨pst, na, fun _ => ⟨pn, ps2, pa, fun _ => ⟨pc, fun z => (z rfl).elim, fun _ => trivial⟩, fun z => (n1 z).elim⟩, fun z => (n10 z).elim⟩, ⟨m_pM _ _ _, m_pF _, fun _ => ⟨nb, pb, w1, pd, w2, trivial⟩, fun z => (z hF).elim⟩, E.1, ?_, Or.inr ⟨rfl, E.2.1⟩⟩
        exact ((KD.trans KX.set).trans KX.set).trans (fun k h4 h5 h7 h8 _ => E.2.2 k h4 h5 h7 h8)
    · rw [fa, if_neg nn, if_neg nn]
      have X3 : XM (g_X12_number k2 0 9999) x t := P2.num4.same (F3.2.2.2.2 6 (by omega) (by omega) (by omega) (by omega)) f4
      have M3 := F3.mx
      have KB := KA.trans F3.kx
      have hs3 := P2.2.2.1
      generalize g_X12_number k2 0 9999 = k3 at *
      have KC := KB.trans (KX.set (hm := k3) (j := 164 + T 0) (v := f_X12_number k2 0 9999))
      have M4 : MX (hp_i k3 57 0 (164 + T 0) (f_X12_number k2 0 9999)) t s2 c := M3.set
      have X4 : XM (hp_i k3 57 0 (164 + T 0) (f_X12_number k2 0 9999)) x t := X3.set57
      generalize hp_i k3 57 0 (164 + T 0) (f_X12_number k2 0 9999) = k4 at *
      have E := mx_part1 (v2 := f_X12_number k4 1 60) (j2 := 176 + T 0) hs3 X4 M4 C3 ((hp_i (g_X12_number k4 1 60) 57 0 (176 + T 0) (f_X12_number k4 1 60)).1 57 0 0 + 1)
      exact ⟨⟨pst, na, fun _ => ⟨pn, ps2, pa, fun z => (z rfl).elim, fun _ => trivial⟩, fun z => (n10 z).elim⟩, ⟨m_pM _ _ _, m_pF _, fun _ => ⟨nb, pb, w1, E.1, w2, trivial⟩, fun z => (z hF).elim⟩, E.2.1, KC.trans E.2.2.2, Or.inr ⟨rfl, E.2.2.1⟩⟩
  · have X2 : XM (g_X12_newName k1 (nI (T 0))) x t := P1.num4.same (MFc.2.2.2.2 6 (by omega) (by omega) (by omega) (by omega)) (fr_X12_newName (by omega) (by omega))
    have n00 : ¬ ¬ (0 : Int32) = 0 := fun z => z rfl
    rw [ff, if_neg n00, if_neg n00]
    have E := mx_part (v1 := f_X12_number (g_X12_newName k1 (nI (T 0))) 0 9999) (v2 := f_X12_number (hp_i (g_X12_number (g_X12_newName k1 (nI (T 0))) 0 9999) 57 0 (164 + T 0) (f_X12_number (g_X12_newName k1 (nI (T 0))) 0 9999)) 1 60) (j1 := 164 + T 0) (j2 := 176 + T 0) hs1 X2 MFc.mx FCc ((hp_i (g_X12_number (hp_i (g_X12_number (g_X12_newName k1 (nI (T 0))) 0 9999) 57 0 (164 + T 0) (f_X12_number (g_X12_newName k1 (nI (T 0))) 0 9999)) 1 60) 57 0 (176 + T 0) (f_X12_number (hp_i (g_X12_number (g_X12_newName k1 (nI (T 0))) 0 9999) 57 0 (164 + T 0) (f_X12_number (g_X12_newName k1 (nI (T 0))) 0 9999)) 1 60)).1 57 0 0 + 1)
    exact ⟨⟨pst, na, fun z => (n00 z).elim, fun _ => trivial⟩, ⟨m_pM _ _ _, m_pF _, fun _ => ⟨nb, E.1, w1, E.2.1, w2, trivial⟩, fun z => (z hF).elim⟩, E.2.2.1, (kx1.trans MFc.kx).trans E.2.2.2.2, Or.inr ⟨rfl, E.2.2.2.1⟩⟩
end EIG
section ORD8
variable {h hm : Hp} {x : Nat → Nat} {t s : Nat} {T : Nat → Nat}
theorem ps_order08 (P : PS h hm x t s) (W : IWd x t s 3) (h4 : hm.1 12 0 4 = nI s) (R : RD hm T) (U : UN T) (hT : ∀ k, k < 160 → T (4 + k) < 128) (h0 : T 0 ≤ 12) (hT1 : T 1 ≤ 8) (h3 : T 3 < 20) (e1 : h.1 1 (h.2.2 7 0 3) 1 = nI (T 1)) (hn1 : ∀ p, p < T 1 → h.2.1 21 (h.2.2 7 0 3) p = oa_nm T (12 + p)) :
    p_X9_step h ∧ p_X9_isName (g_X9_step h) ∧ p_X12_named (og2 hm) ∧ f_X12_hasFailed (og1 hm) = 0 ∧
    ((∃ q s2, q < T 1 ∧ f_X9_isName (g_X9_step h) = 1 ∧ p_X9_name (g_X9_step h) ∧ p_X1_productNamed (g_X9_step h) ((g_X9_step h).2.2 7 0 3) (f_X9_name (g_X9_step h)) ∧ f_X1_productNamed (g_X9_step h) ((g_X9_step h).2.2 7 0 3) (f_X9_name (g_X9_step h)) = nI q ∧ p_X9_step (g_X9_step h) ∧ f_X12_hasFailed (og3 hm) = 0 ∧ p_X12_letters (og3 hm) ∧ oix hm = nI (406 + 5 * T 3) ∧ PS (g_X9_step (g_X9_step h)) (og4 hm) x t s2 ∧ s < s2 ∧ KX hm (og4 hm) ∧ (og4 hm).1 12 0 8 = hm.1 12 0 8 ∧ (∀ k, (og4 hm).1 57 0 k = if k = 406 + 5 * T 3 then nI q else hm.1 57 0 k)) ∨
     (∃ s1 c, s1 ≤ t ∧ ¬ f_X12_hasFailed (og3 hm) = 0 ∧ MX (og3 hm) t s1 c ∧ XM (og3 hm) x t ∧ KX hm (og3 hm) ∧ ((f_X9_isName (g_X9_step h) = 0 ∧ FC (g_X7_fail (g_X9_step h) 1) s1 c) ∨ (f_X9_isName (g_X9_step h) = 1 ∧ p_X9_name (g_X9_step h) ∧ p_X1_productNamed (g_X9_step h) ((g_X9_step h).2.2 7 0 3) (f_X9_name (g_X9_step h)) ∧ f_X1_productNamed (g_X9_step h) ((g_X9_step h).2.2 7 0 3) (f_X9_name (g_X9_step h)) = -1 ∧ FC (g_X7_fail (g_X9_step h) 3) s1 c)))) := by
  obtain ⟨p1, p2, p3, p4, p5, -⟩ := id P
  have bt := p1.1
  have r3 := R 3 (by omega)
  have m0 : og1 hm = hm := by
    unfold og1
    rw [r3, if_neg (show ¬ (20 : Int32) ≤ nI (T 3) from nI_ge (b := 20) h3 (by omega))]
    exact m_must1 (by decide)
  have l5 : (oa_by 3).length = 5 := by decide
  have e5 : nI s + 5 = nI (s + (oa_by 3).length) := by rw [l5]; exact nI_add s 5
  have k1d : og2 hm = hp_i hm 12 0 4 (nI (s + (oa_by 3).length)) := by unfold og2; rw [m0, h4, e5]
  have g4 : (og2 hm).1 12 0 4 = nI (s + (oa_by 3).length) := by rw [k1d, hp_i_g, if_pos rfl]
  have gk : ∀ k, ¬ k = 4 → (og2 hm).1 12 0 k = hm.1 12 0 k := fun k hk => by rw [k1d, hp_i_g, if_neg hk]
  have gt : ∀ T' j, ¬ T' = 12 → (og2 hm).1 T' j = hm.1 T' j := fun T' j hk => by rw [k1d, hp_i_t hk]
  have P1 := ps_word (hm' := og2 hm) P (by omega) W g4 (gk 6 (by omega)) (gk 7 (by omega)) (gt 54 0 (by omega))
  have s1l : s < ob_SK x t (s + (oa_by 3).length) := by
    have el := ob_ED_le (x := x) (k := 1) p3
    have := W.1
    have := (ob_SK_le (x := x) (show s + (oa_by 3).length ≤ t by omega)).1
    omega
  have id1 : ob_SK x t (ob_SK x t (s + (oa_by 3).length)) = ob_SK x t (s + (oa_by 3).length) := by
    have el := ob_ED_le (x := x) (k := 1) p3
    have := W.1
    exact ob_SK_idem (by omega)
  obtain ⟨pst, P1⟩ := P1
  have q2 : ∀ T j, ¬ T = 9 → (g_X9_step h).1 T j = h.1 T j := fun T j hT => fr_X9_step (by omega)
  have q3 : (g_X9_step h).2.2 = h.2.2 := gr_X9_step
  have q4 : (g_X9_step h).2.1 = h.2.1 := gl_X9_step
  generalize hs1 : ob_SK x t (s + (oa_by 3).length) = s1 at *
  have R1 : RD (og2 hm) T := R.same (gt 57 0 (by omega))
  have N := ps_prod (c := (g_X9_step h).2.2 7 0 3) P1 R1 U hT h0 hT1 (by rw [q3, q2 1 _ (by omega)]; exact e1) (fun p hp => by rw [q3, q4]; exact hn1 p hp)
  have hsl := P1.2.2.1
  have k7 : (og2 hm).1 12 0 7 = -1 := (gk 7 (by omega)).trans p5
  have kx1 : KX hm (og2 hm) := fun k h4 _ _ _ _ => gk k h4
  have o3 : og3 hm = g_X12_must (g_X12_named (og2 hm)) (if f_X12_named (og2 hm) < 12 then (0 : Int32) else 1) 3 := rfl
  have n54 : ∀ T' j, ¬ (T' = 12 ∧ j = 0) → (g_X12_named (og2 hm)).1 T' j = (og2 hm).1 T' j := fun T' j hT' => fr_X12_named hT'
  refine ⟨pst, N.1, N.2.1, by rw [m0]; exact m_ok p5, ?_⟩
  rcases N.2.2 with ⟨q, hq, NSs, fi, pn, pp, fp, fn, M⟩ | ⟨fi, fn, F⟩ | ⟨fi, pn, pp, fp, fn, M⟩
  · have e3 : og3 hm = g_X12_named (og2 hm) := by
      rw [o3, fn, if_neg (show ¬ nI (12 + q) < 12 from nI_nlt (b := 12) (by omega) (by omega))]
      exact m_must1 (by decide)
    have X2 : XM (og3 hm) x t := by rw [e3]; exact P1.num4.same (M.2.2 6 (by omega) (by omega)) (n54 54 0 (by omega))
    have M3 : MB (og2 hm) (og3 hm) s1 := by rw [e3]; exact M
    have t3 : ∀ T' j, ¬ (T' = 12 ∧ j = 0) → (og3 hm).1 T' j = (og2 hm).1 T' j := by rw [e3]; exact n54
    have f7 : (og3 hm).1 12 0 7 = -1 := (M3.2.2 7 (by omega) (by omega)).trans k7
    have L := s_letters X2 hsl M3.1
    have B2 := s_blanks X2 hsl M3.1
    rw [id1] at L B2
    have el := ob_ED_le (x := x) (k := 1) hsl
    have te := ob_run hsl NSs.1 (Or.inl rfl)
    have b57 : (g_X12_letters (og3 hm)).1 57 0 = hm.1 57 0 := by rw [L.2.2, fr_X12_blanks (by omega), t3 57 0 (by omega), gt 57 0 (by omega)]
    have ix : oix hm = nI (406 + 5 * T 3) := by
      unfold oix
      rw [b57, r3]
      have : (5 : Int32) * nI (T 3) = nI (5 * T 3) := oa_mul 5 _
      rw [this]
      exact nI_add 406 _
    have o4 : og4 hm = hp_i (hp_i (g_X12_blanks (og3 hm)) 12 0 4 (nI (ob_ED x t 1 s1))) 57 0 (406 + 5 * T 3) (nI q) := by
      unfold og4
      have sb : nI (12 + q) - 12 = nI q := by
        have : nI (12 + q) - nI 12 = nI (12 + q - 12) := oa_sub (by omega)
        rw [show 12 + q - 12 = q by omega] at this
        exact this
      rw [ix, L.2.2, L.2.1, M3.1, nI_add, nI_clamp (by omega), fn, sb, show s1 + (ob_ED x t 1 s1 - s1) = ob_ED x t 1 s1 by omega]
    have w4 : (og4 hm).1 12 0 4 = nI (ob_ED x t 1 s1) := by rw [o4, hp_i_t (by omega), hp_i_g, if_pos rfl]
    have wk : ∀ k, ¬ k = 4 → ¬ k = 5 → (og4 hm).1 12 0 k = hm.1 12 0 k := fun k y4 y5 => by
      rw [o4, hp_i_t (by omega), hp_i_g, if_neg y4, B2.2.1.2.2 k y4 y5, M3.2.2 k y4 y5, gk k y4]
    have w54 : (og4 hm).1 54 0 = (og2 hm).1 54 0 := by rw [o4, hp_i_t (by omega), hp_i_t (by omega), fr_X12_blanks (by omega), t3 54 0 (by omega)]
    have P2 := ps_step P1 te.1 w4 ((wk 6 (by omega) (by omega)).trans (gk 6 (by omega)).symm) ((wk 7 (by omega) (by omega)).trans (gk 7 (by omega)).symm) w54
    refine Or.inl ⟨q, _, hq, fi, pn, pp, fp, P2.1, m_ok f7, L.1, ix, P2.2, ?_, fun k y4 y5 _ _ _ => wk k y4 y5, wk 8 (by omega) (by omega), fun k => ?_⟩
    · have := (ob_SK_le (x := x) el.2).1
      omega
    · rw [o4, hp_i_g, hp_i_t (by omega), ← L.2.2, b57]
  · have hb := m_bad (by omega) F.2.2.1
    have e3 : og3 hm = g_X12_named (og2 hm) := by rw [o3]; exact m_mustF hb
    rw [e3]
    exact Or.inr ⟨s1, 1, hsl, by rw [hb]; decide, F.mx, P1.num4.same (F.2.2.2.2 6 (by omega) (by omega) (by omega) (by omega)) (n54 54 0 (by omega)), kx1.trans F.kx, Or.inl ⟨fi, a_fail P1.2.1 1⟩⟩
  · have e3 : og3 hm = g_X12_must (g_X12_named (og2 hm)) 0 3 := by rw [o3, if_pos fn]
    have F : MF (og2 hm) (og3 hm) t s1 3 := by rw [e3]; exact m_fail (p := 0) (c := 3) M k7 hsl
    have hb := m_bad (by omega) F.2.2.1
    have t54 : (og3 hm).1 54 0 = (og2 hm).1 54 0 := by rw [e3, fr_X12_must (by omega), n54 54 0 (by omega)]
    exact Or.inr ⟨s1, 3, hsl, by rw [hb]; decide, F.mx, P1.num4.same (F.2.2.2.2 6 (by omega) (by omega) (by omega) (by omega)) t54, kx1.trans F.kx, Or.inr ⟨fi, pn, pp, fp, a_fail P1.2.1 3⟩⟩
end ORD8
section ORN8
variable {h hm k : Hp} {x : Nat → Nat} {t s i n lo hi j : Nat} {T : Nat → Nat}
/-- a number read by both and written by the model -/
theorem ps_nw8 (P : PS h k x t s) (hl : lo ≤ 9999) (hh : hi ≤ 9999) (j : Nat) : p_X7_readNumber h (nI lo) (nI hi) ∧ p_X12_number k (nI lo) (nI hi) ∧
    ((∃ v s', lo ≤ v ∧ v ≤ hi ∧ s < s' ∧ f_X7_readNumber h (nI lo) (nI hi) = nI v ∧ f_X12_number k (nI lo) (nI hi) = nI v ∧ PS (g_X7_readNumber h (nI lo) (nI hi)) (hp_i (g_X12_number k (nI lo) (nI hi)) 57 0 j (nI v)) x t s' ∧ KX k (hp_i (g_X12_number k (nI lo) (nI hi)) 57 0 j (nI v)) ∧ (hp_i (g_X12_number k (nI lo) (nI hi)) 57 0 j (nI v)).1 12 0 8 = k.1 12 0 8 ∧ (∀ q, (hp_i (g_X12_number k (nI lo) (nI hi)) 57 0 j (nI v)).1 57 0 q = if q = j then nI v else k.1 57 0 q) ∧ (∀ T j, ¬ (T = 9 ∧ j = 0) → (g_X7_readNumber h (nI lo) (nI hi)).1 T j = h.1 T j)) ∨
     (∃ c, f_X7_readNumber h (nI lo) (nI hi) = -1 ∧ FC (g_X7_readNumber h (nI lo) (nI hi)) s c ∧ ∀ v, MX (hp_i (g_X12_number k (nI lo) (nI hi)) 57 0 j v) t s c ∧ XM (hp_i (g_X12_number k (nI lo) (nI hi)) 57 0 j v) x t ∧ KX k (hp_i (g_X12_number k (nI lo) (nI hi)) 57 0 j v))) := by
  obtain ⟨pa, pb, N⟩ := ps_num P hl hh
  refine ⟨pa, pb, ?_⟩
  have f3 : (g_X12_number k (nI lo) (nI hi)).1 57 0 = k.1 57 0 := fr_X12_number (by omega)
  have f4 : (g_X12_number k (nI lo) (nI hi)).1 54 0 = k.1 54 0 := fr_X12_number (by omega)
  rcases N with ⟨v, s', l, u, fa, fb, P2, K2, a7, sa⟩ | ⟨c, fa, fb, C, F⟩
  · refine Or.inl ⟨v, s', l, u, sa, fa, fb, P2.set57, K2.kx.trans KX.set, ?_, fun q => ?_, fun T j hT => ?_⟩
    · rw [hp_i_t (by omega)]; exact K2 8 (by omega) (by omega)
    · rw [hp_i_g, f3]
    · by_cases d : T = 7 ∧ j = 0
      · rw [d.1, d.2]; exact a7
      · exact fr_X7_readNumber d hT
  · refine Or.inr ⟨c, fa, C, fun v => ⟨F.mx.set, ?_, F.kx.trans KX.set⟩⟩
    exact (P.num4.same (F.2.2.2.2 6 (by omega) (by omega) (by omega) (by omega)) f4).set57
/-- what both do from the numbers of an order on -/
def ONS8 (h H k K : Hp) (x : Nat → Nat) (t s i n L : Nat) (q : Int32) : Prop := ∃ v1 v2 v3 v4 s', 1 ≤ v1 ∧ v1 ≤ 99 ∧ v2 ≤ 9 ∧ v3 ≤ 999 ∧ v4 ≤ 1 ∧ s < s' ∧ PSE H K x t s' ∧ K.1 12 0 8 = k.1 12 0 8 ∧
  (∀ p, K.1 57 0 p = if p = 3 then nI (n + 1) else if p = i + 4 then nI v4 else if p = i + 3 then nI v3 else if p = i + 2 then nI v2 else if p = i + 1 then nI v1 else k.1 57 0 p) ∧
  (∀ T j, ¬ (T = 9 ∧ j = 0) → H.1 T j = (oe h L n q (nI v1) (nI v2) (nI v3) (nI v4)).1 T j)
theorem ps_ordn8 {q : Int32} (P : PS h k x t s) (hi : 3 < i) (hn : n < 20) (e3 : k.1 57 0 3 = nI n) (eL : h.1 6 (h.2.2 7 0 4) 0 = nI n) :
    ocp h q ∧ onp k i ∧ psm (on9 k i) ∧ KX k (sm4 (on9 k i)) ∧
    ((ocf h q = 1 ∧ ONS8 h (ocg h q) k (sm4 (on9 k i)) x t s i n (h.2.2 7 0 4) q) ∨ (ocf h q = 0 ∧ FB (ocg h q) (sm4 (on9 k i)))) := by
  have nn : ¬ ¬ (-1 : Int32) = -1 := fun z => z rfl
  obtain ⟨pa, pb, N1⟩ := ps_nw8 P (lo := 1) (hi := 99) (by omega) (by omega) (i + 1)
  rw [show nI 1 = 1 from rfl, show nI 99 = 99 from rfl] at pa pb N1
  have q1 : (g_X7_readNumber h 1 99).2.2 = h.2.2 := gr_X7_readNumber
  have bt := P.1.1
  unfold ocp ocf ocg onp on9 on8 on7 on6 on5 oce oc3 oc2 oc1
  rcases N1 with ⟨v1, s1, l1, u1, a1, fa, fb, P1, K1, K13, K57, C1⟩ | ⟨c, fa, C, F⟩
  · have n1 := ob_m1 (s := v1) (by omega)
    rw [fa, fb, if_pos n1, if_pos n1]
    generalize g_X7_readNumber h 1 99 = h1 at *
    generalize hp_i (g_X12_number k 1 99) 57 0 (i + 1) (nI v1) = k1 at *
    obtain ⟨pc, pd, N2⟩ := ps_nw8 P1 (lo := 0) (hi := 9) (by omega) (by omega) (i + 2)
    rw [show nI 0 = 0 from rfl, show nI 9 = 9 from rfl] at pc pd N2
    have q2 : (g_X7_readNumber h1 0 9).2.2 = h1.2.2 := gr_X7_readNumber
    rcases N2 with ⟨v2, s2, l2, u2, a2, fc, fd, P2, J1, J13, J57, C2⟩ | ⟨c, fc, C, F⟩
    · have n2 := ob_m1 (s := v2) (by omega)
      rw [fc, fd, if_pos n2, if_pos n2]
      generalize g_X7_readNumber h1 0 9 = h2 at *
      generalize hp_i (g_X12_number k1 0 9) 57 0 (i + 2) (nI v2) = k2 at *
      obtain ⟨pe, pf, N3⟩ := ps_nw8 P2 (lo := 0) (hi := 999) (by omega) (by omega) (i + 3)
      rw [show nI 0 = 0 from rfl, show nI 999 = 999 from rfl] at pe pf N3
      have q3 : (g_X7_readNumber h2 0 999).2.2 = h2.2.2 := gr_X7_readNumber
      rcases N3 with ⟨v3, s3, l3, u3, a3, fe, ff, P3, I1, I13, I57, C3⟩ | ⟨c, fe, C, F⟩
      · have n3 := ob_m1 (s := v3) (by omega)
        rw [fe, ff, if_pos n3, if_pos n3]
        generalize g_X7_readNumber h2 0 999 = h3 at *
        generalize hp_i (g_X12_number k2 0 999) 57 0 (i + 3) (nI v3) = k3 at *
        have W := ps_whole P3
        have cl : ∀ T j, ¬ (T = 9 ∧ j = 0) → h3.1 T j = h.1 T j := fun T j hT => (C3 T j hT).trans ((C2 T j hT).trans (C1 T j hT))
        have cr : h3.2.2 = h.2.2 := q3.trans (q2.trans q1)
        have w57 : (g_X12_takes k3 26).1 57 0 = k3.1 57 0 := fr_X12_takes (by omega)
        have key : ∀ (H K : Hp) (s4 v4 : Nat), v4 ≤ 1 → s3 ≤ s4 → PS H K x t s4 → KE k3 K → K.1 57 0 = k3.1 57 0 → (∀ T j, ¬ (T = 9 ∧ j = 0) → H.1 T j = h.1 T j) → H.2.2 = h.2.2 →
            p_X6_enter H (H.2.2 7 0 4) q (nI v1) (nI v2) (nI v3) (nI v4) ∧ p_X7_readSemicolon (g_X6_enter H (H.2.2 7 0 4) q (nI v1) (nI v2) (nI v3) (nI v4)) ∧ (f_X7_readSemicolon (g_X6_enter H (H.2.2 7 0 4) q (nI v1) (nI v2) (nI v3) (nI v4)) = 0 ∨ f_X7_readSemicolon (g_X6_enter H (H.2.2 7 0 4) q (nI v1) (nI v2) (nI v3) (nI v4)) = 1) ∧
            psm (hp_i (hp_i K 57 0 (i + 4) (nI v4)) 57 0 3 ((hp_i K 57 0 (i + 4) (nI v4)).1 57 0 3 + 1)) ∧ KX k (sm4 (hp_i (hp_i K 57 0 (i + 4) (nI v4)) 57 0 3 ((hp_i K 57 0 (i + 4) (nI v4)).1 57 0 3 + 1))) ∧
            ((f_X7_readSemicolon (g_X6_enter H (H.2.2 7 0 4) q (nI v1) (nI v2) (nI v3) (nI v4)) = 1 ∧ ONS8 h (g_X7_readSemicolon (g_X6_enter H (H.2.2 7 0 4) q (nI v1) (nI v2) (nI v3) (nI v4))) k (sm4 (hp_i (hp_i K 57 0 (i + 4) (nI v4)) 57 0 3 ((hp_i K 57 0 (i + 4) (nI v4)).1 57 0 3 + 1))) x t s i n (h.2.2 7 0 4) q) ∨
             (f_X7_readSemicolon (g_X6_enter H (H.2.2 7 0 4) q (nI v1) (nI v2) (nI v3) (nI v4)) = 0 ∧ FB (g_X7_readSemicolon (g_X6_enter H (H.2.2 7 0 4) q (nI v1) (nI v2) (nI v3) (nI v4))) (sm4 (hp_i (hp_i K 57 0 (i + 4) (nI v4)) 57 0 3 ((hp_i K 57 0 (i + 4) (nI v4)).1 57 0 3 + 1))))) := by
          intro H K s4 v4 h4 hs PK KK K5 HC HR
          have ev : nI v4 = 0 ∨ nI v4 = 1 := by
            rcases (show v4 = 0 ∨ v4 = 1 by omega) with z | z <;> rw [z]
            · exact Or.inl rfl
            · exact Or.inr rfl
          have en := a_enter (h := H) (L := H.2.2 7 0 4) (a1 := q) (a2 := nI v1) (a3 := nI v2) (a4 := nI v3) (by rw [HR, HC 6 _ (by omega)]; exact eL) hn ev
          rw [show (hp_i (hp_i (hp_i (hp_i (hp_i (hp_i (hp_i (hp_i (hp_i H 36 (H.2.2 7 0 4) n q) 37 (H.2.2 7 0 4) n (nI v1)) 38 (H.2.2 7 0 4) n (nI v2)) 39 (H.2.2 7 0 4) n (nI v3)) 40 (H.2.2 7 0 4) n (nI v4)) 41 (H.2.2 7 0 4) n 0) 42 (H.2.2 7 0 4) n 0) 43 (H.2.2 7 0 4) n 0) 6 (H.2.2 7 0 4) 0 (nI (n + 1))) = oe H (H.2.2 7 0 4) n q (nI v1) (nI v2) (nI v3) (nI v4) from rfl, HR] at en
          rw [HR, en.2]
          have m3 : (hp_i K 57 0 (i + 4) (nI v4)).1 57 0 3 = nI n := by
            rw [hp_i_g, if_neg (by omega), K5, I57 3, if_neg (by omega), J57 3, if_neg (by omega), K57 3, if_neg (by omega)]
            exact e3
          rw [m3, show nI n + 1 = nI (n + 1) from nI_add n 1]
          have PZ := ((PK.set57 (j := i + 4) (v := nI v4)).set57 (j := 3) (v := nI (n + 1))).cls (h' := oe H (h.2.2 7 0 4) n q (nI v1) (nI v2) (nI v3) (nI v4)) (oe_t (by omega) (by omega)) (oe_t (by omega) (by omega)) (oe_t (by omega) (by omega))
          have KZ : KX k (hp_i (hp_i K 57 0 (i + 4) (nI v4)) 57 0 3 (nI (n + 1))) := ((((K1.trans J1).trans I1).trans KK.kx).trans KX.set).trans KX.set
          have z57 : ∀ p, (hp_i (hp_i K 57 0 (i + 4) (nI v4)) 57 0 3 (nI (n + 1))).1 57 0 p = if p = 3 then nI (n + 1) else if p = i + 4 then nI v4 else if p = i + 3 then nI v3 else if p = i + 2 then nI v2 else if p = i + 1 then nI v1 else k.1 57 0 p := fun p => by
            rw [hp_i_g, hp_i_g, K5, I57 p, J57 p, K57 p]
          have z13 : (hp_i (hp_i K 57 0 (i + 4) (nI v4)) 57 0 3 (nI (n + 1))).1 12 0 8 = k.1 12 0 8 := by
            rw [hp_i_t (by omega), hp_i_t (by omega)]
            exact (KK 8 (by omega) (by omega)).trans (I13.trans (J13.trans K13))
          have zc : ∀ T j, ¬ (T = 9 ∧ j = 0) → (oe H (h.2.2 7 0 4) n q (nI v1) (nI v2) (nI v3) (nI v4)).1 T j = (oe h (h.2.2 7 0 4) n q (nI v1) (nI v2) (nI v3) (nI v4)).1 T j := fun T j hT => oe_c (HC T j hT)
          generalize hp_i (hp_i K 57 0 (i + 4) (nI v4)) 57 0 3 (nI (n + 1)) = KF at *
          generalize hHF : oe H (h.2.2 7 0 4) n q (nI v1) (nI v2) (nI v3) (nI v4) = HF at *
          have E := ps_semi PZ
          refine ⟨en.1, E.1, ?_, E.2.1, ?_, ?_⟩
          · rcases E.2.2 with e | e
            · exact Or.inr e.1
            · exact Or.inl e.1
          · rcases E.2.2 with ⟨-, -, -, -, e⟩ | ⟨-, -, e⟩
            · exact KZ.trans e.kx
            · exact KZ.trans e
          · rcases E.2.2 with ⟨y1, y2, y3, ⟨s5, y4, y5⟩, y6⟩ | ⟨y1, y2, y3⟩
            · refine Or.inl ⟨y1, v1, v2, v3, v4, s5, l1, u1, u2, u3, h4, by omega, y5, (y6 8 (by omega) (by omega)).trans z13, fun p => ?_, fun T j hT => ?_⟩
              · rw [fr_sm4 (by omega)]; exact z57 p
              · rw [y2, fr_X9_step hT]; exact zc T j hT
            · exact Or.inr ⟨y1, y2⟩
        rcases W.2.2 with ⟨b1, b2, b3, ⟨s4, b4, b5⟩, b6⟩ | ⟨b1, b2, b5, b6⟩
        · have n10 : ¬ (1 : Int32) = 0 := by decide
          have kk := key (g_X9_step h3) (g_X12_takes k3 26) s4 1 (by omega) (by omega) b5 b6 w57 (fun T j hT => (fr_X9_step hT).trans (cl T j hT)) (gr_X9_step.trans cr)
          rw [show nI 1 = 1 from rfl] at kk
          rw [b1, b2, if_neg n10, if_neg n10, if_neg n10]
          exact ⟨⟨pa, fun _ => ⟨pc, fun _ => ⟨pe, fun _ => ⟨W.1, fun z => (n10 z).elim, fun _ => ⟨b3, kk.1, kk.2.1, kk.2.2.1, trivial⟩⟩, fun z => (n3 z).elim⟩, fun z => (n2 z).elim⟩, fun z => (n1 z).elim⟩, ⟨pb, pd, pf, W.2.1⟩, kk.2.2.2.1, kk.2.2.2.2.1, kk.2.2.2.2.2⟩
        · have kk := key h3 (g_X12_takes k3 26) s3 0 (by omega) (by omega) b5 b6 w57 cl cr
          rw [show nI 0 = 0 from rfl] at kk
          rw [b1, b2, if_pos rfl, if_pos rfl, if_pos rfl]
          exact ⟨⟨pa, fun _ => ⟨pc, fun _ => ⟨pe, fun _ => ⟨W.1, fun _ => ⟨kk.1, kk.2.1, kk.2.2.1, trivial⟩, fun z => (z rfl).elim⟩, fun z => (n3 z).elim⟩, fun z => (n2 z).elim⟩, fun z => (n1 z).elim⟩, ⟨pb, pd, pf, W.2.1⟩, kk.2.2.2.1, kk.2.2.2.2.1, kk.2.2.2.2.2⟩
      · rw [fe, if_neg nn, if_neg nn]
        have hs := P2.2.2.1
        obtain ⟨M, X, K⟩ := F (f_X12_number k2 0 999)
        generalize hp_i (g_X12_number k2 0 999) 57 0 (i + 3) (f_X12_number k2 0 999) = k3 at *
        have E := mo_t (v := if f_X12_takes k3 26 = 0 then (0 : Int32) else 1) (z := (hp_i (g_X12_takes k3 26) 57 0 (i + 4) (if f_X12_takes k3 26 = 0 then (0 : Int32) else 1)).1 57 0 3 + 1) (j := i + 4) hs X M C
        exact ⟨⟨pa, fun _ => ⟨pc, fun _ => ⟨pe, fun z => (z rfl).elim, fun _ => trivial⟩, fun z => (n2 z).elim⟩, fun z => (n1 z).elim⟩, ⟨pb, pd, pf, E.1⟩, E.2.1, ((K1.trans J1).trans K).trans E.2.2.2, Or.inr ⟨rfl, E.2.2.1⟩⟩
    · rw [fc, if_neg nn, if_neg nn]
      have hs := P1.2.2.1
      obtain ⟨M, X, K⟩ := F (f_X12_number k1 0 9)
      generalize hp_i (g_X12_number k1 0 9) 57 0 (i + 2) (f_X12_number k1 0 9) = k2 at *
      have E := mo_3 (v3 := f_X12_number k2 0 999) (j3 := i + 3) (v := if f_X12_takes (hp_i (g_X12_number k2 0 999) 57 0 (i + 3) (f_X12_number k2 0 999)) 26 = 0 then (0 : Int32) else 1) (z := (hp_i (g_X12_takes (hp_i (g_X12_number k2 0 999) 57 0 (i + 3) (f_X12_number k2 0 999)) 26) 57 0 (i + 4) (if f_X12_takes (hp_i (g_X12_number k2 0 999) 57 0 (i + 3) (f_X12_number k2 0 999)) 26 = 0 then (0 : Int32) else 1)).1 57 0 3 + 1) (j := i + 4) hs X M C
      exact ⟨⟨pa, fun _ => ⟨pc, fun z => (z rfl).elim, fun _ => trivial⟩, fun z => (n1 z).elim⟩, ⟨pb, pd, E.1, E.2.1⟩, E.2.2.1, (K1.trans K).trans E.2.2.2.2, Or.inr ⟨rfl, E.2.2.2.1⟩⟩
  · rw [fa, if_neg nn, if_neg nn]
    have hs := P.2.2.1
    obtain ⟨M, X, K⟩ := F (f_X12_number k 1 99)
    generalize hp_i (g_X12_number k 1 99) 57 0 (i + 1) (f_X12_number k 1 99) = k1 at *
    have E := mo_2 (v2 := f_X12_number k1 0 9) (j2 := i + 2) (v3 := f_X12_number (hp_i (g_X12_number k1 0 9) 57 0 (i + 2) (f_X12_number k1 0 9)) 0 999) (j3 := i + 3) (v := if f_X12_takes (hp_i (g_X12_number (hp_i (g_X12_number k1 0 9) 57 0 (i + 2) (f_X12_number k1 0 9)) 0 999) 57 0 (i + 3) (f_X12_number (hp_i (g_X12_number k1 0 9) 57 0 (i + 2) (f_X12_number k1 0 9)) 0 999)) 26 = 0 then (0 : Int32) else 1) (z := (hp_i (g_X12_takes (hp_i (g_X12_number (hp_i (g_X12_number k1 0 9) 57 0 (i + 2) (f_X12_number k1 0 9)) 0 999) 57 0 (i + 3) (f_X12_number (hp_i (g_X12_number k1 0 9) 57 0 (i + 2) (f_X12_number k1 0 9)) 0 999)) 26) 57 0 (i + 4) (if f_X12_takes (hp_i (g_X12_number (hp_i (g_X12_number k1 0 9) 57 0 (i + 2) (f_X12_number k1 0 9)) 0 999) 57 0 (i + 3) (f_X12_number (hp_i (g_X12_number k1 0 9) 57 0 (i + 2) (f_X12_number k1 0 9)) 0 999)) 26 = 0 then (0 : Int32) else 1)).1 57 0 3 + 1) (j := i + 4) hs X M C
    exact ⟨⟨pa, fun z => (z rfl).elim, fun _ => trivial⟩, ⟨pb, E.1, E.2.1, E.2.2.1⟩, E.2.2.2.1, K.trans E.2.2.2.2.2, Or.inr ⟨rfl, E.2.2.2.2.1⟩⟩
theorem ps_order8 (P : PS h hm x t s) (W : IWd x t s 3) (h4 : hm.1 12 0 4 = nI s) (R : RD hm T) (U : UN T) (hT : ∀ k, k < 160 → T (4 + k) < 128) (h0 : T 0 ≤ 12) (hT1 : T 1 ≤ 8) (h3 : T 3 < 20) (e1 : h.1 1 (h.2.2 7 0 3) 1 = nI (T 1)) (hn1 : ∀ p, p < T 1 → h.2.1 21 (h.2.2 7 0 3) p = oa_nm T (12 + p)) (eL : h.1 6 (h.2.2 7 0 4) 0 = nI (T 3)) :
    p_X7_readOrder h ∧ op hm ∧ psm (og hm) ∧ KX hm (sm4 (og hm)) ∧
    ((f_X7_readOrder h = 1 ∧ ∃ q v1 v2 v3 v4 s', q < T 1 ∧ 1 ≤ v1 ∧ v1 ≤ 99 ∧ v2 ≤ 9 ∧ v3 ≤ 999 ∧ v4 ≤ 1 ∧ s < s' ∧ PSE (g_X7_readOrder h) (sm4 (og hm)) x t s' ∧ (sm4 (og hm)).1 12 0 8 = hm.1 12 0 8 ∧
      (∀ p, (sm4 (og hm)).1 57 0 p = if p = 3 then nI (T 3 + 1) else if p = 406 + 5 * T 3 + 4 then nI v4 else if p = 406 + 5 * T 3 + 3 then nI v3 else if p = 406 + 5 * T 3 + 2 then nI v2 else if p = 406 + 5 * T 3 + 1 then nI v1 else if p = 406 + 5 * T 3 then nI q else hm.1 57 0 p) ∧
      (∀ T' j, ¬ (T' = 9 ∧ j = 0) → (g_X7_readOrder h).1 T' j = (oe h (h.2.2 7 0 4) (T 3) (nI q) (nI v1) (nI v2) (nI v3) (nI v4)).1 T' j)) ∨
     (f_X7_readOrder h = 0 ∧ FB (g_X7_readOrder h) (sm4 (og hm)))) := by
  obtain ⟨pst, pn, pm, hf1, O⟩ := ps_order08 P W h4 R U hT h0 hT1 h3 e1 hn1
  have n10 : ¬ (1 : Int32) = 0 := by decide
  have n00 : ¬ ¬ (0 : Int32) = 0 := fun z => z rfl
  have nn : ¬ ¬ (-1 : Int32) = -1 := fun z => z rfl
  rcases O with ⟨q, s2, hq, fi, p1, p2, fp, p3, hf3, p4, ix, P2, l2, K2, K13, K57⟩ | ⟨s1, c, hs1, hf3, M, X, K, O⟩
  · have eog8 : og8 hm = on8 (og4 hm) (406 + 5 * T 3) := by
      unfold og8 og7 og6 og5 on8 on7 on6 on5
      have i1 : nI (406 + 5 * T 3) + 1 = nI (406 + 5 * T 3 + 1) := nI_add _ 1
      have i2 : nI (406 + 5 * T 3) + 2 = nI (406 + 5 * T 3 + 2) := nI_add _ 2
      have i3 : nI (406 + 5 * T 3) + 3 = nI (406 + 5 * T 3 + 3) := nI_add _ 3
      have i4 : nI (406 + 5 * T 3) + 4 = nI (406 + 5 * T 3 + 4) := nI_add _ 4
      rw [ix, i1, i2, i3, i4, nI_clamp (by omega), nI_clamp (by omega), nI_clamp (by omega), nI_clamp (by omega)]
    have eog : og hm = on9 (og4 hm) (406 + 5 * T 3) := by
      unfold og on9
      rw [if_pos hf1, if_pos hf3, eog8]
    have q2 : ∀ T j, ¬ (T = 9 ∧ j = 0) → (g_X9_step (g_X9_step h)).1 T j = h.1 T j := fun T j hT => (fr_X9_step hT).trans (fr_X9_step hT)
    have q3 : (g_X9_step (g_X9_step h)).2.2 = h.2.2 := gr_X9_step.trans gr_X9_step
    have B := ps_ordn8 (q := nI q) P2 (i := 406 + 5 * T 3) (n := T 3) (by omega) h3 (by rw [K57 3, if_neg (by omega)]; exact R 3 (by omega)) (by rw [q3, q2 6 _ (by omega)]; exact eL)
    have nq := ob_m1 (s := q) (by omega)
    have ef : f_X7_readOrder h = ocf (g_X9_step (g_X9_step h)) (nI q) := by
      unfold f_X7_readOrder ocf oce oc3 oc2 oc1
      rw [fi, if_pos n10, fp, if_pos nq]
    have eg : g_X7_readOrder h = ocg (g_X9_step (g_X9_step h)) (nI q) := by
      unfold g_X7_readOrder ocg oce oc3 oc2 oc1
      rw [fi, if_pos n10, fp, if_pos nq]
    have ep : p_X7_readOrder h := by
      have B1 := B.1
      unfold ocp oce oc3 oc2 oc1 at B1
      unfold p_X7_readOrder
      rw [fi, fp]
      exact ⟨pst, pn, fun _ => ⟨p1, p2, fun _ => ⟨p3, B1⟩, fun z => (nq z).elim⟩, fun z => (n10 z).elim⟩
    have eop : op hm := by
      intro _
      refine ⟨pm, fun _ => ?_⟩
      have i1 : nI (406 + 5 * T 3) + 1 = nI (406 + 5 * T 3 + 1) := nI_add _ 1
      have i2 : nI (406 + 5 * T 3) + 2 = nI (406 + 5 * T 3 + 2) := nI_add _ 2
      have i3 : nI (406 + 5 * T 3) + 3 = nI (406 + 5 * T 3 + 3) := nI_add _ 3
      have i4 : nI (406 + 5 * T 3) + 4 = nI (406 + 5 * T 3 + 4) := nI_add _ 4
      have e5 : og5 hm = on5 (og4 hm) (406 + 5 * T 3) := by
        unfold og5 on5
        rw [ix, i1, nI_clamp (by omega)]
      have e6 : og6 hm = on6 (og4 hm) (406 + 5 * T 3) := by
        unfold og6 on6
        rw [e5, ix, i2, nI_clamp (by omega)]
      have e7 : og7 hm = on7 (og4 hm) (406 + 5 * T 3) := by
        unfold og7 on7
        rw [e6, ix, i3, nI_clamp (by omega)]
      rw [ix, i1, i2, i3, i4, e5, e6, e7]
      exact ⟨p4, vp_in_nI (by omega) (by omega), B.2.1.1, vp_in_nI (by omega) (by omega), B.2.1.2.1, vp_in_nI (by omega) (by omega), B.2.1.2.2.1, vp_in_nI (by omega) (by omega), B.2.1.2.2.2, vp_in_nI (by omega) (by omega)⟩
    rw [ef, eg, eog]
    refine ⟨ep, eop, B.2.2.1, K2.trans B.2.2.2.1, ?_⟩
    rcases B.2.2.2.2 with ⟨b1, v1, v2, v3, v4, s', w1, w2, w3, w4, w5, w6, w7, w8, w9, w10⟩ | b
    · refine Or.inl ⟨b1, q, v1, v2, v3, v4, s', hq, w1, w2, w3, w4, w5, by omega, w7, w8.trans K13, fun p => ?_, fun T' j hT' => ?_⟩
      · rw [w9 p, K57 p]
      · rw [w10 T' j hT', q3]
        exact oe_c (q2 T' j hT')
    · exact Or.inr b
  · have eog : og hm = og3 hm := by
      unfold og
      rw [if_pos hf1, if_neg hf3]
    have eop : op hm := fun _ => ⟨pm, fun z => (hf3 z).elim⟩
    rw [eog]
    rcases O with ⟨fi, C⟩ | ⟨fi, p1, p2, fp, C⟩
    · have E := fb_end X hs1 M C
      have ef : f_X7_readOrder h = 0 := by
        unfold f_X7_readOrder
        rw [fi, if_neg n00]
        rfl
      have eg : g_X7_readOrder h = g_X7_fail (g_X9_step h) 1 := by
        unfold g_X7_readOrder
        rw [fi, if_neg n00]
      have ep : p_X7_readOrder h := by
        unfold p_X7_readOrder
        rw [fi]
        exact ⟨pst, pn, fun z => (z rfl).elim, fun _ => ⟨trivial, Or.inl rfl, trivial⟩⟩
      rw [ef, eg]
      exact ⟨ep, eop, E.1, K.trans (fun k h4 h5 h7 h8 _ => E.2.2 k h4 h5 h7 h8), Or.inr ⟨rfl, E.2.1⟩⟩
    · have E := fb_end X hs1 M C
      have ef : f_X7_readOrder h = 0 := by
        unfold f_X7_readOrder
        rw [fi, if_pos n10, fp, if_neg nn]
        rfl
      have eg : g_X7_readOrder h = g_X7_fail (g_X9_step h) 3 := by
        unfold g_X7_readOrder
        rw [fi, if_pos n10, fp, if_neg nn]
      have ep : p_X7_readOrder h := by
        unfold p_X7_readOrder
        rw [fi, fp]
        exact ⟨pst, pn, fun _ => ⟨p1, p2, fun z => (z rfl).elim, fun _ => ⟨trivial, Or.inl rfl, trivial⟩⟩, fun z => (n10 z).elim⟩
      rw [ef, eg]
      exact ⟨ep, eop, E.1, K.trans (fun k h4 h5 h7 h8 _ => E.2.2 k h4 h5 h7 h8), Or.inr ⟨rfl, E.2.1⟩⟩
end ORN8
section PPR8
variable {h k hm : Hp} {x : Nat → Nat} {t s l c q : Nat} {T : Nat → Nat}
/-- the end of the line of a product, as both leave it -/
def PRE8 (h G k K : Hp) (x : Nat → Nat) (t s c q : Nat) (T : Nat → Nat) : Prop := ∃ T' l' s' G0, 1 ≤ l' ∧ BG G0 c T' l' ∧ (∀ a, ¬ RLn q a → T' a = T a) ∧ G0.2.1 = h.2.1 ∧ G0.1 7 0 = h.1 7 0 ∧ G0.1 1 = h.1 1 ∧ (∀ a j, ¬ (a = 9 ∧ j = 0) → G.1 a j = (hp_i G0 1 c 1 (nI (q + 1))).1 a j) ∧ G.2.1 = h.2.1 ∧ s < s' ∧ PSE G K x t s' ∧ (∀ a, a < 506 → K.1 57 0 a = nI (if a = 1 then q + 1 else if a = 188 + q then l' else T' a)) ∧ K.1 12 0 8 = k.1 12 0 8
theorem l_prod8 (hq : q < 8) : ∀ (m l f f' : Nat) (h k : Hp) (T : Nat → Nat) (s : Nat), l + m = 6 → T 1 = q → h.2.2 7 0 3 = c → PS h k x t s → RD k T → BG h c T l → (l = 6 → ob_kd x t s = 2) →
    p_X7_readBillLine h ∧ p_X12_line k (nI q) (nI l) ∧ p_X12_blanks0 (g_X12_line k (nI q) (nI l)) ∧ p_X12_isAt (g_X12_blanks0 (g_X12_line k (nI q) (nI l))) 48 57 ∧
    pw_X7_readProduct_44 (m + 2 + f) (g_X7_readBillLine h) (f_X7_readBillLine h) (nI (l + 1)) ∧ pw_X12_product_84 (m + 2 + f') (g_X12_blanks0 (g_X12_line k (nI q) (nI l))) (nI q) (nI (l + 1)) (f_X12_isAt (g_X12_blanks0 (g_X12_line k (nI q) (nI l))) 48 57) ∧
    psm (gw_X12_product_84 (m + 2 + f') (g_X12_blanks0 (g_X12_line k (nI q) (nI l))) (nI q) (nI (l + 1)) (f_X12_isAt (g_X12_blanks0 (g_X12_line k (nI q) (nI l))) 48 57)) ∧
    KX k (sm4 (gw_X12_product_84 (m + 2 + f') (g_X12_blanks0 (g_X12_line k (nI q) (nI l))) (nI q) (nI (l + 1)) (f_X12_isAt (g_X12_blanks0 (g_X12_line k (nI q) (nI l))) 48 57))) ∧
    ((fw_X7_readProduct_44 (m + 2 + f) (g_X7_readBillLine h) (f_X7_readBillLine h) (nI (l + 1)) = 1 ∧ PRE8 h (gw_X7_readProduct_44 (m + 2 + f) (g_X7_readBillLine h) (f_X7_readBillLine h) (nI (l + 1))) k (sm4 (gw_X12_product_84 (m + 2 + f') (g_X12_blanks0 (g_X12_line k (nI q) (nI l))) (nI q) (nI (l + 1)) (f_X12_isAt (g_X12_blanks0 (g_X12_line k (nI q) (nI l))) 48 57))) x t s c q T) ∨
     (fw_X7_readProduct_44 (m + 2 + f) (g_X7_readBillLine h) (f_X7_readBillLine h) (nI (l + 1)) = 0 ∧ FB (gw_X7_readProduct_44 (m + 2 + f) (g_X7_readBillLine h) (f_X7_readBillLine h) (nI (l + 1))) (sm4 (gw_X12_product_84 (m + 2 + f') (g_X12_blanks0 (g_X12_line k (nI q) (nI l))) (nI q) (nI (l + 1)) (f_X12_isAt (g_X12_blanks0 (g_X12_line k (nI q) (nI l))) 48 57))))) := by
  have n10 : ¬ (1 : Int32) = 0 := by decide
  have n00 : ¬ ¬ (0 : Int32) = 0 := fun z => z rfl
  have e188 : (188 : Int32) + nI q = nI (188 + q) := nI_add 188 q
  have v188 : vp_in (nI (188 + q)) 506 := vp_in_nI (by omega) (by omega)
  intro m
  induction m with
  | zero =>
    intro l f f' h k T s hl hT1 hc P R B h6
    rw [← hc] at B
    obtain ⟨pa, pb, BL⟩ := ps_bill P R B h6
    rw [hT1] at pb BL
    rcases BL with ⟨-, b, -⟩ | ⟨fa, s', c', hs', C, M, X, K⟩
    · omega
    · have bt := P.1.1
      have hb := m_bad (show s' < 2 ^ 31 by omega) M.2.2.1
      have b0 := m_b0_bad hb
      have r := m_84F hb hq (0 + 1 + f') (nI (l + 1)) (f_X12_isAt (g_X12_line k (nI q) (nI l)) 48 57)
      obtain ⟨p, hp, p4⟩ := M.1
      have a1 := m_at (lo := 48) (hi := 57) X p4 (by omega) (by omega) (by omega)
      rw [b0.2, fa, show 0 + 2 + f' = 0 + 1 + f' + 1 by omega, r.2, show 0 + 2 + f = 0 + 1 + f + 1 by omega, pw_X7_readProduct_44, fw_X7_readProduct_44, gw_X7_readProduct_44, if_neg n00, if_neg n00, if_pos (rfl : (0 : Int32) = 0), if_pos (rfl : (0 : Int32) = 0), ite_self, ite_self]
      generalize g_X12_line k (nI q) (nI l) = k1 at *
      have E := fb_end ((X.set57 (k := 188 + q) (v := nI (l + 1))).set57 (k := 1) (v := (hp_i k1 57 0 (188 + q) (nI (l + 1))).1 57 0 1 + 1)) hs' M.set.set C
      exact ⟨pa, pb, b0.1, a1.1, ⟨fun _ => ⟨fun z => (n00 z).elim, fun _ => trivial⟩, fun _ => ⟨fun _ => ⟨fun z => (n00 z).elim, fun _ => trivial⟩, fun z => (n00 z).elim⟩⟩, r.1, E.1, ((K.trans KX.set).trans KX.set).trans (fun k h4 h5 h7 h8 _ => E.2.2 k h4 h5 h7 h8), Or.inr ⟨rfl, E.2.1⟩⟩
  | succ m ih =>
    intro l f f' h k T s hl hT1 hc P R B h6
    rw [← hc] at B
    obtain ⟨pa, pb, BL⟩ := ps_bill P R B h6
    have glb : (g_X7_readBillLine h).2.1 = h.2.1 := gl_X7_readBillLine
    have grb : (g_X7_readBillLine h).2.2 = h.2.2 := gr_X7_readBillLine
    rw [hT1] at pb BL
    have bt := P.1.1
    rcases BL with ⟨fa, hl6, T', s', ss, P1, R1, B1, T1, a7, a1', K1⟩ | ⟨fa, s', c', hs', C, M, X, K⟩
    · rw [hc] at B1
      rw [fa]
      have cc : (g_X7_readBillLine h).2.2 7 0 3 = c := by rw [grb]; exact hc
      have t1 : T' 1 = q := (T1 1 (by unfold RLn; omega)).trans hT1
      generalize g_X7_readBillLine h = h1 at *
      generalize g_X12_line k (nI q) (nI l) = k1 at *
      obtain ⟨pbl, P2, K2, q4, q5⟩ := P1.blanks
      have R2 : RD (g_X12_blanks k1) T' := R1.same (fr_X12_blanks (by omega))
      have b0 := m_b0_ok P1.2.2.2.2.1 pbl
      rw [b0.2]
      generalize g_X12_blanks k1 = k2 at *
      have at1 := m_at (lo := 48) (hi := 57) P2.2.2.2.1 q4 (by have := P2.2.2.1; omega) (by omega) (by omega)
      rw [show nI 48 = 48 from rfl, show nI 57 = 57 from rfl] at at1
      have ke : h1.1 9 0 0 = nI (ob_kd x t s') := P2.2.1.2.1
      have kl := ob_kd_lt x t s'
      have c6 : ¬ (6 : Int32) < nI (l + 1) := nI_nlt (a := 6) (by omega) (by omega)
      have hF := m_ok P2.2.2.2.2.1
      have nF : ¬ ¬ f_X12_hasFailed k2 = 0 := fun z => z hF
      by_cases kd : ob_kd x t s' = 2
      · have hst : s' < t := by
          unfold ob_kd at kd
          by_cases y : s' < t
          · exact y
          · rw [if_neg y] at kd; omega
        have xs : 48 ≤ x s' ∧ x s' ≤ 57 := by
          unfold ob_kd at kd
          rw [if_pos hst] at kd
          exact (ob_kk_2 (x s')).mp kd
        rw [if_pos ⟨hst, xs⟩] at at1
        have k2' : h1.1 9 0 0 = 2 := by rw [ke, kd]; rfl
        have en : nI (l + 1) + 1 = nI (l + 1 + 1) := nI_add (l + 1) 1
        have r := ih (l + 1) f f' h1 k2 T' s' (by omega) t1 cc P2 R2 B1 (fun _ => kd)
        obtain ⟨r1, r2, r3, r4, r5, r6, r7, r8, r9⟩ := r
        rw [at1.2, show m + 1 + 2 + f = m + 2 + f + 1 by omega, show m + 1 + 2 + f' = m + 2 + f' + 1 by omega, pw_X7_readProduct_44, fw_X7_readProduct_44, gw_X7_readProduct_44, pw_X12_product_84, gw_X12_product_84, if_neg c6, if_neg c6, if_neg n10, if_neg n10, if_neg n10, if_neg (show ¬ ¬ h1.1 9 0 0 = 2 from fun z => z k2'), if_neg (show ¬ ¬ h1.1 9 0 0 = 2 from fun z => z k2'), if_neg nF, en]
        refine ⟨pa, pb, b0.1, at1.1, ⟨fun z => (c6 z).elim, fun _ => ⟨fun z => (n10 z).elim, fun _ => ⟨fun z => (z k2').elim, fun _ => ⟨r1, r5⟩⟩⟩⟩, ⟨fun z => (n10 z).elim, fun _ => ⟨m_pF _, fun z => (nF z).elim, fun _ => ⟨r2, r3, r4, r6⟩⟩⟩, r7, (K1.kx.trans K2.kx).trans r8, ?_⟩
        rcases r9 with ⟨y1, T2, l', s2, G0, z1, z2, z3, z4, z5, z6, z7, z8, z9, z10, z11, z12⟩ | y
        · refine Or.inl ⟨y1, T2, l', s2, G0, z1, z2, fun a ha => (z3 a ha).trans (T1 a ha), z4.trans glb, z5.trans a7, z6.trans a1', z7, z8.trans glb, by omega, z10, z11, z12.trans ((K2 8 (by omega) (by omega)).trans (K1 8 (by omega) (by omega)))⟩
        · exact Or.inr y
      · have nx : ¬ (s' < t ∧ 48 ≤ x s' ∧ x s' ≤ 57) := fun y => kd (by unfold ob_kd; rw [if_pos y.1]; exact (ob_kk_2 (x s')).mpr y.2)
        rw [if_neg nx] at at1
        have k2' : ¬ h1.1 9 0 0 = 2 := by rw [ke]; exact fun z => kd ((nI_eq (b := 2) (by omega) (by omega)).mp z)
        rw [at1.2, show m + 1 + 2 + f = m + 2 + f + 1 by omega, show m + 1 + 2 + f' = m + 2 + f' + 1 by omega, pw_X7_readProduct_44, fw_X7_readProduct_44, gw_X7_readProduct_44, pw_X12_product_84, gw_X12_product_84, if_neg c6, if_neg c6, if_neg n10, if_neg n10, if_pos k2', if_pos k2', if_pos rfl, cc, if_pos n10, if_pos n10, e188, nI_clamp (by omega)]
        have n8 : ¬ (8 : Int32) ≤ h1.1 1 c 1 := by rw [B1.1.2.1.2, t1]; exact nI_ge (b := 8) hq (by omega)
        have ep : g_X1_endProduct h1 c = hp_i h1 1 c 1 (nI (q + 1)) := by
          unfold g_X1_endProduct
          rw [if_neg n8, B1.1.2.1.2, t1]
          congr 1
          exact nI_add q 1
        have m1 : (hp_i k2 57 0 (188 + q) (nI (l + 1))).1 57 0 1 = nI q := by rw [hp_i_g, if_neg (by omega), R2 1 (by omega), t1]
        rw [ep, m1, show nI q + 1 = nI (q + 1) from nI_add q 1]
        have P3 := ((P2.set57 (j := 188 + q) (v := nI (l + 1))).set57 (j := 1) (v := nI (q + 1))).cls (h' := hp_i h1 1 c 1 (nI (q + 1))) (hp_i_t (by omega)) (hp_i_t (by omega)) (hp_i_t (by omega))
        have z57 : ∀ a, a < 506 → (hp_i (hp_i k2 57 0 (188 + q) (nI (l + 1))) 57 0 1 (nI (q + 1))).1 57 0 a = nI (if a = 1 then q + 1 else if a = 188 + q then l + 1 else T' a) := fun a ha => by
          rw [hp_i_g]
          by_cases y1 : a = 1
          · rw [if_pos y1, if_pos y1]
          · rw [if_neg y1, if_neg y1, hp_i_g]
            by_cases y2 : a = 188 + q
            · rw [if_pos y2, if_pos y2]
            · rw [if_neg y2, if_neg y2]; exact R2 a ha
        have z13 : (hp_i (hp_i k2 57 0 (188 + q) (nI (l + 1))) 57 0 1 (nI (q + 1))).1 12 0 8 = k.1 12 0 8 := by
          rw [hp_i_t (by omega), hp_i_t (by omega)]
          exact (K2 8 (by omega) (by omega)).trans (K1 8 (by omega) (by omega))
        have KZ : KX k (hp_i (hp_i k2 57 0 (188 + q) (nI (l + 1))) 57 0 1 (nI (q + 1))) := ((K1.kx.trans K2.kx).trans KX.set).trans KX.set
        have gl5 : (hp_i h1 1 c 1 (nI (q + 1))).2.1 = h1.2.1 := rfl
        generalize hp_i (hp_i k2 57 0 (188 + q) (nI (l + 1))) 57 0 1 (nI (q + 1)) = k3 at *
        generalize hh5 : hp_i h1 1 c 1 (nI (q + 1)) = h5 at *
        have E := ps_semi P3
        have fb01 : f_X7_readSemicolon h5 = 0 ∨ f_X7_readSemicolon h5 = 1 := by
          rcases E.2.2 with e | e
          · exact Or.inr e.1
          · exact Or.inl e.1
        have pE : p_X1_endProduct h1 c := trivial
        have X5 : (¬ (1 : Int32) = 0 → p_X1_endProduct h1 c ∧ p_X7_readSemicolon h5 ∧ (f_X7_readSemicolon h5 = 0 ∨ f_X7_readSemicolon h5 = 1) ∧ True) ∧ ((1 : Int32) = 0 → True) := ⟨fun _ => ⟨pE, E.1, fb01, trivial⟩, fun _ => trivial⟩
        refine ⟨pa, pb, b0.1, at1.1, ⟨fun _ => X5, fun _ => ⟨fun _ => X5, fun _ => ⟨fun _ => X5, fun z => (k2' z).elim⟩⟩⟩, ⟨fun _ => ⟨v188, trivial⟩, fun z => (z rfl).elim⟩, E.2.1, ?_, ?_⟩
        · rcases E.2.2 with ⟨-, -, -, -, e⟩ | ⟨-, -, e⟩
          · exact KZ.trans e.kx
          · exact KZ.trans e
        · rcases E.2.2 with ⟨y1, y2, y3, ⟨s5, y4, y5⟩, y6⟩ | ⟨y1, y2, y3⟩
          · refine Or.inl ⟨y1, T', l + 1, s5, h1, by omega, B1, T1, glb, a7, a1', fun a j hT => ?_, ?_, by omega, y5, fun a ha => ?_, (y6 8 (by omega) (by omega)).trans z13⟩
            · rw [y2, fr_X9_step hT, hh5]
            · rw [y2, gl_X9_step, gl5]; exact glb
            · rw [fr_sm4 (by omega)]; exact z57 a ha
          · exact Or.inr ⟨y1, y2⟩
    · have hb := m_bad (show s' < 2 ^ 31 by omega) M.2.2.1
      have b0 := m_b0_bad hb
      have r := m_84F hb hq (m + 1 + 1 + f') (nI (l + 1)) (f_X12_isAt (g_X12_line k (nI q) (nI l)) 48 57)
      obtain ⟨p, hp, p4⟩ := M.1
      have a1 := m_at (lo := 48) (hi := 57) X p4 (by omega) (by omega) (by omega)
      rw [b0.2, fa, show m + 1 + 2 + f' = m + 1 + 1 + f' + 1 by omega, r.2, show m + 1 + 2 + f = m + 1 + 1 + f + 1 by omega, pw_X7_readProduct_44, fw_X7_readProduct_44, gw_X7_readProduct_44, if_neg n00, if_neg n00, if_pos (rfl : (0 : Int32) = 0), if_pos (rfl : (0 : Int32) = 0), ite_self, ite_self]
      generalize g_X12_line k (nI q) (nI l) = k1 at *
      have E := fb_end ((X.set57 (k := 188 + q) (v := nI (l + 1))).set57 (k := 1) (v := (hp_i k1 57 0 (188 + q) (nI (l + 1))).1 57 0 1 + 1)) hs' M.set.set C
      exact ⟨pa, pb, b0.1, a1.1, ⟨fun _ => ⟨fun z => (n00 z).elim, fun _ => trivial⟩, fun _ => ⟨fun _ => ⟨fun z => (n00 z).elim, fun _ => trivial⟩, fun z => (n00 z).elim⟩⟩, r.1, E.1, ((K.trans KX.set).trans KX.set).trans (fun k h4 h5 h7 h8 _ => E.2.2 k h4 h5 h7 h8), Or.inr ⟨rfl, E.2.1⟩⟩
end PPR8
section PRW8
variable {h k hm : Hp} {x : Nat → Nat} {t s l c q n : Nat} {T T' : Nat → Nat}
theorem ps_product8 (P : PS h hm x t s) (W : IWd x t s 1) (h4 : hm.1 12 0 4 = nI s) (R : RD hm T) (D : DR h (h.2.2 7 0 3) T) (h1 : T 1 < 8) : p_X7_readProduct h ∧ p_X12_product hm ∧ psm (g_X12_product hm) ∧ KX hm (sm4 (g_X12_product hm)) ∧
    ((f_X7_readProduct h = 1 ∧ ∃ T' s', s < s' ∧ PSE (g_X7_readProduct h) (sm4 (g_X12_product hm)) x t s' ∧ RD (sm4 (g_X12_product hm)) T' ∧ DR (g_X7_readProduct h) (h.2.2 7 0 3) T' ∧ T' 1 = T 1 + 1 ∧ (∀ a, ¬ RQ (T 1) a → ¬ a = 1 → T' a = T a) ∧ (g_X7_readProduct h).1 7 0 = h.1 7 0 ∧ (∀ a, ¬ a = 1 → (g_X7_readProduct h).1 1 (h.2.2 7 0 3) a = h.1 1 (h.2.2 7 0 3) a) ∧ (sm4 (g_X12_product hm)).1 12 0 8 = hm.1 12 0 8) ∨
     (f_X7_readProduct h = 0 ∧ FB (g_X7_readProduct h) (sm4 (g_X12_product hm)))) := by
  obtain ⟨p1, p2, p3, p4, p5, -⟩ := id P
  have bt := p1.1
  have hF := m_ok p5
  have r1 := R 1 (by omega)
  have bD := D.1
  have m0 : g_X12_must hm (if 8 ≤ nI (T 1) then (0 : Int32) else 1) 4 = hm := by
    rw [if_neg (show ¬ (8 : Int32) ≤ nI (T 1) from nI_ge (b := 8) h1 (by omega))]
    exact m_must1 (by decide)
  have l7 : (oa_by 1).length = 7 := by decide
  have e7 : nI s + 7 = nI (s + 7) := nI_add s 7
  have g4 : (hp_i hm 12 0 4 (hm.1 12 0 4 + 7)).1 12 0 4 = nI (s + (oa_by 1).length) := by rw [hp_i_g, if_pos rfl, h4, l7]; exact e7
  have P1 := ps_word (hm' := hp_i hm 12 0 4 (hm.1 12 0 4 + 7)) P (by decide) W g4 (by rw [hp_i_g, if_neg (by omega)]) (by rw [hp_i_g, if_neg (by omega)]) (hp_i_t (by omega))
  have s1l : s < ob_SK x t (s + (oa_by 1).length) := by
    have el := ob_ED_le (x := x) (k := 1) p3
    have := W.1
    have := (ob_SK_le (x := x) (show s + (oa_by 1).length ≤ t by omega)).1
    omega
  have hk57 : (hp_i hm 12 0 4 (hm.1 12 0 4 + 7)).1 57 0 = hm.1 57 0 := hp_i_t (by omega)
  have k13 : (hp_i hm 12 0 4 (hm.1 12 0 4 + 7)).1 12 0 8 = hm.1 12 0 8 := by rw [hp_i_g, if_neg (by omega)]
  have kx1 : KX hm (hp_i hm 12 0 4 (hm.1 12 0 4 + 7)) := KX.set4
  have i1 : (12 : Int32) + nI (T 1) = nI (12 + T 1) := nI_add 12 _
  unfold p_X12_product g_X12_product
  rw [r1, m0, if_pos hF, i1]
  generalize hp_i hm 12 0 4 (hm.1 12 0 4 + 7) = k1 at *
  have q1 : (g_X9_step h).1 7 0 = h.1 7 0 := fr_X9_step (by omega)
  have q2 : ∀ a j, ¬ a = 7 → ¬ a = 9 → (g_X9_step h).1 a j = h.1 a j := fun a j _ hT => fr_X9_step (by omega)
  have q3 : (g_X9_step h).2.2 = h.2.2 := gr_X9_step
  have q4 : (g_X9_step h).2.1 = h.2.1 := gl_X9_step
  obtain ⟨pst, P1⟩ := P1
  unfold p_X7_readProduct f_X7_readProduct g_X7_readProduct
  have D1 : DR (g_X9_step h) (h.2.2 7 0 3) T := D.cls q2 q4
  have c3 : (g_X9_step h).2.2 7 0 3 = h.2.2 7 0 3 := by rw [q3]
  generalize g_X9_step h = h1' at *
  generalize ob_SK x t (s + (oa_by 1).length) = s1 at *
  have hs1 := P1.2.2.1
  have R1 : RD k1 T := R.same hk57
  have NN := ps_newName (k := 12 + T 1) P1 R1 D1.2.2.2.2.1 D1.2.2.2.2.2.1 bD.1 bD.2 (by rw [c3]; exact D1.2.1.1) (by rw [c3]; exact D1.2.1.2) (by rw [c3]; exact D1.2.2.2.2.2.2.1) (by rw [c3]; exact D1.2.2.2.2.2.2.2.1) (by omega)
  obtain ⟨na, nb, NN⟩ := NN
  have n10 : ¬ (1 : Int32) = 0 := by decide
  have n00 : ¬ ¬ (0 : Int32) = 0 := fun z => z rfl
  obtain ⟨f52, hf52⟩ := oa_fuel (show 12 < 1000000 by omega)
  rcases NN with ⟨ff, gg, N, no, pn, fn, H0, ke, kt, rn⟩ | ⟨ff, c, FCc, MFc⟩
  · have te := ob_run hs1 N.1 (Or.inl rfl)
    have el := ob_ED_le (x := x) (k := 1) hs1
    have L := ob_lt hs1 N
    have k24 : (g_X12_newName k1 (nI (12 + T 1))).1 12 0 4 = nI (ob_ED x t 1 s1) := by rw [rn.2.1]; congr 1; omega
    have k2k : ∀ k, ¬ k = 4 → ¬ k = 5 → (g_X12_newName k1 (nI (12 + T 1))).1 12 0 k = k1.1 12 0 k := fun k h4 h5 => (rn.2.2.1 k h4).trans (ke k h4 h5)
    have f54 : (g_X12_newName k1 (nI (12 + T 1))).1 54 0 = k1.1 54 0 := fr_X12_newName (by omega) (by omega)
    have a57 : ∀ a, (g_X12_newName k1 (nI (12 + T 1))).1 57 0 a = if 4 + 8 * (12 + T 1) ≤ a ∧ a < 4 + 8 * (12 + T 1) + 8 then nI (if a - (4 + 8 * (12 + T 1)) < ob_ED x t 1 s1 - s1 then x (s1 + (a - (4 + 8 * (12 + T 1)))) else 0) else hm.1 57 0 a := fun a => by
      rw [rn.1 a, kt 57 0 (by omega), hk57]
      rfl
    obtain ⟨K, K1, K2, K3, K4⟩ := l_52 h1 12 f52 0 (g_X12_newName k1 (nI (12 + T 1))) (by omega)
    rw [← hf52, nI_0] at K3 K4
    rw [K4]
    have Kk : ∀ a, ¬ a = 4 → ¬ a = 5 → K.1 12 0 a = k1.1 12 0 a := fun a y4 y5 => by rw [K1 12 0 (by omega)]; exact k2k a y4 y5
    have K124 : K.1 12 0 4 = nI (ob_ED x t 1 s1) := by rw [K1 12 0 (by omega)]; exact k24
    rw [ff, if_pos n10, if_pos n10, gg, fn, c3]
    obtain ⟨nm, hnm⟩ : ∃ nm, nm = ob_pk (ob_pl x s1 (ob_ED x t 1 s1 - s1)) := ⟨_, rfl⟩
    rw [← hnm]
    have BB := a_beginP (nm := nm) D1 h1
    have B0 : BG (g_X1_beginProduct h1' (h.2.2 7 0 3) nm) (h.2.2 7 0 3) (ob_TB T x s1 (ob_ED x t 1 s1 - s1) (T 1)) 0 := bg_begin D1 h1 (fun i hi => by have := L.2.2 i hi; omega) L.2.1
    obtain ⟨g0, g1, -, -, -, -, g6, g7, g8⟩ := BB
    generalize g_X1_beginProduct h1' (h.2.2 7 0 3) nm = h2 at *
    have P1' := P1.cls (g1 4 0 (by omega) (by omega) (by omega)) (g1 35 0 (by omega) (by omega) (by omega)) (g1 9 0 (by omega) (by omega) (by omega))
    have P2 := ps_step P1' te.1 K124 (Kk 6 (by omega) (by omega)) (Kk 7 (by omega) (by omega)) ((K1 54 0 (by omega)).trans f54)
    obtain ⟨ps2, P2⟩ := P2
    have B1 : BG (g_X9_step h2) (h.2.2 7 0 3) (ob_TB T x s1 (ob_ED x t 1 s1 - s1) (T 1)) 0 := B0.cls (fun a j _ y => fr_X9_step (by omega)) gl_X9_step
    have w3 : (g_X9_step h2).2.2 7 0 3 = h.2.2 7 0 3 := by rw [gr_X9_step, g6, c3]
    have wl : (g_X9_step h2).2.1 = h2.2.1 := gl_X9_step
    have w7 : (g_X9_step h2).1 7 0 = h2.1 7 0 := fr_X9_step (by omega)
    have w1 : (g_X9_step h2).1 1 = h2.1 1 := funext fun j => fr_X9_step (by omega)
    have s2l : s1 ≤ ob_SK x t (ob_ED x t 1 s1) := by have := (ob_SK_le (x := x) el.2).1; omega
    generalize g_X9_step h2 = h3 at *
    generalize ob_SK x t (ob_ED x t 1 s1) = s2 at *
    have t1 : ob_TB T x s1 (ob_ED x t 1 s1 - s1) (T 1) 1 = T 1 := by unfold ob_TB; rw [if_neg (by omega), if_neg (by omega)]
    have RK : RD K (ob_TB T x s1 (ob_ED x t 1 s1 - s1) (T 1)) := fun a ha => by
      rw [K2 a, a57 a]
      unfold ob_TB
      by_cases y1 : 100 + 8 * T 1 ≤ a ∧ a < 108 + 8 * T 1
      · rw [if_neg (by omega), if_pos (by omega), if_pos y1, show 4 + 8 * (12 + T 1) = 100 + 8 * T 1 by omega]
      · rw [if_neg y1]
        by_cases y2 : 292 + 12 * T 1 ≤ a ∧ a < 304 + 12 * T 1
        · rw [if_pos y2, if_pos (by omega)]; rfl
        · rw [if_neg y2, if_neg (by omega), if_neg (by omega)]
          exact R a ha
    obtain ⟨u1, hu1⟩ : ∃ e, oa_N = 6 + 2 + e := ⟨1000000 - 8, by unfold oa_N; omega⟩
    obtain ⟨u2, hu2⟩ : ∃ e, oa_N = (6 + 2 + e) + 1 := ⟨1000000 - 9, by unfold oa_N; omega⟩
    have LP := l_prod8 (c := h.2.2 7 0 3) (x := x) (t := t) h1 6 0 u1 u2 h3 K (ob_TB T x s1 (ob_ED x t 1 s1 - s1) (T 1)) s2 (by omega) t1 w3 P2 RK B1 (by omega)
    rw [← hu1, nI_0, show nI (0 + 1) = 1 from rfl] at LP
    obtain ⟨v1, v2, v3, v4, v5, v6, v7, v8, v9⟩ := LP
    have hFK := m_ok P2.2.2.2.2.1
    have nFK : ¬ ¬ f_X12_hasFailed K = 0 := fun z => z hFK
    have ep : pw_X12_product_84 oa_N K (nI (T 1)) 0 1 := by
      rw [hu2, pw_X12_product_84]
      exact ⟨fun z => (n10 z).elim, fun _ => ⟨m_pF _, fun z => (nFK z).elim, fun _ => ⟨v2, v3, v4, v6⟩⟩⟩
    have eg : gw_X12_product_84 oa_N K (nI (T 1)) 0 1 = gw_X12_product_84 (6 + 2 + u2) (g_X12_blanks0 (g_X12_line K (nI (T 1)) 0)) (nI (T 1)) 1 (f_X12_isAt (g_X12_blanks0 (g_X12_line K (nI (T 1)) 0)) 48 57) := by
      conv => lhs; rw [hu2, gw_X12_product_84, if_neg n10, if_neg nFK]
      rfl
    rw [eg]
    have KK : KX hm K := kx1.trans (fun a y4 y5 _ _ _ => Kk a y4 y5)
    refine ⟨⟨pst, na, fun _ => ⟨pn, g0, ps2, v1, v5⟩, fun z => (n10 z).elim⟩, ⟨m_pM _ _ _, m_pF _, fun _ => ⟨nb, K3 ep⟩, fun z => (z hF).elim⟩, v7, KK.trans v8, ?_⟩
    rcases v9 with ⟨y1, T2, l', s3, G0, z1, z2, z3, z4, z5, z6, z7, z8, z9, z10, z11, z12⟩ | y
    · have tt1 : T2 1 = T 1 := (z3 1 (by unfold RLn; omega)).trans t1
      have gl0 : G0.2.1 = h2.2.1 := z4.trans wl
      have rown : ∀ i, i < 8 → T2 (4 + 8 * (12 + T 1) + i) = if i < ob_ED x t 1 s1 - s1 then x (s1 + i) else 0 := fun i hi => by
        rw [z3 _ (by unfold RLn; omega)]
        unfold ob_TB
        rw [if_pos (by omega), show 4 + 8 * (12 + T 1) + i - (100 + 8 * T 1) = i by omega]
      have roww : ∀ a i, VK T a → i < 8 → T2 (4 + 8 * a + i) = T (4 + 8 * a + i) := fun a i ha hi => by
        unfold VK at ha
        rw [z3 _ (by unfold RLn; omega)]
        unfold ob_TB
        rw [if_neg (by omega), if_neg (by omega)]
      have tt0 : T2 0 = T 0 := by
        rw [z3 0 (by unfold RLn; omega)]
        unfold ob_TB
        rw [if_neg (by omega), if_neg (by omega)]
      have gr : GR T2 (12 + T 1) (ob_ED x t 1 s1 - s1) := by
        refine ⟨L.1, L.2.1, fun i hi => ?_, fun i h1 h2 => ?_⟩
        · rw [rown i (by have := L.2.1; omega), if_pos hi]; exact L.2.2 i hi
        · rw [rown i h2, if_neg (by omega)]
      have nmE : G0.2.1 21 (h.2.2 7 0 3) (T2 1) = oa_nm T2 (12 + T2 1) := by
        rw [tt1, gl0, g8, if_pos rfl, hnm, ob_nm_pl gr]
        exact congrArg ob_pk (ob_pl_congr _ (fun i hi => by rw [rown i (by have := L.2.1; omega), if_pos hi]))
      have un : ∀ a, VK T2 a → ¬ ∀ i, i < 8 → T2 (4 + 8 * (12 + T2 1) + i) = T2 (4 + 8 * a + i) := fun a ha hab => by
        have ha' : VK T a := by unfold VK at *; rw [tt0, tt1] at ha; exact ha
        refine no a ha' (fun i hi => ?_)
        rw [← roww a i ha' hi, ← hab i hi, tt1]
        exact rown i hi
      rw [← tt1] at z7 gr
      have DE := bg_end (G := gw_X7_readProduct_44 oa_N (g_X7_readBillLine h3) (f_X7_readBillLine h3) 1) z2 z1 z7 (z8.trans z4.symm) nmE gr un
      refine Or.inl ⟨y1, _, s3, by omega, z10, fun a ha => ?_, DE, ?_, fun a y1 y2 => ?_, ?_, fun a ha => ?_, z12.trans ((Kk 8 (by omega) (by omega)).trans k13)⟩
      · rw [z11 a ha, tt1]
      · show (if 1 = 1 then T2 1 + 1 else _) = _
        rw [if_pos rfl, tt1]
      · show (if a = 1 then T2 1 + 1 else if a = 188 + T2 1 then l' else T2 a) = _
        rw [if_neg y2, tt1, if_neg (by unfold RQ at y1; omega), z3 a (by unfold RLn; unfold RQ at y1; omega)]
        unfold ob_TB
        unfold RQ at y1
        rw [if_neg (by omega), if_neg (by omega)]
      · rw [z7 7 0 (by omega), hp_i_t (by omega), z5, w7, g1 7 0 (by omega) (by omega) (by omega), q1]
      · rw [z7 1 _ (by omega), hp_i_g, if_neg ha, z6, w1, g1 1 _ (by omega) (by omega) (by omega), q2 1 _ (by omega) (by omega)]
    · exact Or.inr y
  · have X2 : XM (g_X12_newName k1 (nI (12 + T 1))) x t := P1.num4.same (MFc.2.2.2.2 6 (by omega) (by omega) (by omega) (by omega)) (fr_X12_newName (by omega) (by omega))
    obtain ⟨K, K1, K2, K3, K4⟩ := l_52 h1 12 f52 0 (g_X12_newName k1 (nI (12 + T 1))) (by omega)
    rw [← hf52, nI_0] at K3 K4
    have K12 := K1 12 0 (by omega)
    have M : MX K t s1 c := by unfold MX; rw [K12]; exact MFc.mx
    have X3 : XM K x t := X2.same (by rw [K12]) (K1 54 0 (by omega))
    have hb := m_bad (show s1 < 2 ^ 31 by omega) M.2.2.1
    obtain ⟨u2, hu2⟩ : ∃ e, oa_N = e + 1 := ⟨1000000 - 1, by unfold oa_N; omega⟩
    have r := m_84F hb h1 u2 0 1
    rw [← hu2] at r
    rw [ff, if_neg n00, if_neg n00, K4, r.2]
    have E := fb_end ((X3.set57 (k := 188 + T 1) (v := 0)).set57 (k := 1) (v := (hp_i K 57 0 (188 + T 1) 0).1 57 0 1 + 1)) hs1 M.set.set FCc
    have KK : KX k1 K := fun a y4 y5 y7 y8 y13 => by rw [K12]; exact MFc.kx a y4 y5 y7 y8 y13
    exact ⟨⟨pst, na, fun z => (n00 z).elim, fun _ => trivial⟩, ⟨m_pM _ _ _, m_pF _, fun _ => ⟨nb, K3 r.1⟩, fun z => (z hF).elim⟩, E.1, (((kx1.trans KK).trans KX.set).trans KX.set).trans (fun k h4 h5 h7 h8 _ => E.2.2 k h4 h5 h7 h8), Or.inr ⟨rfl, E.2.1⟩⟩
end PRW8
