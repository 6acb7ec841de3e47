/-! load: the line of a part -/
section PRT
variable {h h' hm hm' H : Hp} {x : Nat → Nat} {t i k s c : Nat} {T : Nat → Nat}
theorem PS.num4 (P : PS h hm x t s) : XM hm x t := P.2.2.2.1
/-- the model's tail of the line, after a failure: two numbers -/
theorem mx_part {v1 v2 : Int32} {j1 j2 : Nat} (hs : s ≤ t) (X : XM hm x t) (F : MX hm t s c) (C : FC h s c) (z : Int32) :
    p_X12_number hm 0 9999 ∧ p_X12_number (hp_i (g_X12_number hm 0 9999) 57 0 j1 v1) 1 60 ∧ psm (hp_i (hp_i (g_X12_number (hp_i (g_X12_number hm 0 9999) 57 0 j1 v1) 1 60) 57 0 j2 v2) 57 0 0 z) ∧ FB h (sm4 (hp_i (hp_i (g_X12_number (hp_i (g_X12_number hm 0 9999) 57 0 j1 v1) 1 60) 57 0 j2 v2) 57 0 0 z)) ∧ KX hm (sm4 (hp_i (hp_i (g_X12_number (hp_i (g_X12_number hm 0 9999) 57 0 j1 v1) 1 60) 57 0 j2 v2) 57 0 0 z)) := by
  have bt := X.1
  obtain ⟨r1, M1, K1, X1⟩ := mx_num (x := x) (a := 0) (b := 9999) (v := v1) (j := j1) (by omega) F
  have X1 := X1 X
  generalize hp_i (g_X12_number hm 0 9999) 57 0 j1 v1 = k1 at *
  obtain ⟨r2, M2, K2, X2⟩ := mx_num (x := x) (a := 1) (b := 60) (v := v2) (j := j2) (by omega) M1
  have X2 := X2 X1
  generalize hp_i (g_X12_number k1 1 60) 57 0 j2 v2 = k2 at *
  have E := fb_end (X2.set57 (k := 0) (v := z)) hs M2.set C
  exact ⟨r1, r2, E.1, E.2.1, ((K1.trans K2).trans KX.set).trans (fun k h4 h5 h7 h8 _ => E.2.2 k h4 h5 h7 h8)⟩
theorem mx_part1 {v2 : Int32} {j2 : Nat} (hs : s ≤ t) (X : XM hm x t) (F : MX hm t s c) (C : FC h s c) (z : Int32) :
    p_X12_number hm 1 60 ∧ psm (hp_i (hp_i (g_X12_number hm 1 60) 57 0 j2 v2) 57 0 0 z) ∧ FB h (sm4 (hp_i (hp_i (g_X12_number hm 1 60) 57 0 j2 v2) 57 0 0 z)) ∧ KX hm (sm4 (hp_i (hp_i (g_X12_number hm 1 60) 57 0 j2 v2) 57 0 0 z)) := by
  have bt := X.1
  obtain ⟨r2, M2, K2, X2⟩ := mx_num (x := x) (a := 1) (b := 60) (v := v2) (j := j2) (by omega) F
  have X2 := X2 X
  generalize hp_i (g_X12_number hm 1 60) 57 0 j2 v2 = k2 at *
  have E := fb_end (X2.set57 (k := 0) (v := z)) hs M2.set C
  exact ⟨r2, E.1, E.2.1, (K2.trans KX.set).trans (fun k h4 h5 h7 h8 _ => E.2.2 k h4 h5 h7 h8)⟩
theorem ps_part (P : PS h hm x t s) (W : IWd x t s 0) (h4 : hm.1 12 0 4 = nI s) (R : RD hm T) (U : UN T) (hT : ∀ k, k < 160 → T (4 + k) < 128) (h0 : T 0 < 12) (hT1 : T 1 ≤ 8) (e0 : h.1 1 (h.2.2 7 0 3) 0 = nI (T 0)) (e1 : h.1 1 (h.2.2 7 0 3) 1 = nI (T 1)) (hn0 : ∀ p, p < T 0 → h.2.1 19 (h.2.2 7 0 3) p = oa_nm T p) (hn1 : ∀ p, p < T 1 → h.2.1 21 (h.2.2 7 0 3) p = oa_nm T (12 + p)) : p_X7_readPart h ∧ p_X12_part hm ∧ psm (g_X12_part hm) ∧ KX hm (sm4 (g_X12_part hm)) ∧
    ((f_X7_readPart h = 1 ∧ ∃ v1 v2 s0 s', v1 ≤ 9999 ∧ 1 ≤ v2 ∧ v2 ≤ 60 ∧ s < s' ∧ s0 ≤ t ∧ NS x t s0 ∧ (∀ q, VK T q → ¬ MT T x s0 (ob_ED x t 1 s0 - s0) q) ∧ PSE (g_X7_readPart h) (sm4 (g_X12_part hm)) x t s' ∧
      (g_X7_readPart h).1 7 0 = h.1 7 0 ∧ (∀ k, (g_X7_readPart h).1 48 (h.2.2 7 0 4) k = if k = T 0 then nI v1 else h.1 48 (h.2.2 7 0 4) k) ∧ (∀ k, (g_X7_readPart h).1 20 (h.2.2 7 0 3) k = if k = T 0 then nI v2 else h.1 20 (h.2.2 7 0 3) k) ∧ (∀ k, (g_X7_readPart h).1 1 (h.2.2 7 0 3) k = if k = 0 then nI (T 0 + 1) else h.1 1 (h.2.2 7 0 3) k) ∧
      (g_X7_readPart h).2.1 = (hp_l h 19 (h.2.2 7 0 3) (T 0) (ob_pk (ob_pl x s0 (ob_ED x t 1 s0 - s0)))).2.1 ∧
      (∀ k, (sm4 (g_X12_part hm)).1 57 0 k = if k = 0 then nI (T 0 + 1) else if k = 176 + T 0 then nI v2 else if k = 164 + T 0 then nI v1 else if 4 + 8 * T 0 ≤ k ∧ k < 4 + 8 * T 0 + 8 then nI (if k - (4 + 8 * T 0) < ob_ED x t 1 s0 - s0 then x (s0 + (k - (4 + 8 * T 0))) else 0) else hm.1 57 0 k) ∧ (sm4 (g_X12_part hm)).1 12 0 13 = hm.1 12 0 13) ∨ (f_X7_readPart h = 0 ∧ FB (g_X7_readPart h) (sm4 (g_X12_part hm)))) := by
  obtain ⟨p1, p2, p3, p4, p5, -⟩ := id P
  have bt := p1.1
  have hF := m_ok p5
  have r0 := R 0 (by omega)
  have m0 : g_X12_must hm (if 12 ≤ nI (T 0) then (0 : Int32) else 1) 4 = hm := by
    rw [if_neg (show ¬ (12 : Int32) ≤ nI (T 0) from nI_ge (b := 12) h0 (by omega))]
    exact m_must1 (by decide)
  have e4 : nI s + 4 = nI (s + 4) := nI_add s 4
  have g4 : (hp_i hm 12 0 4 (hm.1 12 0 4 + 4)).1 12 0 4 = nI (s + (oa_by 0).length) := by rw [hp_i_g, if_pos rfl, h4]; exact e4
  have P1 := ps_word (hm' := hp_i hm 12 0 4 (hm.1 12 0 4 + 4)) P (by decide) W g4 (by rw [hp_i_g, if_neg (by omega)]) (by rw [hp_i_g, if_neg (by omega)]) (hp_i_t (by omega))
  have s1l : s < ob_SK x t (s + (oa_by 0).length) := by
    have el := ob_ED_le (x := x) (k := 1) p3
    have l4 : (oa_by 0).length = 4 := by decide
    have := W.1
    have := (ob_SK_le (x := x) (show s + (oa_by 0).length ≤ t by omega)).1
    omega
  have hk57 : (hp_i hm 12 0 4 (hm.1 12 0 4 + 4)).1 57 0 = hm.1 57 0 := hp_i_t (by omega)
  have k13 : (hp_i hm 12 0 4 (hm.1 12 0 4 + 4)).1 12 0 13 = hm.1 12 0 13 := by rw [hp_i_g, if_neg (by omega)]
  have kx1 : KX hm (hp_i hm 12 0 4 (hm.1 12 0 4 + 4)) := KX.set4
  have i1 : (164 : Int32) + nI (T 0) = nI (164 + T 0) := nI_add 164 _
  have i2 : (176 : Int32) + nI (T 0) = nI (176 + T 0) := nI_add 176 _
  have w1 : vp_in (nI (164 + T 0)) 506 := vp_in_nI (by omega) (by omega)
  have w2 : vp_in (nI (176 + T 0)) 506 := vp_in_nI (by omega) (by omega)
  unfold p_X12_part g_X12_part
  rw [r0, m0, if_pos hF, i1, i2, nI_clamp (by omega), nI_clamp (by omega)]
  generalize hp_i hm 12 0 4 (hm.1 12 0 4 + 4) = k1 at *
  have q1 : (g_X9_step h).1 7 0 = h.1 7 0 := fr_X9_step (by omega)
  have q2 : ∀ T j, ¬ T = 9 → (g_X9_step h).1 T j = h.1 T j := fun T j hT => fr_X9_step (by omega)
  have q3 : (g_X9_step h).2.2 = h.2.2 := gr_X9_step
  have q4 : (g_X9_step h).2.1 = h.2.1 := gl_X9_step
  obtain ⟨pst, P1⟩ := P1
  unfold p_X7_readPart f_X7_readPart g_X7_readPart
  generalize g_X9_step h = h1 at *
  generalize ob_SK x t (s + (oa_by 0).length) = s1 at *
  have hs1 := P1.2.2.1
  have R1 : RD k1 T := R.same hk57
  have NN := ps_newName (k := T 0) P1 R1 U hT (by omega) hT1 (by rw [q3, q2 1 _ (by omega)]; exact e0) (by rw [q3, q2 1 _ (by omega)]; exact e1) (fun p hp => by rw [q3, q4]; exact hn0 p hp) (fun p hp => by rw [q3, q4]; exact hn1 p hp) (by omega)
  obtain ⟨na, nb, NN⟩ := NN
  rcases NN with ⟨ff, gg, N, no, pn, fn, H0, ke, kt, rn⟩ | ⟨ff, c, FCc, MFc⟩
  · have n10 : ¬ (1 : Int32) = 0 := by decide
    have nn : ¬ ¬ (-1 : Int32) = -1 := fun z => z rfl
    have te := ob_run hs1 N.1 (Or.inl rfl)
    have el := ob_ED_le (x := x) (k := 1) hs1
    have k24 : (g_X12_newName k1 (nI (T 0))).1 12 0 4 = nI (ob_ED x t 1 s1) := by rw [rn.2.1]; congr 1; omega
    have k2k : ∀ k, ¬ k = 4 → ¬ k = 5 → (g_X12_newName k1 (nI (T 0))).1 12 0 k = k1.1 12 0 k := fun k h4 h5 => (rn.2.2.1 k h4).trans (ke k h4 h5)
    have P2 := ps_step P1 te.1 k24 (k2k 6 (by omega) (by omega)) (k2k 7 (by omega) (by omega)) (fr_X12_newName (by omega) (by omega))
    have k2x : KX k1 (g_X12_newName k1 (nI (T 0))) := fun k h4 h5 _ _ _ => k2k k h4 h5
    have KA := kx1.trans k2x
    have a13 : (g_X12_newName k1 (nI (T 0))).1 12 0 13 = hm.1 12 0 13 := (k2k 13 (by omega) (by omega)).trans k13
    have a57 : ∀ q, (g_X12_newName k1 (nI (T 0))).1 57 0 q = if 4 + 8 * T 0 ≤ q ∧ q < 4 + 8 * T 0 + 8 then nI (if q - (4 + 8 * T 0) < ob_ED x t 1 s1 - s1 then x (s1 + (q - (4 + 8 * T 0))) else 0) else hm.1 57 0 q := fun q => by
      rw [rn.1 q, kt 57 0 (by omega), hk57]
      rfl
    have b1 : (g_X9_step h1).1 7 0 = h1.1 7 0 := fr_X9_step (by omega)
    have b2 : ∀ T j, ¬ T = 9 → (g_X9_step h1).1 T j = h1.1 T j := fun T j hT => fr_X9_step (by omega)
    have b3 : (g_X9_step h1).2.2 = h1.2.2 := gr_X9_step
    have b4 : (g_X9_step h1).2.1 = h1.2.1 := gl_X9_step
    have s2l : s1 ≤ ob_SK x t (ob_ED x t 1 s1) := by have := (ob_SK_le (x := x) el.2).1; omega
    rw [ff, if_pos n10, if_pos n10, gg, fn]
    obtain ⟨ps2, P2⟩ := P2
    generalize g_X9_step h1 = h2 at *
    generalize g_X12_newName k1 (nI (T 0)) = k2 at *
    generalize ob_SK x t (ob_ED x t 1 s1) = s2 at *
    have N1 := ps_num P2 (lo := 0) (hi := 9999) (by omega) (by omega)
    rw [show nI 0 = 0 from rfl, show nI 9999 = 9999 from rfl] at N1
    obtain ⟨pa, pb, N1⟩ := N1
    have f1 : ∀ T j, ¬ (T = 7 ∧ j = 0) → ¬ (T = 9 ∧ j = 0) → (g_X7_readNumber h2 0 9999).1 T j = h2.1 T j := fun T j h7 h9 => fr_X7_readNumber h7 h9
    have f2 : (g_X7_readNumber h2 0 9999).2.2 = h2.2.2 := gr_X7_readNumber
    have f2' : (g_X7_readNumber h2 0 9999).2.1 = h2.2.1 := gl_X7_readNumber
    have f3 : (g_X12_number k2 0 9999).1 57 0 = k2.1 57 0 := fr_X12_number (by omega)
    have f4 : (g_X12_number k2 0 9999).1 54 0 = k2.1 54 0 := fr_X12_number (by omega)
    rcases N1 with ⟨v1, s3, l1, u1, fa, fb, P3, K3, c7, sa⟩ | ⟨c, fa, fb, C3, F3⟩
    · have n1 := ob_m1 (s := v1) (by omega)
      rw [fa, fb, if_pos n1, if_pos n1]
      have KB := KA.trans K3.kx
      have c13 : (g_X12_number k2 0 9999).1 12 0 13 = hm.1 12 0 13 := (K3 13 (by omega) (by omega)).trans a13
      generalize g_X7_readNumber h2 0 9999 = h3 at *
      generalize g_X12_number k2 0 9999 = k3 at *
      have P4 := P3.set57 (j := 164 + T 0) (v := nI v1)
      have d13 : (hp_i k3 57 0 (164 + T 0) (nI v1)).1 12 0 13 = hm.1 12 0 13 := by rw [hp_i_t (by omega)]; exact c13
      have d57 : ∀ q, (hp_i k3 57 0 (164 + T 0) (nI v1)).1 57 0 q = if q = 164 + T 0 then nI v1 else k2.1 57 0 q := fun q => by rw [hp_i_g, f3]
      have KC := KB.trans (KX.set (hm := k3) (j := 164 + T 0) (v := nI v1))
      generalize hp_i k3 57 0 (164 + T 0) (nI v1) = k4 at *
      have N2 := ps_num P4 (lo := 1) (hi := 60) (by omega) (by omega)
      rw [show nI 1 = 1 from rfl, show nI 60 = 60 from rfl] at N2
      obtain ⟨pc, pd, N2⟩ := N2
      have g1 : ∀ T j, ¬ (T = 7 ∧ j = 0) → ¬ (T = 9 ∧ j = 0) → (g_X7_readNumber h3 1 60).1 T j = h3.1 T j := fun T j h7 h9 => fr_X7_readNumber h7 h9
      have g2 : (g_X7_readNumber h3 1 60).2.2 = h3.2.2 := gr_X7_readNumber
      have g2' : (g_X7_readNumber h3 1 60).2.1 = h3.2.1 := gl_X7_readNumber
      have g3 : (g_X12_number k4 1 60).1 57 0 = k4.1 57 0 := fr_X12_number (by omega)
      have g4' : (g_X12_number k4 1 60).1 54 0 = k4.1 54 0 := fr_X12_number (by omega)
      rcases N2 with ⟨v2, s4, l2, u2, fc, fd, P5, K5, d7, sb⟩ | ⟨c, fc, fd, C5, F5⟩
      · have n2 := ob_m1 (s := v2) (by omega)
        rw [fc, fd, if_pos n2, if_pos n2]
        have KD := KC.trans K5.kx
        have e13 : (g_X12_number k4 1 60).1 12 0 13 = hm.1 12 0 13 := (K5 13 (by omega) (by omega)).trans d13
        generalize g_X7_readNumber h3 1 60 = h4 at *
        generalize g_X12_number k4 1 60 = k5 at *
        have cl : ∀ T j, ¬ T = 7 → ¬ T = 9 → h4.1 T j = h.1 T j := fun T j h7 h9 => ((g1 T j (by omega) (by omega)).trans (f1 T j (by omega) (by omega))).trans ((b2 T j h9).trans (q2 T j h9))
        have cr : h4.2.2 = h.2.2 := g2.trans (f2.trans (b3.trans q3))
        have cg : h4.2.1 = h.2.1 := g2'.trans (f2'.trans (b4.trans q4))
        have cs : h4.1 7 0 = h.1 7 0 := d7.trans (c7.trans (b1.trans q1))
        have cc : h4.1 1 (h.2.2 7 0 3) 0 = nI (T 0) := by rw [cl 1 _ (by omega) (by omega)]; exact e0
        have en : nI (T 0) + 1 = nI (T 0 + 1) := nI_add (T 0) 1
        have nr : ¬ (12 : Int32) ≤ nI (T 0) := nI_ge (b := 12) h0 (by omega)
        have vr : vp_in (nI (T 0)) 12 := vp_in_nI h0 (by omega)
        have in1 := a_inside h4 (k := T 0) (N := 12) h0 (by omega)
        rw [show nI 12 = 12 from rfl] at in1
        have gs : g_X10_setStock h4 (h.2.2 7 0 4) (nI (T 0)) (nI v1) = hp_i h4 48 (h.2.2 7 0 4) (T 0) (nI v1) := by
          unfold g_X10_setStock
          rw [in1.2, if_neg (by decide), nI_clamp (by omega)]
        have pg : p_X10_setStock h4 (h.2.2 7 0 4) (nI (T 0)) (nI v1) := by
          unfold p_X10_setStock
          exact ⟨in1.1, fun _ => trivial, fun _ => ⟨vr, trivial⟩⟩
        rw [cr, cc, gs]
        have c5 : (hp_i h4 48 (h.2.2 7 0 4) (T 0) (nI v1)).1 1 (h.2.2 7 0 3) 0 = nI (T 0) := by rw [hp_i_t (by omega)]; exact cc
        have r5 : (hp_i h4 48 (h.2.2 7 0 4) (T 0) (nI v1)).2.2 = h.2.2 := cr
        obtain ⟨nm, hnm⟩ : ∃ nm, nm = ob_pk (ob_pl x s1 (ob_ED x t 1 s1 - s1)) := ⟨_, rfl⟩
        rw [← hnm]
        have ga : g_X1_addPart (hp_i h4 48 (h.2.2 7 0 4) (T 0) (nI v1)) (h.2.2 7 0 3) nm (nI v2) = hp_i (hp_i (hp_l (hp_i h4 48 (h.2.2 7 0 4) (T 0) (nI v1)) 19 (h.2.2 7 0 3) (T 0) nm) 20 (h.2.2 7 0 3) (T 0) (nI v2)) 1 (h.2.2 7 0 3) 0 (nI (T 0 + 1)) := by
          unfold g_X1_addPart
          rw [c5, if_neg nr, nI_clamp (by omega), en]
        have pp : p_X1_addPart (hp_i h4 48 (h.2.2 7 0 4) (T 0) (nI v1)) (h.2.2 7 0 3) nm (nI v2) := by
          unfold p_X1_addPart
          rw [c5]
          exact ⟨fun z => (nr z).elim, fun _ => ⟨vr, vr, trivial⟩⟩
        rw [r5, ga]
        have zs : ∀ T' j, ¬ T' = 48 → ¬ T' = 20 → ¬ T' = 1 → (hp_i (hp_i (hp_l (hp_i h4 48 (h.2.2 7 0 4) (T 0) (nI v1)) 19 (h.2.2 7 0 3) (T 0) nm) 20 (h.2.2 7 0 3) (T 0) (nI v2)) 1 (h.2.2 7 0 3) 0 (nI (T 0 + 1))).1 T' j = h4.1 T' j := fun T' j y1 y2 y3 => by
          rw [hp_i_t y3, hp_i_t y2, hp_l_f, hp_i_t y1]
        have z48 : ∀ k, (hp_i (hp_i (hp_l (hp_i h4 48 (h.2.2 7 0 4) (T 0) (nI v1)) 19 (h.2.2 7 0 3) (T 0) nm) 20 (h.2.2 7 0 3) (T 0) (nI v2)) 1 (h.2.2 7 0 3) 0 (nI (T 0 + 1))).1 48 (h.2.2 7 0 4) k = if k = T 0 then nI v1 else h.1 48 (h.2.2 7 0 4) k := fun k => by
          rw [hp_i_t (by omega), hp_i_t (by omega), hp_l_f, hp_i_g, cl 48 _ (by omega) (by omega)]
        have z20 : ∀ k, (hp_i (hp_i (hp_l (hp_i h4 48 (h.2.2 7 0 4) (T 0) (nI v1)) 19 (h.2.2 7 0 3) (T 0) nm) 20 (h.2.2 7 0 3) (T 0) (nI v2)) 1 (h.2.2 7 0 3) 0 (nI (T 0 + 1))).1 20 (h.2.2 7 0 3) k = if k = T 0 then nI v2 else h.1 20 (h.2.2 7 0 3) k := fun k => by
          rw [hp_i_t (by omega), hp_i_g, hp_l_f, hp_i_t (by omega), cl 20 _ (by omega) (by omega)]
        have z1 : ∀ k, (hp_i (hp_i (hp_l (hp_i h4 48 (h.2.2 7 0 4) (T 0) (nI v1)) 19 (h.2.2 7 0 3) (T 0) nm) 20 (h.2.2 7 0 3) (T 0) (nI v2)) 1 (h.2.2 7 0 3) 0 (nI (T 0 + 1))).1 1 (h.2.2 7 0 3) k = if k = 0 then nI (T 0 + 1) else h.1 1 (h.2.2 7 0 3) k := fun k => by
          rw [hp_i_g, hp_i_t (by omega), hp_l_f, hp_i_t (by omega), cl 1 _ (by omega) (by omega)]
        have zl : (hp_i (hp_i (hp_l (hp_i h4 48 (h.2.2 7 0 4) (T 0) (nI v1)) 19 (h.2.2 7 0 3) (T 0) nm) 20 (h.2.2 7 0 3) (T 0) (nI v2)) 1 (h.2.2 7 0 3) 0 (nI (T 0 + 1))).2.1 = (hp_l h 19 (h.2.2 7 0 3) (T 0) nm).2.1 := by
          rw [hp_i_21, hp_i_21]
          unfold hp_l hp_b
          simp only [hp_i_21, cg]
        have m57 : ∀ k, (hp_i k5 57 0 (176 + T 0) (nI v2)).1 57 0 k = if k = 176 + T 0 then nI v2 else if k = 164 + T 0 then nI v1 else k2.1 57 0 k := fun k => by rw [hp_i_g, g3, d57 k]
        have m0' : (hp_i k5 57 0 (176 + T 0) (nI v2)).1 57 0 0 = nI (T 0) := by
          rw [m57 0, if_neg (by omega), if_neg (by omega), a57 0, if_neg (by omega)]
          exact r0
        rw [m0', en]
        have P7 := ((P5.set57 (j := 176 + T 0) (v := nI v2)).set57 (j := 0) (v := nI (T 0 + 1))).cls (zs 4 0 (by omega) (by omega) (by omega)) (zs 35 0 (by omega) (by omega) (by omega)) (zs 9 0 (by omega) (by omega) (by omega))
        have z7 := (zs 7 0 (by omega) (by omega) (by omega)).trans cs
        have KZ := (KD.trans (KX.set (j := 176 + T 0) (v := nI v2))).trans (KX.set (j := 0) (v := nI (T 0 + 1)))
        have y57 : ∀ k, (hp_i (hp_i k5 57 0 (176 + T 0) (nI v2)) 57 0 0 (nI (T 0 + 1))).1 57 0 k = if k = 0 then nI (T 0 + 1) else if k = 176 + T 0 then nI v2 else if k = 164 + T 0 then nI v1 else k2.1 57 0 k := fun k => by
          rw [hp_i_g, m57 k]
        have y13 : (hp_i (hp_i k5 57 0 (176 + T 0) (nI v2)) 57 0 0 (nI (T 0 + 1))).1 12 0 13 = hm.1 12 0 13 := by rw [hp_i_t (by omega), hp_i_t (by omega)]; exact e13
        generalize hp_i (hp_i (hp_l (hp_i h4 48 (h.2.2 7 0 4) (T 0) (nI v1)) 19 (h.2.2 7 0 3) (T 0) nm) 20 (h.2.2 7 0 3) (T 0) (nI v2)) 1 (h.2.2 7 0 3) 0 (nI (T 0 + 1)) = h5 at *
        generalize hp_i (hp_i k5 57 0 (176 + T 0) (nI v2)) 57 0 0 (nI (T 0 + 1)) = k7 at *
        have E := ps_semi P7
        have fb01 : f_X7_readSemicolon h5 = 0 ∨ f_X7_readSemicolon h5 = 1 := by
          rcases E.2.2 with e | e
          · exact Or.inr e.1
          · exact Or.inl e.1
        refine ⟨⟨pst, na, fun _ => ⟨pn, ps2, pa, fun _ => ⟨pc, fun _ => ⟨pg, pp, E.1, fb01, trivial⟩, fun z => (n2 z).elim⟩, fun z => (n1 z).elim⟩, fun z => (n10 z).elim⟩, ⟨m_pM _ _ _, m_pF _, fun _ => ⟨nb, pb, w1, pd, w2, trivial⟩, fun z => (z hF).elim⟩, E.2.1, ?_, ?_⟩
        · rcases E.2.2 with ⟨-, -, -, -, e⟩ | ⟨-, -, e⟩
          · exact KZ.trans e.kx
          · exact KZ.trans e
        · rcases E.2.2 with ⟨y1, y2, y3, ⟨s5, y4, y5⟩, y6⟩ | ⟨y1, y2, y3⟩
          · have st : ∀ T j, ¬ T = 9 → (g_X7_readSemicolon h5).1 T j = h5.1 T j := fun T j hT => by rw [y2]; exact fr_X9_step (by omega)
            refine Or.inl ⟨y1, v1, v2, s1, s5, u1, l2, u2, by omega, hs1, N, no, y5, ?_, fun k => ?_, fun k => ?_, fun k => ?_, ?_, fun k => ?_, ?_⟩
            · rw [st 7 0 (by omega)]; exact z7
            · rw [st 48 _ (by omega)]; exact z48 k
            · rw [st 20 _ (by omega)]; exact z20 k
            · rw [st 1 _ (by omega)]; exact z1 k
            · rw [y2, gl_X9_step, zl, hnm]
            · rw [fr_sm4 (by omega), y57 k, a57 k]
            · exact (y6 13 (by omega) (by omega)).trans y13
          · exact Or.inr ⟨y1, y2⟩
      · rw [fc, if_neg nn, if_neg nn]
        have X5 : XM (g_X12_number k4 1 60) x t := P4.num4.same (F5.2.2.2.2 6 (by omega) (by omega) (by omega) (by omega)) g4'
        have M5 := F5.mx
        have KD := KC.trans F5.kx
        have hs4 := P4.2.2.1
        generalize g_X12_number k4 1 60 = k5 at *
        have E := fb_end (((X5.set57 (k := 176 + T 0) (v := f_X12_number k4 1 60))).set57 (k := 0) (v := (hp_i k5 57 0 (176 + T 0) (f_X12_number k4 1 60)).1 57 0 0 + 1)) hs4 M5.set.set C5
        refine ⟨⟨pst, na, fun _ => ⟨pn, ps2, pa, fun _ => ⟨pc, fun z => (z rfl).elim, fun _ => trivial⟩, fun z => (n1 z).elim⟩, fun z => (n10 z).elim⟩, ⟨m_pM _ _ _, m_pF _, fun _ => ⟨nb, pb, w1, pd, w2, trivial⟩, fun z => (z hF).elim⟩, E.1, ?_, Or.inr ⟨rfl, E.2.1⟩⟩
        exact ((KD.trans KX.set).trans KX.set).trans (fun k h4 h5 h7 h8 _ => E.2.2 k h4 h5 h7 h8)
    · rw [fa, if_neg nn, if_neg nn]
      have X3 : XM (g_X12_number k2 0 9999) x t := P2.num4.same (F3.2.2.2.2 6 (by omega) (by omega) (by omega) (by omega)) f4
      have M3 := F3.mx
      have KB := KA.trans F3.kx
      have hs3 := P2.2.2.1
      generalize g_X12_number k2 0 9999 = k3 at *
      have KC := KB.trans (KX.set (hm := k3) (j := 164 + T 0) (v := f_X12_number k2 0 9999))
      have M4 : MX (hp_i k3 57 0 (164 + T 0) (f_X12_number k2 0 9999)) t s2 c := M3.set
      have X4 : XM (hp_i k3 57 0 (164 + T 0) (f_X12_number k2 0 9999)) x t := X3.set57
      generalize hp_i k3 57 0 (164 + T 0) (f_X12_number k2 0 9999) = k4 at *
      have E := mx_part1 (v2 := f_X12_number k4 1 60) (j2 := 176 + T 0) hs3 X4 M4 C3 ((hp_i (g_X12_number k4 1 60) 57 0 (176 + T 0) (f_X12_number k4 1 60)).1 57 0 0 + 1)
      exact ⟨⟨pst, na, fun _ => ⟨pn, ps2, pa, fun z => (z rfl).elim, fun _ => trivial⟩, fun z => (n10 z).elim⟩, ⟨m_pM _ _ _, m_pF _, fun _ => ⟨nb, pb, w1, E.1, w2, trivial⟩, fun z => (z hF).elim⟩, E.2.1, KC.trans E.2.2.2, Or.inr ⟨rfl, E.2.2.1⟩⟩
  · have X2 : XM (g_X12_newName k1 (nI (T 0))) x t := P1.num4.same (MFc.2.2.2.2 6 (by omega) (by omega) (by omega) (by omega)) (fr_X12_newName (by omega) (by omega))
    have n00 : ¬ ¬ (0 : Int32) = 0 := fun z => z rfl
    rw [ff, if_neg n00, if_neg n00]
    have E := mx_part (v1 := f_X12_number (g_X12_newName k1 (nI (T 0))) 0 9999) (v2 := f_X12_number (hp_i (g_X12_number (g_X12_newName k1 (nI (T 0))) 0 9999) 57 0 (164 + T 0) (f_X12_number (g_X12_newName k1 (nI (T 0))) 0 9999)) 1 60) (j1 := 164 + T 0) (j2 := 176 + T 0) hs1 X2 MFc.mx FCc ((hp_i (g_X12_number (hp_i (g_X12_number (g_X12_newName k1 (nI (T 0))) 0 9999) 57 0 (164 + T 0) (f_X12_number (g_X12_newName k1 (nI (T 0))) 0 9999)) 1 60) 57 0 (176 + T 0) (f_X12_number (hp_i (g_X12_number (g_X12_newName k1 (nI (T 0))) 0 9999) 57 0 (164 + T 0) (f_X12_number (g_X12_newName k1 (nI (T 0))) 0 9999)) 1 60)).1 57 0 0 + 1)
    exact ⟨⟨pst, na, fun z => (n00 z).elim, fun _ => trivial⟩, ⟨m_pM _ _ _, m_pF _, fun _ => ⟨nb, E.1, w1, E.2.1, w2, trivial⟩, fun z => (z hF).elim⟩, E.2.2.1, (kx1.trans MFc.kx).trans E.2.2.2.2, Or.inr ⟨rfl, E.2.2.2.1⟩⟩
end PRT
