section PRW
variable {h k hm : Hp} {x : Nat → Nat} {t s l c q n : Nat} {T T' : Nat → Nat}
theorem ps_product (P : PS h hm x t s) (W : IWd x t s 1) (h4 : hm.1 12 0 4 = nI s) (R : RD hm T) (D : DR h (h.2.2 7 0 3) T) (h1 : T 1 < 8) : p_X7_readProduct h ∧ p_X12_product hm ∧ psm (g_X12_product hm) ∧ KX hm (sm4 (g_X12_product hm)) ∧
    ((f_X7_readProduct h = 1 ∧ ∃ T' s', s < s' ∧ PSE (g_X7_readProduct h) (sm4 (g_X12_product hm)) x t s' ∧ RD (sm4 (g_X12_product hm)) T' ∧ DR (g_X7_readProduct h) (h.2.2 7 0 3) T' ∧ T' 1 = T 1 + 1 ∧ (∀ a, ¬ RQ (T 1) a → ¬ a = 1 → T' a = T a) ∧ (g_X7_readProduct h).1 7 0 = h.1 7 0 ∧ (∀ a, ¬ a = 1 → (g_X7_readProduct h).1 1 (h.2.2 7 0 3) a = h.1 1 (h.2.2 7 0 3) a) ∧ (sm4 (g_X12_product hm)).1 12 0 13 = hm.1 12 0 13) ∨
     (f_X7_readProduct h = 0 ∧ FB (g_X7_readProduct h) (sm4 (g_X12_product hm)))) := by
  obtain ⟨p1, p2, p3, p4, p5, -⟩ := id P
  have bt := p1.1
  have hF := m_ok p5
  have r1 := R 1 (by omega)
  have bD := D.1
  have m0 : g_X12_must hm (if 8 ≤ nI (T 1) then (0 : Int32) else 1) 4 = hm := by
    rw [if_neg (show ¬ (8 : Int32) ≤ nI (T 1) from nI_ge (b := 8) h1 (by omega))]
    exact m_must1 (by decide)
  have l7 : (oa_by 1).length = 7 := by decide
  have e7 : nI s + 7 = nI (s + 7) := nI_add s 7
  have g4 : (hp_i hm 12 0 4 (hm.1 12 0 4 + 7)).1 12 0 4 = nI (s + (oa_by 1).length) := by rw [hp_i_g, if_pos rfl, h4, l7]; exact e7
  have P1 := ps_word (hm' := hp_i hm 12 0 4 (hm.1 12 0 4 + 7)) P (by decide) W g4 (by rw [hp_i_g, if_neg (by omega)]) (by rw [hp_i_g, if_neg (by omega)]) (hp_i_t (by omega))
  have s1l : s < ob_SK x t (s + (oa_by 1).length) := by
    have el := ob_ED_le (x := x) (k := 1) p3
    have := W.1
    have := (ob_SK_le (x := x) (show s + (oa_by 1).length ≤ t by omega)).1
    omega
  have hk57 : (hp_i hm 12 0 4 (hm.1 12 0 4 + 7)).1 57 0 = hm.1 57 0 := hp_i_t (by omega)
  have k13 : (hp_i hm 12 0 4 (hm.1 12 0 4 + 7)).1 12 0 13 = hm.1 12 0 13 := by rw [hp_i_g, if_neg (by omega)]
  have kx1 : KX hm (hp_i hm 12 0 4 (hm.1 12 0 4 + 7)) := KX.set4
  have i1 : (12 : Int32) + nI (T 1) = nI (12 + T 1) := nI_add 12 _
  unfold p_X12_product g_X12_product
  rw [r1, m0, if_pos hF, i1]
  generalize hp_i hm 12 0 4 (hm.1 12 0 4 + 7) = k1 at *
  have q1 : (g_X9_step h).1 7 0 = h.1 7 0 := fr_X9_step (by omega)
  have q2 : ∀ a j, ¬ a = 7 → ¬ a = 9 → (g_X9_step h).1 a j = h.1 a j := fun a j _ hT => fr_X9_step (by omega)
  have q3 : (g_X9_step h).2.2 = h.2.2 := gr_X9_step
  have q4 : (g_X9_step h).2.1 = h.2.1 := gl_X9_step
  obtain ⟨pst, P1⟩ := P1
  unfold p_X7_readProduct f_X7_readProduct g_X7_readProduct
  have D1 : DR (g_X9_step h) (h.2.2 7 0 3) T := D.cls q2 q4
  have c3 : (g_X9_step h).2.2 7 0 3 = h.2.2 7 0 3 := by rw [q3]
  generalize g_X9_step h = h1' at *
  generalize ob_SK x t (s + (oa_by 1).length) = s1 at *
  have hs1 := P1.2.2.1
  have R1 : RD k1 T := R.same hk57
  have NN := ps_newName (k := 12 + T 1) P1 R1 D1.2.2.2.2.1 D1.2.2.2.2.2.1 bD.1 bD.2 (by rw [c3]; exact D1.2.1.1) (by rw [c3]; exact D1.2.1.2) (by rw [c3]; exact D1.2.2.2.2.2.2.1) (by rw [c3]; exact D1.2.2.2.2.2.2.2.1) (by omega)
  obtain ⟨na, nb, NN⟩ := NN
  have n10 : ¬ (1 : Int32) = 0 := by decide
  have n00 : ¬ ¬ (0 : Int32) = 0 := fun z => z rfl
  obtain ⟨f52, hf52⟩ := oa_fuel (show 12 < 1000000 by omega)
  rcases NN with ⟨ff, gg, N, no, pn, fn, H0, ke, kt, rn⟩ | ⟨ff, c, FCc, MFc⟩
  · have te := ob_run hs1 N.1 (Or.inl rfl)
    have el := ob_ED_le (x := x) (k := 1) hs1
    have L := ob_lt hs1 N
    have k24 : (g_X12_newName k1 (nI (12 + T 1))).1 12 0 4 = nI (ob_ED x t 1 s1) := by rw [rn.2.1]; congr 1; omega
    have k2k : ∀ k, ¬ k = 4 → ¬ k = 5 → (g_X12_newName k1 (nI (12 + T 1))).1 12 0 k = k1.1 12 0 k := fun k h4 h5 => (rn.2.2.1 k h4).trans (ke k h4 h5)
    have f54 : (g_X12_newName k1 (nI (12 + T 1))).1 54 0 = k1.1 54 0 := fr_X12_newName (by omega) (by omega)
    have a57 : ∀ a, (g_X12_newName k1 (nI (12 + T 1))).1 57 0 a = if 4 + 8 * (12 + T 1) ≤ a ∧ a < 4 + 8 * (12 + T 1) + 8 then nI (if a - (4 + 8 * (12 + T 1)) < ob_ED x t 1 s1 - s1 then x (s1 + (a - (4 + 8 * (12 + T 1)))) else 0) else hm.1 57 0 a := fun a => by
      rw [rn.1 a, kt 57 0 (by omega), hk57]
      rfl
    obtain ⟨K, K1, K2, K3, K4⟩ := l_52 h1 12 f52 0 (g_X12_newName k1 (nI (12 + T 1))) (by omega)
    rw [← hf52, nI_0] at K3 K4
    rw [K4]
    have Kk : ∀ a, ¬ a = 4 → ¬ a = 5 → K.1 12 0 a = k1.1 12 0 a := fun a y4 y5 => by rw [K1 12 0 (by omega)]; exact k2k a y4 y5
    have K124 : K.1 12 0 4 = nI (ob_ED x t 1 s1) := by rw [K1 12 0 (by omega)]; exact k24
    rw [ff, if_pos n10, if_pos n10, gg, fn, c3]
    obtain ⟨nm, hnm⟩ : ∃ nm, nm = ob_pk (ob_pl x s1 (ob_ED x t 1 s1 - s1)) := ⟨_, rfl⟩
    rw [← hnm]
    have BB := a_beginP (nm := nm) D1 h1
    have B0 : BG (g_X1_beginProduct h1' (h.2.2 7 0 3) nm) (h.2.2 7 0 3) (ob_TB T x s1 (ob_ED x t 1 s1 - s1) (T 1)) 0 := bg_begin D1 h1 (fun i hi => by have := L.2.2 i hi; omega) L.2.1
    obtain ⟨g0, g1, -, -, -, -, g6, g7, g8⟩ := BB
    generalize g_X1_beginProduct h1' (h.2.2 7 0 3) nm = h2 at *
    have P1' := P1.cls (g1 4 0 (by omega) (by omega) (by omega)) (g1 35 0 (by omega) (by omega) (by omega)) (g1 9 0 (by omega) (by omega) (by omega))
    have P2 := ps_step P1' te.1 K124 (Kk 6 (by omega) (by omega)) (Kk 7 (by omega) (by omega)) ((K1 54 0 (by omega)).trans f54)
    obtain ⟨ps2, P2⟩ := P2
    have B1 : BG (g_X9_step h2) (h.2.2 7 0 3) (ob_TB T x s1 (ob_ED x t 1 s1 - s1) (T 1)) 0 := B0.cls (fun a j _ y => fr_X9_step (by omega)) gl_X9_step
    have w3 : (g_X9_step h2).2.2 7 0 3 = h.2.2 7 0 3 := by rw [gr_X9_step, g6, c3]
    have wl : (g_X9_step h2).2.1 = h2.2.1 := gl_X9_step
    have w7 : (g_X9_step h2).1 7 0 = h2.1 7 0 := fr_X9_step (by omega)
    have w1 : (g_X9_step h2).1 1 = h2.1 1 := funext fun j => fr_X9_step (by omega)
    have s2l : s1 ≤ ob_SK x t (ob_ED x t 1 s1) := by have := (ob_SK_le (x := x) el.2).1; omega
    generalize g_X9_step h2 = h3 at *
    generalize ob_SK x t (ob_ED x t 1 s1) = s2 at *
    have t1 : ob_TB T x s1 (ob_ED x t 1 s1 - s1) (T 1) 1 = T 1 := by unfold ob_TB; rw [if_neg (by omega), if_neg (by omega)]
    have RK : RD K (ob_TB T x s1 (ob_ED x t 1 s1 - s1) (T 1)) := fun a ha => by
      rw [K2 a, a57 a]
      unfold ob_TB
      by_cases y1 : 100 + 8 * T 1 ≤ a ∧ a < 108 + 8 * T 1
      · rw [if_neg (by omega), if_pos (by omega), if_pos y1, show 4 + 8 * (12 + T 1) = 100 + 8 * T 1 by omega]
      · rw [if_neg y1]
        by_cases y2 : 292 + 12 * T 1 ≤ a ∧ a < 304 + 12 * T 1
        · rw [if_pos y2, if_pos (by omega)]; rfl
        · rw [if_neg y2, if_neg (by omega), if_neg (by omega)]
          exact R a ha
    obtain ⟨u1, hu1⟩ : ∃ e, oa_N = 6 + 2 + e := ⟨1000000 - 8, by unfold oa_N; omega⟩
    obtain ⟨u2, hu2⟩ : ∃ e, oa_N = (6 + 2 + e) + 1 := ⟨1000000 - 9, by unfold oa_N; omega⟩
    have LP := l_prod (c := h.2.2 7 0 3) (x := x) (t := t) h1 6 0 u1 u2 h3 K (ob_TB T x s1 (ob_ED x t 1 s1 - s1) (T 1)) s2 (by omega) t1 w3 P2 RK B1 (by omega)
    rw [← hu1, nI_0, show nI (0 + 1) = 1 from rfl] at LP
    obtain ⟨v1, v2, v3, v4, v5, v6, v7, v8, v9⟩ := LP
    have hFK := m_ok P2.2.2.2.2.1
    have nFK : ¬ ¬ f_X12_hasFailed K = 0 := fun z => z hFK
    have ep : pw_X12_product_84 oa_N K (nI (T 1)) 0 1 := by
      rw [hu2, pw_X12_product_84]
      exact ⟨fun z => (n10 z).elim, fun _ => ⟨m_pF _, fun z => (nFK z).elim, fun _ => ⟨v2, v3, v4, v6⟩⟩⟩
    have eg : gw_X12_product_84 oa_N K (nI (T 1)) 0 1 = gw_X12_product_84 (6 + 2 + u2) (g_X12_blanks0 (g_X12_line K (nI (T 1)) 0)) (nI (T 1)) 1 (f_X12_isAt (g_X12_blanks0 (g_X12_line K (nI (T 1)) 0)) 48 57) := by
      conv => lhs; rw [hu2, gw_X12_product_84, if_neg n10, if_neg nFK]
      rfl
    rw [eg]
    have KK : KX hm K := kx1.trans (fun a y4 y5 _ _ _ => Kk a y4 y5)
    refine ⟨⟨pst, na, fun _ => ⟨pn, g0, ps2, v1, v5⟩, fun z => (n10 z).elim⟩, ⟨m_pM _ _ _, m_pF _, fun _ => ⟨nb, K3 ep⟩, fun z => (z hF).elim⟩, v7, KK.trans v8, ?_⟩
    rcases v9 with ⟨y1, T2, l', s3, G0, z1, z2, z3, z4, z5, z6, z7, z8, z9, z10, z11, z12⟩ | y
    · have tt1 : T2 1 = T 1 := (z3 1 (by unfold RLn; omega)).trans t1
      have gl0 : G0.2.1 = h2.2.1 := z4.trans wl
      have rown : ∀ i, i < 8 → T2 (4 + 8 * (12 + T 1) + i) = if i < ob_ED x t 1 s1 - s1 then x (s1 + i) else 0 := fun i hi => by
        rw [z3 _ (by unfold RLn; omega)]
        unfold ob_TB
        rw [if_pos (by omega), show 4 + 8 * (12 + T 1) + i - (100 + 8 * T 1) = i by omega]
      have roww : ∀ a i, VK T a → i < 8 → T2 (4 + 8 * a + i) = T (4 + 8 * a + i) := fun a i ha hi => by
        unfold VK at ha
        rw [z3 _ (by unfold RLn; omega)]
        unfold ob_TB
        rw [if_neg (by omega), if_neg (by omega)]
      have tt0 : T2 0 = T 0 := by
        rw [z3 0 (by unfold RLn; omega)]
        unfold ob_TB
        rw [if_neg (by omega), if_neg (by omega)]
      have gr : GR T2 (12 + T 1) (ob_ED x t 1 s1 - s1) := by
        refine ⟨L.1, L.2.1, fun i hi => ?_, fun i h1 h2 => ?_⟩
        · rw [rown i (by have := L.2.1; omega), if_pos hi]; exact L.2.2 i hi
        · rw [rown i h2, if_neg (by omega)]
      have nmE : G0.2.1 21 (h.2.2 7 0 3) (T2 1) = oa_nm T2 (12 + T2 1) := by
        rw [tt1, gl0, g8, if_pos rfl, hnm, ob_nm_pl gr]
        exact congrArg ob_pk (ob_pl_congr _ (fun i hi => by rw [rown i (by have := L.2.1; omega), if_pos hi]))
      have un : ∀ a, VK T2 a → ¬ ∀ i, i < 8 → T2 (4 + 8 * (12 + T2 1) + i) = T2 (4 + 8 * a + i) := fun a ha hab => by
        have ha' : VK T a := by unfold VK at *; rw [tt0, tt1] at ha; exact ha
        refine no a ha' (fun i hi => ?_)
        rw [← roww a i ha' hi, ← hab i hi, tt1]
        exact rown i hi
      rw [← tt1] at z7 gr
      have DE := bg_end (G := gw_X7_readProduct_44 oa_N (g_X7_readBillLine h3) (f_X7_readBillLine h3) 1) z2 z1 z7 (z8.trans z4.symm) nmE gr un
      refine Or.inl ⟨y1, _, s3, by omega, z10, fun a ha => ?_, DE, ?_, fun a y1 y2 => ?_, ?_, fun a ha => ?_, z12.trans ((Kk 13 (by omega) (by omega)).trans k13)⟩
      · rw [z11 a ha, tt1]
      · show (if 1 = 1 then T2 1 + 1 else _) = _
        rw [if_pos rfl, tt1]
      · show (if a = 1 then T2 1 + 1 else if a = 188 + T2 1 then l' else T2 a) = _
        rw [if_neg y2, tt1, if_neg (by unfold RQ at y1; omega), z3 a (by unfold RLn; unfold RQ at y1; omega)]
        unfold ob_TB
        unfold RQ at y1
        rw [if_neg (by omega), if_neg (by omega)]
      · rw [z7 7 0 (by omega), hp_i_t (by omega), z5, w7, g1 7 0 (by omega) (by omega) (by omega), q1]
      · rw [z7 1 _ (by omega), hp_i_g, if_neg ha, z6, w1, g1 1 _ (by omega) (by omega) (by omega), q2 1 _ (by omega) (by omega)]
    · exact Or.inr y
  · have X2 : XM (g_X12_newName k1 (nI (12 + T 1))) x t := P1.num4.same (MFc.2.2.2.2 6 (by omega) (by omega) (by omega) (by omega)) (fr_X12_newName (by omega) (by omega))
    obtain ⟨K, K1, K2, K3, K4⟩ := l_52 h1 12 f52 0 (g_X12_newName k1 (nI (12 + T 1))) (by omega)
    rw [← hf52, nI_0] at K3 K4
    have K12 := K1 12 0 (by omega)
    have M : MX K t s1 c := by unfold MX; rw [K12]; exact MFc.mx
    have X3 : XM K x t := X2.same (by rw [K12]) (K1 54 0 (by omega))
    have hb := m_bad (show s1 < 2 ^ 31 by omega) M.2.2.1
    obtain ⟨u2, hu2⟩ : ∃ e, oa_N = e + 1 := ⟨1000000 - 1, by unfold oa_N; omega⟩
    have r := m_84F hb h1 u2 0 1
    rw [← hu2] at r
    rw [ff, if_neg n00, if_neg n00, K4, r.2]
    have E := fb_end ((X3.set57 (k := 188 + T 1) (v := 0)).set57 (k := 1) (v := (hp_i K 57 0 (188 + T 1) 0).1 57 0 1 + 1)) hs1 M.set.set FCc
    have KK : KX k1 K := fun a y4 y5 y7 y8 y13 => by rw [K12]; exact MFc.kx a y4 y5 y7 y8 y13
    exact ⟨⟨pst, na, fun z => (n00 z).elim, fun _ => trivial⟩, ⟨m_pM _ _ _, m_pF _, fun _ => ⟨nb, K3 r.1⟩, fun z => (z hF).elim⟩, E.1, (((kx1.trans KK).trans KX.set).trans KX.set).trans (fun k h4 h5 h7 h8 _ => E.2.2 k h4 h5 h7 h8), Or.inr ⟨rfl, E.2.1⟩⟩
end PRW
