/-! load: the line of a product -/
section PPR
variable {h k hm : Hp} {x : Nat → Nat} {t s l c q : Nat} {T : Nat → Nat}
/-- the end of the line of a product, as both leave it -/
def PRE (h G k K : Hp) (x : Nat → Nat) (t s c q : Nat) (T : Nat → Nat) : Prop := ∃ T' l' s' G0, 1 ≤ l' ∧ BG G0 c T' l' ∧ (∀ a, ¬ RLn q a → T' a = T a) ∧ G0.2.1 = h.2.1 ∧ G0.1 7 0 = h.1 7 0 ∧ G0.1 1 = h.1 1 ∧ (∀ a j, ¬ (a = 9 ∧ j = 0) → G.1 a j = (hp_i G0 1 c 1 (nI (q + 1))).1 a j) ∧ G.2.1 = h.2.1 ∧ s < s' ∧ PSE G K x t s' ∧ (∀ a, a < 506 → K.1 57 0 a = nI (if a = 1 then q + 1 else if a = 188 + q then l' else T' a)) ∧ K.1 12 0 13 = k.1 12 0 13
theorem m_84F (hb : f_X12_hasFailed k = 1) (hq : q < 8) (f : Nat) (x2 x3 : Int32) : pw_X12_product_84 (f + 1) k (nI q) x2 x3 ∧ gw_X12_product_84 (f + 1) k (nI q) x2 x3 = hp_i (hp_i k 57 0 (188 + q) x2) 57 0 1 ((hp_i k 57 0 (188 + q) x2).1 57 0 1 + 1) := by
  have nF : ¬ f_X12_hasFailed k = 0 := by rw [hb]; decide
  have e : (188 : Int32) + nI q = nI (188 + q) := nI_add 188 q
  have v : vp_in (nI (188 + q)) 506 := vp_in_nI (by omega) (by omega)
  rw [pw_X12_product_84, gw_X12_product_84, if_pos nF, ite_self, e, nI_clamp (by omega)]
  exact ⟨⟨fun _ => ⟨v, trivial⟩, fun _ => ⟨m_pF _, fun _ => ⟨v, trivial⟩, fun z => (nF z).elim⟩⟩, rfl⟩
theorem l_prod (hq : q < 8) : ∀ (m l f f' : Nat) (h k : Hp) (T : Nat → Nat) (s : Nat), l + m = 6 → T 1 = q → h.2.2 7 0 3 = c → PS h k x t s → RD k T → BG h c T l → (l = 6 → ob_kd x t s = 2) →
    p_X7_readBillLine h ∧ p_X12_line k (nI q) (nI l) ∧ p_X12_blanks0 (g_X12_line k (nI q) (nI l)) ∧ p_X12_isAt (g_X12_blanks0 (g_X12_line k (nI q) (nI l))) 48 57 ∧
    pw_X7_readProduct_44 (m + 2 + f) (g_X7_readBillLine h) (f_X7_readBillLine h) (nI (l + 1)) ∧ pw_X12_product_84 (m + 2 + f') (g_X12_blanks0 (g_X12_line k (nI q) (nI l))) (nI q) (nI (l + 1)) (f_X12_isAt (g_X12_blanks0 (g_X12_line k (nI q) (nI l))) 48 57) ∧
    psm (gw_X12_product_84 (m + 2 + f') (g_X12_blanks0 (g_X12_line k (nI q) (nI l))) (nI q) (nI (l + 1)) (f_X12_isAt (g_X12_blanks0 (g_X12_line k (nI q) (nI l))) 48 57)) ∧
    KX k (sm4 (gw_X12_product_84 (m + 2 + f') (g_X12_blanks0 (g_X12_line k (nI q) (nI l))) (nI q) (nI (l + 1)) (f_X12_isAt (g_X12_blanks0 (g_X12_line k (nI q) (nI l))) 48 57))) ∧
    ((fw_X7_readProduct_44 (m + 2 + f) (g_X7_readBillLine h) (f_X7_readBillLine h) (nI (l + 1)) = 1 ∧ PRE h (gw_X7_readProduct_44 (m + 2 + f) (g_X7_readBillLine h) (f_X7_readBillLine h) (nI (l + 1))) k (sm4 (gw_X12_product_84 (m + 2 + f') (g_X12_blanks0 (g_X12_line k (nI q) (nI l))) (nI q) (nI (l + 1)) (f_X12_isAt (g_X12_blanks0 (g_X12_line k (nI q) (nI l))) 48 57))) x t s c q T) ∨
     (fw_X7_readProduct_44 (m + 2 + f) (g_X7_readBillLine h) (f_X7_readBillLine h) (nI (l + 1)) = 0 ∧ FB (gw_X7_readProduct_44 (m + 2 + f) (g_X7_readBillLine h) (f_X7_readBillLine h) (nI (l + 1))) (sm4 (gw_X12_product_84 (m + 2 + f') (g_X12_blanks0 (g_X12_line k (nI q) (nI l))) (nI q) (nI (l + 1)) (f_X12_isAt (g_X12_blanks0 (g_X12_line k (nI q) (nI l))) 48 57))))) := by
  have n10 : ¬ (1 : Int32) = 0 := by decide
  have n00 : ¬ ¬ (0 : Int32) = 0 := fun z => z rfl
  have e188 : (188 : Int32) + nI q = nI (188 + q) := nI_add 188 q
  have v188 : vp_in (nI (188 + q)) 506 := vp_in_nI (by omega) (by omega)
  intro m
  induction m with
  | zero =>
    intro l f f' h k T s hl hT1 hc P R B h6
    rw [← hc] at B
    obtain ⟨pa, pb, BL⟩ := ps_bill P R B h6
    rw [hT1] at pb BL
    rcases BL with ⟨-, b, -⟩ | ⟨fa, s', c', hs', C, M, X, K⟩
    · omega
    · have bt := P.1.1
      have hb := m_bad (show s' < 2 ^ 31 by omega) M.2.2.1
      have b0 := m_b0_bad hb
      have r := m_84F hb hq (0 + 1 + f') (nI (l + 1)) (f_X12_isAt (g_X12_line k (nI q) (nI l)) 48 57)
      obtain ⟨p, hp, p4⟩ := M.1
      have a1 := m_at (lo := 48) (hi := 57) X p4 (by omega) (by omega) (by omega)
      rw [b0.2, fa, show 0 + 2 + f' = 0 + 1 + f' + 1 by omega, r.2, show 0 + 2 + f = 0 + 1 + f + 1 by omega, pw_X7_readProduct_44, fw_X7_readProduct_44, gw_X7_readProduct_44, if_neg n00, if_neg n00, if_pos (rfl : (0 : Int32) = 0), if_pos (rfl : (0 : Int32) = 0), ite_self, ite_self]
      generalize g_X12_line k (nI q) (nI l) = k1 at *
      have E := fb_end ((X.set57 (k := 188 + q) (v := nI (l + 1))).set57 (k := 1) (v := (hp_i k1 57 0 (188 + q) (nI (l + 1))).1 57 0 1 + 1)) hs' M.set.set C
      exact ⟨pa, pb, b0.1, a1.1, ⟨fun _ => ⟨fun z => (n00 z).elim, fun _ => trivial⟩, fun _ => ⟨fun _ => ⟨fun z => (n00 z).elim, fun _ => trivial⟩, fun z => (n00 z).elim⟩⟩, r.1, E.1, ((K.trans KX.set).trans KX.set).trans (fun k h4 h5 h7 h8 _ => E.2.2 k h4 h5 h7 h8), Or.inr ⟨rfl, E.2.1⟩⟩
  | succ m ih =>
    intro l f f' h k T s hl hT1 hc P R B h6
    rw [← hc] at B
    obtain ⟨pa, pb, BL⟩ := ps_bill P R B h6
    have glb : (g_X7_readBillLine h).2.1 = h.2.1 := gl_X7_readBillLine
    have grb : (g_X7_readBillLine h).2.2 = h.2.2 := gr_X7_readBillLine
    rw [hT1] at pb BL
    have bt := P.1.1
    rcases BL with ⟨fa, hl6, T', s', ss, P1, R1, B1, T1, a7, a1', K1⟩ | ⟨fa, s', c', hs', C, M, X, K⟩
    · rw [hc] at B1
      rw [fa]
      have cc : (g_X7_readBillLine h).2.2 7 0 3 = c := by rw [grb]; exact hc
      have t1 : T' 1 = q := (T1 1 (by unfold RLn; omega)).trans hT1
      generalize g_X7_readBillLine h = h1 at *
      generalize g_X12_line k (nI q) (nI l) = k1 at *
      obtain ⟨pbl, P2, K2, q4, q5⟩ := P1.blanks
      have R2 : RD (g_X12_blanks k1) T' := R1.same (fr_X12_blanks (by omega))
      have b0 := m_b0_ok P1.2.2.2.2.1 pbl
      rw [b0.2]
      generalize g_X12_blanks k1 = k2 at *
      have at1 := m_at (lo := 48) (hi := 57) P2.2.2.2.1 q4 (by have := P2.2.2.1; omega) (by omega) (by omega)
      rw [show nI 48 = 48 from rfl, show nI 57 = 57 from rfl] at at1
      have ke : h1.1 9 0 0 = nI (ob_kd x t s') := P2.2.1.2.1
      have kl := ob_kd_lt x t s'
      have c6 : ¬ (6 : Int32) < nI (l + 1) := nI_nlt (a := 6) (by omega) (by omega)
      have hF := m_ok P2.2.2.2.2.1
      have nF : ¬ ¬ f_X12_hasFailed k2 = 0 := fun z => z hF
      by_cases kd : ob_kd x t s' = 2
      · have hst : s' < t := by
          unfold ob_kd at kd
          by_cases y : s' < t
          · exact y
          · rw [if_neg y] at kd; omega
        have xs : 48 ≤ x s' ∧ x s' ≤ 57 := by
          unfold ob_kd at kd
          rw [if_pos hst] at kd
          exact (ob_kk_2 (x s')).mp kd
        rw [if_pos ⟨hst, xs⟩] at at1
        have k2' : h1.1 9 0 0 = 2 := by rw [ke, kd]; rfl
        have en : nI (l + 1) + 1 = nI (l + 1 + 1) := nI_add (l + 1) 1
        have r := ih (l + 1) f f' h1 k2 T' s' (by omega) t1 cc P2 R2 B1 (fun _ => kd)
        obtain ⟨r1, r2, r3, r4, r5, r6, r7, r8, r9⟩ := r
        rw [at1.2, show m + 1 + 2 + f = m + 2 + f + 1 by omega, show m + 1 + 2 + f' = m + 2 + f' + 1 by omega, pw_X7_readProduct_44, fw_X7_readProduct_44, gw_X7_readProduct_44, pw_X12_product_84, gw_X12_product_84, if_neg c6, if_neg c6, if_neg n10, if_neg n10, if_neg n10, if_neg (show ¬ ¬ h1.1 9 0 0 = 2 from fun z => z k2'), if_neg (show ¬ ¬ h1.1 9 0 0 = 2 from fun z => z k2'), if_neg nF, en]
        refine ⟨pa, pb, b0.1, at1.1, ⟨fun z => (c6 z).elim, fun _ => ⟨fun z => (n10 z).elim, fun _ => ⟨fun z => (z k2').elim, fun _ => ⟨r1, r5⟩⟩⟩⟩, ⟨fun z => (n10 z).elim, fun _ => ⟨m_pF _, fun z => (nF z).elim, fun _ => ⟨r2, r3, r4, r6⟩⟩⟩, r7, (K1.kx.trans K2.kx).trans r8, ?_⟩
        rcases r9 with ⟨y1, T2, l', s2, G0, z1, z2, z3, z4, z5, z6, z7, z8, z9, z10, z11, z12⟩ | y
        · refine Or.inl ⟨y1, T2, l', s2, G0, z1, z2, fun a ha => (z3 a ha).trans (T1 a ha), z4.trans glb, z5.trans a7, z6.trans a1', z7, z8.trans glb, by omega, z10, z11, z12.trans ((K2 13 (by omega) (by omega)).trans (K1 13 (by omega) (by omega)))⟩
        · exact Or.inr y
      · have nx : ¬ (s' < t ∧ 48 ≤ x s' ∧ x s' ≤ 57) := fun y => kd (by unfold ob_kd; rw [if_pos y.1]; exact (ob_kk_2 (x s')).mpr y.2)
        rw [if_neg nx] at at1
        have k2' : ¬ h1.1 9 0 0 = 2 := by rw [ke]; exact fun z => kd ((nI_eq (b := 2) (by omega) (by omega)).mp z)
        rw [at1.2, show m + 1 + 2 + f = m + 2 + f + 1 by omega, show m + 1 + 2 + f' = m + 2 + f' + 1 by omega, pw_X7_readProduct_44, fw_X7_readProduct_44, gw_X7_readProduct_44, pw_X12_product_84, gw_X12_product_84, if_neg c6, if_neg c6, if_neg n10, if_neg n10, if_pos k2', if_pos k2', if_pos rfl, cc, if_pos n10, if_pos n10, e188, nI_clamp (by omega)]
        have n8 : ¬ (8 : Int32) ≤ h1.1 1 c 1 := by rw [B1.1.2.1.2, t1]; exact nI_ge (b := 8) hq (by omega)
        have ep : g_X1_endProduct h1 c = hp_i h1 1 c 1 (nI (q + 1)) := by
          unfold g_X1_endProduct
          rw [if_neg n8, B1.1.2.1.2, t1]
          congr 1
          exact nI_add q 1
        have m1 : (hp_i k2 57 0 (188 + q) (nI (l + 1))).1 57 0 1 = nI q := by rw [hp_i_g, if_neg (by omega), R2 1 (by omega), t1]
        rw [ep, m1, show nI q + 1 = nI (q + 1) from nI_add q 1]
        have P3 := ((P2.set57 (j := 188 + q) (v := nI (l + 1))).set57 (j := 1) (v := nI (q + 1))).cls (h' := hp_i h1 1 c 1 (nI (q + 1))) (hp_i_t (by omega)) (hp_i_t (by omega)) (hp_i_t (by omega))
        have z57 : ∀ a, a < 506 → (hp_i (hp_i k2 57 0 (188 + q) (nI (l + 1))) 57 0 1 (nI (q + 1))).1 57 0 a = nI (if a = 1 then q + 1 else if a = 188 + q then l + 1 else T' a) := fun a ha => by
          rw [hp_i_g]
          by_cases y1 : a = 1
          · rw [if_pos y1, if_pos y1]
          · rw [if_neg y1, if_neg y1, hp_i_g]
            by_cases y2 : a = 188 + q
            · rw [if_pos y2, if_pos y2]
            · rw [if_neg y2, if_neg y2]; exact R2 a ha
        have z13 : (hp_i (hp_i k2 57 0 (188 + q) (nI (l + 1))) 57 0 1 (nI (q + 1))).1 12 0 13 = k.1 12 0 13 := by
          rw [hp_i_t (by omega), hp_i_t (by omega)]
          exact (K2 13 (by omega) (by omega)).trans (K1 13 (by omega) (by omega))
        have KZ : KX k (hp_i (hp_i k2 57 0 (188 + q) (nI (l + 1))) 57 0 1 (nI (q + 1))) := ((K1.kx.trans K2.kx).trans KX.set).trans KX.set
        have gl5 : (hp_i h1 1 c 1 (nI (q + 1))).2.1 = h1.2.1 := rfl
        generalize hp_i (hp_i k2 57 0 (188 + q) (nI (l + 1))) 57 0 1 (nI (q + 1)) = k3 at *
        generalize hh5 : hp_i h1 1 c 1 (nI (q + 1)) = h5 at *
        have E := ps_semi P3
        have fb01 : f_X7_readSemicolon h5 = 0 ∨ f_X7_readSemicolon h5 = 1 := by
          rcases E.2.2 with e | e
          · exact Or.inr e.1
          · exact Or.inl e.1
        have pE : p_X1_endProduct h1 c := trivial
        have X5 : (¬ (1 : Int32) = 0 → p_X1_endProduct h1 c ∧ p_X7_readSemicolon h5 ∧ (f_X7_readSemicolon h5 = 0 ∨ f_X7_readSemicolon h5 = 1) ∧ True) ∧ ((1 : Int32) = 0 → True) := ⟨fun _ => ⟨pE, E.1, fb01, trivial⟩, fun _ => trivial⟩
        refine ⟨pa, pb, b0.1, at1.1, ⟨fun _ => X5, fun _ => ⟨fun _ => X5, fun _ => ⟨fun _ => X5, fun z => (k2' z).elim⟩⟩⟩, ⟨fun _ => ⟨v188, trivial⟩, fun z => (z rfl).elim⟩, E.2.1, ?_, ?_⟩
        · rcases E.2.2 with ⟨-, -, -, -, e⟩ | ⟨-, -, e⟩
          · exact KZ.trans e.kx
          · exact KZ.trans e
        · rcases E.2.2 with ⟨y1, y2, y3, ⟨s5, y4, y5⟩, y6⟩ | ⟨y1, y2, y3⟩
          · refine Or.inl ⟨y1, T', l + 1, s5, h1, by omega, B1, T1, glb, a7, a1', fun a j hT => ?_, ?_, by omega, y5, fun a ha => ?_, (y6 13 (by omega) (by omega)).trans z13⟩
            · rw [y2, fr_X9_step hT, hh5]
            · rw [y2, gl_X9_step, gl5]; exact glb
            · rw [fr_sm4 (by omega)]; exact z57 a ha
          · exact Or.inr ⟨y1, y2⟩
    · have hb := m_bad (show s' < 2 ^ 31 by omega) M.2.2.1
      have b0 := m_b0_bad hb
      have r := m_84F hb hq (m + 1 + 1 + f') (nI (l + 1)) (f_X12_isAt (g_X12_line k (nI q) (nI l)) 48 57)
      obtain ⟨p, hp, p4⟩ := M.1
      have a1 := m_at (lo := 48) (hi := 57) X p4 (by omega) (by omega) (by omega)
      rw [b0.2, fa, show m + 1 + 2 + f' = m + 1 + 1 + f' + 1 by omega, r.2, show m + 1 + 2 + f = m + 1 + 1 + f + 1 by omega, pw_X7_readProduct_44, fw_X7_readProduct_44, gw_X7_readProduct_44, if_neg n00, if_neg n00, if_pos (rfl : (0 : Int32) = 0), if_pos (rfl : (0 : Int32) = 0), ite_self, ite_self]
      generalize g_X12_line k (nI q) (nI l) = k1 at *
      have E := fb_end ((X.set57 (k := 188 + q) (v := nI (l + 1))).set57 (k := 1) (v := (hp_i k1 57 0 (188 + q) (nI (l + 1))).1 57 0 1 + 1)) hs' M.set.set C
      exact ⟨pa, pb, b0.1, a1.1, ⟨fun _ => ⟨fun z => (n00 z).elim, fun _ => trivial⟩, fun _ => ⟨fun _ => ⟨fun z => (n00 z).elim, fun _ => trivial⟩, fun z => (n00 z).elim⟩⟩, r.1, E.1, ((K.trans KX.set).trans KX.set).trans (fun k h4 h5 h7 h8 _ => E.2.2 k h4 h5 h7 h8), Or.inr ⟨rfl, E.2.1⟩⟩
end PPR
