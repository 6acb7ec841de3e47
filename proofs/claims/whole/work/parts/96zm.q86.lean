/-! load: a line of a bill -/
section PBI
variable {h k : Hp} {x : Nat → Nat} {t s l : Nat} {T : Nat → Nat}
/-- cells of the lines of product q -/
def RLn (q a : Nat) : Prop := (196 + 6 * q ≤ a ∧ a < 202 + 6 * q) ∨ (244 + 6 * q ≤ a ∧ a < 250 + 6 * q) ∨ (292 + 12 * q ≤ a ∧ a < 304 + 12 * q)
theorem bl_glue {A A' B B' C E Q M1 M N Pb D : Prop} (hQ : Q) (hB : ¬ B') (hb : Pb) (hM : M1) (z : C ∧ M ∧ D) : ((A → C) ∧ (A' → (Q ∧ ((B → C) ∧ (B' → E))))) ∧ (Pb ∧ ((B → (M1 ∧ M)) ∧ (B' → N))) ∧ D :=
  ⟨⟨fun _ => z.1, fun _ => ⟨hQ, fun _ => z.1, fun y => (hB y).elim⟩⟩, ⟨hb, fun _ => ⟨hM, z.2.1⟩, fun y => (hB y).elim⟩, z.2.2⟩
theorem ps_bill (P : PS h k x t s) (R : RD k T) (B : BG h (h.2.2 7 0 3) T l) (h6 : l = 6 → ob_kd x t s = 2) : p_X7_readBillLine h ∧ p_X12_line k (nI (T 1)) (nI l) ∧
    ((f_X7_readBillLine h = 1 ∧ l < 6 ∧ ∃ T' s', s < s' ∧ PS (g_X7_readBillLine h) (g_X12_line k (nI (T 1)) (nI l)) x t s' ∧ RD (g_X12_line k (nI (T 1)) (nI l)) T' ∧ BG (g_X7_readBillLine h) (h.2.2 7 0 3) T' (l + 1) ∧ (∀ a, ¬ RLn (T 1) a → T' a = T a) ∧ (g_X7_readBillLine h).1 7 0 = h.1 7 0 ∧ (g_X7_readBillLine h).1 1 = h.1 1 ∧ KE k (g_X12_line k (nI (T 1)) (nI l))) ∨
     (f_X7_readBillLine h = 0 ∧ ∃ s' c, s' ≤ t ∧ FC (g_X7_readBillLine h) s' c ∧ MX (g_X12_line k (nI (T 1)) (nI l)) t s' c ∧ XM (g_X12_line k (nI (T 1)) (nI l)) x t ∧ KX k (g_X12_line k (nI (T 1)) (nI l)))) := by
  obtain ⟨pb, P1, K1, q4, q5⟩ := P.blanks
  have bt := P.1.1
  obtain ⟨D, b1, b2, b3, b4, b5⟩ := id B
  have bD := D.1
  have n8 : ¬ (8 : Int32) ≤ nI (T 1) := nI_ge (b := 8) b1 (by omega)
  have vq : vp_in (nI (T 1)) 8 := vp_in_nI (by omega) (by omega)
  have lb : p_X1_linesOfBegun h (h.2.2 7 0 3) ∧ f_X1_linesOfBegun h (h.2.2 7 0 3) = nI l := by
    unfold p_X1_linesOfBegun f_X1_linesOfBegun
    rw [D.2.1.2, if_neg n8, nI_clamp (by omega), b3]
    exact ⟨⟨fun _ => trivial, fun _ => ⟨vq, trivial⟩⟩, rfl⟩
  have n10 : ¬ (1 : Int32) = 0 := by decide
  have n00 : ¬ ¬ (0 : Int32) = 0 := fun z => z rfl
  have nn : ¬ ¬ (-1 : Int32) = -1 := fun z => z rfl
  have R1 : RD (g_X12_blanks k) T := R.same (fr_X12_blanks (by omega))
  have kx0 : KX k (g_X12_blanks k) := K1.kx
  have cF : (g_X12_blanks k).1 12 0 7 = -1 := P1.2.2.2.2.1
  by_cases hl : l < 6
  · have c6 : nI l < 6 := nI_lt (b := 6) hl (by omega)
    unfold p_X7_readBillLine f_X7_readBillLine g_X7_readBillLine p_X12_line g_X12_line
    rw [lb.2, if_pos c6, if_pos c6, ite_self, ite_self, if_pos c6, m_must1 (show ¬ (1 : Int32) = 0 by decide)]
    generalize g_X12_blanks k = k1 at *
    refine bl_glue lb.1 (fun z => z c6) pb (m_pM _ _ _) ?_
    · have N1 := ps_num P1 (lo := 1) (hi := 20) (by omega) (by omega)
      rw [show nI 1 = 1 from rfl, show nI 20 = 20 from rfl] at N1
      obtain ⟨pa, pd, N1⟩ := N1
      have g1 : ∀ a j, ¬ (a = 7 ∧ j = 0) → ¬ (a = 9 ∧ j = 0) → (g_X7_readNumber h 1 20).1 a j = h.1 a j := fun a j h7 h9 => fr_X7_readNumber h7 h9
      have g2 : (g_X7_readNumber h 1 20).2.2 = h.2.2 := gr_X7_readNumber
      have g3 : (g_X7_readNumber h 1 20).2.1 = h.2.1 := gl_X7_readNumber
      have f3 : (g_X12_number k1 1 20).1 57 0 = k1.1 57 0 := fr_X12_number (by omega)
      have f4 : (g_X12_number k1 1 20).1 54 0 = k1.1 54 0 := fr_X12_number (by omega)
      rcases N1 with ⟨v, s2, v1, v2, fa, fb, P2, K2, a7, sa⟩ | ⟨c, fa, fb, C2, F2⟩
      · have n1 := ob_m1 (s := v) (by omega)
        have hF2 := m_ok P2.2.2.2.2.1
        rw [fa, fb, if_pos n1, if_pos n1, if_pos hF2]
        have R2 : RD (g_X12_number k1 1 20) T := R1.same f3
        have B2 : BG (g_X7_readNumber h 1 20) (h.2.2 7 0 3) T l := B.cls (fun a j y1 y2 => g1 a j (by omega) (by omega)) g3
        have cc : (g_X7_readNumber h 1 20).2.2 7 0 3 = h.2.2 7 0 3 := by rw [g2]
        rw [cc]
        have e1 : (g_X7_readNumber h 1 20).1 1 = h.1 1 := funext fun j => g1 1 j (by omega) (by omega)
        generalize g_X7_readNumber h 1 20 = h2 at *
        generalize g_X12_number k1 1 20 = k2 at *
        obtain ⟨D2, -, -, b23, -, B5⟩ := id B2
        have I := ps_item (c := h.2.2 7 0 3) P2 R2 D2.2.2.2.2.1 D2.2.2.2.2.2.1 bD.1 bD.2 D2.2.1.1 D2.2.1.2 D2.2.2.2.2.2.2.1 D2.2.2.2.2.2.2.2.1
        obtain ⟨pn, pm, I⟩ := I
        have hs2 := P2.2.2.1
        have e7 := P2.2.2.2.2.1
        have fn57 : ∀ a j, ¬ (a = 12 ∧ j = 0) → (g_X12_named k2).1 a j = k2.1 a j := fun a j y => fr_X12_named y
        rcases I with ⟨m, vm, NSs, fi, p1, p2, fp, fn, M⟩ | ⟨fi, fn, F⟩ | ⟨fi, p1, p2, fp, fn, M⟩
        · have hm20 : m < 20 := by unfold VK at vm; omega
          have hmq : m < 12 + T 1 := by unfold VK at vm; omega
          have nm : ¬ nI m = -1 := ob_m1 (by omega)
          have fp' : f_X1_itemNamed h2 (h.2.2 7 0 3) (f_X9_name h2) = nI (ob_en m) := fp
          have ne : ¬ nI (ob_en m) = -1 := ob_m1 (by unfold ob_en; split <;> omega)
          rw [fi, if_pos n10, if_pos n10, fp', if_neg ne, if_neg ne, fn, if_neg nm, m_must1 n10]
          have R3 : RD (g_X12_named k2) T := R2.same (fn57 57 0 (by omega))
          have X3 : XM (g_X12_named k2) x t := P2.num4.same (M.2.2 6 (by omega) (by omega)) (fn57 54 0 (by omega))
          have m7 : (g_X12_named k2).1 12 0 7 = -1 := (M.2.2 7 (by omega) (by omega)).trans e7
          have pM3 : p_X12_must (g_X12_named k2) 1 3 := m_pM _ _ _
          generalize g_X12_named k2 = k3 at *
          obtain ⟨f1, hf1⟩ := oa_fuel (show l < 1000000 by omega)
          have HS := l_has (m := m) b1 D2.2.1.2 b2 b23 hm20 B5 l f1 0 (by omega)
          have M7 := m_72 (x3 := nI v) (m := m) (s := s2) R3 b1 b2 hm20 (fun j hj => by have := (B5.1 j hj).1; omega) m7 M.2.1 (by omega) l f1 0 (by omega)
          rw [← hf1, nI_0] at HS M7
          have HSp : p_X1_begunHas h2 (h.2.2 7 0 3) (nI (ob_en m)) := HS.1
          have HSf : (f_X1_begunHas h2 (h.2.2 7 0 3) (nI (ob_en m)) = 0 ∧ ∀ j', 0 ≤ j' → j' < l → ¬ T (196 + 6 * T 1 + j') = m) ∨ (f_X1_begunHas h2 (h.2.2 7 0 3) (nI (ob_en m)) = 1 ∧ ∃ j', 0 ≤ j' ∧ j' < l ∧ T (196 + 6 * T 1 + j') = m) := HS.2
          rcases M7 with ⟨nd, p72, g72⟩ | ⟨dd, p72, g72⟩
          · have h0 : f_X1_begunHas h2 (h.2.2 7 0 3) (nI (ob_en m)) = 0 := by
              rcases HSf with z | ⟨-, j', y1, y2, y3⟩
              · exact z.1
              · exact (nd j' y1 y2 y3).elim
            rw [h0, if_pos rfl, if_pos rfl, g72]
            obtain ⟨f2, hf2⟩ := oa_fuel (show T 0 < 1000000 by omega)
            obtain ⟨f3', hf3⟩ := oa_fuel (show 12 < 1000000 by omega)
            have CH := l_can (m := m) (v := v) D2 b1 vm v2 (fun p hp => ⟨(B5.2.1 p hp).1, (B5.2.1 p hp).2.1⟩) (T 0) f2 0 (by omega)
            have M8 := m_118 (m := m) (v := v) (s := s2) b1 hl hmq v2 (by omega) 12 f3' 0 k3 T (by omega) R3 (fun p hp => ⟨(B5.2.1 p hp).2.1, ob_iu_le D2 vm hp⟩) m7 M.2.1
            rw [← hf2, nI_0] at CH
            rw [← hf3, nI_0] at M8
            have CHp : p_X1_begunCanHold h2 (h.2.2 7 0 3) (nI (ob_en m)) (nI v) := CH.1
            have CHf : (f_X1_begunCanHold h2 (h.2.2 7 0 3) (nI (ob_en m)) (nI v) = 1 ∧ ∀ p', 0 ≤ p' → p' < T 0 → T (292 + 12 * T 1 + p') + v * ob_iu T m p' ≤ 9999) ∨ (f_X1_begunCanHold h2 (h.2.2 7 0 3) (nI (ob_en m)) (nI v) = 0 ∧ ∃ p', 0 ≤ p' ∧ p' < T 0 ∧ 9999 < T (292 + 12 * T 1 + p') + v * ob_iu T m p') := CH.2
            have ext : ∀ p', p' < 12 → T 0 ≤ p' → T (292 + 12 * T 1 + p') + v * ob_iu T m p' ≤ 9999 := fun p' y1 y2 => by
              rw [ob_iu_0 D2 vm y1 y2, Nat.mul_zero]
              exact (B5.2.1 p' y1).2.1
            rcases M8 with ⟨ok, k', r1, r2, r3, r4⟩ | ⟨⟨p', y1, y2, y3⟩, p118, k', r1, r4⟩
            · have hc1 : f_X1_begunCanHold h2 (h.2.2 7 0 3) (nI (ob_en m)) (nI v) = 1 := by
                rcases CHf with z | ⟨-, p', y1, y2, y3⟩
                · exact z.1
                · exact absurd (ok p' y1 (by omega)) (by omega)
              rw [hc1, if_pos n10, if_pos n10, r4]
              have BL := bg_line B2 hl vm v1 v2 (fun p hp => ok p (by omega) hp)
              have X4 : XM k' x t := X3.same (by rw [r1 12 0 (by omega)]) (r1 54 0 (by omega))
              have k4 : k'.1 12 0 4 = nI s2 := by rw [r1 12 0 (by omega)]; exact M.1
              have L := s_letters X4 hs2 k4
              have BB := s_blanks X4 hs2 k4
              have id2 : ob_SK x t s2 = s2 := by
                obtain ⟨-, -, -, -, -, i, i1, i2, i3⟩ := P2
                rw [← i3]; exact ob_SK_idem i1
              rw [id2] at L BB
              have el := ob_ED_le (x := x) (k := 1) hs2
              have te := ob_run hs2 NSs.1 (Or.inl rfl)
              have gl : g_X1_addLine h2 (h.2.2 7 0 3) (nI (ob_en m)) (nI v) = g_X1_addLine h2 (h.2.2 7 0 3) (nI (ob_en m)) (nI v) := rfl
              have fr := BL.2.2
              have glr : (g_X1_addLine h2 (h.2.2 7 0 3) (nI (ob_en m)) (nI v)).2.2 = h2.2.2 := gr_X1_addLine
              have BG3 := BL.2.1
              have pal := BL.1
              generalize g_X1_addLine h2 (h.2.2 7 0 3) (nI (ob_en m)) (nI v) = h3 at *
              have P3 := P2.cls (fr 4 0 (by omega) (by omega) (by omega) (by omega) (by omega)) (fr 35 0 (by omega) (by omega) (by omega) (by omega) (by omega)) (fr 9 0 (by omega) (by omega) (by omega) (by omega) (by omega))
              have w0 : ob_ML k' (T 1) l (nI v) (nI m) = hp_i (hp_i (hp_i (g_X12_blanks k') 12 0 4 (nI (ob_ED x t 1 s2))) 57 0 (196 + 6 * T 1 + l) (nI m)) 57 0 (244 + 6 * T 1 + l) (nI v) := by
                unfold ob_ML
                rw [L.2.2, L.2.1, k4, nI_add, show s2 + (ob_ED x t 1 s2 - s2) = ob_ED x t 1 s2 by omega]
              have w4 : (ob_ML k' (T 1) l (nI v) (nI m)).1 12 0 4 = nI (ob_ED x t 1 s2) := by rw [w0, hp_i_t (by omega), hp_i_t (by omega), hp_i_g, if_pos rfl]
              have wk : ∀ a, ¬ a = 4 → ¬ a = 5 → (ob_ML k' (T 1) l (nI v) (nI m)).1 12 0 a = k2.1 12 0 a := fun a y4 y5 => by
                rw [w0, hp_i_t (by omega), hp_i_t (by omega), hp_i_g, if_neg y4, BB.2.1.2.2 a y4 y5, r1 12 0 (by omega), M.2.2 a y4 y5]
              have w54 : (ob_ML k' (T 1) l (nI v) (nI m)).1 54 0 = k2.1 54 0 := by
                rw [w0, hp_i_t (by omega), hp_i_t (by omega), hp_i_t (by omega), fr_X12_blanks (by omega), r1 54 0 (by omega), fn57 54 0 (by omega)]
              have P4 := ps_step P3 te.1 w4 (wk 6 (by omega) (by omega)) (wk 7 (by omega) (by omega)) w54
              have st : ∀ a j, ¬ a = 7 → ¬ a = 9 → (g_X9_step h3).1 a j = h3.1 a j := fun a j _ y => fr_X9_step (by omega)
              refine ⟨⟨pa, fun _ => ⟨pn, fun _ => ⟨p1, p2, fun z => (ne z).elim, fun _ => ⟨HSp, fun _ => ⟨CHp, fun _ => ⟨pal, P4.1, trivial⟩, fun z => (n10 z).elim⟩, fun z => (z rfl).elim⟩⟩, fun z => (n10 z).elim⟩, fun z => (n1 z).elim⟩, ⟨pd, m_pF _, fun _ => ⟨pm, pM3, p72 (r3 L.1)⟩, fun z => (z hF2).elim⟩, Or.inl ⟨rfl, hl, ob_TL T (T 1) l v m, ob_SK x t (ob_ED x t 1 s2), ?_, P4.2, fun a ha => ?_, BG3.cls st gl_X9_step, fun a ha => ?_, ?_, ?_, fun a y4 y5 => ((wk a y4 y5).trans (K2 a y4 y5)).trans (K1 a y4 y5)⟩⟩
              · have := (ob_SK_le (x := x) el.2).1
                omega
              · rw [w0, hp_i_g]
                unfold ob_TL
                by_cases z1 : a = 244 + 6 * T 1 + l
                · rw [if_pos z1, if_pos z1]
                · rw [if_neg z1, if_neg z1, hp_i_g]
                  by_cases z2 : a = 196 + 6 * T 1 + l
                  · rw [if_pos z2, if_pos z2]
                  · rw [if_neg z2, if_neg z2, hp_i_t (by omega), fr_X12_blanks (by omega), r2 a, Nat.add_zero]
                    by_cases z3 : 292 + 12 * T 1 ≤ a ∧ a < 292 + 12 * T 1 + 12
                    · rw [if_pos z3, if_pos z3]
                    · rw [if_neg z3, if_neg z3]
                      exact R3 a ha
              · unfold ob_TL
                unfold RLn at ha
                rw [if_neg (by omega), if_neg (by omega), if_neg (by omega)]
              · rw [fr_X9_step (by omega), fr 7 0 (by omega) (by omega) (by omega) (by omega) (by omega)]
                exact a7
              · refine (funext fun j => ?_ : _ = h2.1 1).trans e1
                rw [fr_X9_step (by omega), fr 1 j (by omega) (by omega) (by omega) (by omega) (by omega)]
            · have hc0 : f_X1_begunCanHold h2 (h.2.2 7 0 3) (nI (ob_en m)) (nI v) = 0 := by
                rcases CHf with z | z
                · have : p' < T 0 := by
                    by_cases y : p' < T 0
                    · exact y
                    · exact absurd (ext p' y2 (by omega)) (by omega)
                  exact absurd (z.2 p' y1 this) (by omega)
                · exact z.1
              rw [hc0, if_neg n00, if_neg n00, r4]
              have M' : MB k2 k' s2 := by
                unfold MB
                rw [r1 12 0 (by omega)]
                exact M
              have FF : MF k2 (g_X12_must k' 0 5) t s2 5 := m_fail (p := 0) (c := 5) M' e7 hs2
              have X4 : XM (g_X12_must k' 0 5) x t := X3.same (by rw [FF.2.2.2.2 6 (by omega) (by omega) (by omega) (by omega), M.2.2 6 (by omega) (by omega)]) (by rw [fr_X12_must (by omega), r1 54 0 (by omega)])
              exact ⟨⟨pa, fun _ => ⟨pn, fun _ => ⟨p1, p2, fun z => (ne z).elim, fun _ => ⟨HSp, fun _ => ⟨CHp, fun z => (n00 z).elim, fun _ => ⟨trivial, Or.inl rfl, trivial⟩⟩, fun z => (z rfl).elim⟩⟩, fun z => (n10 z).elim⟩, fun z => (n1 z).elim⟩, ⟨pd, m_pF _, fun _ => ⟨pm, pM3, p72 p118⟩, fun z => (z hF2).elim⟩, Or.inr ⟨rfl, s2, 5, hs2, a_fail P2.2.1 5, FF.mx, X4, kx0.trans (K2.kx.trans FF.kx)⟩⟩
          · have h1' : f_X1_begunHas h2 (h.2.2 7 0 3) (nI (ob_en m)) = 1 := by
              rcases HSf with ⟨-, z⟩ | z
              · obtain ⟨j', y1, y2, y3⟩ := dd
                exact (z j' y1 y2 y3).elim
              · exact z.1
            rw [h1', if_neg n10, if_neg n10, g72]
            have FF : MF k2 (g_X12_must k3 0 3) t s2 3 := m_fail (p := 0) (c := 3) M e7 hs2
            have X4 : XM (g_X12_must k3 0 3) x t := X3.same (by rw [FF.2.2.2.2 6 (by omega) (by omega) (by omega) (by omega), M.2.2 6 (by omega) (by omega)]) (fr_X12_must (by omega))
            exact ⟨⟨pa, fun _ => ⟨pn, fun _ => ⟨p1, p2, fun z => (ne z).elim, fun _ => ⟨HSp, fun z => (n10 z).elim, fun _ => ⟨trivial, Or.inl rfl, trivial⟩⟩⟩, fun z => (n10 z).elim⟩, fun z => (n1 z).elim⟩, ⟨pd, m_pF _, fun _ => ⟨pm, pM3, p72⟩, fun z => (z hF2).elim⟩, Or.inr ⟨rfl, s2, 3, hs2, a_fail P2.2.1 3, FF.mx, X4, kx0.trans (K2.kx.trans FF.kx)⟩⟩
        · have hb := m_bad (show s2 < 2 ^ 31 by omega) F.2.2.1
          have X3 : XM (g_X12_named k2) x t := P2.num4.same (F.2.2.2.2 6 (by omega) (by omega) (by omega) (by omega)) (fn57 54 0 (by omega))
          have r := m_72F (x3 := nI v) (x4 := -1) hb b1 b2 l (oa_N - (l + 1)) 0 (by omega)
          rw [show l + 1 + (oa_N - (l + 1)) = oa_N by unfold oa_N; omega, nI_0] at r
          rw [fi, if_neg n00, if_neg n00, fn, if_pos rfl, m_mustF hb, r.2]
          exact ⟨⟨pa, fun _ => ⟨pn, fun z => (n00 z).elim, fun _ => ⟨trivial, Or.inl rfl, trivial⟩⟩, fun z => (n1 z).elim⟩, ⟨pd, m_pF _, fun _ => ⟨pm, m_pM _ _ _, r.1⟩, fun z => (z hF2).elim⟩, Or.inr ⟨rfl, s2, 1, hs2, a_fail P2.2.1 1, F.mx, X3, kx0.trans (K2.kx.trans F.kx)⟩⟩
        · have FF : MF k2 (g_X12_must (g_X12_named k2) 0 3) t s2 3 := m_fail (p := 0) (c := 3) M e7 hs2
          have hb := m_bad (show s2 < 2 ^ 31 by omega) FF.2.2.1
          have X3 : XM (g_X12_must (g_X12_named k2) 0 3) x t := P2.num4.same (FF.2.2.2.2 6 (by omega) (by omega) (by omega) (by omega)) (by rw [fr_X12_must (by omega), fn57 54 0 (by omega)])
          have r := m_72F (x3 := nI v) (x4 := -1) hb b1 b2 l (oa_N - (l + 1)) 0 (by omega)
          rw [show l + 1 + (oa_N - (l + 1)) = oa_N by unfold oa_N; omega, nI_0] at r
          rw [fi, if_pos n10, if_pos n10, fp, if_pos rfl, if_pos rfl, fn, if_pos rfl, r.2]
          exact ⟨⟨pa, fun _ => ⟨pn, fun _ => ⟨p1, p2, fun _ => ⟨trivial, Or.inl rfl, trivial⟩, fun z => (nn z).elim⟩, fun z => (n10 z).elim⟩, fun z => (n1 z).elim⟩, ⟨pd, m_pF _, fun _ => ⟨pm, m_pM _ _ _, r.1⟩, fun z => (z hF2).elim⟩, Or.inr ⟨rfl, s2, 3, hs2, a_fail P2.2.1 3, FF.mx, X3, kx0.trans (K2.kx.trans FF.kx)⟩⟩
      · have hb := m_bad (show s < 2 ^ 31 by have := P.2.2.1; omega) F2.2.2.1
        have nF : ¬ f_X12_hasFailed (g_X12_number k1 1 20) = 0 := by rw [hb]; decide
        have X2 : XM (g_X12_number k1 1 20) x t := P1.num4.same (F2.2.2.2.2 6 (by omega) (by omega) (by omega) (by omega)) f4
        rw [fa, if_neg nn, if_neg nn, if_neg nF]
        exact ⟨⟨pa, fun z => (nn z).elim, fun _ => trivial⟩, ⟨pd, m_pF _, fun z => (nF z).elim, fun _ => trivial⟩, Or.inr ⟨rfl, s, c, P.2.2.1, C2, F2.mx, X2, kx0.trans F2.kx⟩⟩
  · have kd := h6 (by omega)
    have c6 : ¬ nI l < 6 := nI_nlt (b := 6) (by omega) (by omega)
    have ke : h.1 9 0 0 = 2 := by rw [P.2.1.2.1, kd]; rfl
    have hst : s < t := by
      unfold ob_kd at kd
      by_cases y : s < t
      · exact y
      · rw [if_neg y] at kd; omega
    have xs : 48 ≤ x s ∧ x s ≤ 57 := by
      unfold ob_kd at kd
      rw [if_pos hst] at kd
      exact (ob_kk_2 (x s)).mp kd
    have a1 := m_at (lo := 48) (hi := 57) P1.2.2.2.1 q4 (by omega) (by omega) (by omega)
    rw [if_pos ⟨hst, xs⟩, show nI 48 = 48 from rfl, show nI 57 = 57 from rfl] at a1
    have FF : MF k (g_X12_must (g_X12_blanks k) 0 4) t s 4 := m_fail (p := 0) (c := 4) ⟨q4, q5, K1⟩ P.2.2.2.2.1 P.2.2.1
    have X2 : XM (g_X12_must (g_X12_blanks k) 0 4) x t := P.num4.same (FF.2.2.2.2 6 (by omega) (by omega) (by omega) (by omega)) (by rw [fr_X12_must (by omega), fr_X12_blanks (by omega)])
    have mf := mf_num (show s < 2 ^ 31 by omega) FF.2.2.1 1 20
    have hb := m_bad (show s < 2 ^ 31 by omega) FF.2.2.1
    have nF : ¬ f_X12_hasFailed (g_X12_must (g_X12_blanks k) 0 4) = 0 := by rw [hb]; decide
    unfold p_X7_readBillLine f_X7_readBillLine g_X7_readBillLine p_X12_line g_X12_line
    rw [lb.2, if_neg (show ¬ ¬ h.1 9 0 0 = 2 from fun z => z ke), if_neg (show ¬ ¬ h.1 9 0 0 = 2 from fun z => z ke), if_neg c6, if_neg c6, if_neg c6, a1.2, if_pos n10, mf.2.2, if_neg nF]
    exact ⟨⟨fun z => (z ke).elim, fun _ => ⟨lb.1, fun z => (c6 z).elim, fun _ => ⟨trivial, Or.inl rfl, trivial⟩⟩⟩, ⟨pb, fun z => (c6 z).elim, fun _ => ⟨a1.1, m_pM _ _ _, mf.1, m_pF _, fun z => (nF z).elim, fun _ => trivial⟩⟩, Or.inr ⟨rfl, s, 4, P.2.2.1, a_fail P.2.1 4, FF.mx, X2, FF.kx⟩⟩
end PBI
