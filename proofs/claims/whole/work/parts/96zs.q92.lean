/-! load: one line of the text -/
section LIN
variable {h h' G hm K : Hp} {x : Nat → Nat} {t s rr : Nat} {T T' : Nat → Nat}
/-- both stand before a line, and their drafts are the same -/
def PL (h hm : Hp) (x : Nat → Nat) (t s : Nat) (T : Nat → Nat) (rr : Nat) : Prop := PSE h hm x t s ∧ RD hm T ∧ DR h (h.2.2 7 0 3) T ∧ RU h (h.2.2 7 0 3) T rr ∧ OD h (h.2.2 7 0 4) T ∧ hm.1 12 0 13 = nI rr ∧ hm.1 12 0 8 = 0 ∧ h.1 7 0 0 = -1 ∧ h.1 7 0 1 = 0
def mw1 (hm : Hp) : Hp := g_X12_isWord hm 22
def mw2 (hm : Hp) : Hp := g_X12_isWord (mw1 hm) 23
def mw3 (hm : Hp) : Hp := g_X12_isWord (mw2 hm) 24
def mw4 (hm : Hp) : Hp := g_X12_isWord (mw3 hm) 25
/-- the model's body of a line -/
def lb (hm : Hp) : Hp := if f_X12_isWord hm 22 = 0 then (if f_X12_isWord (mw1 hm) 23 = 0 then (if f_X12_isWord (mw2 hm) 24 = 0 then (if f_X12_isWord (mw3 hm) 25 = 0 then g_X12_must (mw4 hm) 0 1 else og (mw4 hm)) else g_X12_rung (mw3 hm)) else g_X12_product (mw2 hm)) else g_X12_part (mw1 hm)
def lp (hm : Hp) : Prop := p_X12_isWord hm 22 ∧ ((f_X12_isWord hm 22 = 0 → (p_X12_isWord (mw1 hm) 23 ∧ ((f_X12_isWord (mw1 hm) 23 = 0 → (p_X12_isWord (mw2 hm) 24 ∧ ((f_X12_isWord (mw2 hm) 24 = 0 → (p_X12_isWord (mw3 hm) 25 ∧ (¬ f_X12_isWord (mw3 hm) 25 = 0 → op (mw4 hm)))) ∧ (¬ f_X12_isWord (mw2 hm) 24 = 0 → p_X12_rung (mw3 hm))))) ∧ (¬ f_X12_isWord (mw1 hm) 23 = 0 → p_X12_product (mw2 hm))))) ∧ (¬ f_X12_isWord hm 22 = 0 → p_X12_part (mw1 hm))) ∧ psm (lb hm)
/-- a word of the class and the same of the model -/
theorem ps_isw {j j' : Nat} (hj : j < 36) (hj' : j' < 36) (h1 : 1 ≤ (oa_by j).length) (e : oa_by j' = oa_by j) (P : PSE h hm x t s) : p_X9_isWord h j ∧ p_X12_isWord hm j' ∧ ((f_X9_isWord h j = 1 ∧ f_X12_isWord hm j' = 1 ∧ IWd x t s j) ∨ (f_X9_isWord h j = 0 ∧ f_X12_isWord hm j' = 0)) ∧ PSE h (g_X12_isWord hm j') x t s ∧ KE hm (g_X12_isWord hm j') ∧ (∀ a b, ¬ (a = 12 ∧ b = 0) → (g_X12_isWord hm j').1 a b = hm.1 a b) ∧ (g_X12_isWord hm j').1 12 0 5 = nI s := by
  obtain ⟨P, e4⟩ := P
  obtain ⟨p1, p2, p3, p4, p5, i, p6, p7, p8⟩ := id P
  have a := s_isWord hj h1 p1 p3 p2
  have m := s_mWord hj' p4 p6 p7 p5
  rw [p8] at m
  have B := P.blanks
  have iw : IWd x t s j' ↔ IWd x t s j := by
    unfold IWd ob_A
    rw [e]
  rw [m.2.2]
  refine ⟨a.1, m.1, ?_, ⟨B.2.1, B.2.2.2.1⟩, B.2.2.1, fun a b y => fr_X12_blanks y, B.2.2.2.2⟩
  rcases m.2.1 with ⟨m1, m2⟩ | ⟨m1, m2⟩
  · have w := iw.mp m2
    rcases a.2 with z | z
    · exact Or.inl ⟨z.1, m1, w⟩
    · exact (z.2 w).elim
  · rcases a.2 with z | z
    · exact (m2 (iw.mpr z.2)).elim
    · exact Or.inr ⟨z.1, m1⟩
/-- too many, or no word: both fail at the line's first token -/
theorem ps_ff {c : Nat} (P : PSE h hm x t s) (e5 : hm.1 12 0 5 = nI s) : psm (g_X12_must hm 0 (nI c)) ∧ KX hm (sm4 (g_X12_must hm 0 (nI c))) ∧ FB (g_X7_fail h (nI c)) (sm4 (g_X12_must hm 0 (nI c))) ∧ f_X12_hasFailed (g_X12_must hm 0 (nI c)) = 1 := by
  obtain ⟨P, e4⟩ := P
  have bt := P.1.1
  have hs := P.2.2.1
  have F : MF hm (g_X12_must hm 0 (nI c)) t s c := m_fail (p := 0) (c := c) ⟨e4, e5, fun _ _ _ => rfl⟩ P.2.2.2.2.1 hs
  have X : XM (g_X12_must hm 0 (nI c)) x t := P.num4.same (F.2.2.2.2 6 (by omega) (by omega) (by omega) (by omega)) (fr_X12_must (by omega))
  have E := fb_end X hs F.mx (a_fail P.2.1 c)
  exact ⟨E.1, F.kx.trans (fun k h4 h5 h7 h8 _ => E.2.2 k h4 h5 h7 h8), E.2.1, m_bad (by omega) F.2.2.1⟩
/-- the part of a draft that no part touches -/
theorem pl_part (A : PL h hm x t s T rr) (W : IWd x t s 0) (h0 : T 0 < 12) (P' : PSE h K x t s) (KK : KE hm K) (fK : K.1 57 0 = hm.1 57 0) : p_X7_readPart h ∧ p_X12_part K ∧ psm (g_X12_part K) ∧ KX K (sm4 (g_X12_part K)) ∧ ((f_X7_readPart h = 1 ∧ ∃ T' s', s < s' ∧ PL (g_X7_readPart h) (sm4 (g_X12_part K)) x t s' T' rr) ∨ (f_X7_readPart h = 0 ∧ FB (g_X7_readPart h) (sm4 (g_X12_part K)))) := by
  obtain ⟨A1, A2, A3, A4, A5, A6, A7, A8, A9⟩ := A
  have R : RD K T := A2.same fK
  have B := ps_part P'.1 W P'.2 R A3.2.2.2.2.1 A3.2.2.2.2.2.1 h0 A3.1.2 A3.2.1.1 A3.2.1.2 A3.2.2.2.2.2.2.1 A3.2.2.2.2.2.2.2.1
  have B8 := ps_part8 P'.1 W P'.2 R A3.2.2.2.2.1 A3.2.2.2.2.2.1 h0 A3.1.2 A3.2.1.1 A3.2.1.2 A3.2.2.2.2.2.2.1 A3.2.2.2.2.2.2.2.1
  refine ⟨B.1, B.2.1, B.2.2.1, B.2.2.2.1, ?_⟩
  rcases B.2.2.2.2 with ⟨f1, v1, v2, s0, s', u1, u2, u3, u4, u5, N, no, PP, c7, c48, c20, c1, cl, k57, k13⟩ | z
  · have k8 : (sm4 (g_X12_part K)).1 12 0 8 = K.1 12 0 8 := by
      rcases B8.2.2.2.2 with ⟨_, _, _, _, _, _, _, _, _, _, _, _, _, _, _, _, _, _, _, z⟩ | ⟨z, -⟩
      · exact z
      · rw [f1] at z; exact absurd z (by decide)
    have Lt := ob_lt u5 N
    have gr : (g_X7_readPart h).2.2 = h.2.2 := gr_X7_readPart
    have fr : ∀ a b, ¬ (a = 1 ∧ b = h.2.2 7 0 3) → ¬ (a = 20 ∧ b = h.2.2 7 0 3) → ¬ (a = 48 ∧ b = h.2.2 7 0 4) → ¬ (a = 7 ∧ b = 0) → ¬ (a = 9 ∧ b = 0) → (g_X7_readPart h).1 a b = h.1 a b := fun a b y1 y2 y3 y4 y5 => by
      first | exact fr_X7_readPart y1 y2 y3 y4 y5 | exact fr_X7_readPart y1 y2 y4 y5 y3 | exact fr_X7_readPart y3 y1 y2 y4 y5
    obtain ⟨T', hT'⟩ : ∃ T' : Nat → Nat, T' = fun a => if a = 0 then T 0 + 1 else if a = 176 + T 0 then v2 else if a = 164 + T 0 then v1 else if 4 + 8 * T 0 ≤ a ∧ a < 4 + 8 * T 0 + 8 then (if a - (4 + 8 * T 0) < ob_ED x t 1 s0 - s0 then x (s0 + (a - (4 + 8 * T 0))) else 0) else T a := ⟨_, rfl⟩
    have vT : ∀ a, T' a = if a = 0 then T 0 + 1 else if a = 176 + T 0 then v2 else if a = 164 + T 0 then v1 else if 4 + 8 * T 0 ≤ a ∧ a < 4 + 8 * T 0 + 8 then (if a - (4 + 8 * T 0) < ob_ED x t 1 s0 - s0 then x (s0 + (a - (4 + 8 * T 0))) else 0) else T a := fun a => by rw [hT']
    clear hT'
    have oT : ∀ a, ¬ a = 0 → ¬ a = 176 + T 0 → ¬ a = 164 + T 0 → ¬ (4 + 8 * T 0 ≤ a ∧ a < 4 + 8 * T 0 + 8) → T' a = T a := fun a y1 y2 y3 y4 => by rw [vT, if_neg y1, if_neg y2, if_neg y3, if_neg y4]
    have t0 : T' 0 = T 0 + 1 := by rw [vT, if_pos rfl]
    have t176 : T' (176 + T 0) = v2 := by rw [vT, if_neg (by omega), if_pos rfl]
    have t164 : T' (164 + T 0) = v1 := by rw [vT, if_neg (by omega), if_neg (by omega), if_pos rfl]
    have tn : ∀ i, i < 8 → T' (4 + 8 * T 0 + i) = if i < ob_ED x t 1 s0 - s0 then x (s0 + i) else 0 := fun i hi => by
      rw [vT, if_neg (by omega), if_neg (by omega), if_neg (by omega), if_pos (by omega), show 4 + 8 * T 0 + i - (4 + 8 * T 0) = i by omega]
    have bnd : ∀ a, a < 506 → T' a < 1000000 := fun a ha => by
      have := A3.2.2.2.2.2.2.2.2 a ha
      rw [vT]
      split
      · omega
      · split
        · omega
        · split
          · omega
          · split
            · split
              · have := Lt.2.2 _ (by assumption); omega
              · omega
            · exact this
    refine Or.inl ⟨f1, T', s', u4, PP, fun a ha => ?_, ?_, ?_, ?_, ?_, ?_, ?_, ?_⟩
    · rw [k57 a, vT]
      by_cases y1 : a = 0
      · rw [if_pos y1, if_pos y1]
      · rw [if_neg y1, if_neg y1]
        by_cases y2 : a = 176 + T 0
        · rw [if_pos y2, if_pos y2]
        · rw [if_neg y2, if_neg y2]
          by_cases y3 : a = 164 + T 0
          · rw [if_pos y3, if_pos y3]
          · rw [if_neg y3, if_neg y3]
            by_cases y4 : 4 + 8 * T 0 ≤ a ∧ a < 4 + 8 * T 0 + 8
            · rw [if_pos y4, if_pos y4]
            · rw [if_neg y4, if_neg y4]; exact R a ha
    · rw [gr]
      exact A3.part h0 Lt no u2 u3 t0 t176 tn oT bnd c1 c20 (fun b hb => funext fun j => fr b j (by omega) (by omega) (by omega) (by omega) (by omega)) cl
    · rw [gr]
      exact A4.oth (oT 2 (by omega) (by omega) (by omega) (by omega)) (fun a y1 y2 => oT a (by omega) (by omega) (by omega) (by omega)) (by rw [c1, if_neg (by omega)]) (fun b y1 y2 => fr b _ (by omega) (by omega) (by omega) (by omega) (by omega))
    · rw [gr]
      obtain ⟨a1, a2, a3, a4, a5, a6, a7⟩ := A5
      have e : ∀ b, b = 6 ∨ b = 10 ∨ (36 ≤ b ∧ b ≤ 52 ∧ ¬ b = 48) → (g_X7_readPart h).1 b (h.2.2 7 0 4) = h.1 b (h.2.2 7 0 4) := fun b hb => fr b _ (by omega) (by omega) (by omega) (by omega) (by omega)
      have t3 : T' 3 = T 3 := oT 3 (by omega) (by omega) (by omega) (by omega)
      refine ⟨by omega, by rw [e 6 (by omega), t3]; exact a2, by rw [e 10 (by omega)]; exact a3, by rw [e 10 (by omega)]; exact a4, fun p hp => ?_, fun a ha => by rw [e 44 (by omega)]; exact a6 a ha, fun o ho => ?_⟩
      · rw [c48, e 49 (by omega)]
        by_cases d : p = T 0
        · rw [if_pos d, d, t164]; exact ⟨rfl, (a5 (T 0) h0).2.1, u1⟩
        · rw [if_neg d, oT (164 + p) (by omega) (by omega) (by omega) (by omega)]; exact a5 p hp
      · rw [t3] at ho
        have y := a7 o ho
        have tt : ∀ a, 406 ≤ a → T' a = T a := fun a ha => oT a (by omega) (by omega) (by omega) (by omega)
        rw [e 36 (by omega), e 37 (by omega), e 38 (by omega), e 39 (by omega), e 40 (by omega), e 41 (by omega), e 42 (by omega), e 43 (by omega), tt (406 + 5 * o) (by omega), tt (406 + 5 * o + 1) (by omega), tt (406 + 5 * o + 2) (by omega), tt (406 + 5 * o + 3) (by omega), tt (406 + 5 * o + 4) (by omega), oT 1 (by omega) (by omega) (by omega) (by omega)]
        exact y
    · rw [k13, KK 13 (by omega) (by omega)]; exact A6
    · rw [k8, KK 8 (by omega) (by omega)]; exact A7
    · rw [c7]; exact A8
    · rw [c7]; exact A9
  · exact Or.inr z
theorem pl_rung (A : PL h hm x t s T rr) (W : IWd x t s 2) (hr : rr < 6) (P' : PSE h K x t s) (KK : KE hm K) (fK : K.1 57 0 = hm.1 57 0) : p_X7_readRung h ∧ p_X12_rung K ∧ psm (g_X12_rung K) ∧ KX K (sm4 (g_X12_rung K)) ∧ ((f_X7_readRung h = 1 ∧ ∃ T' s', s < s' ∧ PL (g_X7_readRung h) (sm4 (g_X12_rung K)) x t s' T' (rr + 1)) ∨ (f_X7_readRung h = 0 ∧ FB (g_X7_readRung h) (sm4 (g_X12_rung K)))) := by
  obtain ⟨A1, A2, A3, A4, A5, A6, A7, A8, A9⟩ := A
  have R : RD K T := A2.same fK
  have B := ps_rung P'.1 W P'.2 ((KK 13 (by omega) (by omega)).trans A6) hr A4.1
  refine ⟨B.1, B.2.1, B.2.2.1, B.2.2.2.1, ?_⟩
  rcases B.2.2.2.2 with ⟨f1, v1, v2, v3, s', u1, u2, u3, u4, u5, PP, c7, c30, c31, c32, c1, k57, k13, k8⟩ | z
  · have gr : (g_X7_readRung h).2.2 = h.2.2 := gr_X7_readRung
    have gl : (g_X7_readRung h).2.1 = h.2.1 := gl_X7_readRung
    have fr : ∀ a b, ¬ (a = 1 ∧ b = h.2.2 7 0 3) → ¬ (30 ≤ a ∧ a ≤ 32) → ¬ (a = 7 ∧ b = 0) → ¬ (a = 9 ∧ b = 0) → (g_X7_readRung h).1 a b = h.1 a b := fun a b y1 y2 y4 y5 => fr_X7_readRung y1 (by omega) (by omega) (by omega) y4 y5
    obtain ⟨T', hT'⟩ : ∃ T' : Nat → Nat, T' = fun k => if k = 2 then rr + 1 else if k = 388 + 3 * rr + 2 then v3 else if k = 388 + 3 * rr + 1 then v2 else if k = 388 + 3 * rr then v1 else T k := ⟨_, rfl⟩
    have vT : ∀ k, T' k = if k = 2 then rr + 1 else if k = 388 + 3 * rr + 2 then v3 else if k = 388 + 3 * rr + 1 then v2 else if k = 388 + 3 * rr then v1 else T k := fun a => by rw [hT']
    clear hT'
    have oT : ∀ a, ¬ a = 2 → ¬ (388 + 3 * rr ≤ a ∧ a ≤ 388 + 3 * rr + 2) → T' a = T a := fun a y1 y2 => by rw [vT, if_neg y1, if_neg (by omega), if_neg (by omega), if_neg (by omega)]
    have bnd : ∀ a, a < 506 → T' a < 1000000 := fun a ha => by
      have := A3.2.2.2.2.2.2.2.2 a ha
      rw [vT]
      split
      · omega
      · split
        · omega
        · split
          · omega
          · split
            · omega
            · exact this
    refine Or.inl ⟨f1, T', s', u5, PP, fun a ha => ?_, ?_, ?_, ?_, k13, ?_, ?_, ?_⟩
    · rw [k57 a, vT]
      by_cases y1 : a = 2
      · rw [if_pos y1, if_pos y1]
      · rw [if_neg y1, if_neg y1]
        by_cases y2 : a = 388 + 3 * rr + 2
        · rw [if_pos y2, if_pos y2]
        · rw [if_neg y2, if_neg y2]
          by_cases y3 : a = 388 + 3 * rr + 1
          · rw [if_pos y3, if_pos y3]
          · rw [if_neg y3, if_neg y3]
            by_cases y4 : a = 388 + 3 * rr
            · rw [if_pos y4, if_pos y4]
            · rw [if_neg y4, if_neg y4]; exact R a ha
    · rw [gr]
      exact A3.oth (fun a ha => oT a (by omega) (by omega)) bnd (fun a ha => by rw [c1, if_neg (by omega)]) (fun b hb => funext fun j => fr b j (by omega) (by omega) (by omega) (by omega)) gl
    · rw [gr]
      obtain ⟨a1, a2, a3, a4, a5⟩ := A4
      refine ⟨by rw [c1, if_pos rfl], by omega, fun z => by omega, fun _ => by rw [vT, if_pos rfl], fun r hr' => ?_⟩
      rw [c30, c31, c32]
      by_cases d : r = rr
      · rw [if_pos d, if_pos d, if_pos d, d]
        have t0 : T' (388 + 3 * rr) = v1 := by rw [vT, if_neg (by omega), if_neg (by omega), if_neg (by omega), if_pos rfl]
        have t1 : T' (388 + 3 * rr + 1) = v2 := by rw [vT, if_neg (by omega), if_neg (by omega), if_pos rfl]
        have t2 : T' (388 + 3 * rr + 2) = v3 := by rw [vT, if_neg (by omega), if_pos rfl]
        rw [t0, t1, t2]
        exact ⟨⟨rfl, rfl, rfl⟩, u1, u2, u3, u4⟩
      · rw [if_neg d, if_neg d, if_neg d, oT (388 + 3 * r) (by omega) (by omega), oT (388 + 3 * r + 1) (by omega) (by omega), oT (388 + 3 * r + 2) (by omega) (by omega)]
        exact a5 r (by omega)
    · rw [gr]
      exact A5.oth (by rw [oT 1 (by omega) (by omega)]; omega) (oT 3 (by omega) (by omega)) (fun a y1 y2 => oT a (by omega) (by omega)) (fun a y1 => oT a (by omega) (by omega)) (fun b hb => fr b _ (by omega) (by omega) (by omega) (by omega))
    · rw [k8, KK 8 (by omega) (by omega)]; exact A7
    · rw [c7]; exact A8
    · rw [c7]; exact A9
  · exact Or.inr z
end LIN
