/-! load: the line of an order, up to its numbers -/
section ORD
variable {h hm : Hp} {x : Nat → Nat} {t s : Nat} {T : Nat → Nat}
theorem ps_order0 (P : PS h hm x t s) (W : IWd x t s 3) (h4 : hm.1 12 0 4 = nI s) (R : RD hm T) (U : UN T) (hT : ∀ k, k < 160 → T (4 + k) < 128) (h0 : T 0 ≤ 12) (hT1 : T 1 ≤ 8) (h3 : T 3 < 20) (e1 : h.1 1 (h.2.2 7 0 3) 1 = nI (T 1)) (hn1 : ∀ p, p < T 1 → h.2.1 21 (h.2.2 7 0 3) p = oa_nm T (12 + p)) :
    p_X9_step h ∧ p_X9_isName (g_X9_step h) ∧ p_X12_named (og2 hm) ∧ f_X12_hasFailed (og1 hm) = 0 ∧
    ((∃ q s2, q < T 1 ∧ f_X9_isName (g_X9_step h) = 1 ∧ p_X9_name (g_X9_step h) ∧ p_X1_productNamed (g_X9_step h) ((g_X9_step h).2.2 7 0 3) (f_X9_name (g_X9_step h)) ∧ f_X1_productNamed (g_X9_step h) ((g_X9_step h).2.2 7 0 3) (f_X9_name (g_X9_step h)) = nI q ∧ p_X9_step (g_X9_step h) ∧ f_X12_hasFailed (og3 hm) = 0 ∧ p_X12_letters (og3 hm) ∧ oix hm = nI (406 + 5 * T 3) ∧ PS (g_X9_step (g_X9_step h)) (og4 hm) x t s2 ∧ s < s2 ∧ KX hm (og4 hm) ∧ (og4 hm).1 12 0 13 = hm.1 12 0 13 ∧ (∀ k, (og4 hm).1 57 0 k = if k = 406 + 5 * T 3 then nI q else hm.1 57 0 k)) ∨
     (∃ s1 c, s1 ≤ t ∧ ¬ f_X12_hasFailed (og3 hm) = 0 ∧ MX (og3 hm) t s1 c ∧ XM (og3 hm) x t ∧ KX hm (og3 hm) ∧ ((f_X9_isName (g_X9_step h) = 0 ∧ FC (g_X7_fail (g_X9_step h) 1) s1 c) ∨ (f_X9_isName (g_X9_step h) = 1 ∧ p_X9_name (g_X9_step h) ∧ p_X1_productNamed (g_X9_step h) ((g_X9_step h).2.2 7 0 3) (f_X9_name (g_X9_step h)) ∧ f_X1_productNamed (g_X9_step h) ((g_X9_step h).2.2 7 0 3) (f_X9_name (g_X9_step h)) = -1 ∧ FC (g_X7_fail (g_X9_step h) 3) s1 c)))) := by
  obtain ⟨p1, p2, p3, p4, p5, -⟩ := id P
  have bt := p1.1
  have r3 := R 3 (by omega)
  have m0 : og1 hm = hm := by
    unfold og1
    rw [r3, if_neg (show ¬ (20 : Int32) ≤ nI (T 3) from nI_ge (b := 20) h3 (by omega))]
    exact m_must1 (by decide)
  have l5 : (oa_by 3).length = 5 := by decide
  have e5 : nI s + 5 = nI (s + (oa_by 3).length) := by rw [l5]; exact nI_add s 5
  have k1d : og2 hm = hp_i hm 12 0 4 (nI (s + (oa_by 3).length)) := by unfold og2; rw [m0, h4, e5]
  have g4 : (og2 hm).1 12 0 4 = nI (s + (oa_by 3).length) := by rw [k1d, hp_i_g, if_pos rfl]
  have gk : ∀ k, ¬ k = 4 → (og2 hm).1 12 0 k = hm.1 12 0 k := fun k hk => by rw [k1d, hp_i_g, if_neg hk]
  have gt : ∀ T' j, ¬ T' = 12 → (og2 hm).1 T' j = hm.1 T' j := fun T' j hk => by rw [k1d, hp_i_t hk]
  have P1 := ps_word (hm' := og2 hm) P (by omega) W g4 (gk 6 (by omega)) (gk 7 (by omega)) (gt 54 0 (by omega))
  have s1l : s < ob_SK x t (s + (oa_by 3).length) := by
    have el := ob_ED_le (x := x) (k := 1) p3
    have := W.1
    have := (ob_SK_le (x := x) (show s + (oa_by 3).length ≤ t by omega)).1
    omega
  have id1 : ob_SK x t (ob_SK x t (s + (oa_by 3).length)) = ob_SK x t (s + (oa_by 3).length) := by
    have el := ob_ED_le (x := x) (k := 1) p3
    have := W.1
    exact ob_SK_idem (by omega)
  obtain ⟨pst, P1⟩ := P1
  have q2 : ∀ T j, ¬ T = 9 → (g_X9_step h).1 T j = h.1 T j := fun T j hT => fr_X9_step (by omega)
  have q3 : (g_X9_step h).2.2 = h.2.2 := gr_X9_step
  have q4 : (g_X9_step h).2.1 = h.2.1 := gl_X9_step
  generalize hs1 : ob_SK x t (s + (oa_by 3).length) = s1 at *
  have R1 : RD (og2 hm) T := R.same (gt 57 0 (by omega))
  have N := ps_prod (c := (g_X9_step h).2.2 7 0 3) P1 R1 U hT h0 hT1 (by rw [q3, q2 1 _ (by omega)]; exact e1) (fun p hp => by rw [q3, q4]; exact hn1 p hp)
  have hsl := P1.2.2.1
  have k7 : (og2 hm).1 12 0 7 = -1 := (gk 7 (by omega)).trans p5
  have kx1 : KX hm (og2 hm) := fun k h4 _ _ _ _ => gk k h4
  have o3 : og3 hm = g_X12_must (g_X12_named (og2 hm)) (if f_X12_named (og2 hm) < 12 then (0 : Int32) else 1) 3 := rfl
  have n54 : ∀ T' j, ¬ (T' = 12 ∧ j = 0) → (g_X12_named (og2 hm)).1 T' j = (og2 hm).1 T' j := fun T' j hT' => fr_X12_named hT'
  refine ⟨pst, N.1, N.2.1, by rw [m0]; exact m_ok p5, ?_⟩
  rcases N.2.2 with ⟨q, hq, NSs, fi, pn, pp, fp, fn, M⟩ | ⟨fi, fn, F⟩ | ⟨fi, pn, pp, fp, fn, M⟩
  · have e3 : og3 hm = g_X12_named (og2 hm) := by
      rw [o3, fn, if_neg (show ¬ nI (12 + q) < 12 from nI_nlt (b := 12) (by omega) (by omega))]
      exact m_must1 (by decide)
    have X2 : XM (og3 hm) x t := by rw [e3]; exact P1.num4.same (M.2.2 6 (by omega) (by omega)) (n54 54 0 (by omega))
    have M3 : MB (og2 hm) (og3 hm) s1 := by rw [e3]; exact M
    have t3 : ∀ T' j, ¬ (T' = 12 ∧ j = 0) → (og3 hm).1 T' j = (og2 hm).1 T' j := by rw [e3]; exact n54
    have f7 : (og3 hm).1 12 0 7 = -1 := (M3.2.2 7 (by omega) (by omega)).trans k7
    have L := s_letters X2 hsl M3.1
    have B2 := s_blanks X2 hsl M3.1
    rw [id1] at L B2
    have el := ob_ED_le (x := x) (k := 1) hsl
    have te := ob_run hsl NSs.1 (Or.inl rfl)
    have b57 : (g_X12_letters (og3 hm)).1 57 0 = hm.1 57 0 := by rw [L.2.2, fr_X12_blanks (by omega), t3 57 0 (by omega), gt 57 0 (by omega)]
    have ix : oix hm = nI (406 + 5 * T 3) := by
      unfold oix
      rw [b57, r3]
      have : (5 : Int32) * nI (T 3) = nI (5 * T 3) := oa_mul 5 _
      rw [this]
      exact nI_add 406 _
    have o4 : og4 hm = hp_i (hp_i (g_X12_blanks (og3 hm)) 12 0 4 (nI (ob_ED x t 1 s1))) 57 0 (406 + 5 * T 3) (nI q) := by
      unfold og4
      have sb : nI (12 + q) - 12 = nI q := by
        have : nI (12 + q) - nI 12 = nI (12 + q - 12) := oa_sub (by omega)
        rw [show 12 + q - 12 = q by omega] at this
        exact this
      rw [ix, L.2.2, L.2.1, M3.1, nI_add, nI_clamp (by omega), fn, sb, show s1 + (ob_ED x t 1 s1 - s1) = ob_ED x t 1 s1 by omega]
    have w4 : (og4 hm).1 12 0 4 = nI (ob_ED x t 1 s1) := by rw [o4, hp_i_t (by omega), hp_i_g, if_pos rfl]
    have wk : ∀ k, ¬ k = 4 → ¬ k = 5 → (og4 hm).1 12 0 k = hm.1 12 0 k := fun k y4 y5 => by
      rw [o4, hp_i_t (by omega), hp_i_g, if_neg y4, B2.2.1.2.2 k y4 y5, M3.2.2 k y4 y5, gk k y4]
    have w54 : (og4 hm).1 54 0 = (og2 hm).1 54 0 := by rw [o4, hp_i_t (by omega), hp_i_t (by omega), fr_X12_blanks (by omega), t3 54 0 (by omega)]
    have P2 := ps_step P1 te.1 w4 ((wk 6 (by omega) (by omega)).trans (gk 6 (by omega)).symm) ((wk 7 (by omega) (by omega)).trans (gk 7 (by omega)).symm) w54
    refine Or.inl ⟨q, _, hq, fi, pn, pp, fp, P2.1, m_ok f7, L.1, ix, P2.2, ?_, fun k y4 y5 _ _ _ => wk k y4 y5, wk 13 (by omega) (by omega), fun k => ?_⟩
    · have := (ob_SK_le (x := x) el.2).1
      omega
    · rw [o4, hp_i_g, hp_i_t (by omega), ← L.2.2, b57]
  · have hb := m_bad (by omega) F.2.2.1
    have e3 : og3 hm = g_X12_named (og2 hm) := by rw [o3]; exact m_mustF hb
    rw [e3]
    exact Or.inr ⟨s1, 1, hsl, by rw [hb]; decide, F.mx, P1.num4.same (F.2.2.2.2 6 (by omega) (by omega) (by omega) (by omega)) (n54 54 0 (by omega)), kx1.trans F.kx, Or.inl ⟨fi, a_fail P1.2.1 1⟩⟩
  · have e3 : og3 hm = g_X12_must (g_X12_named (og2 hm)) 0 3 := by rw [o3, if_pos fn]
    have F : MF (og2 hm) (og3 hm) t s1 3 := by rw [e3]; exact m_fail (p := 0) (c := 3) M k7 hsl
    have hb := m_bad (by omega) F.2.2.1
    have t54 : (og3 hm).1 54 0 = (og2 hm).1 54 0 := by rw [e3, fr_X12_must (by omega), n54 54 0 (by omega)]
    exact Or.inr ⟨s1, 3, hsl, by rw [hb]; decide, F.mx, P1.num4.same (F.2.2.2.2 6 (by omega) (by omega) (by omega) (by omega)) t54, kx1.trans F.kx, Or.inr ⟨fi, pn, pp, fp, a_fail P1.2.1 3⟩⟩
end ORD
