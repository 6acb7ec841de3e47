/-! load: the name of a product, and of an item -/
section PRD
variable {h h' hm hm' H : Hp} {x : Nat → Nat} {t i k s c : Nat} {T : Nat → Nat}
theorem ob_mt2 {q q' n : Nat} (U : UN T) (v : VK T q) (v' : VK T q') (m : MT T x s n q) (m' : MT T x s n q') : q = q' := U.2 q q' v v' (fun i hi => (m i hi).trans (m' i hi).symm)
theorem ps_prod (P : PS h hm x t s) (R : RD hm T) (U : UN T) (hT : ∀ k, k < 160 → T (4 + k) < 128) (h0 : T 0 ≤ 12) (hT1 : T 1 ≤ 8) (e1 : h.1 1 c 1 = nI (T 1)) (hn1 : ∀ p, p < T 1 → h.2.1 21 c p = oa_nm T (12 + p)) : p_X9_isName h ∧ p_X12_named hm ∧
    ((∃ q, q < T 1 ∧ NS x t s ∧ f_X9_isName h = 1 ∧ p_X9_name h ∧ p_X1_productNamed h c (f_X9_name h) ∧ f_X1_productNamed h c (f_X9_name h) = nI q ∧ f_X12_named hm = nI (12 + q) ∧ MB hm (g_X12_named hm) s) ∨
     (f_X9_isName h = 0 ∧ f_X12_named hm = -1 ∧ MF hm (g_X12_named hm) t s 1) ∨
     (f_X9_isName h = 1 ∧ p_X9_name h ∧ p_X1_productNamed h c (f_X9_name h) ∧ f_X1_productNamed h c (f_X9_name h) = -1 ∧ f_X12_named hm < 12 ∧ MB hm (g_X12_named hm) s)) := by
  obtain ⟨p1, p2, p3, p4, p5, i, p6, p7, p8⟩ := id P
  have bt := p1.1
  have nm := s_named p4 R hT h0 hT1 p6 p7 p5 p8
  have isn := s_isName p3 bt p2
  have b := s_blanks p4 p6 p7
  rw [p8] at b
  refine ⟨isn.1, nm.1, ?_⟩
  rcases nm.2 with ⟨N, gn, nm2⟩ | ⟨N, fn, Fn⟩
  · have fi : f_X9_isName h = 1 := by
      rcases isn.2 with z | z
      · exact z.1
      · exact (z.2 N).elim
    have L := ob_lt p3 N
    have nam := s_cname p1 p3 p2 N.1
    have pr := s_qn (h := h) (c := c) L U hT1 e1 hn1
    rw [nam.2, gn]
    rcases nm2 with ⟨q, vq, mq, fq⟩ | ⟨nq, fq⟩
    · rcases id vq with ⟨a, a2⟩ | ⟨a, a2⟩
      · rcases pr.2 with ⟨q', hq', mq', fq'⟩ | ⟨-, fq'⟩
        · exfalso
          have := ob_mt2 U vq (Or.inr ⟨by omega, by omega⟩ : VK T (12 + q')) mq mq'
          omega
        · refine Or.inr (Or.inr ⟨fi, nam.1, pr.1, fq', ?_, b.2.1⟩)
          rw [fq]
          exact nI_lt (b := 12) a (by omega)
      · rcases pr.2 with ⟨q', hq', mq', fq'⟩ | ⟨no, -⟩
        · have := ob_mt2 U vq (Or.inr ⟨by omega, by omega⟩ : VK T (12 + q')) mq mq'
          exact Or.inl ⟨q', hq', N, fi, nam.1, pr.1, fq', by rw [fq, this], b.2.1⟩
        · have := no (q - 12) a2
          rw [show 12 + (q - 12) = q by omega] at this
          exact (this mq).elim
    · rcases pr.2 with ⟨q', hq', mq', fq'⟩ | ⟨-, fq'⟩
      · exact (nq (12 + q') (Or.inr ⟨by omega, by omega⟩) mq').elim
      · refine Or.inr (Or.inr ⟨fi, nam.1, pr.1, fq', ?_, b.2.1⟩)
        rw [fq]
        decide
  · have fi : f_X9_isName h = 0 := by
      rcases isn.2 with z | z
      · exact (N z.2).elim
      · exact z.1
    exact Or.inr (Or.inl ⟨fi, fn, Fn⟩)
/-- the same of an item (a line of a bill) -/
theorem ps_item (P : PS h hm x t s) (R : RD hm T) (U : UN T) (hT : ∀ k, k < 160 → T (4 + k) < 128) (h0 : T 0 ≤ 12) (hT1 : T 1 ≤ 8) (e0 : h.1 1 c 0 = nI (T 0)) (e1 : h.1 1 c 1 = nI (T 1)) (hn0 : ∀ p, p < T 0 → h.2.1 19 c p = oa_nm T p) (hn1 : ∀ p, p < T 1 → h.2.1 21 c p = oa_nm T (12 + p)) : p_X9_isName h ∧ p_X12_named hm ∧
    ((∃ q, VK T q ∧ NS x t s ∧ f_X9_isName h = 1 ∧ p_X9_name h ∧ p_X1_itemNamed h c (f_X9_name h) ∧ f_X1_itemNamed h c (f_X9_name h) = nI (if q < 12 then q else q + 88) ∧ f_X12_named hm = nI q ∧ MB hm (g_X12_named hm) s) ∨
     (f_X9_isName h = 0 ∧ f_X12_named hm = -1 ∧ MF hm (g_X12_named hm) t s 1) ∨
     (f_X9_isName h = 1 ∧ p_X9_name h ∧ p_X1_itemNamed h c (f_X9_name h) ∧ f_X1_itemNamed h c (f_X9_name h) = -1 ∧ f_X12_named hm = -1 ∧ MB hm (g_X12_named hm) s)) := by
  obtain ⟨p1, p2, p3, p4, p5, i, p6, p7, p8⟩ := id P
  have bt := p1.1
  have nm := s_named p4 R hT h0 hT1 p6 p7 p5 p8
  have isn := s_isName p3 bt p2
  have b := s_blanks p4 p6 p7
  rw [p8] at b
  refine ⟨isn.1, nm.1, ?_⟩
  rcases nm.2 with ⟨N, gn, nm2⟩ | ⟨N, fn, Fn⟩
  · have fi : f_X9_isName h = 1 := by
      rcases isn.2 with z | z
      · exact z.1
      · exact (z.2 N).elim
    have L := ob_lt p3 N
    have nam := s_cname p1 p3 p2 N.1
    have it := s_item (h := h) (c := c) L U h0 hT1 e0 e1 hn0 hn1
    rw [nam.2, gn]
    rcases nm2 with ⟨q, vq, mq, fq⟩ | ⟨nq, fq⟩
    · rcases it.2 with ⟨q', vq', mq', fq'⟩ | ⟨no, -⟩
      · have e := ob_mt2 U vq vq' mq mq'
        rw [← e] at fq'
        exact Or.inl ⟨q, vq, N, fi, nam.1, it.1, fq', fq, b.2.1⟩
      · exact (no q vq mq).elim
    · rcases it.2 with ⟨q', vq', mq', fq'⟩ | ⟨-, fq'⟩
      · exact (nq q' vq' mq').elim
      · exact Or.inr (Or.inr ⟨fi, nam.1, it.1, fq', fq, b.2.1⟩)
  · have fi : f_X9_isName h = 0 := by
      rcases isn.2 with z | z
      · exact (N z.2).elim
      · exact z.1
    exact Or.inr (Or.inl ⟨fi, fn, Fn⟩)
/-- the optional word at which both stand -/
theorem ps_whole (P : PS h hm x t s) : p_X9_isWord h 4 ∧ p_X12_takes hm 26 ∧
    ((f_X9_isWord h 4 = 1 ∧ f_X12_takes hm 26 = 1 ∧ p_X9_step h ∧ (∃ s', s < s' ∧ PS (g_X9_step h) (g_X12_takes hm 26) x t s') ∧ KE hm (g_X12_takes hm 26)) ∨
     (f_X9_isWord h 4 = 0 ∧ f_X12_takes hm 26 = 0 ∧ PS h (g_X12_takes hm 26) x t s ∧ KE hm (g_X12_takes hm 26))) := by
  obtain ⟨p1, p2, p3, p4, p5, i, p6, p7, p8⟩ := id P
  have bt := p1.1
  have e26 : oa_by 26 = oa_by 4 := by decide +kernel
  have l5 : (oa_by 4).length = 5 := by decide
  have a := s_isWord (j := 4) (by omega) (by omega) p1 p3 p2
  have m := s_mWord (j := 26) (by omega) p4 p6 p7 p5
  have b := s_blanks p4 p6 p7
  rw [p8] at m b
  have iw : IWd x t s 26 ↔ IWd x t s 4 := by
    unfold IWd ob_A
    rw [e26]
  have len : f_J0_length_8abf5 (g_X12_isWord hm 26) 26 = nI 5 := by unfold f_J0_length_8abf5; rw [e26, l5]
  unfold p_X12_takes f_X12_takes g_X12_takes
  rw [ite_self]
  rcases m.2.1 with ⟨m1, m2⟩ | ⟨m1, m2⟩
  · have w := iw.mp m2
    have a1 : f_X9_isWord h 4 = 1 := by
      rcases a.2 with z | z
      · exact z.1
      · exact (z.2 w).elim
    have n10 : ¬ (1 : Int32) = 0 := by decide
    rw [m1, if_neg n10, len, m.2.2]
    have g4 : (hp_i (g_X12_blanks hm) 12 0 4 ((g_X12_blanks hm).1 12 0 4 + nI 5)).1 12 0 4 = nI (s + (oa_by 4).length) := by rw [hp_i_g, if_pos rfl, b.2.1.1, nI_add, l5]
    have ps := ps_word (j := 4) (hm' := hp_i (g_X12_blanks hm) 12 0 4 ((g_X12_blanks hm).1 12 0 4 + nI 5)) P (by omega) w g4 (by rw [hp_i_g, if_neg (by omega)]; exact b.2.1.2.2 6 (by omega) (by omega)) (by rw [hp_i_g, if_neg (by omega)]; exact b.2.1.2.2 7 (by omega) (by omega)) (by rw [hp_i_t (by omega)]; exact fr_X12_blanks (by omega))
    refine ⟨a.1, ⟨m.1, fun z => (n10 z).elim, fun _ => ⟨by show (26 : Nat) < 36; omega, Or.inr rfl, trivial⟩⟩, Or.inl ⟨a1, rfl, ps.1, ⟨_, ?_, ps.2⟩, fun k h4 h5 => ?_⟩⟩
    · have el := ob_ED_le (x := x) (k := 1) p3
      have := w.1
      have := (ob_SK_le (x := x) (show s + (oa_by 4).length ≤ t by omega)).1
      omega
    · rw [hp_i_g, if_neg h4]; exact b.2.1.2.2 k h4 h5
  · have a1 : f_X9_isWord h 4 = 0 := by
      rcases a.2 with z | z
      · exact (m2 (iw.mpr z.2)).elim
      · exact z.1
    rw [m1, if_pos rfl, m.2.2]
    refine ⟨a.1, ⟨m.1, fun _ => ⟨Or.inl rfl, trivial⟩, fun z => (z rfl).elim⟩, Or.inr ⟨a1, rfl, ?_, b.2.1.2.2⟩⟩
    exact ⟨p1, p2, p3, b.2.2, (b.2.1.2.2 7 (by omega) (by omega)).trans p5, s, p3, b.2.1.1, by rw [← p8]; exact ob_SK_idem p6⟩
end PRD
