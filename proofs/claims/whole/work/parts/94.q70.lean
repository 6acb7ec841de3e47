/-! load: the end of a line -/
section SEM
variable {h hm H : Hp} {x : Nat → Nat} {t i k s c : Nat}
/-- what the model does behind a line -/
def sm1 (hm : Hp) : Hp := g_X12_blanks0 hm
def sm2 (hm : Hp) : Hp := g_X12_must (sm1 hm) (f_X12_isAt (sm1 hm) 59 59) 1
def sm3 (hm : Hp) : Hp := hp_i (sm2 hm) 12 0 4 ((sm2 hm).1 12 0 4 + 1)
def sm4 (hm : Hp) : Hp := g_X12_blanks0 (sm3 hm)
def psm (hm : Hp) : Prop := p_X12_blanks0 hm ∧ p_X12_isAt (sm1 hm) 59 59 ∧ p_X12_must (sm1 hm) (f_X12_isAt (sm1 hm) 59 59) 1 ∧ p_X12_blanks0 (sm3 hm)
theorem fr_sm4 {T j : Nat} (hT : ¬ (T = 12 ∧ j = 0)) : (sm4 hm).1 T j = hm.1 T j := by
  unfold sm4
  rw [fr_X12_blanks0 hT]
  unfold sm3
  rw [hp_i_n hT]
  unfold sm2
  rw [fr_X12_must hT]
  exact fr_X12_blanks0 hT
theorem m_b0_ok (e7 : hm.1 12 0 7 = -1) (pb : p_X12_blanks hm) : p_X12_blanks0 hm ∧ g_X12_blanks0 hm = g_X12_blanks hm := by
  have hF := m_ok e7
  have nF : ¬ ¬ f_X12_hasFailed hm = 0 := fun z => z hF
  unfold p_X12_blanks0 g_X12_blanks0
  rw [if_neg nF]
  exact ⟨⟨m_pF _, fun z => (nF z).elim, fun _ => ⟨pb, trivial⟩⟩, rfl⟩
theorem m_b0_bad (hb : f_X12_hasFailed hm = 1) : p_X12_blanks0 hm ∧ g_X12_blanks0 hm = hm := by
  have nF : ¬ f_X12_hasFailed hm = 0 := by rw [hb]; decide
  unfold p_X12_blanks0 g_X12_blanks0
  rw [if_pos nF]
  exact ⟨⟨m_pF _, fun _ => trivial, fun z => (nF z).elim⟩, rfl⟩
/-- both failed at s, of kind c -/
def FM (hm hm' : Hp) (s c : Nat) : Prop := hm'.1 12 0 7 = nI s ∧ hm'.1 12 0 8 = nI c ∧ ∀ k, ¬ k = 4 → ¬ k = 5 → ¬ k = 7 → ¬ k = 8 → hm'.1 12 0 k = hm.1 12 0 k
theorem s_semiF (X : XM hm x t) (hs : s ≤ t) (F : MF H hm t s c) : psm hm ∧ FM H (sm4 hm) s c := by
  obtain ⟨⟨p, hp, f4⟩, f5, f7, f8, fk⟩ := F
  have bt := X.1
  have hb := m_bad (show s < 2 ^ 31 by omega) f7
  have b1 := m_b0_bad hb
  have e1 : sm1 hm = hm := b1.2
  have a1 := m_at (lo := 59) (hi := 59) X f4 (by omega) (by omega) (by omega)
  have e2 : sm2 hm = hm := by unfold sm2; rw [e1]; exact m_mustF hb
  have e3 : sm3 hm = hp_i hm 12 0 4 (hm.1 12 0 4 + 1) := by unfold sm3; rw [e2]
  have g7 : (sm3 hm).1 12 0 7 = nI s := by rw [e3, hp_i_g, if_neg (by omega)]; exact f7
  have hb3 := m_bad (show s < 2 ^ 31 by omega) g7
  have b3 := m_b0_bad hb3
  have e4 : sm4 hm = sm3 hm := b3.2
  refine ⟨⟨b1.1, by rw [e1]; exact a1.1, m_pM _ _ _, b3.1⟩, ?_⟩
  rw [e4]
  refine ⟨g7, ?_, fun k h4 h5 h7 h8 => ?_⟩
  · rw [e3, hp_i_g, if_neg (by omega)]; exact f8
  · rw [e3, hp_i_g, if_neg h4]; exact fk k h4 h5 h7 h8
theorem s_semi (XH : XC h x t) (K : TK h x t s) (X : XM hm x t) (hi : i ≤ t) (e4 : hm.1 12 0 4 = nI i) (e7 : hm.1 12 0 7 = -1) (hs : ob_SK x t i = s) : p_X7_readSemicolon h ∧ psm hm ∧
    ((f_X7_readSemicolon h = 1 ∧ g_X7_readSemicolon h = g_X9_step h ∧ s < t ∧ ob_TE x t s = s + 1 ∧ ME hm (sm4 hm) (ob_SK x t (s + 1)) (ob_SK x t (s + 1))) ∨
     (f_X7_readSemicolon h = 0 ∧ g_X7_readSemicolon h = g_X7_fail h 1 ∧ FM hm (sm4 hm) s 1)) := by
  obtain ⟨k1, k0, k3⟩ := K
  have bt := XH.1
  have b := s_blanks X hi e4
  have sl := ob_SK_le (x := x) hi
  rw [hs] at b sl
  have te := ob_TE_le (x := x) sl.2
  have st := s_step XH te.2 k3
  have kl := ob_kd_lt x t s
  have q3 : h.1 9 0 0 = 3 ↔ ob_kd x t s = 3 := by rw [k0]; exact nI_eq (b := 3) (by omega) (by omega)
  have sg := a_sign (i := s) XH (by omega)
  have b0 := m_b0_ok e7 b.1
  have e1 : sm1 hm = g_X12_blanks hm := b0.2
  have b7 : (g_X12_blanks hm).1 12 0 7 = -1 := (b.2.1.2.2 7 (by omega) (by omega)).trans e7
  have a1 := m_at (lo := 59) (hi := 59) b.2.2 b.2.1.1 (by omega) (by omega) (by omega)
  have en : nI s + 1 = nI (s + 1) := nI_add s 1
  by_cases d : s < t ∧ x s = 59
  · have kd : ob_kd x t s = 3 := by unfold ob_kd; rw [if_pos d.1, d.2]; decide
    have f1 : f_X12_isAt (g_X12_blanks hm) 59 59 = 1 := a1.2.trans (if_pos (by omega))
    have e2 : sm2 hm = g_X12_blanks hm := by unfold sm2; rw [e1, f1]; exact m_must1 (by decide)
    have e3 : sm3 hm = hp_i (g_X12_blanks hm) 12 0 4 (nI (s + 1)) := by unfold sm3; rw [e2, b.2.1.1, en]
    have X3 : XM (sm3 hm) x t := by rw [e3]; exact b.2.2.set (by omega)
    have g4 : (sm3 hm).1 12 0 4 = nI (s + 1) := by rw [e3, hp_i_g, if_pos rfl]
    have g7 : (sm3 hm).1 12 0 7 = -1 := by rw [e3, hp_i_g, if_neg (by omega)]; exact b7
    have b3 := s_blanks X3 (show s + 1 ≤ t by omega) g4
    have b30 := m_b0_ok g7 b3.1
    have ee : sm4 hm = g_X12_blanks (sm3 hm) := b30.2
    have sc : p_X9_isSemicolon h ∧ f_X9_isSemicolon h = 1 := by
      unfold p_X9_isSemicolon f_X9_isSemicolon
      rw [if_neg (show ¬ ¬ h.1 9 0 0 = 3 from fun z => z (q3.mpr kd)), k1, sg.2, if_pos d.1, d.2, if_neg (show ¬ ¬ nI 59 = 59 from fun z => z rfl)]
      exact ⟨⟨fun z => (z (q3.mpr kd)).elim, fun _ => ⟨sg.1, Or.inr rfl, trivial⟩⟩, rfl⟩
    have n1 : ¬ (1 : Int32) = 0 := by decide
    refine ⟨?_, ⟨b0.1, by rw [e1]; exact a1.1, m_pM _ _ _, b30.1⟩, Or.inl ⟨?_, ?_, d.1, ?_, ?_⟩⟩
    · unfold p_X7_readSemicolon
      rw [sc.2]
      exact ⟨sc.1, fun _ => ⟨st.1, trivial⟩, fun z => (n1 z).elim⟩
    · unfold f_X7_readSemicolon
      rw [sc.2, if_pos n1]
    · unfold g_X7_readSemicolon
      rw [sc.2, if_pos n1]
    · unfold ob_TE
      rw [kd, if_neg (by omega), if_pos rfl]
    · rw [ee]
      refine ⟨b3.2.1.1, b3.2.1.2.1, fun k h4 h5 => (b3.2.1.2.2 k h4 h5).trans ?_⟩
      rw [e3, hp_i_g, if_neg h4]
      exact b.2.1.2.2 k h4 h5
  · have f1 : f_X12_isAt (g_X12_blanks hm) 59 59 = 0 := a1.2.trans (if_neg (by omega))
    have F : MF hm (g_X12_must (g_X12_blanks hm) 0 1) t s 1 := m_fail (p := 0) (c := 1) b.2.1 e7 sl.2
    have e2 : sm2 hm = g_X12_must (g_X12_blanks hm) 0 1 := by unfold sm2; rw [e1, f1]
    have g7 : (sm3 hm).1 12 0 7 = nI s := by unfold sm3; rw [e2, hp_i_g, if_neg (by omega)]; exact F.2.2.1
    have hb3 := m_bad (show s < 2 ^ 31 by omega) g7
    have b3 := m_b0_bad hb3
    have ee : sm4 hm = sm3 hm := b3.2
    have sc : p_X9_isSemicolon h ∧ f_X9_isSemicolon h = 0 := by
      unfold p_X9_isSemicolon f_X9_isSemicolon
      by_cases kd : ob_kd x t s = 3
      · have hst : s < t := by
          by_cases l : s < t
          · exact l
          · unfold ob_kd at kd; rw [if_neg l] at kd; omega
        have ne : ¬ nI (x s) = 59 := fun z => d ⟨hst, (nI_eq (b := 59) (by have := (XH.2.2 s hst).1; omega) (by omega)).mp z⟩
        rw [if_neg (show ¬ ¬ h.1 9 0 0 = 3 from fun z => z (q3.mpr kd)), k1, sg.2, if_pos hst, if_pos ne]
        exact ⟨⟨fun z => (z (q3.mpr kd)).elim, fun _ => ⟨sg.1, Or.inl rfl, trivial⟩⟩, rfl⟩
      · rw [if_pos (show ¬ h.1 9 0 0 = 3 from fun z => kd (q3.mp z))]
        exact ⟨⟨fun _ => trivial, fun z => (kd (q3.mp z)).elim⟩, rfl⟩
    have n0 : ¬ ¬ (0 : Int32) = 0 := fun z => z rfl
    refine ⟨?_, ⟨b0.1, by rw [e1]; exact a1.1, m_pM _ _ _, b3.1⟩, Or.inr ⟨?_, ?_, ?_⟩⟩
    · unfold p_X7_readSemicolon
      rw [sc.2]
      exact ⟨sc.1, fun z => (n0 z).elim, fun _ => ⟨trivial, Or.inl rfl, trivial⟩⟩
    · unfold f_X7_readSemicolon
      rw [sc.2, if_neg n0]
      rfl
    · unfold g_X7_readSemicolon
      rw [sc.2, if_neg n0]
    · rw [ee]
      refine ⟨g7, ?_, fun k h4 h5 h7 h8 => ?_⟩
      · unfold sm3; rw [e2, hp_i_g, if_neg (by omega)]; exact F.2.2.2.1
      · unfold sm3; rw [e2, hp_i_g, if_neg h4]; exact F.2.2.2.2 k h4 h5 h7 h8
end SEM
