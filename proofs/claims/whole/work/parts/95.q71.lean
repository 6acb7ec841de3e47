/-! load: both stand at the same token -/
section PSS
variable {h h' hm hm' H : Hp} {x : Nat → Nat} {t i k s c lo hi j : Nat}
theorem ob_SK_stop : ∀ (m i : Nat), i + m = t → ¬ (ob_SK x t i < t ∧ ob_bl (x (ob_SK x t i)) = true) := by
  intro m
  induction m with
  | zero =>
    intro i hi
    rw [(ob_SK_f (by omega)).trans (if_neg (by omega))]
    omega
  | succ m ih =>
    intro i hi
    by_cases d : i < t ∧ ob_bl (x i) = true
    · rw [(ob_SK_f (by omega)).trans (if_pos d)]
      exact ih (i + 1) (by omega)
    · rw [(ob_SK_f (by omega)).trans (if_neg d)]
      exact d
theorem ob_SK_idem (hi : i ≤ t) : ob_SK x t (ob_SK x t i) = ob_SK x t i :=
  (ob_SK_f (ob_SK_le hi).2).trans (if_neg (ob_SK_stop (t - i) i (by omega)))
/-- both stand at the token that begins at s, and nothing was wrong so far -/
def PS (h hm : Hp) (x : Nat → Nat) (t s : Nat) : Prop := XC h x t ∧ TK h x t s ∧ s ≤ t ∧ XM hm x t ∧ hm.1 12 0 7 = -1 ∧ ∃ i, i ≤ t ∧ hm.1 12 0 4 = nI i ∧ ob_SK x t i = s
theorem PS.cls (P : PS h hm x t s) (h4 : h'.1 4 0 = h.1 4 0) (h35 : h'.1 35 0 = h.1 35 0) (h9 : h'.1 9 0 = h.1 9 0) : PS h' hm x t s := by
  obtain ⟨p1, p2, p3⟩ := P
  refine ⟨p1.same h4 h35, ?_, p3⟩
  unfold TK
  rw [h9]
  exact p2
theorem PS.mod (P : PS h hm x t s) (h4 : hm'.1 12 0 4 = hm.1 12 0 4) (h6 : hm'.1 12 0 6 = hm.1 12 0 6) (h7 : hm'.1 12 0 7 = hm.1 12 0 7) (h54 : hm'.1 54 0 = hm.1 54 0) : PS h hm' x t s := by
  obtain ⟨p1, p2, p3, p4, p5, i, p6, p7, p8⟩ := P
  exact ⟨p1, p2, p3, p4.same h6 h54, h7.trans p5, i, p6, h4.trans p7, p8⟩
/-- the class failed at s, of kind c -/
def FC (h : Hp) (s c : Nat) : Prop := h.1 7 0 0 = nI s ∧ h.1 7 0 1 = nI c
theorem a_fail (K : TK h x t s) (c : Nat) : FC (g_X7_fail h (nI c)) s c := by
  unfold g_X7_fail FC
  refine ⟨?_, hp_i_g.trans (if_pos rfl)⟩
  rw [hp_i_g, if_neg (by omega), hp_i_g, if_pos rfl]
  exact K.1
/-- the model's other cells are as they were -/
def KE (hm hm' : Hp) : Prop := ∀ k, ¬ k = 4 → ¬ k = 5 → hm'.1 12 0 k = hm.1 12 0 k
theorem ps_step {e : Nat} (P : PS h hm x t s) (he : ob_TE x t s = e) (h4 : hm'.1 12 0 4 = nI e) (h6 : hm'.1 12 0 6 = hm.1 12 0 6) (h7 : hm'.1 12 0 7 = hm.1 12 0 7) (h54 : hm'.1 54 0 = hm.1 54 0) : p_X9_step h ∧ PS (g_X9_step h) hm' x t (ob_SK x t e) := by
  obtain ⟨p1, p2, p3, p4, p5, -⟩ := P
  have te := ob_TE_le (x := x) p3
  rw [he] at te
  have k3 := p2.2.2
  rw [he] at k3
  have st := s_step p1 te.2 k3
  exact ⟨st.1, st.2.2, st.2.1, (ob_SK_le te.2).2, p4.same h6 h54, h7.trans p5, e, te.2, h4, rfl⟩
theorem ps_num (P : PS h hm x t s) (hl : lo ≤ 9999) (hh : hi ≤ 9999) : p_X7_readNumber h (nI lo) (nI hi) ∧ p_X12_number hm (nI lo) (nI hi) ∧
    ((∃ v s', lo ≤ v ∧ v ≤ hi ∧ f_X7_readNumber h (nI lo) (nI hi) = nI v ∧ f_X12_number hm (nI lo) (nI hi) = nI v ∧ PS (g_X7_readNumber h (nI lo) (nI hi)) (g_X12_number hm (nI lo) (nI hi)) x t s' ∧ KE hm (g_X12_number hm (nI lo) (nI hi)) ∧ (g_X7_readNumber h (nI lo) (nI hi)).1 7 0 = h.1 7 0 ∧ s < s') ∨
     (∃ c, f_X7_readNumber h (nI lo) (nI hi) = -1 ∧ f_X12_number hm (nI lo) (nI hi) = nI lo ∧ FC (g_X7_readNumber h (nI lo) (nI hi)) s c ∧ MF hm (g_X12_number hm (nI lo) (nI hi)) t s c)) := by
  obtain ⟨p1, p2, p3, p4, p5, i, p6, p7, p8⟩ := id P
  have a := s_readNumber (lo := lo) (hi := hi) p1 p3 p2 hl hh
  have m := s_number (lo := lo) (hi := hi) p4 p6 p7 p5 hl hh
  rw [p8] at m
  refine ⟨a.1, m.1, ?_⟩
  rcases a.2 with ⟨n1, a1, a2⟩ | ⟨n1, a1, a2⟩
  · rcases m.2 with ⟨-, m1, m2⟩ | ⟨n2, -, -⟩
    · refine Or.inl ⟨_, ob_SK x t (ob_ED x t 2 s), n1.2.2.1, n1.2.2.2, a1, m1, ?_, m2.2.2, by rw [a2]; exact fr_X9_step (by omega), ?_⟩
      rotate_left
      · have e1 := (ob_run p3 n1.1 (Or.inr rfl)).2
        have e2 := ob_ED_le (x := x) (k := 2) p3
        have e3 := (ob_SK_le (x := x) e2.2).1
        omega
      rw [a2]
      exact (ps_step (hm' := g_X12_number hm (nI lo) (nI hi)) P (ob_run p3 n1.1 (Or.inr rfl)).1 m2.1 (m2.2.2 6 (by omega) (by omega)) (m2.2.2 7 (by omega) (by omega)) (fr_X12_number (by omega))).2
    · exact (n2 n1).elim
  · rcases m.2 with ⟨n2, -, -⟩ | ⟨-, m1, m2⟩
    · exact (n1 n2).elim
    · refine Or.inr ⟨_, a1, m1, ?_, m2⟩
      rw [a2]
      exact a_fail p2 _
/-- a number, when something was wrong already -/
theorem mf_num (hs : s < 2 ^ 31) (f7 : hm.1 12 0 7 = nI s) (a b : Int32) : p_X12_number hm a b ∧ f_X12_number hm a b = a ∧ g_X12_number hm a b = hm := by
  have hb := m_bad hs f7
  have nF : ¬ f_X12_hasFailed hm = 0 := by rw [hb]; decide
  unfold p_X12_number f_X12_number g_X12_number
  rw [if_neg nF, if_neg nF]
  exact ⟨⟨m_pF _, fun z => (nF z).elim, fun _ => trivial⟩, rfl, rfl⟩
/-- behind the word at which both stand -/
theorem ps_word (P : PS h hm x t s) (h1 : 1 ≤ (oa_by j).length) (W : IWd x t s j) (h4 : hm'.1 12 0 4 = nI (s + (oa_by j).length)) (h6 : hm'.1 12 0 6 = hm.1 12 0 6) (h7 : hm'.1 12 0 7 = hm.1 12 0 7) (h54 : hm'.1 54 0 = hm.1 54 0) : p_X9_step h ∧ PS (g_X9_step h) hm' x t (ob_SK x t (s + (oa_by j).length)) := by
  have hs := P.2.2.1
  have el := ob_ED_le (x := x) (k := 1) hs
  have kd : ob_kd x t s = 1 := by
    by_cases d : ob_kd x t s = 1
    · exact d
    · have ee : ob_ED x t 1 s = s := (ob_ED_f hs).trans (if_neg (fun y => d (by unfold ob_kd; rw [if_pos y.1]; exact y.2)))
      have := W.1
      omega
  have te := (ob_run hs kd (Or.inl rfl)).1
  have e : ob_TE x t s = s + (oa_by j).length := by rw [te]; have := W.1; omega
  exact ps_step P e h4 h6 h7 h54
end PSS
