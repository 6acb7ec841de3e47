/-! load: words -/
section WRD
variable {h h' : Hp} {x : Nat → Nat} {t i k m s j : Nat}
def ob_A (x : Nat → Nat) (s j k : Nat) : Prop := ∀ k', k ≤ k' → k' < (oa_by j).length → nI (x (s + k')) = (oa_by j).getD k' 0
theorem ob_A_s : ob_A x s j k ↔ ((k < (oa_by j).length → nI (x (s + k)) = (oa_by j).getD k 0) ∧ ob_A x s j (k + 1)) := by
  refine ⟨fun a => ⟨fun hk => a k (Nat.le_refl _) hk, fun k' h1 h2 => a k' (by omega) h2⟩, fun a k' h1 h2 => ?_⟩
  by_cases e : k' = k
  · rw [e]; exact a.1 (by omega)
  · exact a.2 k' (by omega) h2
/-- the word j stands at s -/
def IWd (x : Nat → Nat) (t s j : Nat) : Prop := ob_ED x t 1 s - s = (oa_by j).length ∧ ob_A x s j 0
theorem l_cw (hj : j < 36) (X : XC h x t) (e1 : h.1 9 0 1 = nI s) (hl : s + (oa_by j).length ≤ t) : ∀ (m f k : Nat), k + m = (oa_by j).length → pw_X9_isWord_28 (m + 1 + f) h j (nI k) ∧ ((fw_X9_isWord_28 (m + 1 + f) h j (nI k) = 1 ∧ ob_A x s j k) ∨ (fw_X9_isWord_28 (m + 1 + f) h j (nI k) = 0 ∧ ¬ ob_A x s j k)) := by
  have bt := X.1
  intro m
  induction m with
  | zero =>
    intro f k hk
    rw [show 0 + 1 + f = f + 1 by omega]
    have lc : f_J0_length_8abf5 h j ≤ nI k := nI_le (by omega) (by omega)
    rw [pw_X9_isWord_28, fw_X9_isWord_28, if_pos lc]
    exact ⟨⟨hj, fun _ => trivial, fun z => (z lc).elim⟩, Or.inl ⟨rfl, fun k' h1 h2 => by omega⟩⟩
  | succ m ih =>
    intro f k hk
    rw [show m + 1 + 1 + f = (m + 1 + f) + 1 by omega]
    have lc : ¬ f_J0_length_8abf5 h j ≤ nI k := nI_ge (by omega) (by omega)
    have ch : f_J0_charAt_5068e h j (nI k) = (oa_by j).getD k 0 := by
      unfold f_J0_charAt_5068e
      rw [nI_clamp (by omega)]
    have pc : p_J0_charAt_5068e h j (nI k) := ⟨hj, vp_in_nI (by omega) (by omega)⟩
    have s1 := a_sign (i := s + k) X (by omega)
    have es : h.1 9 0 1 + nI k = nI (s + k) := by rw [e1, nI_add]
    have en : nI k + 1 = nI (k + 1) := nI_add k 1
    have r := ih f (k + 1) (by omega)
    rw [pw_X9_isWord_28, fw_X9_isWord_28, if_neg lc, es, s1.2, if_pos (by omega), ch, en]
    by_cases d : nI (x (s + k)) = (oa_by j).getD k 0
    · rw [if_pos d]
      refine ⟨⟨hj, fun z => (lc z).elim, fun _ => ⟨s1.1, pc, fun _ => r.1, fun z => (z d).elim⟩⟩, ?_⟩
      rcases r.2 with ⟨r1, r2⟩ | ⟨r1, r2⟩
      · exact Or.inl ⟨r1, ob_A_s.mpr ⟨fun _ => d, r2⟩⟩
      · exact Or.inr ⟨r1, fun z => r2 (ob_A_s.mp z).2⟩
    · rw [if_neg d]
      exact ⟨⟨hj, fun z => (lc z).elim, fun _ => ⟨s1.1, pc, fun z => (d z).elim, fun _ => trivial⟩⟩, Or.inr ⟨rfl, fun z => d ((ob_A_s.mp z).1 (by omega))⟩⟩
theorem s_isWord (hj : j < 36) (h1 : 1 ≤ (oa_by j).length) (X : XC h x t) (hs : s ≤ t) (K : TK h x t s) : p_X9_isWord h j ∧ ((f_X9_isWord h j = 1 ∧ IWd x t s j) ∨ (f_X9_isWord h j = 0 ∧ ¬ IWd x t s j)) := by
  obtain ⟨k1, k0, k3⟩ := K
  have bt := X.1
  have bl := (oa_by_ok j hj).1
  have kl := ob_kd_lt x t s
  have te := ob_TE_le (x := x) hs
  have el := ob_ED_le (x := x) (k := 1) hs
  have q1 : h.1 9 0 0 = 1 ↔ ob_kd x t s = 1 := by rw [k0]; exact nI_eq (b := 1) (by omega) (by omega)
  unfold p_X9_isWord f_X9_isWord
  by_cases d : ob_kd x t s = 1
  · obtain ⟨te1, lt1⟩ := ob_run hs d (Or.inl rfl)
    rw [if_neg (fun z => z (q1.mpr d))]
    have sub : h.1 9 0 3 - h.1 9 0 1 = nI (ob_ED x t 1 s - s) := by rw [k3, k1, te1, oa_sub (by omega)]
    have ql : h.1 9 0 3 - h.1 9 0 1 = f_J0_length_8abf5 h j ↔ ob_ED x t 1 s - s = (oa_by j).length := by
      rw [sub]; exact nI_eq (by omega) (by omega)
    by_cases dl : ob_ED x t 1 s - s = (oa_by j).length
    · obtain ⟨f, hf⟩ := oa_fuel (show (oa_by j).length < 1000000 by omega)
      have r := l_cw hj X k1 (by omega) (oa_by j).length f 0 (by omega)
      rw [← hf, nI_0] at r
      rw [if_pos (ql.mpr dl)]
      refine ⟨⟨fun z => (z (q1.mpr d)).elim, fun _ => ⟨hj, fun _ => r.1, fun z => (z (ql.mpr dl)).elim⟩⟩, ?_⟩
      rcases r.2 with ⟨r1, r2⟩ | ⟨r1, r2⟩
      · exact Or.inl ⟨r1, dl, r2⟩
      · exact Or.inr ⟨r1, fun z => r2 z.2⟩
    · rw [if_neg (fun z => dl (ql.mp z))]
      exact ⟨⟨fun z => (z (q1.mpr d)).elim, fun _ => ⟨hj, fun z => (dl (ql.mp z)).elim, fun _ => trivial⟩⟩, Or.inr ⟨rfl, fun z => dl z.1⟩⟩
  · rw [if_pos (fun z => d (q1.mp z))]
    refine ⟨⟨fun _ => trivial, fun z => (d (q1.mp z)).elim⟩, Or.inr ⟨rfl, fun z => ?_⟩⟩
    have ee : ob_ED x t 1 s = s := (ob_ED_f hs).trans (if_neg (fun y => d (by unfold ob_kd; rw [if_pos y.1]; exact y.2)))
    have := z.1
    rw [ee] at this
    omega
theorem l_mw (hj : j < 36) (X : XM h x t) (e4 : h.1 12 0 4 = nI s) (hl : s + (oa_by j).length ≤ t) (hc : ∀ k, k < (oa_by j).length → x (s + k) < 128) : ∀ (m f k : Nat), k + m = (oa_by j).length → pw_X12_isWord_26 (m + 1 + f) h j 1 (nI k) ∧ ((fw_X12_isWord_26 (m + 1 + f) h j 1 (nI k) = 1 ∧ ob_A x s j k) ∨ (fw_X12_isWord_26 (m + 1 + f) h j 1 (nI k) = 0 ∧ ¬ ob_A x s j k)) := by
  have bt := X.1
  intro m
  induction m with
  | zero =>
    intro f k hk
    rw [show 0 + 1 + f = f + 1 by omega]
    have lc : f_J0_length_8abf5 h j ≤ nI k := nI_le (by omega) (by omega)
    rw [pw_X12_isWord_26, fw_X12_isWord_26, if_neg (show ¬ (1 : Int32) = 0 by decide), if_pos lc]
    exact ⟨⟨fun z => absurd z (by decide), fun _ => ⟨hj, fun _ => ⟨Or.inr rfl, trivial⟩, fun z => (z lc).elim⟩⟩, Or.inl ⟨rfl, fun k' h1 h2 => by omega⟩⟩
  | succ m ih =>
    intro f k hk
    rw [show m + 1 + 1 + f = (m + 1 + f) + 1 by omega]
    have lc : ¬ f_J0_length_8abf5 h j ≤ nI k := nI_ge (by omega) (by omega)
    have ch : f_J0_charAt_5068e h j (nI k) = (oa_by j).getD k 0 := by
      unfold f_J0_charAt_5068e
      rw [nI_clamp (by omega)]
    have pc : p_J0_charAt_5068e h j (nI k) := ⟨hj, vp_in_nI (by omega) (by omega)⟩
    have es : h.1 12 0 4 + nI k = nI (s + k) := by rw [e4, nI_add]
    have v1 : vp_in (nI (s + k)) 900 := vp_in_nI (by omega) (by omega)
    have cell : h.1 54 0 (s + k) = nI (x (s + k)) := by rw [(X.2.2 (s + k) (by omega)).2, ob_sb_lt _ (hc k (by omega))]
    have en : nI k + 1 = nI (k + 1) := nI_add k 1
    have r := ih f (k + 1) (by omega)
    rw [pw_X12_isWord_26, fw_X12_isWord_26, if_neg (show ¬ (1 : Int32) = 0 by decide), if_neg lc, es, nI_clamp (by omega), cell, ch, en]
    by_cases d : nI (x (s + k)) = (oa_by j).getD k 0
    · rw [if_neg (fun z => z d)]
      refine ⟨⟨fun z => absurd z (by decide), fun _ => ⟨hj, fun z => (lc z).elim, fun _ => ⟨v1, pc, r.1⟩⟩⟩, ?_⟩
      rcases r.2 with ⟨r1, r2⟩ | ⟨r1, r2⟩
      · exact Or.inl ⟨r1, ob_A_s.mpr ⟨fun _ => d, r2⟩⟩
      · exact Or.inr ⟨r1, fun z => r2 (ob_A_s.mp z).2⟩
    · have z0 : pw_X12_isWord_26 (m + 1 + f) h j 0 (nI (k + 1)) ∧ fw_X12_isWord_26 (m + 1 + f) h j 0 (nI (k + 1)) = 0 := by
        rw [show m + 1 + f = (m + f) + 1 by omega, pw_X12_isWord_26, fw_X12_isWord_26, if_pos rfl]
        exact ⟨⟨fun _ => ⟨Or.inl rfl, trivial⟩, fun z => (z rfl).elim⟩, rfl⟩
      rw [if_pos d]
      exact ⟨⟨fun z => absurd z (by decide), fun _ => ⟨hj, fun z => (lc z).elim, fun _ => ⟨v1, pc, z0.1⟩⟩⟩, Or.inr ⟨z0.2, fun z => d ((ob_A_s.mp z).1 (by omega))⟩⟩
theorem s_mWord (hj : j < 36) (X : XM h x t) (hi : i ≤ t) (e4 : h.1 12 0 4 = nI i) (e7 : h.1 12 0 7 = -1) : p_X12_isWord h j ∧ ((f_X12_isWord h j = 1 ∧ IWd x t (ob_SK x t i) j) ∨ (f_X12_isWord h j = 0 ∧ ¬ IWd x t (ob_SK x t i) j)) ∧ g_X12_isWord h j = g_X12_blanks h := by
  have bt := X.1
  have bl := (oa_by_ok j hj).1
  have l := s_letters X hi e4
  have b := s_blanks X hi e4
  have sl := ob_SK_le (x := x) hi
  generalize hs : ob_SK x t i = s at *
  have el := ob_ED_le (x := x) (k := 1) sl.2
  have hF := m_ok e7
  unfold p_X12_isWord f_X12_isWord g_X12_isWord
  have nF : ¬ ¬ f_X12_hasFailed h = 0 := fun z => z hF
  rw [if_neg nF, if_neg nF, id_gw_X12_isWord_26, l.2.2, l.2.1]
  have ql : nI (ob_ED x t 1 s - s) = f_J0_length_8abf5 (g_X12_blanks h) j ↔ ob_ED x t 1 s - s = (oa_by j).length := nI_eq (by omega) (by omega)
  by_cases dl : ob_ED x t 1 s - s = (oa_by j).length
  · rw [if_neg (fun z => z (ql.mpr dl))]
    obtain ⟨f, hf⟩ := oa_fuel (show (oa_by j).length < 1000000 by omega)
    have r := l_mw hj b.2.2 b.2.1.1 (by omega) (fun k hk => by have := (ob_kk_1 _).mp (ob_ED_all (x := x) (t := t) (k := 1) (i := s) (j := s + k) (by omega) (by omega)).2; omega) (oa_by j).length f 0 (by omega)
    rw [← hf, nI_0] at r
    refine ⟨⟨m_pF _, fun z => (z hF).elim, fun _ => ⟨l.1, hj, r.1⟩⟩, ?_, rfl⟩
    rcases r.2 with ⟨r1, r2⟩ | ⟨r1, r2⟩
    · exact Or.inl ⟨r1, dl, r2⟩
    · exact Or.inr ⟨r1, fun z => r2 z.2⟩
  · have z0 : pw_X12_isWord_26 oa_N (g_X12_blanks h) j 0 0 ∧ fw_X12_isWord_26 oa_N (g_X12_blanks h) j 0 0 = 0 := by
      obtain ⟨f, hf⟩ := oa_fuel (show 0 < 1000000 by omega)
      rw [hf, show 0 + 1 + f = f + 1 by omega, pw_X12_isWord_26, fw_X12_isWord_26, if_pos rfl]
      exact ⟨⟨fun _ => ⟨Or.inl rfl, trivial⟩, fun z => (z rfl).elim⟩, rfl⟩
    rw [if_pos (fun z => dl (ql.mp z))]
    exact ⟨⟨m_pF _, fun z => (z hF).elim, fun _ => ⟨l.1, hj, z0.1⟩⟩, Or.inr ⟨z0.2, fun z => dl z.1⟩, rfl⟩
end WRD
