/-! load: numbers of the model, closed -/
section NBN
variable {h h' : Hp} {x : Nat → Nat} {t i k m s lo hi : Nat}
/-- the model failed at s, of kind c -/
def MF (h h' : Hp) (t s c : Nat) : Prop := (∃ p, p ≤ t ∧ h'.1 12 0 4 = nI p) ∧ h'.1 12 0 5 = nI s ∧ h'.1 12 0 7 = nI s ∧ h'.1 12 0 8 = nI c ∧ ∀ k, ¬ k = 4 → ¬ k = 5 → ¬ k = 7 → ¬ k = 8 → h'.1 12 0 k = h.1 12 0 k
/-- the model stands at e, behind a token that began at s -/
def ME (h h' : Hp) (e s : Nat) : Prop := h'.1 12 0 4 = nI e ∧ h'.1 12 0 5 = nI s ∧ ∀ k, ¬ k = 4 → ¬ k = 5 → h'.1 12 0 k = h.1 12 0 k
theorem m_fail {e p c : Nat} (M : ME h h' e s) (h7 : h.1 12 0 7 = -1) (he : e ≤ t) : MF h (g_X12_must h' 0 (nI c)) t s c := by
  rw [m_must0 ((M.2.2 7 (by omega) (by omega)).trans h7)]
  refine ⟨⟨e, he, ?_⟩, ?_, ?_, ?_, fun k h4 h5 h7' h8 => ?_⟩
  · rw [hp_i_g, if_neg (by omega), hp_i_g, if_neg (by omega)]; exact M.1
  · rw [hp_i_g, if_neg (by omega), hp_i_g, if_neg (by omega)]; exact M.2.1
  · rw [hp_i_g, if_neg (by omega), hp_i_g, if_pos rfl]; exact M.2.1
  · rw [hp_i_g, if_pos rfl]
  · rw [hp_i_g, if_neg h8, hp_i_g, if_neg h7']; exact M.2.2 k h4 h5
theorem s_number (X : XM h x t) (hi' : i ≤ t) (e4 : h.1 12 0 4 = nI i) (e7 : h.1 12 0 7 = -1) (hl : lo ≤ 9999) (hh : hi ≤ 9999) : p_X12_number h (nI lo) (nI hi) ∧
    ((NG x t (ob_SK x t i) lo hi ∧ f_X12_number h (nI lo) (nI hi) = nI (ob_nv x (ob_SK x t i) (ob_ED x t 2 (ob_SK x t i) - ob_SK x t i)) ∧ ME h (g_X12_number h (nI lo) (nI hi)) (ob_ED x t 2 (ob_SK x t i)) (ob_SK x t i)) ∨
     (¬ NG x t (ob_SK x t i) lo hi ∧ f_X12_number h (nI lo) (nI hi) = nI lo ∧ MF h (g_X12_number h (nI lo) (nI hi)) t (ob_SK x t i) (ob_ke x t (ob_SK x t i)))) := by
  have bt := X.1
  have b := s_blanks X hi' e4
  have sl := ob_SK_le (x := x) hi'
  have el := ob_ED_le (x := x) (k := 2) sl.2
  generalize hs : ob_SK x t i = s at *
  obtain ⟨b0, ⟨b4, b5, bk⟩, bX⟩ := b
  have hF := m_ok e7
  unfold p_X12_number f_X12_number g_X12_number
  rw [if_pos hF, if_pos hF]
  generalize g_X12_blanks h = H0 at *
  have b7 : H0.1 12 0 7 = -1 := (bk 7 (by omega) (by omega)).trans e7
  have M0 : ME h H0 s s := ⟨b4, b5, bk⟩
  have at1 := m_at (lo := 48) (hi := 57) bX b4 (by omega) (by omega) (by omega)
  have kd2 : ob_kd x t s = 2 ↔ (s < t ∧ 48 ≤ x s ∧ x s ≤ 57) := by
    unfold ob_kd
    by_cases l : s < t
    · rw [if_pos l, ob_kk_2]; omega
    · rw [if_neg l]; omega
  obtain ⟨f, hf⟩ := oa_fuel (show t - s < 1000000 by omega)
  by_cases d : ob_kd x t s = 2
  · have f1 : f_X12_isAt H0 48 57 = 1 := at1.2.trans (if_pos (kd2.mp d))
    have ke : ob_ke x t s = 2 := by unfold ob_ke; rw [if_pos d]
    rw [f1, m_must1 (by decide), ke]
    obtain ⟨r1, H, M, r2, r3⟩ := l_mnum (lo := nI lo) (hi := nI hi) (t - s) f 0 H0 (by omega) bX b4 b5
    rw [← hf] at r1 r2 r3
    have r1' : pw_X12_number_28 oa_N H0 (nI lo) (nI hi) 0 := r1
    have r2' : fw_X12_number_28 oa_N H0 (nI lo) (nI hi) 0 = _ := r2
    have r3' : gw_X12_number_28 oa_N H0 (nI lo) (nI hi) 0 = _ := r3
    rw [Nat.add_zero] at M r2' r3'
    rw [r2', r3']
    have MH : ME h H (ob_ED x t 2 s) s := ⟨M.1, (M.2.1 5 (by omega)).trans b5, fun k h4 h5 => (M.2.1 k h4).trans (bk k h4 h5)⟩
    have H7 : H.1 12 0 7 = -1 := (MH.2.2 7 (by omega) (by omega)).trans e7
    have sub : H.1 12 0 4 - H.1 12 0 5 = nI (ob_ED x t 2 s - s) := by rw [MH.1, MH.2.1, oa_sub (by omega)]
    refine ⟨⟨m_pF _, fun _ => ⟨b0, at1.1, m_pM _ _ _, r1'⟩, fun z => (z hF).elim⟩, ?_⟩
    unfold ob_ef ob_eg
    rw [sub]
    by_cases d4 : ob_ED x t 2 s - s ≤ 4
    · have c4 : ¬ (4 : Int32) < nI (ob_ED x t 2 s - s) := nI_nlt (a := 4) d4 (by omega)
      rw [if_neg c4, if_neg c4, show min (ob_ED x t 2 s - s) 4 = ob_ED x t 2 s - s by omega]
      have dg : ∀ j, s ≤ j → j < ob_ED x t 2 s → 48 ≤ x j ∧ x j ≤ 57 := fun j h1 h2 => (ob_kk_2 _).mp (ob_ED_all h1 h2).2
      have nb := ob_nv_lt (x := x) (s := s) (ob_ED x t 2 s - s) (fun j h1 h2 => (dg j h1 (by omega)).2)
      have nb2 : ob_nv x s (ob_ED x t 2 s - s) < 10000 := Nat.lt_of_lt_of_le nb (Nat.pow_le_pow_right (by omega) d4)
      unfold NG
      obtain ⟨v, hv⟩ : ∃ v, v = ob_nv x s (ob_ED x t 2 s - s) := ⟨_, rfl⟩
      rw [← hv] at nb2 ⊢
      by_cases din : lo ≤ v ∧ v ≤ hi
      · have fi : f_X12_in H (nI v) (nI lo) (nI hi) = 1 := by
          unfold f_X12_in
          rw [if_neg (nI_nlt din.1 (by omega)), if_neg (nI_nlt din.2 (by omega))]
        rw [fi, m_must1 (show ¬ (if (1 : Int32) = 0 then (0 : Int32) else 1) = 0 by decide), if_pos (m_ok H7)]
        exact Or.inl ⟨⟨d, d4, din.1, din.2⟩, rfl, MH⟩
      · have fi : f_X12_in H (nI v) (nI lo) (nI hi) = 0 := by
          unfold f_X12_in
          by_cases z : v < lo
          · rw [if_pos (nI_lt z (by omega))]
          · rw [if_neg (nI_nlt (by omega) (by omega)), if_pos (nI_lt (by omega) (by omega))]
        have F := m_fail (p := 0) (c := 2) MH e7 el.2
        have F' : MF h (g_X12_must H 0 2) t s 2 := F
        rw [fi, if_pos rfl, m_bad (by omega) F'.2.2.1, if_neg (by decide)]
        exact Or.inr ⟨fun z => din ⟨z.2.2.1, z.2.2.2⟩, rfl, F'⟩
    · have c4 : (4 : Int32) < nI (ob_ED x t 2 s - s) := nI_lt (a := 4) (by omega) (by omega)
      have F' : MF h (g_X12_must H 0 2) t s 2 := m_fail (p := 0) (c := 2) MH e7 el.2
      rw [if_pos c4, if_pos c4, m_bad (by omega) F'.2.2.1, if_neg (by decide)]
      exact Or.inr ⟨fun z => d4 z.2.1, rfl, F'⟩
  · have f1 : f_X12_isAt H0 48 57 = 0 := at1.2.trans (if_neg (fun z => d (kd2.mpr z)))
    have ke : ob_ke x t s = 1 := by unfold ob_ke; rw [if_neg d]
    have ee : ob_ED x t 2 s = s := (ob_ED_f sl.2).trans (if_neg (fun z => d (by unfold ob_kd; rw [if_pos z.1]; exact z.2)))
    have F' : MF h (g_X12_must H0 0 1) t s 1 := m_fail (p := 0) (c := 1) M0 e7 sl.2
    have X1 : XM (g_X12_must H0 0 1) x t := bX.same ((F'.2.2.2.2 6 (by omega) (by omega) (by omega) (by omega)).trans (bk 6 (by omega) (by omega)).symm) (fr_X12_must (by omega))
    have q4 : (g_X12_must H0 0 1).1 12 0 4 = nI s := by
      rw [m_must0 b7, hp_i_g, if_neg (by omega), hp_i_g, if_neg (by omega)]
      exact b4
    rw [f1, ke]
    generalize g_X12_must H0 0 1 = H1 at *
    obtain ⟨r1, H, M, r2, r3⟩ := l_mnum (lo := nI lo) (hi := nI hi) (t - s) f 0 H1 (by omega) X1 q4 F'.2.1
    rw [← hf] at r1 r2 r3
    have r1' : pw_X12_number_28 oa_N H1 (nI lo) (nI hi) 0 := r1
    have r2' : fw_X12_number_28 oa_N H1 (nI lo) (nI hi) 0 = _ := r2
    have r3' : gw_X12_number_28 oa_N H1 (nI lo) (nI hi) 0 = _ := r3
    rw [Nat.add_zero, ee] at M r2' r3'
    rw [r2', r3']
    have FH : MF h H t s 1 := ⟨⟨s, sl.2, M.1⟩, (M.2.1 5 (by omega)).trans F'.2.1, (M.2.1 7 (by omega)).trans F'.2.2.1, (M.2.1 8 (by omega)).trans F'.2.2.2.1, fun k h4 h5 h7 h8 => (M.2.1 k h4).trans (F'.2.2.2.2 k h4 h5 h7 h8)⟩
    have hb := m_bad (by omega) FH.2.2.1
    have sub : H.1 12 0 4 - H.1 12 0 5 = nI (s - s) := by rw [M.1, FH.2.1, oa_sub (by omega)]
    have c4 : ¬ (4 : Int32) < nI (s - s) := nI_nlt (a := 4) (by omega) (by omega)
    refine ⟨⟨m_pF _, fun _ => ⟨b0, at1.1, m_pM _ _ _, r1'⟩, fun z => (z hF).elim⟩, ?_⟩
    unfold ob_ef ob_eg
    rw [sub, if_neg c4, if_neg c4, m_mustF hb, hb, if_neg (by decide)]
    exact Or.inr ⟨fun z => d z.1, rfl, FH⟩
end NBN
