/-! load: the model's reading -/
section MTK
variable {h h' : Hp} {x : Nat → Nat} {t i k m : Nat}
theorem XM.same (X : XM h x t) (h6 : h'.1 12 0 6 = h.1 12 0 6) (h54 : h'.1 54 0 = h.1 54 0) : XM h' x t := by
  unfold XM
  rw [h6, h54]
  exact X
theorem XM.set {k : Nat} {v : Int32} (X : XM h x t) (hk : ¬ k = 6) : XM (hp_i h 12 0 k v) x t := X.same (by rw [hp_i_g, if_neg (by omega)]) (hp_i_t (by omega))
theorem XM.set57 {k : Nat} {v : Int32} (X : XM h x t) : XM (hp_i h 57 0 k v) x t := X.same (by rw [hp_i_t (by omega)]) (hp_i_t (by omega))
/-- a byte of the tape against a bound -/
theorem m_lt {lo : Nat} (X : XM h x t) (hi : i < t) (hl : lo < 128) : (h.1 54 0 i < nI lo ↔ (x i < lo ∨ 128 ≤ x i)) ∧ (nI lo < h.1 54 0 i ↔ (lo < x i ∧ x i < 128)) := by
  obtain ⟨b, e⟩ := X.2.2 i hi
  rw [e]
  by_cases l : x i < 128
  · rw [ob_sb_lt _ l, nI_ltI (by omega) (by omega), nI_ltI (by omega) (by omega)]
    omega
  · have n := ob_sb_neg _ b l
    have p : 0 ≤ nI lo := nI_pos' (by omega)
    refine ⟨⟨fun _ => by omega, fun _ => by grind⟩, ⟨fun z => ?_, fun z => by omega⟩⟩
    exfalso
    grind
theorem m_at {lo hi : Nat} (X : XM h x t) (e4 : h.1 12 0 4 = nI i) (hi' : i < 2 ^ 30) (hl : lo < 128) (hh : hi < 128) : p_X12_isAt h (nI lo) (nI hi) ∧ f_X12_isAt h (nI lo) (nI hi) = if i < t ∧ lo ≤ x i ∧ x i ≤ hi then 1 else 0 := by
  have bt := X.1
  unfold p_X12_isAt f_X12_isAt
  rw [X.2.1, e4]
  by_cases l : i < t
  · have c1 : ¬ nI t ≤ nI i := nI_ge l (by omega)
    have v1 : vp_in (nI i) 900 := vp_in_nI (by omega) (by omega)
    have b1 := (m_lt (lo := lo) X l hl).1
    have b2 := (m_lt (lo := hi) X l hh).2
    rw [if_neg c1, nI_clamp (by omega)]
    refine ⟨⟨fun z => (c1 z).elim, fun _ => ⟨v1, fun _ => trivial, fun _ => ⟨v1, by split <;> simp, trivial⟩⟩⟩, ?_⟩
    by_cases d1 : h.1 54 0 i < nI lo
    · rw [if_pos d1, if_neg (by have := b1.mp d1; omega)]
    · rw [if_neg d1]
      have n1 : ¬ (x i < lo ∨ 128 ≤ x i) := fun z => d1 (b1.mpr z)
      by_cases d2 : nI hi < h.1 54 0 i
      · rw [if_pos d2, if_neg (by have := b2.mp d2; omega)]
      · have n2 : ¬ (hi < x i ∧ x i < 128) := fun z => d2 (b2.mpr z)
        rw [if_neg d2, if_pos (by omega)]
  · have c1 : nI t ≤ nI i := nI_le (by omega) (by omega)
    rw [if_pos c1]
    exact ⟨⟨fun _ => trivial, fun z => (z c1).elim⟩, (if_neg (fun z => l z.1)).symm⟩
/-- the model stands at s, with begin there -/
def MB (h h' : Hp) (s : Nat) : Prop := h'.1 12 0 4 = nI s ∧ h'.1 12 0 5 = nI s ∧ ∀ k, ¬ k = 4 → ¬ k = 5 → h'.1 12 0 k = h.1 12 0 k
theorem ob_bl_i (v : Nat) : ob_bl v = true ↔ ((9 ≤ v ∧ v ≤ 10) ∨ (32 ≤ v ∧ v ≤ 32)) := by
  unfold ob_bl
  rw [decide_eq_true_eq]
  omega
theorem l_blanks : ∀ (m f : Nat) (h : Hp) (i : Nat), i + m = t → XM h x t → h.1 12 0 4 = nI i → pw_X12_blanks_0 (m + 1 + f) h ∧ MB h (gw_X12_blanks_0 (m + 1 + f) h) (ob_SK x t i) := by
  intro m
  induction m with
  | zero =>
    intro f h i hi X e4
    rw [show 0 + 1 + f = f + 1 by omega]
    have bt := X.1
    have a1 := m_at (lo := 9) (hi := 10) X e4 (by omega) (by omega) (by omega)
    have a2 := m_at (lo := 32) (hi := 32) X e4 (by omega) (by omega) (by omega)
    have f1 : f_X12_isAt h 9 10 = 0 := a1.2.trans (if_neg (by omega))
    have f2 : f_X12_isAt h 32 32 = 0 := a2.2.trans (if_neg (by omega))
    have ee : ob_SK x t i = i := (ob_SK_f (by omega)).trans (if_neg (by omega))
    rw [pw_X12_blanks_0, gw_X12_blanks_0, if_neg (fun z => z f1), if_pos f2, ee]
    refine ⟨⟨a1.1, fun z => (z f1).elim, fun _ => ⟨a2.1, fun _ => trivial, fun z => (z f2).elim⟩⟩, ?_⟩
    exact ⟨hp_i_g.trans ((if_neg (by omega)).trans e4), hp_i_g.trans ((if_pos rfl).trans e4), fun k h4 h5 => hp_i_g.trans (if_neg h5)⟩
  | succ m ih =>
    intro f h i hi X e4
    rw [show m + 1 + 1 + f = (m + 1 + f) + 1 by omega]
    have bt := X.1
    have a1 := m_at (lo := 9) (hi := 10) X e4 (by omega) (by omega) (by omega)
    have a2 := m_at (lo := 32) (hi := 32) X e4 (by omega) (by omega) (by omega)
    have en : nI i + 1 = nI (i + 1) := nI_add i 1
    have r := ih f (hp_i h 12 0 4 (h.1 12 0 4 + 1)) (i + 1) (by omega) (X.set (by omega)) (by rw [hp_i_g, if_pos rfl, e4, en])
    have r2 : MB h (gw_X12_blanks_0 (m + 1 + f) (hp_i h 12 0 4 (h.1 12 0 4 + 1))) (ob_SK x t (i + 1)) := ⟨r.2.1, r.2.2.1, fun k h4 h5 => (r.2.2.2 k h4 h5).trans (hp_i_g.trans (if_neg h4))⟩
    have bi := ob_bl_i (x i)
    rw [pw_X12_blanks_0, gw_X12_blanks_0]
    by_cases d1 : 9 ≤ x i ∧ x i ≤ 10
    · have f1 : ¬ f_X12_isAt h 9 10 = 0 := by rw [show f_X12_isAt h 9 10 = _ from a1.2, if_pos (by omega)]; decide
      have ee : ob_SK x t i = ob_SK x t (i + 1) := (ob_SK_f (by omega)).trans (if_pos ⟨by omega, bi.mpr (Or.inl d1)⟩)
      rw [if_pos f1, ee]
      exact ⟨⟨a1.1, fun _ => r.1, fun z => (f1 z).elim⟩, r2⟩
    · have f1 : f_X12_isAt h 9 10 = 0 := a1.2.trans (if_neg (by omega))
      by_cases d2 : 32 ≤ x i ∧ x i ≤ 32
      · have f2 : ¬ f_X12_isAt h 32 32 = 0 := by rw [show f_X12_isAt h 32 32 = _ from a2.2, if_pos (by omega)]; decide
        have ee : ob_SK x t i = ob_SK x t (i + 1) := (ob_SK_f (by omega)).trans (if_pos ⟨by omega, bi.mpr (Or.inr d2)⟩)
        rw [if_neg (fun z => z f1), if_neg f2, ee]
        exact ⟨⟨a1.1, fun z => (z f1).elim, fun _ => ⟨a2.1, fun z => (f2 z).elim, fun _ => r.1⟩⟩, r2⟩
      · have f2 : f_X12_isAt h 32 32 = 0 := a2.2.trans (if_neg (by omega))
        have ee : ob_SK x t i = i := (ob_SK_f (by omega)).trans (if_neg (fun z => by have := bi.mp z.2; omega))
        rw [if_neg (fun z => z f1), if_pos f2, ee]
        refine ⟨⟨a1.1, fun z => (z f1).elim, fun _ => ⟨a2.1, fun _ => trivial, fun z => (z f2).elim⟩⟩, ?_⟩
        exact ⟨hp_i_g.trans ((if_neg (by omega)).trans e4), hp_i_g.trans ((if_pos rfl).trans e4), fun k h4 h5 => hp_i_g.trans (if_neg h5)⟩
theorem s_blanks (X : XM h x t) (hi : i ≤ t) (e4 : h.1 12 0 4 = nI i) : p_X12_blanks h ∧ MB h (g_X12_blanks h) (ob_SK x t i) ∧ XM (g_X12_blanks h) x t := by
  have bt := X.1
  have r0 : pw_X12_blanks_0 (oa_N + 1) h ∧ MB h (gw_X12_blanks_0 (oa_N + 1) h) (ob_SK x t i) := by
    obtain ⟨f, hf⟩ := oa_fuel (show t - i < 1000000 by omega)
    have := l_blanks (t - i) (f + 1) h i (by omega) X e4
    rw [show t - i + 1 + (f + 1) = (t - i + 1 + f) + 1 by omega, ← hf] at this
    exact this
  rw [pw_X12_blanks_0, gw_X12_blanks_0] at r0
  have M : MB h (g_X12_blanks h) (ob_SK x t i) := r0.2
  exact ⟨r0.1, M, X.same (M.2.2 6 (by omega) (by omega)) (fr_X12_blanks (by omega))⟩
theorem ob_kk_1 (v : Nat) : ob_kk v = 1 ↔ (97 ≤ v ∧ v ≤ 122) := by
  unfold ob_kk
  split
  · omega
  · split <;> omega
theorem ob_kk_2 (v : Nat) : ob_kk v = 2 ↔ (48 ≤ v ∧ v ≤ 57) := by
  unfold ob_kk
  split
  · omega
  · split <;> omega
theorem l_letters {s : Nat} : ∀ (m f : Nat) (h : Hp) (e : Nat), e + m = t → s ≤ e → XM h x t → h.1 12 0 4 = nI s → pw_X12_letters_9 (m + 1 + f) h (nI e) ∧ fw_X12_letters_9 (m + 1 + f) h (nI e) = nI (ob_ED x t 1 e - s) ∧ gw_X12_letters_9 (m + 1 + f) h (nI e) = h := by
  intro m
  induction m with
  | zero =>
    intro f h e he hs X e4
    rw [show 0 + 1 + f = f + 1 by omega]
    have bt := X.1
    have c1 : h.1 12 0 6 ≤ nI e := by rw [X.2.1]; exact nI_le (by omega) (by omega)
    have ee : ob_ED x t 1 e = e := (ob_ED_f (by omega)).trans (if_neg (by omega))
    rw [pw_X12_letters_9, fw_X12_letters_9, gw_X12_letters_9, if_pos c1, if_pos c1, ee, e4, oa_sub hs]
    exact ⟨⟨fun _ => trivial, fun z => (z c1).elim⟩, rfl, rfl⟩
  | succ m ih =>
    intro f h e he hs X e4
    rw [show m + 1 + 1 + f = (m + 1 + f) + 1 by omega]
    have bt := X.1
    have c1 : ¬ h.1 12 0 6 ≤ nI e := by rw [X.2.1]; exact nI_ge (by omega) (by omega)
    have v1 : vp_in (nI e) 900 := vp_in_nI (by omega) (by omega)
    have b1 : h.1 54 0 e < 97 ↔ _ := (m_lt (lo := 97) X (show e < t by omega) (by omega)).1
    have b2 : 122 < h.1 54 0 e ↔ _ := (m_lt (lo := 122) X (show e < t by omega) (by omega)).2
    have en : nI e + 1 = nI (e + 1) := nI_add e 1
    have kk := ob_kk_1 (x e)
    have r := ih f h (e + 1) (by omega) (by omega) X e4
    rw [pw_X12_letters_9, fw_X12_letters_9, gw_X12_letters_9, if_neg c1, if_neg c1, nI_clamp (by omega), en]
    by_cases d1 : h.1 54 0 e < 97
    · have ee : ob_ED x t 1 e = e := (ob_ED_f (by omega)).trans (if_neg (fun z => by have := kk.mp z.2; have := b1.mp d1; omega))
      rw [if_pos d1, if_pos d1, ee, e4, oa_sub hs]
      exact ⟨⟨fun z => (c1 z).elim, fun _ => ⟨v1, fun _ => trivial, fun z => (z d1).elim⟩⟩, rfl, rfl⟩
    · rw [if_neg d1, if_neg d1]
      by_cases d2 : 122 < h.1 54 0 e
      · have ee : ob_ED x t 1 e = e := (ob_ED_f (by omega)).trans (if_neg (fun z => by have := kk.mp z.2; have := b2.mp d2; omega))
        rw [if_pos d2, if_pos d2, ee, e4, oa_sub hs]
        exact ⟨⟨fun z => (c1 z).elim, fun _ => ⟨v1, fun z => (d1 z).elim, fun _ => ⟨v1, fun _ => trivial, fun z => (z d2).elim⟩⟩⟩, rfl, rfl⟩
      · have n1 : ¬ _ := fun z => d1 (b1.mpr z)
        have n2 : ¬ _ := fun z => d2 (b2.mpr z)
        have ee : ob_ED x t 1 e = ob_ED x t 1 (e + 1) := (ob_ED_f (by omega)).trans (if_pos ⟨by omega, kk.mpr (by omega)⟩)
        rw [if_neg d2, if_neg d2, ee]
        exact ⟨⟨fun z => (c1 z).elim, fun _ => ⟨v1, fun z => (d1 z).elim, fun _ => ⟨v1, fun z => (d2 z).elim, fun _ => r.1⟩⟩⟩, r.2⟩
theorem s_letters (X : XM h x t) (hi : i ≤ t) (e4 : h.1 12 0 4 = nI i) : p_X12_letters h ∧ f_X12_letters h = nI (ob_ED x t 1 (ob_SK x t i) - ob_SK x t i) ∧ g_X12_letters h = g_X12_blanks h := by
  have b := s_blanks X hi e4
  have l := ob_SK_le (x := x) hi
  obtain ⟨f, hf⟩ := oa_fuel (show t - ob_SK x t i < 1000000 by have := X.1; omega)
  have r := l_letters (t - ob_SK x t i) f (g_X12_blanks h) (ob_SK x t i) (by omega) (Nat.le_refl _) b.2.2 b.2.1.1
  rw [← hf] at r
  unfold p_X12_letters f_X12_letters g_X12_letters
  rw [b.2.1.1]
  exact ⟨⟨b.1, r.1⟩, r.2⟩
end MTK
