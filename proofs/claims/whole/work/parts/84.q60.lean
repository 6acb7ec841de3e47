/-! load: the text and its tokens -/
def ob_sb (v : Nat) : Int32 := (Int8.ofNat v).toInt32
def ob_bl (v : Nat) : Bool := decide (v = 32 ∨ v = 9 ∨ v = 10)
def ob_kk (v : Nat) : Nat := if 97 ≤ v ∧ v ≤ 122 then 1 else if 48 ≤ v ∧ v ≤ 57 then 2 else 3
/-- the text x of t bytes: the kind of a place, the next that is no blank, the end of a run -/
def ob_kd (x : Nat → Nat) (t i : Nat) : Nat := if i < t then ob_kk (x i) else 0
def ob_sk (x : Nat → Nat) (t : Nat) : Nat → Nat → Nat
  | 0, i => i
  | m + 1, i => if i < t ∧ ob_bl (x i) = true then ob_sk x t m (i + 1) else i
def ob_ed (x : Nat → Nat) (t k : Nat) : Nat → Nat → Nat
  | 0, i => i
  | m + 1, i => if i < t ∧ ob_kk (x i) = k then ob_ed x t k m (i + 1) else i
def ob_SK (x : Nat → Nat) (t i : Nat) : Nat := ob_sk x t (t - i) i
def ob_ED (x : Nat → Nat) (t k i : Nat) : Nat := ob_ed x t k (t - i) i
def ob_TE (x : Nat → Nat) (t s : Nat) : Nat := if ob_kd x t s = 1 ∨ ob_kd x t s = 2 then ob_ED x t (ob_kd x t s) s else if ob_kd x t s = 3 then s + 1 else s
/-- the class's and the model's text -/
def XC (h : Hp) (x : Nat → Nat) (t : Nat) : Prop := t ≤ 900 ∧ h.1 4 0 0 = nI t ∧ ∀ k, k < t → x k < 256 ∧ h.1 35 0 k = ob_sb (x k)
def XM (h : Hp) (x : Nat → Nat) (t : Nat) : Prop := t ≤ 900 ∧ h.1 12 0 6 = nI t ∧ ∀ k, k < t → x k < 256 ∧ h.1 54 0 k = ob_sb (x k)
section TOK
variable {h h' : Hp} {x : Nat → Nat} {t i k m : Nat}
theorem ob_SK_f {i : Nat} (hi : i ≤ t) : ob_SK x t i = if i < t ∧ ob_bl (x i) = true then ob_SK x t (i + 1) else i := by
  unfold ob_SK
  by_cases l : i < t
  · rw [show t - i = (t - (i + 1)) + 1 by omega, ob_sk]
  · rw [show t - i = 0 by omega, ob_sk, if_neg (fun z => l z.1)]
theorem ob_ED_f {i k : Nat} (hi : i ≤ t) : ob_ED x t k i = if i < t ∧ ob_kk (x i) = k then ob_ED x t k (i + 1) else i := by
  unfold ob_ED
  by_cases l : i < t
  · rw [show t - i = (t - (i + 1)) + 1 by omega, ob_ed]
  · rw [show t - i = 0 by omega, ob_ed, if_neg (fun z => l z.1)]
theorem ob_sk_le : ∀ m i, i ≤ t → i ≤ ob_sk x t m i ∧ ob_sk x t m i ≤ t := by
  intro m
  induction m with
  | zero => intro i hi; exact ⟨Nat.le_refl _, hi⟩
  | succ m ih =>
    intro i hi
    rw [ob_sk]
    split
    · have := ih (i + 1) (by omega); omega
    · exact ⟨Nat.le_refl _, hi⟩
theorem ob_ed_le : ∀ m i, i ≤ t → i ≤ ob_ed x t k m i ∧ ob_ed x t k m i ≤ t := by
  intro m
  induction m with
  | zero => intro i hi; exact ⟨Nat.le_refl _, hi⟩
  | succ m ih =>
    intro i hi
    rw [ob_ed]
    split
    · have := ih (i + 1) (by omega); omega
    · exact ⟨Nat.le_refl _, hi⟩
theorem ob_SK_le (hi : i ≤ t) : i ≤ ob_SK x t i ∧ ob_SK x t i ≤ t := ob_sk_le _ _ hi
theorem ob_ED_le (hi : i ≤ t) : i ≤ ob_ED x t k i ∧ ob_ED x t k i ≤ t := ob_ed_le _ _ hi
theorem ob_TE_le (hi : i ≤ t) : i ≤ ob_TE x t i ∧ ob_TE x t i ≤ t := by
  unfold ob_TE
  split
  · exact ob_ED_le hi
  · rename_i n1
    split
    · rename_i n2
      have : i < t := by
        by_cases l : i < t
        · exact l
        · unfold ob_kd at n2; rw [if_neg l] at n2; omega
      omega
    · omega
theorem ob_sb_and : ∀ v, v < 256 → ob_sb v &&& 255 = nI v := by decide +kernel
theorem ob_sb_lt : ∀ v, v < 128 → ob_sb v = nI v := by decide +kernel
theorem ob_sb_neg : ∀ v, v < 256 → ¬ v < 128 → ob_sb v < 0 := by decide +kernel
theorem a_sign (X : XC h x t) (hi : i < 2 ^ 30) : p_X4_signAt h (nI i) ∧ f_X4_signAt h (nI i) = if i < t then nI (x i) else -1 := by
  obtain ⟨x1, x2, x3⟩ := X
  have c0 : ¬ nI i < 0 := nI_pos (by omega)
  unfold p_X4_signAt f_X4_signAt
  rw [x2, if_neg c0]
  by_cases l : i < t
  · have c1 : ¬ nI t ≤ nI i := nI_ge l (by omega)
    have c2 : ¬ (900 : Int32) ≤ nI i := nI_ge (b := 900) (by omega) (by omega)
    rw [if_neg c1, if_neg c2, if_pos l, nI_clamp (by omega), (x3 i l).2, ob_sb_and _ (x3 i l).1]
    exact ⟨⟨fun z => (c0 z).elim, fun _ => ⟨fun z => (c1 z).elim, fun _ => ⟨fun z => (c2 z).elim, fun _ => ⟨vp_in_nI (by omega) (by omega), trivial⟩⟩⟩⟩, rfl⟩
  · have c1 : nI t ≤ nI i := nI_le (by omega) (by omega)
    rw [if_pos c1, if_neg l]
    exact ⟨⟨fun z => (c0 z).elim, fun _ => ⟨fun _ => trivial, fun z => (z c1).elim⟩⟩, rfl⟩
theorem ob_kind (h : Hp) : ∀ v, v < 256 → f_X9_kindOf h (nI v) = nI (ob_kk v) := by
  intro v
  unfold f_X9_kindOf
  revert v
  decide +kernel
theorem ob_space (h : Hp) : ∀ v, v < 256 → f_X9_isSpace h (nI v) = if ob_bl v = true then 1 else 0 := by
  intro v
  unfold f_X9_isSpace
  revert v
  decide +kernel
theorem a_kind (X : XC h x t) (hi : i < 2 ^ 30) : f_X9_kindOf h (f_X4_signAt h (nI i)) = nI (ob_kd x t i) := by
  rw [(a_sign X hi).2]
  unfold ob_kd
  by_cases l : i < t
  · rw [if_pos l, if_pos l, ob_kind h _ (X.2.2 i l).1]
  · rw [if_neg l, if_neg l]; rfl
theorem a_space (X : XC h x t) (hi : i < t) : p_X9_isSpace h (f_X4_signAt h (nI i)) ∧ f_X9_isSpace h (f_X4_signAt h (nI i)) = if ob_bl (x i) = true then 1 else 0 := by
  have := X.1
  rw [(a_sign X (by omega)).2, if_pos hi]
  have e := ob_space h _ (X.2.2 i hi).1
  refine ⟨⟨?_, trivial⟩, e⟩
  have e' : (if nI (x i) = 32 then (1 : Int32) else (if nI (x i) = 9 then (1 : Int32) else (if ¬ nI (x i) = 10 then (0 : Int32) else 1))) = if ob_bl (x i) = true then 1 else 0 := e
  rw [e']
  split
  · exact Or.inr rfl
  · exact Or.inl rfl
theorem ob_kd_lt (x : Nat → Nat) (t i : Nat) : ob_kd x t i < 4 := by
  unfold ob_kd ob_kk
  split
  · split
    · omega
    · split <;> omega
  · omega
theorem XC.same (X : XC h x t) (h4 : h'.1 4 0 = h.1 4 0) (h35 : h'.1 35 0 = h.1 35 0) : XC h' x t := by
  unfold XC
  rw [h4, h35]
  exact X
theorem XC.set {k : Nat} {v : Int32} (X : XC h x t) : XC (hp_i h 9 0 k v) x t := X.same (hp_i_t (by omega)) (hp_i_t (by omega))
/-- the class stands at the token that begins at s -/
def TK (h : Hp) (x : Nat → Nat) (t s : Nat) : Prop := h.1 9 0 1 = nI s ∧ h.1 9 0 0 = nI (ob_kd x t s) ∧ h.1 9 0 3 = nI (ob_TE x t s)
theorem l_run {s : Nat} (hk : k = 1 ∨ k = 2) : ∀ (m f : Nat) (h : Hp) (e : Nat), e + m = t → XC h x t → h.1 9 0 3 = nI e → h.1 9 0 0 = nI k → h.1 9 0 1 = nI s →
    pw_X9_step_100 (m + 1 + f) h 1 ∧ (gw_X9_step_100 (m + 1 + f) h 1).1 9 0 3 = nI (ob_ED x t k e) ∧ (gw_X9_step_100 (m + 1 + f) h 1).1 9 0 0 = nI k ∧ (gw_X9_step_100 (m + 1 + f) h 1).1 9 0 1 = nI s := by
  intro m
  induction m with
  | zero =>
    intro f h e he X e3 e0 e1
    rw [show 0 + 1 + f = f + 1 by omega]
    have bt := X.1
    have c0 : ¬ (1 : Int32) = 0 := by decide
    have k3 : ¬ nI k = 3 := fun z => by have := (nI_eq (b := 3) (by omega) (by omega)).mp z; omega
    have c1 : h.1 4 0 0 ≤ h.1 9 0 3 := by rw [X.2.1, e3]; exact nI_le (by omega) (by omega)
    have g : gw_X9_step_100 (f + 1) h 1 = h := by
      rw [gw_X9_step_100, if_neg c0, if_pos c1, e0, if_pos k3]
    rw [g, e3, ob_ED_f (by omega), if_neg (by omega), pw_X9_step_100]
    exact ⟨⟨fun z => (c0 z).elim, fun _ => ⟨fun _ => trivial, fun z => (z c1).elim⟩⟩, rfl, e0, e1⟩
  | succ m ih =>
    intro f h e he X e3 e0 e1
    rw [show m + 1 + 1 + f = (m + 1 + f) + 1 by omega]
    have bt := X.1
    have c0 : ¬ (1 : Int32) = 0 := by decide
    have k3 : ¬ nI k = 3 := fun z => by have := (nI_eq (b := 3) (by omega) (by omega)).mp z; omega
    have c1 : ¬ h.1 4 0 0 ≤ h.1 9 0 3 := by rw [X.2.1, e3]; exact nI_ge (by omega) (by omega)
    have s1 := a_sign (i := e) X (by omega)
    have s2 := a_kind (i := e) X (by omega)
    have kl := ob_kd_lt x t e
    have ke : ob_kd x t e = ob_kk (x e) := by unfold ob_kd; rw [if_pos (by omega)]
    have eq : nI (ob_kd x t e) = nI k ↔ ob_kk (x e) = k := by rw [← ke]; exact nI_eq (by omega) (by omega)
    have en : nI e + 1 = nI (e + 1) := nI_add e 1
    rw [pw_X9_step_100, gw_X9_step_100, if_neg c0, if_neg c1, e3, s2, e0, en]
    by_cases d : ob_kk (x e) = k
    · have ee : ob_ED x t k e = ob_ED x t k (e + 1) := (ob_ED_f (by omega)).trans (if_pos ⟨by omega, d⟩)
      rw [if_neg (fun z => z (eq.mpr d)), ee]
      have r := ih f (hp_i h 9 0 3 (nI (e + 1))) (e + 1) (by omega) X.set (hp_i_g.trans (if_pos rfl)) (hp_i_g.trans ((if_neg (by omega)).trans e0)) (hp_i_g.trans ((if_neg (by omega)).trans e1))
      exact ⟨⟨fun z => (c0 z).elim, fun _ => ⟨fun z => (c1 (by rw [e3]; exact z)).elim, fun _ => ⟨s1.1, trivial, fun z => (z (eq.mpr d)).elim, fun _ => r.1⟩⟩⟩, r.2⟩
    · have ee : ob_ED x t k e = e := (ob_ED_f (by omega)).trans (if_neg (fun z => d z.2))
      rw [if_pos (fun z => d (eq.mp z)), ee, if_pos k3]
      exact ⟨⟨fun z => (c0 z).elim, fun _ => ⟨fun z => (c1 (by rw [e3]; exact z)).elim, fun _ => ⟨s1.1, trivial, fun _ => trivial, fun z => (d (eq.mp z)).elim⟩⟩⟩, e3, e0, e1⟩
/-- behind the blanks -/
theorem s_tok {s : Nat} (X : XC h x t) (hs : s ≤ t) (e1 : h.1 9 0 1 = nI s) :
    (p_X4_signAt h (h.1 9 0 1) ∧ (p_X9_kindOf h (f_X4_signAt h (h.1 9 0 1)) ∧ (pw_X9_step_100 oa_N (hp_i (hp_i h 9 0 0 (f_X9_kindOf h (f_X4_signAt h (h.1 9 0 1)))) 9 0 3 ((hp_i h 9 0 0 (f_X9_kindOf h (f_X4_signAt h (h.1 9 0 1)))).1 9 0 1)) (if (hp_i (hp_i h 9 0 0 (f_X9_kindOf h (f_X4_signAt h (h.1 9 0 1)))) 9 0 3 ((hp_i h 9 0 0 (f_X9_kindOf h (f_X4_signAt h (h.1 9 0 1)))).1 9 0 1)).1 9 0 0 = 1 then (1 : Int32) else (if ¬ (hp_i (hp_i h 9 0 0 (f_X9_kindOf h (f_X4_signAt h (h.1 9 0 1)))) 9 0 3 ((hp_i h 9 0 0 (f_X9_kindOf h (f_X4_signAt h (h.1 9 0 1)))).1 9 0 1)).1 9 0 0 = 2 then (0 : Int32) else 1))))) ∧
    TK (gw_X9_step_100 oa_N (hp_i (hp_i h 9 0 0 (f_X9_kindOf h (f_X4_signAt h (h.1 9 0 1)))) 9 0 3 ((hp_i h 9 0 0 (f_X9_kindOf h (f_X4_signAt h (h.1 9 0 1)))).1 9 0 1)) (if (hp_i (hp_i h 9 0 0 (f_X9_kindOf h (f_X4_signAt h (h.1 9 0 1)))) 9 0 3 ((hp_i h 9 0 0 (f_X9_kindOf h (f_X4_signAt h (h.1 9 0 1)))).1 9 0 1)).1 9 0 0 = 1 then (1 : Int32) else (if ¬ (hp_i (hp_i h 9 0 0 (f_X9_kindOf h (f_X4_signAt h (h.1 9 0 1)))) 9 0 3 ((hp_i h 9 0 0 (f_X9_kindOf h (f_X4_signAt h (h.1 9 0 1)))).1 9 0 1)).1 9 0 0 = 2 then (0 : Int32) else 1))) x t s := by
  have bt := X.1
  rw [e1, a_kind (i := s) X (by omega)]
  have s1 := a_sign (i := s) X (by omega)
  have kl := ob_kd_lt x t s
  have c1 : (hp_i h 9 0 0 (nI (ob_kd x t s))).1 9 0 1 = nI s := hp_i_g.trans ((if_neg (by omega)).trans e1)
  rw [c1]
  have X2 : XC (hp_i (hp_i h 9 0 0 (nI (ob_kd x t s))) 9 0 3 (nI s)) x t := X.set.set
  have d0 : (hp_i (hp_i h 9 0 0 (nI (ob_kd x t s))) 9 0 3 (nI s)).1 9 0 0 = nI (ob_kd x t s) := hp_i_g.trans ((if_neg (by omega)).trans (hp_i_g.trans (if_pos rfl)))
  have d1 : (hp_i (hp_i h 9 0 0 (nI (ob_kd x t s))) 9 0 3 (nI s)).1 9 0 1 = nI s := hp_i_g.trans ((if_neg (by omega)).trans c1)
  have d3 : (hp_i (hp_i h 9 0 0 (nI (ob_kd x t s))) 9 0 3 (nI s)).1 9 0 3 = nI s := hp_i_g.trans (if_pos rfl)
  generalize hp_i (hp_i h 9 0 0 (nI (ob_kd x t s))) 9 0 3 (nI s) = h2 at *
  rw [d0]
  obtain ⟨e, he⟩ := oa_fuel (show t - s < 1000000 by omega)
  have q1 : nI (ob_kd x t s) = 1 ↔ ob_kd x t s = 1 := nI_eq (b := 1) (by omega) (by omega)
  have q2 : nI (ob_kd x t s) = 2 ↔ ob_kd x t s = 2 := nI_eq (b := 2) (by omega) (by omega)
  have q3 : nI (ob_kd x t s) = 3 ↔ ob_kd x t s = 3 := nI_eq (b := 3) (by omega) (by omega)
  by_cases k12 : ob_kd x t s = 1 ∨ ob_kd x t s = 2
  · have fl : (if nI (ob_kd x t s) = 1 then (1 : Int32) else (if ¬ nI (ob_kd x t s) = 2 then (0 : Int32) else 1)) = 1 := by
      rcases k12 with z | z
      · rw [if_pos (q1.mpr z)]
      · rw [if_neg (fun y => by have := q1.mp y; omega), if_neg (fun y => y (q2.mpr z))]
    rw [fl]
    have r := l_run k12 (t - s) e h2 s (by omega) X2 d3 d0 d1
    rw [← he] at r
    refine ⟨⟨s1.1, trivial, r.1⟩, r.2.2.2, r.2.2.1, ?_⟩
    unfold ob_TE
    rw [if_pos k12]
    exact r.2.1
  · have fl : (if nI (ob_kd x t s) = 1 then (1 : Int32) else (if ¬ nI (ob_kd x t s) = 2 then (0 : Int32) else 1)) = 0 := by
      rw [if_neg (fun y => k12 (Or.inl (q1.mp y))), if_pos (fun y => k12 (Or.inr (q2.mp y)))]
    rw [fl, he, show t - s + 1 + e = (t - s + e) + 1 by omega, pw_X9_step_100, gw_X9_step_100, if_pos rfl, d0, d1]
    refine ⟨⟨s1.1, trivial, fun _ => trivial, fun z => (z rfl).elim⟩, ?_⟩
    unfold TK ob_TE
    rw [if_neg k12]
    by_cases k3 : ob_kd x t s = 3
    · rw [if_neg (fun z => z (q3.mpr k3)), if_pos k3]
      exact ⟨hp_i_g.trans ((if_neg (by omega)).trans d1), hp_i_g.trans ((if_neg (by omega)).trans d0), hp_i_g.trans ((if_pos rfl).trans (nI_add s 1))⟩
    · rw [if_pos (fun z => k3 (q3.mp z)), if_neg k3]
      exact ⟨d1, d0, d3⟩
theorem l_step : ∀ (m f : Nat) (h : Hp) (s : Nat), s + m = t → XC h x t → h.1 9 0 1 = nI s → pw_X9_step_8 (m + 1 + f) h ∧ TK (gw_X9_step_8 (m + 1 + f) h) x t (ob_SK x t s) := by
  intro m
  induction m with
  | zero =>
    intro f h s hs X e1
    rw [show 0 + 1 + f = f + 1 by omega]
    have bt := X.1
    have c1 : h.1 4 0 0 ≤ h.1 9 0 1 := by rw [X.2.1, e1]; exact nI_le (by omega) (by omega)
    have tk := s_tok X (show s ≤ t by omega) e1
    rw [ob_SK_f (by omega), if_neg (by omega), pw_X9_step_8, gw_X9_step_8, if_pos c1]
    exact ⟨⟨fun _ => tk.1, fun z => (z c1).elim⟩, tk.2⟩
  | succ m ih =>
    intro f h s hs X e1
    rw [show m + 1 + 1 + f = (m + 1 + f) + 1 by omega]
    have bt := X.1
    have c1 : ¬ h.1 4 0 0 ≤ h.1 9 0 1 := by rw [X.2.1, e1]; exact nI_ge (by omega) (by omega)
    have tk := s_tok X (show s ≤ t by omega) e1
    have sp := a_space (i := s) X (by omega)
    have s1 := a_sign (i := s) X (by omega)
    have en : nI s + 1 = nI (s + 1) := nI_add s 1
    rw [← e1] at sp s1
    rw [pw_X9_step_8, gw_X9_step_8, if_neg c1]
    by_cases d : ob_bl (x s) = true
    · have q : ¬ f_X9_isSpace h (f_X4_signAt h (h.1 9 0 1)) = 0 := by rw [sp.2, if_pos d]; decide
      have r := ih f (hp_i h 9 0 1 (h.1 9 0 1 + 1)) (s + 1) (by omega) X.set (by rw [hp_i_g, if_pos rfl, e1, en])
      have ee : ob_SK x t s = ob_SK x t (s + 1) := (ob_SK_f (by omega)).trans (if_pos ⟨by omega, d⟩)
      rw [if_neg q, ee]
      exact ⟨⟨fun z => (c1 z).elim, fun _ => ⟨s1.1, sp.1, fun z => (q z).elim, fun _ => r.1⟩⟩, r.2⟩
    · have q : f_X9_isSpace h (f_X4_signAt h (h.1 9 0 1)) = 0 := by rw [sp.2, if_neg d]
      have ee : ob_SK x t s = s := (ob_SK_f (by omega)).trans (if_neg (fun z => d z.2))
      rw [if_pos q, ee]
      exact ⟨⟨fun z => (c1 z).elim, fun _ => ⟨s1.1, sp.1, fun _ => tk.1, fun z => (z q).elim⟩⟩, tk.2⟩
theorem s_step {e : Nat} (X : XC h x t) (he : e ≤ t) (e3 : h.1 9 0 3 = nI e) : p_X9_step h ∧ TK (g_X9_step h) x t (ob_SK x t e) ∧ XC (g_X9_step h) x t := by
  obtain ⟨f, hf⟩ := oa_fuel (show t - e < 1000000 by have := X.1; omega)
  have r := l_step (t - e) f (hp_i h 9 0 1 (h.1 9 0 3)) e (by omega) X.set (hp_i_g.trans ((if_pos rfl).trans e3))
  rw [← hf] at r
  exact ⟨r.1, r.2, X.same (fr_X9_step (by omega)) (fr_X9_step (by omega))⟩
end TOK
