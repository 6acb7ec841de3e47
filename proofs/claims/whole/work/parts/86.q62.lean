/-! load: numbers -/
section NBR
variable {h h' : Hp} {x : Nat → Nat} {t i k m s lo hi : Nat}
def ob_nv (x : Nat → Nat) (s : Nat) : Nat → Nat
  | 0 => 0
  | n + 1 => ob_nv x s n * 10 + (x (s + n) - 48)
theorem ob_nv_lt (n : Nat) (hd : ∀ j, s ≤ j → j < s + n → x j ≤ 57) : ob_nv x s n < 10 ^ n := by
  induction n with
  | zero => exact Nat.one_pos
  | succ n ih =>
    have := ih (fun j h1 h2 => hd j h1 (by omega))
    have := hd (s + n) (by omega) (by omega)
    rw [ob_nv, Nat.pow_succ]
    omega
theorem ob_ed_all : ∀ m i, ∀ j, i ≤ j → j < ob_ed x t k m i → j < t ∧ ob_kk (x j) = k := by
  intro m
  induction m with
  | zero => intro i j h1 h2; rw [ob_ed] at h2; omega
  | succ m ih =>
    intro i j h1 h2
    rw [ob_ed] at h2
    by_cases c : i < t ∧ ob_kk (x i) = k
    · rw [if_pos c] at h2
      by_cases e : j = i
      · rw [e]; exact c
      · exact ih (i + 1) j (by omega) h2
    · rw [if_neg c] at h2; omega
theorem ob_ED_all {j : Nat} (h1 : i ≤ j) (h2 : j < ob_ED x t k i) : j < t ∧ ob_kk (x j) = k := ob_ed_all _ _ j h1 h2
theorem l_value {e : Nat} (X : XC h x t) (e3 : h.1 9 0 3 = nI e) (he : e ≤ t) (h4 : e - s ≤ 4) (hd : ∀ j, s ≤ j → j < e → 48 ≤ x j ∧ x j ≤ 57) : ∀ (m f n : Nat), s + n + m = e → pw_X9_value_22 (m + 1 + f) h (nI (ob_nv x s n)) (nI (s + n)) ∧ fw_X9_value_22 (m + 1 + f) h (nI (ob_nv x s n)) (nI (s + n)) = nI (ob_nv x s (e - s)) := by
  have bt := X.1
  intro m
  induction m with
  | zero =>
    intro f n hn
    rw [show 0 + 1 + f = f + 1 by omega]
    have c : h.1 9 0 3 ≤ nI (s + n) := by rw [e3]; exact nI_le (by omega) (by omega)
    rw [pw_X9_value_22, fw_X9_value_22, if_pos c, show e - s = n by omega]
    exact ⟨⟨fun _ => trivial, fun z => (z c).elim⟩, rfl⟩
  | succ m ih =>
    intro f n hn
    rw [show m + 1 + 1 + f = (m + 1 + f) + 1 by omega]
    have c : ¬ h.1 9 0 3 ≤ nI (s + n) := by rw [e3]; exact nI_ge (by omega) (by omega)
    have s1 := a_sign (i := s + n) X (by omega)
    have d := hd (s + n) (by omega) (by omega)
    have en : nI (s + n) + 1 = nI (s + n + 1) := nI_add (s + n) 1
    have ev : nI (ob_nv x s n) * 10 + nI (x (s + n)) - 48 = nI (ob_nv x s (n + 1)) := by
      have m1 : nI (ob_nv x s n) * 10 = nI (ob_nv x s n * 10) := oa_mul _ 10
      have m2 : nI (ob_nv x s n * 10 + x (s + n)) - 48 = nI (ob_nv x s n * 10 + x (s + n) - 48) := oa_sub (b := 48) (by omega)
      rw [m1, nI_add, m2, ob_nv]
      congr 1
      omega
    have r := ih f (n + 1) (by omega)
    rw [pw_X9_value_22, fw_X9_value_22, if_neg c, s1.2, if_pos (by omega), ev, en]
    exact ⟨⟨fun z => (c z).elim, fun _ => ⟨s1.1, r.1⟩⟩, r.2⟩
/-- a right number stands at s -/
def NG (x : Nat → Nat) (t s lo hi : Nat) : Prop := ob_kd x t s = 2 ∧ ob_ED x t 2 s - s ≤ 4 ∧ lo ≤ ob_nv x s (ob_ED x t 2 s - s) ∧ ob_nv x s (ob_ED x t 2 s - s) ≤ hi
def ob_ke (x : Nat → Nat) (t s : Nat) : Nat := if ob_kd x t s = 2 then 2 else 1
theorem ob_run {k : Nat} (hs : s ≤ t) (hk : ob_kd x t s = k) (h12 : k = 1 ∨ k = 2) : ob_TE x t s = ob_ED x t k s ∧ s < ob_ED x t k s := by
  have hst : s < t := by
    by_cases l : s < t
    · exact l
    · unfold ob_kd at hk; rw [if_neg l] at hk; omega
  have kk : ob_kk (x s) = k := by unfold ob_kd at hk; rw [if_pos hst] at hk; exact hk
  have e1 : ob_ED x t k s = ob_ED x t k (s + 1) := (ob_ED_f hs).trans (if_pos ⟨hst, kk⟩)
  have := ob_ED_le (x := x) (k := k) (show s + 1 ≤ t by omega)
  refine ⟨?_, by omega⟩
  unfold ob_TE
  rw [hk, if_pos h12]
theorem s_readNumber (X : XC h x t) (hs : s ≤ t) (K : TK h x t s) (hl : lo ≤ 9999) (hh : hi ≤ 9999) : p_X7_readNumber h (nI lo) (nI hi) ∧
    ((NG x t s lo hi ∧ f_X7_readNumber h (nI lo) (nI hi) = nI (ob_nv x s (ob_ED x t 2 s - s)) ∧ g_X7_readNumber h (nI lo) (nI hi) = g_X9_step h) ∨
     (¬ NG x t s lo hi ∧ f_X7_readNumber h (nI lo) (nI hi) = -1 ∧ g_X7_readNumber h (nI lo) (nI hi) = g_X7_fail h (nI (ob_ke x t s)))) := by
  obtain ⟨k1, k0, k3⟩ := K
  have bt := X.1
  have kl := ob_kd_lt x t s
  have te := ob_TE_le (x := x) hs
  have st := s_step X te.2 k3
  have q2 : h.1 9 0 0 = 2 ↔ ob_kd x t s = 2 := by rw [k0]; exact nI_eq (b := 2) (by omega) (by omega)
  unfold p_X7_readNumber f_X7_readNumber g_X7_readNumber
  by_cases d : ob_kd x t s = 2
  · obtain ⟨te1, lt1⟩ := ob_run hs d (Or.inr rfl)
    have el := ob_ED_le (x := x) (k := 2) hs
    have dg : ∀ j, s ≤ j → j < ob_ED x t 2 s → 48 ≤ x j ∧ x j ≤ 57 := fun j h1 h2 => (ob_kk_2 _).mp (ob_ED_all h1 h2).2
    rw [te1] at k3
    have sub : h.1 9 0 3 - h.1 9 0 1 = nI (ob_ED x t 2 s - s) := by rw [k3, k1, oa_sub (by omega)]
    have ke : ob_ke x t s = 2 := by unfold ob_ke; rw [if_pos d]
    rw [if_pos (q2.mpr d), if_pos (q2.mpr d)]
    by_cases d4 : ob_ED x t 2 s - s ≤ 4
    · have c4 : h.1 9 0 3 - h.1 9 0 1 ≤ 4 := by rw [sub]; exact nI_le (b := 4) d4 (by omega)
      obtain ⟨f, hf⟩ := oa_fuel (show ob_ED x t 2 s - s < 1000000 by omega)
      have vv := l_value X k3 el.2 d4 dg (ob_ED x t 2 s - s) f 0 (by omega)
      rw [← hf] at vv
      have pv : p_X9_value h ∧ f_X9_value h = nI (ob_nv x s (ob_ED x t 2 s - s)) := by
        unfold p_X9_value f_X9_value
        rw [if_pos c4, k1]
        exact ⟨⟨fun _ => vv.1, fun z => (z (by rw [← k1]; exact c4)).elim⟩, vv.2⟩
      have nb := ob_nv_lt (x := x) (s := s) (ob_ED x t 2 s - s) (fun j h1 h2 => (dg j h1 (by omega)).2)
      have nb2 : ob_nv x s (ob_ED x t 2 s - s) < 10000 := Nat.lt_of_lt_of_le nb (Nat.pow_le_pow_right (by omega) d4)
      rw [pv.2]
      obtain ⟨v, hv⟩ : ∃ v, v = ob_nv x s (ob_ED x t 2 s - s) := ⟨_, rfl⟩
      unfold NG
      rw [← hv] at nb2 ⊢
      by_cases d1 : lo ≤ v
      · have c1 : ¬ nI v < nI lo := nI_nlt d1 (by omega)
        rw [if_neg c1, if_neg c1]
        by_cases d2 : v ≤ hi
        · have c2 : nI v ≤ nI hi := nI_le d2 (by omega)
          rw [if_pos c2, if_pos c2]
          exact ⟨⟨fun _ => ⟨pv.1, fun z => (c1 z).elim, fun _ => ⟨fun _ => ⟨st.1, trivial⟩, fun z => (z c2).elim⟩⟩, fun z => (z (q2.mpr d)).elim⟩, Or.inl ⟨⟨d, d4, d1, d2⟩, rfl, rfl⟩⟩
        · have c2 : ¬ nI v ≤ nI hi := nI_ge (by omega) (by omega)
          rw [if_neg c2, if_neg c2, ke]
          exact ⟨⟨fun _ => ⟨pv.1, fun z => (c1 z).elim, fun _ => ⟨fun z => (c2 z).elim, fun _ => ⟨trivial, trivial⟩⟩⟩, fun z => (z (q2.mpr d)).elim⟩, Or.inr ⟨fun z => d2 z.2.2.2, rfl, rfl⟩⟩
      · have c1 : nI v < nI lo := nI_lt (by omega) (by omega)
        rw [if_pos c1, if_pos c1, ke]
        exact ⟨⟨fun _ => ⟨pv.1, fun _ => ⟨trivial, trivial⟩, fun z => (z c1).elim⟩, fun z => (z (q2.mpr d)).elim⟩, Or.inr ⟨fun z => d1 z.2.2.1, rfl, rfl⟩⟩
    · have c4 : ¬ h.1 9 0 3 - h.1 9 0 1 ≤ 4 := by rw [sub]; exact nI_ge (a := 4) (by omega) (by omega)
      have pv : p_X9_value h ∧ f_X9_value h = -1 := by
        unfold p_X9_value f_X9_value
        rw [if_neg c4]
        exact ⟨⟨fun z => (c4 z).elim, fun _ => trivial⟩, rfl⟩
      have c1 : (-1 : Int32) < nI lo := by
        have p : 0 ≤ nI lo := nI_pos' (by omega)
        have : (-1 : Int32) < 0 := by decide
        grind
      rw [pv.2, if_pos c1, if_pos c1, ke]
      exact ⟨⟨fun _ => ⟨pv.1, fun _ => ⟨trivial, trivial⟩, fun z => (z c1).elim⟩, fun z => (z (q2.mpr d)).elim⟩, Or.inr ⟨fun z => d4 z.2.1, rfl, rfl⟩⟩
  · have ke : ob_ke x t s = 1 := by unfold ob_ke; rw [if_neg d]
    rw [if_neg (fun z => d (q2.mp z)), if_neg (fun z => d (q2.mp z)), ke]
    exact ⟨⟨fun z => (d (q2.mp z)).elim, fun _ => ⟨trivial, trivial⟩⟩, Or.inr ⟨fun z => d z.1, rfl, rfl⟩⟩
end NBR
