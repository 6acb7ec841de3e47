/-! load: names as longs -/
section NML
variable {h h' : Hp} {x : Nat → Nat} {t i k m s n n' : Nat} {T : Nat → Nat} {f g : Nat → Nat}
/-- the n letters from s on, the last first -/
def ob_pl (x : Nat → Nat) (s : Nat) : Nat → List Nat
  | 0 => []
  | n + 1 => x (s + n) :: ob_pl x s n
theorem ob_pl_get : ∀ (n j : Nat), (ob_pl f s n).getD j 0 = if j < n then f (s + (n - 1 - j)) else 0 := by
  intro n
  induction n with
  | zero => intro j; rw [if_neg (by omega)]; rfl
  | succ n ih =>
    intro j
    rw [ob_pl]
    cases j with
    | zero => rw [if_pos (by omega)]; rfl
    | succ j =>
      rw [List.getD_cons_succ, ih j]
      by_cases c : j < n
      · rw [if_pos c, if_pos (by omega)]; congr 2; omega
      · rw [if_neg c, if_neg (by omega)]
theorem ob_pl_mem : ∀ (n : Nat), (∀ i, i < n → f (s + i) < 128) → ∀ c ∈ ob_pl f s n, c < 128 := by
  intro n
  induction n with
  | zero => intro _ c hc; cases hc
  | succ n ih =>
    intro hf c hc
    rw [ob_pl] at hc
    rcases List.mem_cons.mp hc with rfl | hc
    · exact hf n (by omega)
    · exact ih (fun i hi => hf i (by omega)) c hc
theorem ob_pl_congr : ∀ (n : Nat), (∀ i, i < n → f (s + i) = g (k + i)) → ob_pl f s n = ob_pl g k n := by
  intro n
  induction n with
  | zero => intro _; rfl
  | succ n ih =>
    intro hf
    rw [ob_pl, ob_pl, hf n (by omega), ih (fun i hi => hf i (by omega))]
theorem ob_pk_inj (hn : n ≤ 8) (hn' : n' ≤ 8) (hf : ∀ i, i < n → 0 < f (s + i) ∧ f (s + i) < 128) (hg : ∀ i, i < n' → 0 < g (k + i) ∧ g (k + i) < 128) : ob_pk (ob_pl f s n) = ob_pk (ob_pl g k n') ↔ (n = n' ∧ ∀ i, i < n → f (s + i) = g (k + i)) := by
  constructor
  · intro e
    have m1 := ob_pl_mem (f := f) (s := s) n (fun i hi => (hf i hi).2)
    have m2 := ob_pl_mem (f := g) (s := k) n' (fun i hi => (hg i hi).2)
    have b : ∀ j, j < 8 → (if j < n then f (s + (n - 1 - j)) else 0) = (if j < n' then g (k + (n' - 1 - j)) else 0) := by
      intro j hj
      have e1 := ob_pk_by m1 hj
      have e2 := ob_pk_by m2 hj
      rw [e, e2] at e1
      have := (nI_eq (by have := ob_getD_lt m2 j; omega) (by have := ob_getD_lt m1 j; omega)).mp e1
      rw [ob_pl_get, ob_pl_get] at this
      exact this.symm
    have nn : n = n' := by
      rcases Nat.lt_trichotomy n n' with l | l | l
      · exfalso
        have := b n (by omega)
        rw [if_neg (by omega), if_pos l] at this
        have := (hg (n' - 1 - n) (by omega)).1
        omega
      · exact l
      · exfalso
        have := b n' (by omega)
        rw [if_pos l, if_neg (by omega)] at this
        have := (hf (n - 1 - n') (by omega)).1
        omega
    refine ⟨nn, fun i hi => ?_⟩
    have := b (n - 1 - i) (by omega)
    rw [if_pos (by omega), if_pos (by omega), ← nn, show n - 1 - (n - 1 - i) = i by omega] at this
    exact this
  · rintro ⟨rfl, e⟩
    rw [ob_pl_congr n e]
/-- row k of the names holds n letters -/
def GR (T : Nat → Nat) (k n : Nat) : Prop := 1 ≤ n ∧ n ≤ 8 ∧ (∀ i, i < n → 97 ≤ T (4 + 8 * k + i) ∧ T (4 + 8 * k + i) ≤ 122) ∧ ∀ i, n ≤ i → i < 8 → T (4 + 8 * k + i) = 0
theorem ob_nm_pl (G : GR T k n) : oa_nm T k = ob_pk (ob_pl T (4 + 8 * k) n) := by
  obtain ⟨g1, g2, g3, g4⟩ := G
  have lem : ∀ m, m ≤ 8 → (List.range m).foldl (fun (a : Int64) i => if T (4 + 8 * k + i) = 0 then a else a <<< 8 ||| (nI (T (4 + 8 * k + i))).toInt64) 0 = ob_pk (ob_pl T (4 + 8 * k) (min m n)) := by
    intro m
    induction m with
    | zero => intro _; rw [Nat.zero_min]; rfl
    | succ m ih =>
      intro hm
      rw [List.range_succ, List.foldl_append, ih (by omega)]
      show (if T (4 + 8 * k + m) = 0 then _ else _) = _
      by_cases c : m < n
      · have := g3 m c
        rw [if_neg (by omega), show min m n = m by omega, show min (m + 1) n = m + 1 by omega]
        rfl
      · rw [if_pos (g4 m (by omega) (by omega)), show min m n = n by omega, show min (m + 1) n = n by omega]
  have := lem 8 (by omega)
  rw [show min 8 n = n by omega] at this
  exact this
theorem l_cname {e : Nat} (X : XC h x t) (e3 : h.1 9 0 3 = nI e) (he : e ≤ t) : ∀ (m f n : Nat), s + n + m = e → pw_X9_name_7 (m + 1 + f) h (ob_pk (ob_pl x s n)) (nI (s + n)) ∧ fw_X9_name_7 (m + 1 + f) h (ob_pk (ob_pl x s n)) (nI (s + n)) = ob_pk (ob_pl x s (e - s)) := by
  have bt := X.1
  intro m
  induction m with
  | zero =>
    intro f n hn
    rw [show 0 + 1 + f = f + 1 by omega]
    have c : h.1 9 0 3 ≤ nI (s + n) := by rw [e3]; exact nI_le (by omega) (by omega)
    rw [pw_X9_name_7, fw_X9_name_7, if_pos c, show e - s = n by omega]
    exact ⟨⟨fun _ => trivial, fun z => (z c).elim⟩, rfl⟩
  | succ m ih =>
    intro f n hn
    rw [show m + 1 + 1 + f = (m + 1 + f) + 1 by omega]
    have c : ¬ h.1 9 0 3 ≤ nI (s + n) := by rw [e3]; exact nI_ge (by omega) (by omega)
    have s1 := a_sign (i := s + n) X (by omega)
    have en : nI (s + n) + 1 = nI (s + (n + 1)) := nI_add (s + n) 1
    have e8 : ((8 : Int32).toInt64 &&& 63) = 8 := by decide +kernel
    have r := ih f (n + 1) (by omega)
    rw [pw_X9_name_7, fw_X9_name_7, if_neg c, s1.2, if_pos (by omega), e8, en]
    exact ⟨⟨fun z => (c z).elim, fun _ => ⟨s1.1, r.1⟩⟩, r.2⟩
theorem s_cname (X : XC h x t) (hs : s ≤ t) (K : TK h x t s) (d : ob_kd x t s = 1) : p_X9_name h ∧ f_X9_name h = ob_pk (ob_pl x s (ob_ED x t 1 s - s)) := by
  obtain ⟨k1, k0, k3⟩ := K
  obtain ⟨te1, lt1⟩ := ob_run hs d (Or.inl rfl)
  have el := ob_ED_le (x := x) (k := 1) hs
  obtain ⟨f, hf⟩ := oa_fuel (show ob_ED x t 1 s - s < 1000000 by have := X.1; omega)
  rw [te1] at k3
  have r := l_cname (s := s) X k3 el.2 (ob_ED x t 1 s - s) f 0 (by omega)
  rw [← hf] at r
  unfold p_X9_name f_X9_name
  rw [k1]
  exact r
/-- a name stands at s -/
def NS (x : Nat → Nat) (t s : Nat) : Prop := ob_kd x t s = 1 ∧ ob_ED x t 1 s - s ≤ 8
theorem s_isName (hs : s ≤ t) (ht : t ≤ 900) (K : TK h x t s) : p_X9_isName h ∧ ((f_X9_isName h = 1 ∧ NS x t s) ∨ (f_X9_isName h = 0 ∧ ¬ NS x t s)) := by
  obtain ⟨k1, k0, k3⟩ := K
  have kl := ob_kd_lt x t s
  have el := ob_ED_le (x := x) (k := 1) hs
  have q1 : h.1 9 0 0 = 1 ↔ ob_kd x t s = 1 := by rw [k0]; exact nI_eq (b := 1) (by omega) (by omega)
  have pp : p_X9_isName h := by
    unfold p_X9_isName
    refine ⟨?_, trivial⟩
    split
    · exact Or.inl rfl
    · split
      · exact Or.inl rfl
      · exact Or.inr rfl
  refine ⟨pp, ?_⟩
  unfold f_X9_isName
  by_cases d : ob_kd x t s = 1
  · obtain ⟨te1, lt1⟩ := ob_run hs d (Or.inl rfl)
    have sub : h.1 9 0 3 - h.1 9 0 1 = nI (ob_ED x t 1 s - s) := by rw [k3, k1, te1, oa_sub (by omega)]
    rw [if_neg (fun z => z (q1.mpr d)), sub]
    by_cases d8 : ob_ED x t 1 s - s ≤ 8
    · rw [if_neg (show ¬ (8 : Int32) < nI (ob_ED x t 1 s - s) from nI_nlt (a := 8) d8 (by omega))]
      exact Or.inl ⟨rfl, d, d8⟩
    · rw [if_pos (show (8 : Int32) < nI (ob_ED x t 1 s - s) from nI_lt (a := 8) (by omega) (by omega))]
      exact Or.inr ⟨rfl, fun z => d8 z.2⟩
  · rw [if_pos (fun z => d (q1.mp z))]
    exact Or.inr ⟨rfl, fun z => d z.1⟩
end NML
