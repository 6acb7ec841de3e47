/-! load: which item has a name -/
section NMD
variable {h h' : Hp} {x : Nat → Nat} {t i k m s n c : Nat} {T : Nat → Nat}
def VK (T : Nat → Nat) (k : Nat) : Prop := (k < 12 ∧ k < T 0) ∨ (12 ≤ k ∧ k - 12 < T 1)
/-- the n letters at s are the name of item k -/
def MT (T x : Nat → Nat) (s n k : Nat) : Prop := ∀ i, i < 8 → T (4 + 8 * k + i) = if i < n then x (s + i) else 0
/-- names are good, and no two are the same -/
def UN (T : Nat → Nat) : Prop := (∀ k, VK T k → ∃ n, GR T k n) ∧ (∀ k k', VK T k → VK T k' → (∀ i, i < 8 → T (4 + 8 * k + i) = T (4 + 8 * k' + i)) → k = k')
theorem lg_cmp_0 (a b : Int64) : lg_cmp a b = 0 ↔ a = b := by
  unfold lg_cmp
  by_cases h1 : a > b
  · rw [if_pos h1]
    refine ⟨fun z => absurd z (by decide), fun z => ?_⟩
    subst z
    exact absurd h1 (Int64.lt_irrefl)
  · rw [if_neg h1]
    by_cases h2 : a = b
    · simp [h2]
    · simp [h2]
/-- letters of a token -/
def LT (x : Nat → Nat) (s n : Nat) : Prop := 1 ≤ n ∧ n ≤ 8 ∧ ∀ i, i < n → 97 ≤ x (s + i) ∧ x (s + i) ≤ 122
theorem ob_mt {n' : Nat} (L : LT x s n) (G : GR T k n') : oa_nm T k = ob_pk (ob_pl x s n) ↔ MT T x s n k := by
  rw [ob_nm_pl G, ob_pk_inj G.2.1 L.2.1 (fun i hi => by have := G.2.2.1 i hi; omega) (fun i hi => by have := L.2.2 i hi; omega)]
  unfold MT
  constructor
  · rintro ⟨rfl, e⟩ i hi
    by_cases c : i < n'
    · rw [if_pos c]; exact e i c
    · rw [if_neg c]; exact G.2.2.2 i (by omega) hi
  · intro e
    have b1 := G.2.1
    have b2 := L.2.1
    have nn : n' = n := by
      rcases Nat.lt_trichotomy n' n with l | l | l
      · exfalso
        have := e n' (by omega)
        rw [if_pos l, G.2.2.2 n' (by omega) (by omega)] at this
        have := L.2.2 n' l
        omega
      · exact l
      · exfalso
        have := e n (by omega)
        rw [if_neg (by omega)] at this
        have := G.2.2.1 n l
        omega
    subst nn
    refine ⟨rfl, fun i hi => ?_⟩
    have := e i (by omega)
    rw [if_pos hi] at this
    exact this
theorem l_pn (L : LT x s n) (U : UN T) (h0 : T 0 ≤ 12) (e0 : h.1 1 c 0 = nI (T 0)) (hn : ∀ p, p < T 0 → h.2.1 19 c p = oa_nm T p) : ∀ (m f p : Nat), p + m = T 0 → (∀ p', p' < p → ¬ MT T x s n p') → pw_X1_partNamed_2 (m + 1 + f) h c (ob_pk (ob_pl x s n)) (nI p) ∧ ((∃ k, k < T 0 ∧ MT T x s n k ∧ fw_X1_partNamed_2 (m + 1 + f) h c (ob_pk (ob_pl x s n)) (nI p) = nI k) ∨ ((∀ k, k < T 0 → ¬ MT T x s n k) ∧ fw_X1_partNamed_2 (m + 1 + f) h c (ob_pk (ob_pl x s n)) (nI p) = -1)) := by
  intro m
  induction m with
  | zero =>
    intro f p hp hno
    rw [show 0 + 1 + f = f + 1 by omega]
    have c1 : h.1 1 c 0 ≤ nI p := by rw [e0]; exact nI_le (by omega) (by omega)
    rw [pw_X1_partNamed_2, fw_X1_partNamed_2, if_pos c1]
    exact ⟨⟨fun _ => trivial, fun z => (z c1).elim⟩, Or.inr ⟨fun k hk => hno k (by omega), rfl⟩⟩
  | succ m ih =>
    intro f p hp hno
    rw [show m + 1 + 1 + f = (m + 1 + f) + 1 by omega]
    have c1 : ¬ h.1 1 c 0 ≤ nI p := by rw [e0]; exact nI_ge (by omega) (by omega)
    have v1 : vp_in (nI p) 12 := vp_in_nI (by omega) (by omega)
    have en : nI p + 1 = nI (p + 1) := nI_add p 1
    obtain ⟨n', G⟩ := U.1 p (Or.inl ⟨by omega, by omega⟩)
    have q : lg_cmp (h.2.1 19 c p) (ob_pk (ob_pl x s n)) = 0 ↔ MT T x s n p := by rw [hn p (by omega), lg_cmp_0]; exact ob_mt L G
    rw [pw_X1_partNamed_2, fw_X1_partNamed_2, if_neg c1, nI_clamp (by omega), en]
    by_cases d : MT T x s n p
    · rw [if_neg (fun z => z (q.mpr d))]
      exact ⟨⟨fun z => (c1 z).elim, fun _ => ⟨v1, fun z => (z (q.mpr d)).elim, fun _ => trivial⟩⟩, Or.inl ⟨p, by omega, d, rfl⟩⟩
    · have r := ih f (p + 1) (by omega) (fun p' hp' => by
        by_cases e : p' = p
        · rw [e]; exact d
        · exact hno p' (by omega))
      rw [if_pos (fun z => d (q.mp z))]
      exact ⟨⟨fun z => (c1 z).elim, fun _ => ⟨v1, fun _ => r.1, fun z => (d (q.mp z)).elim⟩⟩, r.2⟩
theorem l_qn (L : LT x s n) (U : UN T) (h0 : T 1 ≤ 8) (e0 : h.1 1 c 1 = nI (T 1)) (hn : ∀ p, p < T 1 → h.2.1 21 c p = oa_nm T (12 + p)) : ∀ (m f p : Nat), p + m = T 1 → (∀ p', p' < p → ¬ MT T x s n (12 + p')) → pw_X1_productNamed_2 (m + 1 + f) h c (ob_pk (ob_pl x s n)) (nI p) ∧ ((∃ k, k < T 1 ∧ MT T x s n (12 + k) ∧ fw_X1_productNamed_2 (m + 1 + f) h c (ob_pk (ob_pl x s n)) (nI p) = nI k) ∨ ((∀ k, k < T 1 → ¬ MT T x s n (12 + k)) ∧ fw_X1_productNamed_2 (m + 1 + f) h c (ob_pk (ob_pl x s n)) (nI p) = -1)) := by
  intro m
  induction m with
  | zero =>
    intro f p hp hno
    rw [show 0 + 1 + f = f + 1 by omega]
    have c1 : h.1 1 c 1 ≤ nI p := by rw [e0]; exact nI_le (by omega) (by omega)
    rw [pw_X1_productNamed_2, fw_X1_productNamed_2, if_pos c1]
    exact ⟨⟨fun _ => trivial, fun z => (z c1).elim⟩, Or.inr ⟨fun k hk => hno k (by omega), rfl⟩⟩
  | succ m ih =>
    intro f p hp hno
    rw [show m + 1 + 1 + f = (m + 1 + f) + 1 by omega]
    have c1 : ¬ h.1 1 c 1 ≤ nI p := by rw [e0]; exact nI_ge (by omega) (by omega)
    have v1 : vp_in (nI p) 8 := vp_in_nI (by omega) (by omega)
    have en : nI p + 1 = nI (p + 1) := nI_add p 1
    obtain ⟨n', G⟩ := U.1 (12 + p) (Or.inr ⟨by omega, by omega⟩)
    have q : lg_cmp (h.2.1 21 c p) (ob_pk (ob_pl x s n)) = 0 ↔ MT T x s n (12 + p) := by rw [hn p (by omega), lg_cmp_0]; exact ob_mt L G
    rw [pw_X1_productNamed_2, fw_X1_productNamed_2, if_neg c1, nI_clamp (by omega), en]
    by_cases d : MT T x s n (12 + p)
    · rw [if_neg (fun z => z (q.mpr d))]
      exact ⟨⟨fun z => (c1 z).elim, fun _ => ⟨v1, fun z => (z (q.mpr d)).elim, fun _ => trivial⟩⟩, Or.inl ⟨p, by omega, d, rfl⟩⟩
    · have r := ih f (p + 1) (by omega) (fun p' hp' => by
        by_cases e : p' = p
        · rw [e]; exact d
        · exact hno p' (by omega))
      rw [if_pos (fun z => d (q.mp z))]
      exact ⟨⟨fun z => (c1 z).elim, fun _ => ⟨v1, fun _ => r.1, fun z => (d (q.mp z)).elim⟩⟩, r.2⟩
theorem s_qn (L : LT x s n) (U : UN T) (h0 : T 1 ≤ 8) (e0 : h.1 1 c 1 = nI (T 1)) (hn : ∀ p, p < T 1 → h.2.1 21 c p = oa_nm T (12 + p)) : p_X1_productNamed h c (ob_pk (ob_pl x s n)) ∧ ((∃ k, k < T 1 ∧ MT T x s n (12 + k) ∧ f_X1_productNamed h c (ob_pk (ob_pl x s n)) = nI k) ∨ ((∀ k, k < T 1 → ¬ MT T x s n (12 + k)) ∧ f_X1_productNamed h c (ob_pk (ob_pl x s n)) = -1)) := by
  obtain ⟨f, hf⟩ := oa_fuel (show T 1 < 1000000 by omega)
  have r := l_qn L U h0 e0 hn (T 1) f 0 (by omega) (fun p' hp' => by omega)
  rw [← hf, nI_0] at r
  exact r
theorem s_item (L : LT x s n) (U : UN T) (h0 : T 0 ≤ 12) (h1 : T 1 ≤ 8) (e0 : h.1 1 c 0 = nI (T 0)) (e1 : h.1 1 c 1 = nI (T 1)) (hn0 : ∀ p, p < T 0 → h.2.1 19 c p = oa_nm T p) (hn1 : ∀ p, p < T 1 → h.2.1 21 c p = oa_nm T (12 + p)) : p_X1_itemNamed h c (ob_pk (ob_pl x s n)) ∧ ((∃ k, VK T k ∧ MT T x s n k ∧ f_X1_itemNamed h c (ob_pk (ob_pl x s n)) = nI (if k < 12 then k else k + 88)) ∨ ((∀ k, VK T k → ¬ MT T x s n k) ∧ f_X1_itemNamed h c (ob_pk (ob_pl x s n)) = -1)) := by
  obtain ⟨f, hf⟩ := oa_fuel (show T 0 < 1000000 by omega)
  have r := l_pn L U h0 e0 hn0 (T 0) f 0 (by omega) (fun p' hp' => by omega)
  rw [← hf, nI_0] at r
  have r0 : p_X1_partNamed h c (ob_pk (ob_pl x s n)) ∧ ((∃ k, k < T 0 ∧ MT T x s n k ∧ f_X1_partNamed h c (ob_pk (ob_pl x s n)) = nI k) ∨ ((∀ k, k < T 0 → ¬ MT T x s n k) ∧ f_X1_partNamed h c (ob_pk (ob_pl x s n)) = -1)) := r
  have r1 := s_qn L U h1 e1 hn1
  unfold p_X1_itemNamed f_X1_itemNamed
  rcases r1.2 with ⟨k, k1, k2, k3⟩ | ⟨k1, k3⟩
  · have m1 := ob_m1 (s := k) (by omega)
    rw [k3, if_pos m1]
    have e100 : (100 : Int32) + nI k = nI (100 + k) := nI_add 100 k
    refine ⟨⟨r1.1, fun _ => trivial, fun z => (m1 z).elim⟩, Or.inl ⟨12 + k, Or.inr ⟨by omega, by omega⟩, k2, ?_⟩⟩
    rw [e100, if_neg (by omega)]
    congr 1
    omega
  · rw [k3, if_neg (fun z => z rfl)]
    refine ⟨⟨r1.1, fun z => (z rfl).elim, fun _ => ⟨r0.1, trivial⟩⟩, ?_⟩
    rcases r0.2 with ⟨k, k4, k5, k6⟩ | ⟨k4, k6⟩
    · exact Or.inl ⟨k, Or.inl ⟨by omega, k4⟩, k5, by rw [if_pos (by omega)]; exact k6⟩
    · refine Or.inr ⟨fun k hk => ?_, k6⟩
      rcases hk with ⟨a, b⟩ | ⟨a, b⟩
      · exact k4 k b
      · have := k1 (k - 12) b
        rw [show 12 + (k - 12) = k by omega] at this
        exact this
end NMD
