/-! the whole relation with its parts named -/
def RW (h hm : Hp) (T w : Nat → Nat) (S n : Nat) : Prop := RB h hm T w n ∧ S ≤ n ∧ RT h (h.2.2 11 0 7) (hm.1 58 0) w S ∧ RH h hm T n ∧ RX h hm ∧ RE h hm ∧ RF h hm ∧ RR h
theorem RA_iff {h hm : Hp} {n : Nat} : RA h hm n ↔ ∃ T w S, RW h hm T w S n := by
  constructor
  · intro ⟨T, w, B, ⟨S, s1, s2⟩, r⟩
    exact ⟨T, w, S, B, s1, s2, r⟩
  · intro ⟨T, w, S, B, s1, s2, r⟩
    exact ⟨T, w, B, ⟨S, s1, s2⟩, r⟩
/-- a ledger's tags, its cells -/
def LG (t : Nat) : Prop := t = 6 ∨ t = 10 ∨ (36 ≤ t ∧ t ≤ 52)
def LC (t k : Nat) : Prop := (t = 6 ∧ k = 0) ∨ (t = 10 ∧ k < 2) ∨ (36 ≤ t ∧ t ≤ 43 ∧ k < 20) ∨ (t = 44 ∧ k < 5) ∨ (45 ≤ t ∧ t ≤ 47 ∧ k < 16) ∨ (48 ≤ t ∧ t ≤ 49 ∧ k < 12) ∨ (50 ≤ t ∧ t ≤ 52 ∧ k < 20)
section RAC
variable {h hm h' hm' : Hp} {L L' : Nat} {v : Nat → Int32} {T w w' : Nat → Nat} {n n' S S' : Nat}
theorem RG.copy (G : RG h L w) (I : IW T w n) (hc : ∀ t k, LC t k → h'.1 t L' k = h.1 t L k) : RG h' L' w := by
  obtain ⟨⟨g1, g2, g3⟩, g4, g5, g6⟩ := G
  obtain ⟨⟨-, i1, i2, -⟩, -⟩ := I
  have e : ∀ t k x, LC t k → h.1 t L k = x → h'.1 t L' k = x := fun t k x a b => (hc t k a).trans b
  refine ⟨⟨e _ _ _ (by unfold LC; omega) g1, e _ _ _ (by unfold LC; omega) g2, e _ _ _ (by unfold LC; omega) g3⟩, fun p hp => ⟨e _ _ _ (by unfold LC; omega) (g4 p hp).1, e _ _ _ (by unfold LC; omega) (g4 p hp).2⟩, fun k hk => ?_, fun o ho => ?_⟩
  · obtain ⟨a1, a2, a3⟩ := g5 k hk
    exact ⟨e _ _ _ (by unfold LC; omega) a1, e _ _ _ (by unfold LC; omega) a2, e _ _ _ (by unfold LC; omega) a3⟩
  · obtain ⟨a1, a2, a3, a4, a5, a6, a7, a8⟩ := g6 o ho
    exact ⟨e _ _ _ (by unfold LC; omega) a1, e _ _ _ (by unfold LC; omega) a2, e _ _ _ (by unfold LC; omega) a3, e _ _ _ (by unfold LC; omega) a4, e _ _ _ (by unfold LC; omega) a5, e _ _ _ (by unfold LC; omega) a6, e _ _ _ (by unfold LC; omega) a7, e _ _ _ (by unfold LC; omega) a8⟩
theorem RT.copy (R : RT h L v w S) (hc : ∀ t k, LC t k → h'.1 t L' k = h.1 t L k) : RT h' L' v w S := by
  obtain ⟨r1, r2, r3, r4⟩ := R
  refine ⟨fun k hk => (hc 44 k (by unfold LC; omega)).trans (r1 k hk), r2, r3, fun j hj => ?_⟩
  obtain ⟨a1, a2, a3⟩ := r4 j hj
  have := Nat.mod_lt (S - w 3 + j) (show 16 > 0 by omega)
  exact ⟨(hc 45 _ (by unfold LC; omega)).trans a1, (hc 46 _ (by unfold LC; omega)).trans a2, (hc 47 _ (by unfold LC; omega)).trans a3⟩
theorem RT.row {v' : Nat → Int32} (R : RT h L v w S) (w3 : w 3 ≤ 16) (hv : ∀ k, k < 301 → v' k = v k) : RT h L v' w S := by
  obtain ⟨r1, r2, r3, r4⟩ := R
  refine ⟨fun k hk => (r1 k hk).trans (hv _ (by omega)).symm, (hv 4 (by omega)).trans r2, r3, fun j hj => ?_⟩
  obtain ⟨a1, a2, a3⟩ := r4 j hj
  exact ⟨a1.trans (hv _ (by omega)).symm, a2.trans (hv _ (by omega)).symm, a3.trans (hv _ (by omega)).symm⟩
theorem RV.copy {v' : Nat → Int32} (V : RV h L v T w n) (hc : ∀ t k, LC t k → h'.1 t L' k = h.1 t L k) (hv : ∀ k, k < 301 → v' k = v k) : RV h' L' v' T w n := by
  obtain ⟨v1, v2, v3, S, v4, v5⟩ := V
  exact ⟨fun k hk1 hk2 => (hv k hk1).trans (v1 k hk1 hk2), v2, v3.copy v2 hc, S, v4, (v5.copy hc).row v2.1.2.2.2 hv⟩
/-- an action's end -/
theorem RW.upd (A : RW h hm T w S n) (hn : n ≤ n') (hc : ∀ t i, CS t → ¬ (LG t ∧ i = h.2.2 11 0 7) → h'.1 t i = h.1 t i) (hl : h'.2.1 = h.2.1) (hr : h'.2.2 = h.2.2) (hs : ∀ t, MS t → ¬ t = 58 → hm'.1 t 0 = hm.1 t 0) (hk : ∀ k, MK k → hm'.1 12 0 k = hm.1 12 0 k)
    (I' : IW T w' n') (R' : ∀ k, k < 301 → ¬ (4 ≤ k ∧ k ≤ 8) → hm'.1 58 0 k = nI (w' k)) (G' : RG h' (h.2.2 11 0 7) w') (hS : S' ≤ n') (T' : RT h' (h.2.2 11 0 7) (hm'.1 58 0) w' S') : RW h' hm' T w' S' n' := by
  obtain ⟨⟨J, I, R, C, G⟩, s1, s2, ⟨d, x, d1, d2, d3, d4, d5, d6⟩, ⟨t, t1, t2, t3, t4⟩, ⟨e1, e2⟩, ⟨u, u1, u2, u3, u4⟩, r⟩ := A
  have rL := r.2.1
  have q : ∀ t, CS t → ¬ LG t → ∀ i, h'.1 t i = h.1 t i := fun t a b i => hc t i a (fun z => b z.1)
  refine ⟨⟨J, I', ⟨?_, R'⟩, ?_, ?_⟩, hS, ?_, ⟨d, x, d1, d2, ?_, ?_, ?_, ?_⟩, ⟨t, t1, ?_, ?_, ?_⟩, ⟨?_, ?_⟩, ⟨u, u1, ?_, ?_, ?_⟩, ?_⟩
  · rw [hs 56 (by unfold MS; omega) (by omega)]; exact R.1
  · rw [hr]; exact C.same (fun t ht i => q t (by unfold CS; omega) (by unfold LG; omega) i) hl
  · rw [hr]; exact G'
  · rw [hr]; exact T'
  · rw [q 3 (by unfold CS; omega) (by unfold LG; omega)]; exact d3
  · rw [q 3 (by unfold CS; omega) (by unfold LG; omega)]; exact d4
  · rw [hk 16 (by unfold MK; omega)]; exact d5
  · intro k hk'
    obtain ⟨w', V⟩ := d6 k hk'
    refine ⟨w', ?_⟩
    rw [hs 59 (by unfold MS; omega) (by omega)]
    exact (V.mono hn).same (fun t ht => hc t _ (by unfold CS; omega) (by omega))
  · rw [q 4 (by unfold CS; omega) (by unfold LG; omega)]; exact t2
  · rw [hk 3 (by unfold MK; omega)]; exact t3
  · rw [q 35 (by unfold CS; omega) (by unfold LG; omega), hs 54 (by unfold MS; omega) (by omega)]; exact t4
  · rw [q 7 (by unfold CS; omega) (by unfold LG; omega), hk 9 (by unfold MK; omega)]; exact e1
  · rw [q 7 (by unfold CS; omega) (by unfold LG; omega), hk 10 (by unfold MK; omega)]; exact e2
  · rw [q 2 (by unfold CS; omega) (by unfold LG; omega)]; exact u2
  · rw [hk 24 (by unfold MK; omega)]; exact u3
  · rw [q 33 (by unfold CS; omega) (by unfold LG; omega), hs 65 (by unfold MS; omega) (by omega)]; exact u4
  · unfold RR; rw [hr]; exact r
theorem oa_cpy {f g : Nat → Int32} {n j : Nat} (hj : j < n) : va_cpy f g 0 0 n j = f j := by
  rw [pk_cpy_in (by omega) (by omega)]
  congr 1
  omega
/-- the boolean rows of a book of orders, copied in a loop -/
theorem p_cp6 {i0 i1 : Nat} : ∀ (m k e : Nat) (h : Hp), k + m = 20 → pw_X6_copyFrom_100 (m + 1 + e) h i0 i1 (nI k) := by
  intro m
  induction m with
  | zero =>
    intro k e h hk
    have c1 : (20 : Int32) ≤ nI k := nI_le (a := 20) (by omega) (by omega)
    rw [show 0 + 1 + e = e + 1 by omega, pw_X6_copyFrom_100]
    exact ⟨fun _ => trivial, fun z => (z c1).elim⟩
  | succ m ih =>
    intro k e h hk
    have c1 : ¬ (20 : Int32) ≤ nI k := nI_ge (b := 20) (by omega) (by omega)
    have v1 : vp_in (nI k) 20 := vp_in_nI (by omega) (by omega)
    rw [show m + 1 + 1 + e = (m + 1 + e) + 1 by omega, pw_X6_copyFrom_100]
    refine ⟨fun z => (c1 z).elim, fun _ => ⟨v1, v1, v1, v1, ?_⟩⟩
    rw [← nI_succ]
    exact ih (k + 1) e _ (by omega)
theorem a_cp6 {i0 i1 : Nat} {h : Hp} : p_X6_copyFrom h i0 i1 := by
  obtain ⟨e, he⟩ := oa_fuel (show 20 < 1000000 by omega)
  unfold p_X6_copyFrom
  rw [he]
  exact p_cp6 20 0 e _ (by omega)
theorem g_cp6 {i0 i1 : Nat} (hne : ¬ i1 = i0) : ∀ (m k e : Nat) (h : Hp), k + m = 20 →
    (∀ t, t = 40 ∨ t = 41 → ∀ j, (k ≤ j → j < 20 → (gw_X6_copyFrom_100 (m + 1 + e) h i0 i1 (nI k)).1 t i0 j = h.1 t i1 j) ∧ (j < k → (gw_X6_copyFrom_100 (m + 1 + e) h i0 i1 (nI k)).1 t i0 j = h.1 t i0 j)) ∧ (∀ t i, ¬ t = 40 → ¬ t = 41 → (gw_X6_copyFrom_100 (m + 1 + e) h i0 i1 (nI k)).1 t i = h.1 t i) := by
  intro m
  induction m with
  | zero =>
    intro k e h hk
    have c1 : (20 : Int32) ≤ nI k := nI_le (a := 20) (by omega) (by omega)
    rw [show 0 + 1 + e = e + 1 by omega, gw_X6_copyFrom_100, if_pos c1]
    exact ⟨fun t ht j => ⟨fun h1 h2 => by omega, fun _ => rfl⟩, fun t i h1 h2 => rfl⟩
  | succ m ih =>
    intro k e h hk
    have c1 : ¬ (20 : Int32) ≤ nI k := nI_ge (b := 20) (by omega) (by omega)
    rw [show m + 1 + 1 + e = (m + 1 + e) + 1 by omega, gw_X6_copyFrom_100, if_neg c1, nI_clamp (show k < 2 ^ 31 by omega), ← nI_succ]
    obtain ⟨r1, r2⟩ := ih (k + 1) e (hp_i (hp_i h 40 i0 k (h.1 40 i1 k)) 41 i0 k (h.1 41 i1 k)) (by omega)
    have q : ∀ t, t = 40 ∨ t = 41 → ∀ j, (hp_i (hp_i h 40 i0 k (h.1 40 i1 k)) 41 i0 k (h.1 41 i1 k)).1 t i0 j = (if j = k then h.1 t i1 k else h.1 t i0 j) := by
      intro t ht j
      rcases ht with rfl | rfl
      · rw [hp_i_t (show ¬ 40 = 41 by omega), hp_i_g]
      · rw [hp_i_g, hp_i_t (show ¬ 41 = 40 by omega)]
    have q1 : ∀ t, (hp_i (hp_i h 40 i0 k (h.1 40 i1 k)) 41 i0 k (h.1 41 i1 k)).1 t i1 = h.1 t i1 := fun t => by
      rw [hp_i_n (fun z => hne z.2), hp_i_n (fun z => hne z.2)]
    refine ⟨fun t ht j => ⟨fun h1 h2 => ?_, fun h1 => ?_⟩, fun t i h1 h2 => ?_⟩
    · by_cases z : j = k
      · rw [(r1 t ht j).2 (by omega), q t ht j, if_pos z, z]
      · rw [(r1 t ht j).1 (by omega) h2, q1 t]
    · rw [(r1 t ht j).2 (by omega), q t ht j, if_neg (by omega)]
    · rw [r2 t i h1 h2, hp_i_t h2, hp_i_t h1]
/-- a ledger copied -/
theorem a_copy {i0 i1 : Nat} (hne : ¬ i0 = i1) : ∀ t k, LC t k → (g_X5_copyFrom h i0 i1).1 t i0 k = h.1 t i1 k := by
  have hne' : ¬ i1 = i0 := fun z => hne z.symm
  have A8 : ∀ (h : Hp) t k, (t = 44 ∧ k < 5) ∨ (45 ≤ t ∧ t ≤ 47 ∧ k < 16) → (g_X8_copyFrom h i0 i1).1 t i0 k = h.1 t i1 k := by
    intro h t k hk
    rcases (show (t = 44 ∧ k < 5) ∨ (t = 45 ∧ k < 16) ∨ (t = 46 ∧ k < 16) ∨ (t = 47 ∧ k < 16) by omega) with ⟨rfl, z⟩ | ⟨rfl, z⟩ | ⟨rfl, z⟩ | ⟨rfl, z⟩ <;> simp [g_X8_copyFrom, hp_a_s, hp_a_n, oa_cpy z]
  have A6 : ∀ (h : Hp) t k, (t = 6 ∧ k = 0) ∨ (36 ≤ t ∧ t ≤ 43 ∧ k < 20) → (g_X6_copyFrom h i0 i1).1 t i0 k = h.1 t i1 k := by
    intro h t k hk
    obtain ⟨e, he⟩ := oa_fuel (show 20 < 1000000 by omega)
    unfold g_X6_copyFrom
    generalize hH : hp_a (hp_a (hp_a (hp_a (hp_a (hp_a (hp_i h 6 i0 0 (h.1 6 i1 0)) 36 i0 (va_cpy (h.1 36 i1) (h.1 36 i0) 0 0 20)) 37 i0 (va_cpy (h.1 37 i1) (h.1 37 i0) 0 0 20)) 38 i0 (va_cpy (h.1 38 i1) (h.1 38 i0) 0 0 20)) 39 i0 (va_cpy (h.1 39 i1) (h.1 39 i0) 0 0 20)) 42 i0 (va_cpy (h.1 42 i1) (h.1 42 i0) 0 0 20)) 43 i0 (va_cpy (h.1 43 i1) (h.1 43 i0) 0 0 20) = H
    obtain ⟨r1, r2⟩ := g_cp6 (i0 := i0) (i1 := i1) hne' 20 0 e H (by omega)
    rw [← he, nI_0] at r1 r2
    by_cases b : t = 40 ∨ t = 41
    · rw [(r1 t b k).1 (by omega) (by omega), ← hH]
      rcases b with rfl | rfl <;> simp [hp_a_n, hp_i_t]
    · rw [r2 t i0 (by omega) (by omega), ← hH]
      rcases (show (t = 6 ∧ k = 0) ∨ (t = 36 ∧ k < 20) ∨ (t = 37 ∧ k < 20) ∨ (t = 38 ∧ k < 20) ∨ (t = 39 ∧ k < 20) ∨ (t = 42 ∧ k < 20) ∨ (t = 43 ∧ k < 20) by omega) with ⟨rfl, rfl⟩ | ⟨rfl, z⟩ | ⟨rfl, z⟩ | ⟨rfl, z⟩ | ⟨rfl, z⟩ | ⟨rfl, z⟩ | ⟨rfl, z⟩
      · simp [hp_a_n, hp_i_g]
      all_goals simp [hp_a_s, hp_a_n, oa_cpy z]
  have A10 : ∀ (h : Hp) t k, (t = 10 ∧ k < 2) ∨ (48 ≤ t ∧ t ≤ 49 ∧ k < 12) ∨ (50 ≤ t ∧ t ≤ 52 ∧ k < 20) → (g_X10_copyFrom h i0 i1).1 t i0 k = h.1 t i1 k := by
    intro h t k hk
    rcases (show (t = 10 ∧ k = 0) ∨ (t = 10 ∧ k = 1) ∨ (t = 48 ∧ k < 12) ∨ (t = 49 ∧ k < 12) ∨ (t = 50 ∧ k < 20) ∨ (t = 51 ∧ k < 20) ∨ (t = 52 ∧ k < 20) by omega) with ⟨rfl, rfl⟩ | ⟨rfl, rfl⟩ | ⟨rfl, z⟩ | ⟨rfl, z⟩ | ⟨rfl, z⟩ | ⟨rfl, z⟩ | ⟨rfl, z⟩
    · simp [g_X10_copyFrom, hp_a_n, hp_i_g]
    · simp [g_X10_copyFrom, hp_a_n, hp_i_g, hp_i_n (h := h) (t0 := 10) (t := 10) (i0 := i0) (i := i1) (by omega)]
    all_goals simp [g_X10_copyFrom, hp_a_s, hp_a_n, oa_cpy z]
  intro t k hk
  unfold g_X5_copyFrom
  unfold LC at hk
  by_cases a : (t = 44 ∧ k < 5) ∨ (45 ≤ t ∧ t ≤ 47 ∧ k < 16)
  · rw [A8 _ t k a, fr_X6_copyFrom (by omega) (by omega) (by omega) (by omega) (by omega) (by omega) (by omega) (by omega) (by omega), fr_X10_copyFrom (by omega) (by omega) (by omega) (by omega) (by omega) (by omega)]
  · rw [fr_X8_copyFrom (by omega) (by omega) (by omega) (by omega)]
    by_cases b : (t = 6 ∧ k = 0) ∨ (36 ≤ t ∧ t ≤ 43 ∧ k < 20)
    · rw [A6 _ t k b, fr_X10_copyFrom (by omega) (by omega) (by omega) (by omega) (by omega) (by omega)]
    · rw [fr_X6_copyFrom (by omega) (by omega) (by omega) (by omega) (by omega) (by omega) (by omega) (by omega) (by omega)]
      exact A10 _ t k (by omega)
end RAC
