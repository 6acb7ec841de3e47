/-! allocation: one order -/
def ob_u (T w qt gt : Nat → Nat) (o : Nat) : Nat := min (oa_open w o - gt o) (oa_most T qt (w (93 + 8 * o)))
def ob_ok (T w qt gt : Nat → Nat) (o : Nat) : Bool := decide (0 < ob_u T w qt gt o ∧ (ob_u T w qt gt o = oa_open w o - gt o ∨ w (93 + 8 * o + 4) = 0))
def ob_tk (T : Nat → Nat) (u q : Nat) (f : Nat → Nat) (p : Nat) : Nat := if p < T 0 then f p - u * oa_need T q p else f p
def ob_at {A : Type} (f : Nat → A) (k : Nat) (x : A) (j : Nat) : A := if j = k then x else f j
def ob_fr (fr : Nat → Int32) (o r j : Nat) : Int32 := if j = o then (if fr o = -1 then nI r else fr o) else fr j
/-- the class's rows -/
def AL (h : Hp) (lf qt gt : Nat → Nat) (fr gv : Nat → Int32) : Prop := (∀ p, p < 12 → h.1 13 0 p = nI (lf p) ∧ h.1 14 0 p = nI (qt p)) ∧ (∀ o, o < 20 → h.1 16 0 o = nI (gt o) ∧ h.1 17 0 o = fr o) ∧ (∀ r, r < 6 → h.1 18 0 r = gv r)
/-- the model's rows (rungs below R) -/
def ML (hm : Hp) (lf qt gt : Nat → Nat) (fr gv : Nat → Int32) (R : Nat) : Prop := (∀ p, p < 12 → hm.1 60 0 p = nI (lf p) ∧ hm.1 61 0 p = nI (qt p)) ∧ (∀ o, o < 20 → hm.1 62 0 o = nI (gt o) ∧ hm.1 63 0 o = fr o) ∧ (∀ r, r < R → hm.1 64 0 r = gv r)
def NL (T w F lf qt gt : Nat → Nat) : Prop := (∀ p, p < 12 → qt p ≤ lf p ∧ lf p < 1000000) ∧ (∀ o, o < 20 → gt o < 1000000) ∧ (∀ o, o < w 1 → gt o ≤ oa_open w o) ∧ (∀ p, p < T 0 → lf p + oa_sum (fun o => gt o * oa_need T (w (93 + 8 * o)) p) 0 (w 1) = F p)
section QAJ
variable {h hm : Hp} {c L : Nat} {T w F lf qt gt : Nat → Nat} {fr gv : Nat → Int32} {n : Nat}
theorem a_inside {k N : Nat} (h : Hp) (hk : k < N) (hN : N < 2 ^ 31) : p_X11_isInside h (nI k) (nI N) ∧ f_X11_isInside h (nI k) (nI N) = 1 := by
  have ki := k_inside h (nI k) N hN
  rcases ki.2 with ⟨q, hq, e, i1⟩ | ⟨z, -⟩
  · exact ⟨ki.1, i1⟩
  · exact (oa_excl hN hk z).elim
theorem ob_u_fit {o : Nat} (J : IT T) (I : IW T w n) (ho : o < w 1) : ∀ p, p < T 0 → ob_u T w qt gt o * oa_need T (w (93 + 8 * o)) p ≤ qt p :=
  (oa_most_fit J (I.2.2.2 o ho).1 qt).mp (Nat.min_le_right _ _)
theorem a_serve {o r : Nat} (J : IT T) (I : IW T w n) (C : RC h c T) (G : RG h L w) (A : AL h lf qt gt fr gv) (N : NL T w F lf qt gt) (ho : o < w 1) (hr : r < 6) :
    p_X0_serve h c L (nI o) (nI r) ∧ (ob_ok T w qt gt o = false → g_X0_serve h c L (nI o) (nI r) = h) ∧ (ob_ok T w qt gt o = true → AL (g_X0_serve h c L (nI o) (nI r)) (ob_tk T (ob_u T w qt gt o) (w (93 + 8 * o)) lf) (ob_tk T (ob_u T w qt gt o) (w (93 + 8 * o)) qt) (ob_at gt o (gt o + ob_u T w qt gt o)) (ob_fr fr o r) (ob_at gv r (gv r + nI (ob_u T w qt gt o)))) := by
  have hw := I.1.2.1
  have bT := J.1
  have i := I.2.2.2 o ho
  have hq := i.1
  have ol := oa_open_le I ho
  have go := N.2.2.1 o ho
  have a1 := a_ord G I ho
  have a2 := a_open G I ho
  have a3 := a_whole G I ho
  have in1 := a_inside h (show o < 20 by omega) (by omega)
  have in2 := a_inside h hr (by omega)
  have e20 : nI 20 = 20 := rfl
  have e6 : nI 6 = 6 := rfl
  rw [e20] at in1
  rw [e6] at in2
  have vo : vp_in (nI o) 20 := vp_in_nI (by omega) (by omega)
  have vr : vp_in (nI r) 6 := vp_in_nI (by omega) (by omega)
  have ag : p_X0_grantOf h (nI o) ∧ f_X0_grantOf h (nI o) = nI (gt o) := by
    refine ⟨?_, ?_⟩
    · simp [p_X0_grantOf, in1, vo]
    · simp [f_X0_grantOf, in1, nI_clamp (show o < 2 ^ 31 by omega), (A.2.1 o (by omega)).1]
  have am := a_most (t2 := 14) (i2 := 0) (F := qt) J C hq (fun p hp => ⟨(A.1 p hp).2, by have := N.1 p hp; omega⟩)
  have ml : oa_most T qt (w (93 + 8 * o)) < 1000000 := by
    obtain ⟨-, p, hp, -, e⟩ := oa_most_ok J hq qt
    have i := N.1 p (by omega)
    have := Nat.div_le_self (qt p) (oa_need T (w (93 + 8 * o)) p)
    omega
  have es : nI (oa_open w o) - nI (gt o) = nI (oa_open w o - gt o) := oa_sub go
  have hu : (if nI (oa_most T qt (w (93 + 8 * o))) < nI (oa_open w o - gt o) then nI (oa_most T qt (w (93 + 8 * o))) else nI (oa_open w o - gt o)) = nI (ob_u T w qt gt o) := by
    have lt : (nI (oa_most T qt (w (93 + 8 * o))) < nI (oa_open w o - gt o)) ↔ oa_most T qt (w (93 + 8 * o)) < oa_open w o - gt o := nI_ltI (by omega) (by omega)
    simp only [lt]
    unfold ob_u
    by_cases d : oa_most T qt (w (93 + 8 * o)) < oa_open w o - gt o
    · rw [if_pos d, Nat.min_eq_right (by omega)]
    · rw [if_neg d, Nat.min_eq_left (by omega)]
  have ul : ob_u T w qt gt o ≤ 99 := Nat.le_trans (Nat.min_le_left _ _) (by omega)
  have eq : (nI (ob_u T w qt gt o) = nI (oa_open w o - gt o)) ↔ ob_u T w qt gt o = oa_open w o - gt o := nI_eq (by omega) (by omega)
  have le : (nI (ob_u T w qt gt o) ≤ 0) ↔ ob_u T w qt gt o ≤ 0 := nI_leI (b := 0) (by omega) (by omega)
  have wz : (nI (w (93 + 8 * o + 4)) = 0) ↔ w (93 + 8 * o + 4) = 0 := nI_eq (b := 0) (by omega) (by omega)
  have tk := a_takePieces (h := h) (t1 := 14) (i1 := 0) (u := ob_u T w qt gt o) (Or.inr (Or.inr rfl)) J C hq
  have C1 : RC (g_X1_takePieces h c (nI (w (93 + 8 * o))) (nI (ob_u T w qt gt o)) 14 0 12) c T := C.same (fun t ht i => fr_X1_takePieces (by omega)) gl_X1_takePieces
  have tk2 := a_takePieces (h := g_X1_takePieces h c (nI (w (93 + 8 * o))) (nI (ob_u T w qt gt o)) 14 0 12) (t1 := 13) (i1 := 0) (u := ob_u T w qt gt o) (Or.inr (Or.inl rfl)) J C1 hq
  have fit := ob_u_fit (qt := qt) (gt := gt) J I ho
  have H2 : ∀ t, ¬ t = 13 → ¬ t = 14 → (g_X1_takePieces (g_X1_takePieces h c (nI (w (93 + 8 * o))) (nI (ob_u T w qt gt o)) 14 0 12) c (nI (w (93 + 8 * o))) (nI (ob_u T w qt gt o)) 13 0 12).1 t 0 = h.1 t 0 := fun t h1 h2 => (fr_X1_takePieces (by omega)).trans (fr_X1_takePieces (by omega))
  have h14 : ∀ p, p < 12 → (g_X1_takePieces (g_X1_takePieces h c (nI (w (93 + 8 * o))) (nI (ob_u T w qt gt o)) 14 0 12) c (nI (w (93 + 8 * o))) (nI (ob_u T w qt gt o)) 13 0 12).1 14 0 p = nI (ob_tk T (ob_u T w qt gt o) (w (93 + 8 * o)) qt p) := by
    intro p hp
    have fr14 := fr_X1_takePieces (h := g_X1_takePieces h c (nI (w (93 + 8 * o))) (nI (ob_u T w qt gt o)) 14 0 12) (i0 := c) (a1 := nI (w (93 + 8 * o))) (a2 := nI (ob_u T w qt gt o)) (t3 := 13) (i3 := 0) (n3 := 12) (t := 14) (i := 0) (by omega)
    rw [fr14]
    unfold ob_tk
    by_cases d : p < T 0
    · rw [if_pos d, tk.2.1 p d, (A.1 p hp).2, oa_sub (fit p d)]
    · rw [if_neg d, tk.2.2 p (by omega), (A.1 p hp).2]
  have h13 : ∀ p, p < 12 → (g_X1_takePieces (g_X1_takePieces h c (nI (w (93 + 8 * o))) (nI (ob_u T w qt gt o)) 14 0 12) c (nI (w (93 + 8 * o))) (nI (ob_u T w qt gt o)) 13 0 12).1 13 0 p = nI (ob_tk T (ob_u T w qt gt o) (w (93 + 8 * o)) lf p) := by
    intro p hp
    have fr13 := fr_X1_takePieces (h := h) (i0 := c) (a1 := nI (w (93 + 8 * o))) (a2 := nI (ob_u T w qt gt o)) (t3 := 14) (i3 := 0) (n3 := 12) (t := 13) (i := 0) (by omega)
    unfold ob_tk
    have nl := N.1 p hp
    by_cases d : p < T 0
    · have := fit p d
      rw [if_pos d, tk2.2.1 p d, fr13, (A.1 p hp).1, oa_sub (by omega)]
    · rw [if_neg d, tk2.2.2 p (by omega), fr13, (A.1 p hp).1]
  have r16 : ∀ j, j < 20 → (g_X1_takePieces (g_X1_takePieces h c (nI (w (93 + 8 * o))) (nI (ob_u T w qt gt o)) 14 0 12) c (nI (w (93 + 8 * o))) (nI (ob_u T w qt gt o)) 13 0 12).1 16 0 j = nI (gt j) := fun j hj => by rw [H2 16 (by omega) (by omega)]; exact (A.2.1 j hj).1
  have r17 : ∀ j, j < 20 → (g_X1_takePieces (g_X1_takePieces h c (nI (w (93 + 8 * o))) (nI (ob_u T w qt gt o)) 14 0 12) c (nI (w (93 + 8 * o))) (nI (ob_u T w qt gt o)) 13 0 12).1 17 0 j = fr j := fun j hj => by rw [H2 17 (by omega) (by omega)]; exact (A.2.1 j hj).2
  have r18 : ∀ j, j < 6 → (g_X1_takePieces (g_X1_takePieces h c (nI (w (93 + 8 * o))) (nI (ob_u T w qt gt o)) 14 0 12) c (nI (w (93 + 8 * o))) (nI (ob_u T w qt gt o)) 13 0 12).1 18 0 j = gv j := fun j hj => by rw [H2 18 (by omega) (by omega)]; exact A.2.2 j hj
  have r16o := r16 o (by omega)
  have r17o := r17 o (by omega)
  have r18r := r18 r hr
  generalize hH : g_X1_takePieces (g_X1_takePieces h c (nI (w (93 + 8 * o))) (nI (ob_u T w qt gt o)) 14 0 12) c (nI (w (93 + 8 * o))) (nI (ob_u T w qt gt o)) 13 0 12 = H at *
  have fin : ∀ x, x = (if fr o = -1 then nI r else fr o) → AL (hp_i (hp_i (hp_i H 16 0 o (nI (gt o) + nI (ob_u T w qt gt o))) 18 0 r (gv r + nI (ob_u T w qt gt o))) 17 0 o x) (ob_tk T (ob_u T w qt gt o) (w (93 + 8 * o)) lf) (ob_tk T (ob_u T w qt gt o) (w (93 + 8 * o)) qt) (ob_at gt o (gt o + ob_u T w qt gt o)) (ob_fr fr o r) (ob_at gv r (gv r + nI (ob_u T w qt gt o))) := by
    intro x hx
    refine ⟨fun p hp => ⟨h13 p hp, h14 p hp⟩, fun j hj => ⟨?_, ?_⟩, fun j hj => ?_⟩
    · have e : (hp_i (hp_i (hp_i H 16 0 o (nI (gt o) + nI (ob_u T w qt gt o))) 18 0 r (gv r + nI (ob_u T w qt gt o))) 17 0 o x).1 16 0 j = (hp_i H 16 0 o (nI (gt o) + nI (ob_u T w qt gt o))).1 16 0 j := rfl
      rw [e, hp_i_g]
      unfold ob_at
      by_cases d : j = o
      · rw [if_pos d, if_pos d, nI_add]
      · rw [if_neg d, if_neg d]; exact r16 j hj
    · rw [hp_i_g]
      unfold ob_fr
      by_cases d : j = o
      · rw [if_pos d, if_pos d, hx]
      · rw [if_neg d, if_neg d]; exact r17 j hj
    · have e : (hp_i (hp_i (hp_i H 16 0 o (nI (gt o) + nI (ob_u T w qt gt o))) 18 0 r (gv r + nI (ob_u T w qt gt o))) 17 0 o x).1 18 0 j = (hp_i (hp_i H 16 0 o (nI (gt o) + nI (ob_u T w qt gt o))) 18 0 r (gv r + nI (ob_u T w qt gt o))).1 18 0 j := rfl
      rw [e, hp_i_g]
      unfold ob_at
      by_cases d : j = r
      · rw [if_pos d, if_pos d]
      · rw [if_neg d, if_neg d]; exact r18 j hj
  unfold p_X0_serve g_X0_serve ob_ok
  simp only [a1, a2, ag, am, es, hu, eq, le, a3, hH, nI_clamp (show o < 2 ^ 31 by omega), nI_clamp (show r < 2 ^ 31 by omega), r16o, r17o, r18r, in1, in2, wz]
  by_cases d1 : ob_u T w qt gt o = oa_open w o - gt o
  · by_cases d2 : ob_u T w qt gt o ≤ 0
    · have d3 : ¬ 0 < ob_u T w qt gt o := by omega
      simp [d1, d3]
      omega
    · have d3 : 0 < ob_u T w qt gt o := by omega
      have d4 : ¬ oa_open w o - gt o ≤ 0 := by omega
      by_cases d5 : fr o = -1
      · have f := fin (nI r) (by rw [if_pos d5])
        rw [d1] at f ⊢ tk tk2
        simp [d4, d5, vo, vr, tk.1, tk2.1, f]
      · have f := fin (fr o) (by rw [if_neg d5])
        rw [d1] at f ⊢ tk tk2
        simp [d4, d5, vo, vr, tk.1, tk2.1, f]
  · by_cases d2 : ob_u T w qt gt o ≤ 0
    · have d3 : ¬ 0 < ob_u T w qt gt o := by omega
      simp [d1, d2, d3]
    · have d3 : 0 < ob_u T w qt gt o := by omega
      by_cases d6 : w (93 + 8 * o + 4) = 0
      · by_cases d5 : fr o = -1
        · have f := fin (nI r) (by rw [if_pos d5])
          simp [d1, d2, d3, d5, d6, vo, vr, tk.1, tk2.1, f]
        · have f := fin (fr o) (by rw [if_neg d5])
          simp [d1, d2, d3, d5, d6, vo, vr, tk.1, tk2.1, f]
      · simp [d1, d2, d3, d6]
end QAJ
