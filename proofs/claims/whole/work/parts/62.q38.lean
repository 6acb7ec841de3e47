theorem oa_sum_snoc {f : Nat → Nat} : ∀ (m k : Nat), oa_sum f k (m + 1) = oa_sum f k m + f (k + m) := by
  intro m
  induction m with
  | zero => intro k; simp [oa_sum]
  | succ m ih =>
    intro k
    have s1 : oa_sum f k (m + 1 + 1) = f k + oa_sum f (k + 1) (m + 1) := rfl
    have s2 : oa_sum f k (m + 1) = f k + oa_sum f (k + 1) m := rfl
    rw [s1, s2, ih (k + 1), show k + 1 + m = k + (m + 1) by omega]
    omega
theorem oa_sum_snoc0 {f : Nat → Nat} (m : Nat) : oa_sum f 0 (m + 1) = oa_sum f 0 m + f (0 + m) := oa_sum_snoc m 0
section RAE
variable {h hm h' hm' : Hp} {L : Nat} {v v' : Nat → Int32} {T w w' : Nat → Nat} {n n' S : Nat}
theorem RW.mono (A : RW h hm T w S n) (hn : n ≤ n') : RW h hm T w S n' := by
  obtain ⟨B, s1, s2, H, r⟩ := A
  exact ⟨B.mono hn, by omega, s2, H.mono hn, r⟩
theorem RW.thr {x : Int32} (A : RW h hm T w S n) : RW h (hp_i hm 12 0 0 x) T w S n := A
theorem RW.ra (A : RW h hm T w S n) : RA h hm n := RA_iff.mpr ⟨T, w, S, A⟩
/-- totals and log as they were -/
theorem RT.keep (R : RT h L v w S) (w3 : w 3 ≤ 16) (hc : ∀ t, 44 ≤ t → t ≤ 47 → h'.1 t L = h.1 t L) (hv : ∀ k, (4 ≤ k ∧ k ≤ 8) ∨ (253 ≤ k ∧ k < 301) → v' k = v k) (hw : w' 3 = w 3) : RT h' L v' w' S := by
  obtain ⟨r1, r2, r3, r4⟩ := R
  refine ⟨fun k hk => by rw [hc 44 (by omega) (by omega), hv _ (by omega)]; exact r1 k hk, by rw [hv 4 (by omega)]; exact r2, by rw [hw]; exact r3, fun j hj => ?_⟩
  rw [hw] at hj ⊢
  rw [hc 45 (by omega) (by omega), hc 46 (by omega) (by omega), hc 47 (by omega) (by omega), hv _ (by omega), hv _ (by omega), hv _ (by omega)]
  exact r4 j hj
/-- orders and reservations as they were -/
theorem oa_sum_same {p : Nat} (h1 : w' 1 = w 1) (hw : ∀ j, 93 ≤ j → j < 253 → w' j = w j) (hl : w 1 ≤ 20) : oa_sum (fun o => w' (93 + 8 * o + 6) * oa_need T (w' (93 + 8 * o)) p) 0 (w' 1) = oa_sum (fun o => w (93 + 8 * o + 6) * oa_need T (w (93 + 8 * o)) p) 0 (w 1) := by
  rw [h1]
  exact oa_sum_congr _ _ (fun j _ hj => by rw [hw _ (by omega) (by omega), hw _ (by omega) (by omega)])
theorem ob_pend_same {p : Nat} (h2 : w' 2 = w 2) (hw : ∀ j, 33 ≤ j → j < 93 → w' j = w j) (hl : w 2 ≤ 20) : ob_pend w' p = ob_pend w p := by
  unfold ob_pend
  rw [h2]
  exact oa_sum_congr _ _ (fun j _ hj => by rw [hw _ (by omega) (by omega), hw _ (by omega) (by omega)])
theorem IW.orders (I : IW T w n) (h1 : w' 1 = w 1) (hw : ∀ j, 93 ≤ j → j < 253 → w' j = w j) : ∀ o, o < w' 1 → w' (93 + 8 * o) < T 1 ∧ 1 ≤ w' (93 + 8 * o + 1) ∧ w' (93 + 8 * o + 1) ≤ 99 ∧ w' (93 + 8 * o + 2) ≤ 9 ∧ w' (93 + 8 * o + 3) ≤ 999 ∧ w' (93 + 8 * o + 4) ≤ 1 ∧ w' (93 + 8 * o + 5) + w' (93 + 8 * o + 6) ≤ w' (93 + 8 * o + 1) ∧ w' (93 + 8 * o + 7) ≤ 1 ∧ (w' (93 + 8 * o + 7) = 1 → w' (93 + 8 * o + 6) = 0) := by
  intro o ho
  rw [h1] at ho
  have hl := I.1.2.1
  rw [hw _ (by omega) (by omega), hw (93 + 8 * o + 1) (by omega) (by omega), hw (93 + 8 * o + 2) (by omega) (by omega), hw (93 + 8 * o + 3) (by omega) (by omega), hw (93 + 8 * o + 4) (by omega) (by omega), hw (93 + 8 * o + 5) (by omega) (by omega), hw (93 + 8 * o + 6) (by omega) (by omega), hw (93 + 8 * o + 7) (by omega) (by omega)]
  exact I.2.2.2 o ho
def ob_buy (T w : Nat → Nat) (p u : Nat) (j : Nat) : Nat := if j = 33 + 3 * w 2 then p else if j = 33 + 3 * w 2 + 1 then u else if j = 33 + 3 * w 2 + 2 then w 0 + T (176 + p) else if j = 2 then w 2 + 1 else w j
theorem z_buyG {p u : Nat} (A : RW h hm T w S n) (hp : p < T 0) (hu1 : 1 ≤ u) (hu2 : u ≤ 999) (hk : w 2 < 20) (hn : n < 512) :
    RW (hp_i (hp_i (hp_i (hp_i (hp_i h 44 (h.2.2 11 0 7) 4 ((h.1 44 (h.2.2 11 0 7) 4) + nI u)) 50 (h.2.2 11 0 7) (w 2) (nI p)) 51 (h.2.2 11 0 7) (w 2) (nI u)) 52 (h.2.2 11 0 7) (w 2) (nI (w 0 + T (176 + p)))) 10 (h.2.2 11 0 7) 1 (nI (w 2 + 1)))
      (hp_i (hp_i (hp_i (hp_i (hp_i hm 58 0 (33 + 3 * w 2) (nI p)) 58 0 (33 + 3 * w 2 + 1) (nI u)) 58 0 (33 + 3 * w 2 + 2) (nI (w 0 + T (176 + p)))) 58 0 2 (nI (w 2 + 1))) 58 0 8 (hm.1 58 0 8 + nI u)) T (ob_buy T w p u) S (n + 1) := by
  obtain ⟨⟨J, I, R, C, G⟩, s1, s2, -⟩ := id A
  obtain ⟨⟨i0, i1, i2, i3⟩, i4, i5, i6⟩ := id I
  have bT := J.1
  have jl := J.2.1 p hp
  have hw : ∀ j, ¬ j = 2 → ¬ (33 + 3 * w 2 ≤ j ∧ j ≤ 33 + 3 * w 2 + 2) → ob_buy T w p u j = w j := fun j h1 h2 => by
    unfold ob_buy
    rw [if_neg (by omega), if_neg (by omega), if_neg (by omega), if_neg h1]
  have hw2 : ob_buy T w p u 2 = w 2 + 1 := by
    unfold ob_buy
    rw [if_neg (by omega), if_neg (by omega), if_neg (by omega), if_pos rfl]
  have hb0 : ob_buy T w p u (33 + 3 * w 2) = p := by unfold ob_buy; rw [if_pos rfl]
  have hb1 : ob_buy T w p u (33 + 3 * w 2 + 1) = u := by unfold ob_buy; rw [if_neg (by omega), if_pos rfl]
  have hb2 : ob_buy T w p u (33 + 3 * w 2 + 2) = w 0 + T (176 + p) := by unfold ob_buy; rw [if_neg (by omega), if_neg (by omega), if_pos rfl]
  have cm : ∀ j, (hp_i (hp_i (hp_i (hp_i (hp_i hm 58 0 (33 + 3 * w 2) (nI p)) 58 0 (33 + 3 * w 2 + 1) (nI u)) 58 0 (33 + 3 * w 2 + 2) (nI (w 0 + T (176 + p)))) 58 0 2 (nI (w 2 + 1))) 58 0 8 (hm.1 58 0 8 + nI u)).1 58 0 j = if j = 8 then hm.1 58 0 8 + nI u else if j = 2 then nI (w 2 + 1) else if j = 33 + 3 * w 2 + 2 then nI (w 0 + T (176 + p)) else if j = 33 + 3 * w 2 + 1 then nI u else if j = 33 + 3 * w 2 then nI p else hm.1 58 0 j := fun j => by rw [hp_i_g, hp_i_g, hp_i_g, hp_i_g, hp_i_g]
  have hc44 : ∀ k, (hp_i (hp_i (hp_i (hp_i (hp_i h 44 (h.2.2 11 0 7) 4 ((h.1 44 (h.2.2 11 0 7) 4) + nI u)) 50 (h.2.2 11 0 7) (w 2) (nI p)) 51 (h.2.2 11 0 7) (w 2) (nI u)) 52 (h.2.2 11 0 7) (w 2) (nI (w 0 + T (176 + p)))) 10 (h.2.2 11 0 7) 1 (nI (w 2 + 1))).1 44 (h.2.2 11 0 7) k = if k = 4 then (h.1 44 (h.2.2 11 0 7) 4) + nI u else h.1 44 (h.2.2 11 0 7) k := fun k => by rw [hp_i_t (by omega), hp_i_t (by omega), hp_i_t (by omega), hp_i_t (by omega), hp_i_g]
  refine A.upd (by omega) (fun t i ht hh => ?_) rfl rfl (fun t ht h58 => ?_) (fun k hk => rfl) ?_ ?_ ?_ (show S ≤ n + 1 by omega) ?_
  · have q : ∀ t', LG t' → ¬ (t = t' ∧ i = h.2.2 11 0 7) := fun t' lt z => hh ⟨by rw [z.1]; exact lt, z.2⟩
    rw [hp_i_n (q 10 (by unfold LG; omega)), hp_i_n (q 52 (by unfold LG; omega)), hp_i_n (q 51 (by unfold LG; omega)), hp_i_n (q 50 (by unfold LG; omega)), hp_i_n (q 44 (by unfold LG; omega))]
  · rw [hp_i_t h58, hp_i_t h58, hp_i_t h58, hp_i_t h58, hp_i_t h58]
  · refine ⟨⟨?_, ?_, ?_, ?_⟩, fun p' hp' => ?_, fun k hk' => ?_, I.orders (hw 1 (by omega) (by omega)) (fun j h1 h2 => hw j (by omega) (by omega))⟩
    · rw [hw 0 (by omega) (by omega)]; omega
    · rw [hw 1 (by omega) (by omega)]; exact i1
    · rw [hw2]; omega
    · rw [hw 3 (by omega) (by omega)]; exact i3
    · rw [hw (9 + p') (by omega) (by omega), hw (21 + p') (by omega) (by omega), oa_sum_same (hw 1 (by omega) (by omega)) (fun j h1 h2 => hw j (by omega) (by omega)) i1]
      have := i4 p' hp'
      have pd : ob_pend (ob_buy T w p u) p' ≤ ob_pend w p' + u := by
        unfold ob_pend
        rw [hw2, oa_sum_snoc0]
        have e1 : oa_sum (fun k => if ob_buy T w p u (33 + 3 * k) = p' then ob_buy T w p u (33 + 3 * k + 1) else 0) 0 (w 2) = oa_sum (fun k => if w (33 + 3 * k) = p' then w (33 + 3 * k + 1) else 0) 0 (w 2) := oa_sum_congr _ _ (fun j _ hj => by rw [hw (33 + 3 * j) (by omega) (by omega), hw (33 + 3 * j + 1) (by omega) (by omega)])
        have e2 : (if ob_buy T w p u (33 + 3 * (0 + w 2)) = p' then ob_buy T w p u (33 + 3 * (0 + w 2) + 1) else 0) ≤ u := by
          rw [Nat.zero_add, hb0, hb1]
          split <;> omega
        omega
      exact ⟨by omega, this.2⟩
    · rw [hw2] at hk'
      rw [hw 0 (by omega) (by omega)]
      by_cases z : k = w 2
      · rw [z, hb0, hb1, hb2]
        have : w 2 = 0 ∨ w 2 - 1 < n := by
          by_cases y : w 2 = 0
          · exact Or.inl y
          · exact Or.inr (i5 (w 2 - 1) (by omega)).2.2.2.2.2
        omega
      · rw [hw (33 + 3 * k) (by omega) (by omega), hw (33 + 3 * k + 1) (by omega) (by omega), hw (33 + 3 * k + 2) (by omega) (by omega)]
        have := i5 k (by omega)
        omega
  · intro j h1 h2
    rw [cm j]
    rcases (show j = 2 ∨ j = 33 + 3 * w 2 ∨ j = 33 + 3 * w 2 + 1 ∨ j = 33 + 3 * w 2 + 2 ∨ (¬ j = 2 ∧ ¬ (33 + 3 * w 2 ≤ j ∧ j ≤ 33 + 3 * w 2 + 2)) by omega) with z | z | z | z | ⟨z1, z2⟩
    · rw [z, hw2, if_neg (by omega), if_pos rfl]
    · rw [z, hb0, if_neg (by omega), if_neg (by omega), if_neg (by omega), if_neg (by omega), if_pos rfl]
    · rw [z, hb1, if_neg (by omega), if_neg (by omega), if_neg (by omega), if_pos rfl]
    · rw [z, hb2, if_neg (by omega), if_neg (by omega), if_pos rfl]
    · rw [hw j z1 z2, if_neg (by omega), if_neg z1, if_neg (by omega), if_neg (by omega), if_neg (by omega)]
      exact R.2 j h1 h2
  · obtain ⟨⟨g1, g2, g3⟩, g4, g5, g6⟩ := id G
    refine ⟨⟨?_, ?_, ?_⟩, fun p' hp' => ?_, fun k hk' => ?_, fun o ho => ?_⟩
    · rw [hw 0 (by omega) (by omega), hp_i_g, if_neg (by omega)]; exact g1
    · rw [hw 1 (by omega) (by omega)]; exact g2
    · rw [hw2, hp_i_g, if_pos rfl]
    · rw [hw (9 + p') (by omega) (by omega), hw (21 + p') (by omega) (by omega)]; exact g4 p' hp'
    · rw [hw2] at hk'
      rw [hp_i_t (show ¬ 50 = 10 by omega), hp_i_t (show ¬ 50 = 52 by omega), hp_i_t (show ¬ 50 = 51 by omega), hp_i_g, hp_i_t (show ¬ 51 = 10 by omega), hp_i_t (show ¬ 51 = 52 by omega), hp_i_g, hp_i_t (show ¬ 52 = 10 by omega), hp_i_g]
      by_cases z : k = w 2
      · rw [if_pos z, if_pos z, if_pos z, z, hb0, hb1, hb2]
        exact ⟨rfl, rfl, rfl⟩
      · rw [if_neg z, if_neg z, if_neg z, hw (33 + 3 * k) (by omega) (by omega), hw (33 + 3 * k + 1) (by omega) (by omega), hw (33 + 3 * k + 2) (by omega) (by omega)]
        exact g5 k (by omega)
    · rw [hw 1 (by omega) (by omega)] at ho
      rw [hw (93 + 8 * o) (by omega) (by omega), hw (93 + 8 * o + 1) (by omega) (by omega), hw (93 + 8 * o + 2) (by omega) (by omega), hw (93 + 8 * o + 3) (by omega) (by omega), hw (93 + 8 * o + 4) (by omega) (by omega), hw (93 + 8 * o + 5) (by omega) (by omega), hw (93 + 8 * o + 6) (by omega) (by omega), hw (93 + 8 * o + 7) (by omega) (by omega)]
      exact g6 o ho
  · obtain ⟨r1, r2, r3, r4⟩ := s2
    refine ⟨fun k hk' => ?_, ?_, ?_, fun j hj => ?_⟩
    · rw [hc44, cm]
      by_cases z : k = 4
      · rw [if_pos z, if_pos (by omega), r1 4 (by omega)]
      · rw [if_neg z, if_neg (by omega), if_neg (by omega), if_neg (by omega), if_neg (by omega), if_neg (by omega)]
        exact r1 k hk'
    · rw [cm, if_neg (by omega), if_neg (by omega), if_neg (by omega), if_neg (by omega), if_neg (by omega)]
      exact r2
    · rw [hw 3 (by omega) (by omega)]; exact r3
    · rw [hw 3 (by omega) (by omega)] at hj ⊢
      rw [cm, cm, cm, if_neg (by omega), if_neg (by omega), if_neg (by omega), if_neg (by omega), if_neg (by omega), if_neg (by omega), if_neg (by omega), if_neg (by omega), if_neg (by omega), if_neg (by omega), if_neg (by omega), if_neg (by omega), if_neg (by omega), if_neg (by omega), if_neg (by omega)]
      exact r4 j hj
theorem k_state (h : Hp) {a : Nat} (ha : a ≤ 20) : p_X11_checkState h (if (20 : Int32) ≤ nI a then (0 : Int32) else 1) ∧ ((a < 20 ∧ x_X11_checkState h (if (20 : Int32) ≤ nI a then (0 : Int32) else 1) = 0 ∧ (if ¬ nI a = 20 then (0 : Int32) else 1) = 0) ∨ (a = 20 ∧ x_X11_checkState h (if (20 : Int32) ≤ nI a then (0 : Int32) else 1) = 3 ∧ (if ¬ nI a = 20 then (0 : Int32) else 1) = 1)) := by
  have l1 : ((20 : Int32) ≤ nI a) ↔ 20 ≤ a := nI_leI (a := 20) (by omega) (by omega)
  have l2 : (nI a = 20) ↔ a = 20 := nI_eq (b := 20) (by omega) (by omega)
  simp only [l1, l2]
  by_cases z : a = 20
  · have z1 : 20 ≤ a := by omega
    refine ⟨?_, Or.inr ⟨z, ?_, ?_⟩⟩ <;> simp [p_X11_checkState, x_X11_checkState, z]
  · have z1 : ¬ 20 ≤ a := by omega
    refine ⟨?_, Or.inl ⟨by omega, ?_, ?_⟩⟩ <;> simp [p_X11_checkState, x_X11_checkState, z, z1]
theorem z_buy (hn : n < 512) (A : RA h hm n) (a u : Int32) : p_X11_buy h a u ∧ p_X12_buy hm a u ∧ ZT (x_X11_buy h a u) (f_X11_buy h a u) (f_X12_buy hm a u) (g_X12_buy hm a u) [(1, 1), (2, 2), (3, 3)] ∧ RA (g_X11_buy h a u) (g_X12_buy hm a u) (n + 1) := by
  obtain ⟨T, w, S, W⟩ := RA_iff.mp A
  obtain ⟨p1, p2, k⟩ := kk_part W.1 a
  obtain ⟨J, I, R, C, G⟩ := id W.1
  have bT := J.1
  have ka := k_arg (hp_i hm 12 0 0 0) u 999 (by omega)
  have e9 : nI 999 = 999 := rfl
  rw [e9] at ka
  have ks := k_state h I.1.2.2.1
  have r2 : ∀ x y, (hp_i (hp_i hm 12 0 0 x) 12 0 0 y).1 58 0 2 = nI (w 2) := fun x y => R.2 2 (by omega) (by omega)
  have r2' : ∀ x, (hp_i hm 12 0 0 x).1 58 0 2 = nI (w 2) := fun x => R.2 2 (by omega) (by omega)
  have Ah : ∀ x, RA h (hp_i (hp_i hm 12 0 0 0) 12 0 0 x) (n + 1) := fun x => (A.thr.thr).mono (by omega)
  have z1 : ∀ x : Int32, (hp_i (hp_i hm 12 0 0 0) 12 0 0 x).1 12 0 0 = x := fun x => rfl
  unfold p_X11_buy p_X12_buy x_X11_buy f_X11_buy f_X12_buy g_X11_buy g_X12_buy ZT
  rcases k with ⟨p, hp, rfl, x1, f1, g1⟩ | ⟨x1, f1, g1⟩
  · rcases ka.2 with ⟨v, hv1, hv2, rfl, i1, i2⟩ | ⟨i1, i2⟩
    · rcases ks.2 with ⟨c1, c2, c3⟩ | ⟨c1, c2, c3⟩
      · obtain ⟨q1, q2, W', q4⟩ := RW.record (W.thr (x := 0))
        obtain ⟨J', I', R', C', G'⟩ := id W'.1
        have gr : (g_X3_record h (h.2.2 11 0 7)).2.2 = h.2.2 := gr_X3_record
        have fin := z_buyG W' hp hv1 hv2 c1 hn
        rw [gr] at fin C' G'
        generalize hH : g_X3_record h (h.2.2 11 0 7) = H at *
        generalize hK : g_X12_keeps (hp_i hm 12 0 0 0) = K at *
        have k2 : K.1 58 0 2 = nI (w 2) := R'.2 2 (by omega) (by omega)
        have k0 : K.1 58 0 0 = nI (w 0) := R'.2 0 (by omega) (by omega)
        have kt : K.1 56 0 (176 + p) = nI (T (176 + p)) := R'.1 _ (by omega)
        have ix0 : (33 : Int32) + 3 * nI (w 2) = nI (33 + 3 * w 2) := oa_ix2 33 3 _
        have ix1 : nI (33 + 3 * w 2) + 1 = nI (33 + 3 * w 2 + 1) := nI_add _ 1
        have ix2 : nI (33 + 3 * w 2) + 2 = nI (33 + 3 * w 2 + 2) := nI_add _ 2
        have ixt : (176 : Int32) + nI p = nI (176 + p) := nI_add 176 p
        have v0 : vp_in (nI (33 + 3 * w 2)) 301 := vp_in_nI (by omega) (by omega)
        have v1 : vp_in (nI (33 + 3 * w 2 + 1)) 301 := vp_in_nI (by omega) (by omega)
        have v2 : vp_in (nI (33 + 3 * w 2 + 2)) 301 := vp_in_nI (by omega) (by omega)
        have vt : vp_in (nI (176 + p)) 506 := vp_in_nI (by omega) (by omega)
        have vw : vp_in (nI (w 2)) 20 := vp_in_nI (by omega) (by omega)
        have C2 : RC (hp_i H 44 (h.2.2 11 0 7) 4 (H.1 44 (h.2.2 11 0 7) 4 + nI v)) (h.2.2 11 0 6) T := C'.same (fun t ht i => hp_i_t (by omega)) hp_i_21
        have al := a_lead J C2 hp
        have h101 : (hp_i H 44 (h.2.2 11 0 7) 4 (H.1 44 (h.2.2 11 0 7) 4 + nI v)).1 10 (h.2.2 11 0 7) 1 = nI (w 2) := by rw [hp_i_t (show ¬ 10 = 44 by omega)]; exact G'.1.2.2
        have h100 : (hp_i H 44 (h.2.2 11 0 7) 4 (H.1 44 (h.2.2 11 0 7) 4 + nI v)).1 10 (h.2.2 11 0 7) 0 = nI (w 0) := by rw [hp_i_t (show ¬ 10 = 44 by omega)]; exact G'.1.1
        have nle : ¬ (20 : Int32) ≤ nI (w 2) := nI_ge (b := 20) (by omega) (by omega)
        have eC : g_X10_addArrival (hp_i H 44 (h.2.2 11 0 7) 4 (H.1 44 (h.2.2 11 0 7) 4 + nI v)) (h.2.2 11 0 7) (nI p) (nI v) (nI (T (176 + p))) = hp_i (hp_i (hp_i (hp_i (hp_i H 44 (h.2.2 11 0 7) 4 ((H.1 44 (h.2.2 11 0 7) 4) + nI v)) 50 (h.2.2 11 0 7) (w 2) (nI p)) 51 (h.2.2 11 0 7) (w 2) (nI v)) 52 (h.2.2 11 0 7) (w 2) (nI (w 0 + T (176 + p)))) 10 (h.2.2 11 0 7) 1 (nI (w 2 + 1)) := by
          unfold g_X10_addArrival
          rw [h101, h100, if_neg nle, nI_clamp (show w 2 < 2 ^ 31 by omega), nI_add, ← nI_succ]
        have eM : ∀ j, hp_i (hp_i (hp_i (hp_i (hp_i K 58 0 (33 + 3 * w 2) (nI p)) 58 0 (33 + 3 * w 2 + 1) (nI v)) 58 0 (33 + 3 * w 2 + 2) (((hp_i (hp_i K 58 0 (33 + 3 * w 2) (nI p)) 58 0 (33 + 3 * w 2 + 1) (nI v)).1 58 0 0) + nI (T (176 + p)))) 58 0 2 (((hp_i (hp_i (hp_i K 58 0 (33 + 3 * w 2) (nI p)) 58 0 (33 + 3 * w 2 + 1) (nI v)) 58 0 (33 + 3 * w 2 + 2) (((hp_i (hp_i K 58 0 (33 + 3 * w 2) (nI p)) 58 0 (33 + 3 * w 2 + 1) (nI v)).1 58 0 0) + nI (T (176 + p)))).1 58 0 2) + 1)) 58 0 8 (j + nI v) = hp_i (hp_i (hp_i (hp_i (hp_i K 58 0 (33 + 3 * w 2) (nI p)) 58 0 (33 + 3 * w 2 + 1) (nI v)) 58 0 (33 + 3 * w 2 + 2) (nI (w 0 + T (176 + p)))) 58 0 2 (nI (w 2 + 1))) 58 0 8 (j + nI v) := by
          intro j
          have a0 : (hp_i (hp_i K 58 0 (33 + 3 * w 2) (nI p)) 58 0 (33 + 3 * w 2 + 1) (nI v)).1 58 0 0 = nI (w 0) := by rw [hp_i_g, if_neg (by omega), hp_i_g, if_neg (by omega)]; exact k0
          rw [a0, nI_add, hp_i_g, if_neg (by omega), hp_i_g, if_neg (by omega), hp_i_g, if_neg (by omega), k2, ← nI_succ]
        have e8 : ∀ x y, (hp_i (hp_i (hp_i (hp_i K 58 0 (33 + 3 * w 2) (nI p)) 58 0 (33 + 3 * w 2 + 1) (nI v)) 58 0 (33 + 3 * w 2 + 2) x) 58 0 2 y).1 58 0 8 = K.1 58 0 8 := fun x y => by rw [hp_i_g, if_neg (by omega), hp_i_g, if_neg (by omega), hp_i_g, if_neg (by omega), hp_i_g, if_neg (by omega)]
        have hR := fin.ra
        have n20 : ¬ nI (w 2) = 20 := fun z => by rw [if_neg (fun y => y z)] at c3; exact absurd c3 (by decide)
        have q5 : K.1 12 0 0 = 0 := q4
        simp [p_X12_throwsIf, f_X12_throwsIf, g_X12_throwsIf, p_X11_checkArgument, x_X11_checkArgument, x1, f1, g1, i1, i2, G.1.2.2, r2', n20, p_X11_checkState, x_X11_checkState, p1, p2, ka.1, hH, hK, gr, p_X8_addBought, g_X8_addBought, al, hp_i_22, eC, k2, ix0, ix1, ix2, ixt, nI_clamp (show 33 + 3 * w 2 < 2 ^ 31 by omega), nI_clamp (show 33 + 3 * w 2 + 1 < 2 ^ 31 by omega), nI_clamp (show 33 + 3 * w 2 + 2 < 2 ^ 31 by omega), nI_clamp (show 176 + p < 2 ^ 31 by omega), kt, e8, eM, q1, q2, v0, v1, v2, vt, p_X10_addArrival, f_X10_addArrival, h101, h100, nle, vw, nI_add, hR]
        refine ⟨?_, ?_⟩
        · rw [hp_i_g, if_neg (by omega), hp_i_g, if_neg (by omega), hp_i_g, if_pos rfl]
        · exact q5
      · have eq20 : nI (w 2) = 20 := by rw [c1]; rfl
        simp [p1, p2, x1, f1, g1, ka.1, i1, i2, G.1.2.2, r2', eq20, p_X11_checkState, x_X11_checkState, z1, p_X11_checkArgument, x_X11_checkArgument, p_X12_throwsIf, f_X12_throwsIf, g_X12_throwsIf]
        exact Ah 3
    · simp [p1, p2, x1, f1, g1, ka.1, i1, i2, z1, p_X11_checkArgument, x_X11_checkArgument, p_X12_throwsIf, f_X12_throwsIf, g_X12_throwsIf]
      exact Ah 2
  · simp [p1, p2, x1, f1, g1, z1]
    exact Ah 1
end RAE
