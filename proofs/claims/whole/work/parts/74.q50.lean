section RAQ
variable {h hm h' hm' K : Hp} {c L : Nat} {T w w' v : Nat → Nat} {n n' S N d s k : Nat}
theorem RW.day (A : RW h hm T w S n) (hd : w 0 + 1 ≤ 100 * n) : p_X10_passDay h (h.2.2 11 0 7) ∧ p_X12_comesNow (hp_i hm 58 0 0 ((hm.1 58 0 0) + 1)) ∧ f_X10_passDay h (h.2.2 11 0 7) = f_X12_comesNow (hp_i hm 58 0 0 ((hm.1 58 0 0) + 1)) ∧ (∃ w', RW (g_X10_passDay h (h.2.2 11 0 7)) (g_X12_comesNow (hp_i hm 58 0 0 ((hm.1 58 0 0) + 1))) T w' S n ∧ w' 0 = w 0 + 1) ∧ (g_X12_comesNow (hp_i hm 58 0 0 ((hm.1 58 0 0) + 1))).1 12 0 = hm.1 12 0 := by
  obtain ⟨⟨J, I, R, C, G⟩, s1, s2, -⟩ := id A
  obtain ⟨⟨i0, i1, i2, i3⟩, i4, i5, i6⟩ := id I
  obtain ⟨⟨g1, g2, g3⟩, g4, g5, g6⟩ := id G
  have bT := J.1
  have m0 : hm.1 58 0 0 + 1 = nI (w 0 + 1) := by rw [R.2 0 (by omega) (by omega), ← nI_succ]
  have c0 : h.1 10 (h.2.2 11 0 7) 0 + 1 = nI (w 0 + 1) := by rw [g1, ← nI_succ]
  have v0 : ob_at w 0 (w 0 + 1) 0 = w 0 + 1 := by unfold ob_at; rw [if_pos rfl]
  have vn : ∀ j, ¬ j = 0 → ob_at w 0 (w 0 + 1) j = w j := fun j hj => by unfold ob_at; rw [if_neg hj]
  have D0 : DI T w (ob_at w 0 (w 0 + 1)) (w 2) (w 0 + 1) 0 0 := by
    refine ⟨Nat.le_refl _, i2, fun j hj => by omega, fun j h1 h2 => ?_, fun p hp => ?_, fun j h1 h2 h3 => vn j h1, v0⟩
    · rw [vn _ (by omega), vn _ (by omega), vn _ (by omega)]
      have := i5 j h2
      omega
    · rw [vn _ (by omega)]
      refine ⟨Nat.le_refl _, ?_⟩
      have e1 : oa_sum (ob_ap (ob_at w 0 (w 0 + 1)) p) 0 0 = 0 := rfl
      have e2 : oa_sum (ob_ap (ob_at w 0 (w 0 + 1)) p) 0 (w 2 - 0) = ob_pend w p := by
        rw [Nat.sub_zero]
        exact oa_sum_congr _ _ (fun j _ _ => by unfold ob_ap; rw [vn _ (by omega), vn _ (by omega)])
      rw [e1, e2]
      omega
  have M0 : DM (hp_i hm 58 0 0 (nI (w 0 + 1))) (ob_at w 0 (w 0 + 1)) := fun j h1 h2 => by
    rw [hp_i_g]
    by_cases z : j = 0
    · rw [if_pos z, z, v0]
    · rw [if_neg z, vn j z]; exact R.2 j h1 h2
  have C0 : DC (hp_i h 10 (h.2.2 11 0 7) 0 (nI (w 0 + 1))) (h.2.2 11 0 7) (ob_at w 0 (w 0 + 1)) (w 2) := by
    refine ⟨by rw [hp_i_g, if_pos rfl, v0], by rw [hp_i_g, if_neg (by omega)]; exact g3, fun p hp => ?_, fun j hj => ?_⟩
    · rw [hp_i_t (by omega), vn _ (by omega)]; exact (g4 p hp).1
    · rw [hp_i_t (by omega), hp_i_t (by omega), hp_i_t (by omega), vn _ (by omega), vn _ (by omega), vn _ (by omega)]; exact g5 j hj
  obtain ⟨e, he⟩ := oa_fuel (show w 2 < 1000000 by omega)
  obtain ⟨r1, r2, r3, v', s', t1, t2, t3, t4, t6, t7, t8, t9⟩ := s_day (d := w 0 + 1) J rfl (w 2) 0 0 e e _ _ _ (by omega) D0 M0 C0
  rw [← he, nI_0] at r1 t6 t7 t8 t9
  rw [← he, Nat.sub_self, nI_0] at r2 r3 t2 t3 t4
  obtain ⟨d1, d2, d3, d4, d5, d6, d7⟩ := id t1
  have gC : g_X10_passDay h (h.2.2 11 0 7) = gw_X10_passDay_14 oa_N (hp_i h 10 (h.2.2 11 0 7) 0 (nI (w 0 + 1))) (h.2.2 11 0 7) 0 0 := by unfold g_X10_passDay; rw [c0]
  have gM : g_X12_comesNow (hp_i hm 58 0 0 ((hm.1 58 0 0) + 1)) = gw_X12_comesNow_6 oa_N (hp_i hm 58 0 0 (nI (w 0 + 1))) 0 0 0 := by unfold g_X12_comesNow; rw [m0]
  have fC : ∀ t i, ¬ ((t = 10 ∨ t = 48 ∨ t = 50 ∨ t = 51 ∨ t = 52) ∧ i = h.2.2 11 0 7) → (g_X10_passDay h (h.2.2 11 0 7)).1 t i = h.1 t i := fun t i z => fr_X10_passDay (by omega) (by omega) (by omega) (by omega) (by omega)
  have hw : ∀ j, ¬ j = 0 → ¬ j = 2 → ¬ (9 ≤ j ∧ j < 21) → ¬ (33 ≤ j ∧ j < 93) → (if j = 2 then s' else v' j) = w j := fun j z0 z2 z9 z33 => by rw [if_neg z2]; exact d6 j z0 z9 z33
  refine ⟨?_, ?_, ?_, ⟨fun j => if j = 2 then s' else v' j, A.upd (Nat.le_refl _) (fun t i ht hh => fC t i (fun z => hh ⟨by unfold LG; omega, z.2⟩)) gl_X10_passDay gr_X10_passDay (fun t ht h58 => by rw [gM, t4 t h58, hp_i_t h58]) (fun k hk => by rw [gM, t4 12 (by omega), hp_i_t (by omega)]) ?_ (fun j h1 h2 => by rw [gM]; exact t2 j h1 h2) ?_ s1 (s2.keep i3 (fun t h1 h2 => fC t _ (by omega)) (fun k hk => ?_) (hw 3 (by omega) (by omega) (by omega) (by omega))), ?_⟩, ?_⟩
  · unfold p_X10_passDay; rw [c0]; exact r1
  · unfold p_X12_comesNow; rw [m0]; exact r2
  · unfold f_X10_passDay f_X12_comesNow; rw [c0, m0]; exact r3
  · have hs : s' ≤ w 2 := d1
    refine ⟨⟨?_, ?_, ?_, ?_⟩, fun p hp => ?_, fun k hk => ?_, fun o ho => ?_⟩
    · show (if 0 = 2 then s' else v' 0) ≤ 100 * n
      rw [if_neg (by omega), d7]; exact hd
    · show (if 1 = 2 then s' else v' 1) ≤ 20
      rw [hw 1 (by omega) (by omega) (by omega) (by omega)]; exact i1
    · show (if 2 = 2 then s' else v' 2) ≤ 20
      rw [if_pos rfl]; omega
    · show (if 3 = 2 then s' else v' 3) ≤ 16
      rw [hw 3 (by omega) (by omega) (by omega) (by omega)]; exact i3
    · obtain ⟨p1, p2, p3⟩ := i4 p hp
      obtain ⟨e1, e2⟩ := d5 p hp
      have ep : ob_pend (fun j => if j = 2 then s' else v' j) p = oa_sum (ob_ap v' p) 0 s' := by
        show oa_sum (fun k => if (if 33 + 3 * k = 2 then s' else v' (33 + 3 * k)) = p then (if 33 + 3 * k + 1 = 2 then s' else v' (33 + 3 * k + 1)) else 0) 0 (if 2 = 2 then s' else v' 2) = _
        rw [if_pos rfl]
        exact oa_sum_congr _ _ (fun j _ _ => by unfold ob_ap; rw [if_neg (show ¬ 33 + 3 * j = 2 by omega), if_neg (show ¬ 33 + 3 * j + 1 = 2 by omega)])
      have e9 : (if 9 + p = 2 then s' else v' (9 + p)) = v' (9 + p) := if_neg (by omega)
      have e21 : (if 21 + p = 2 then s' else v' (21 + p)) = w (21 + p) := hw _ (by omega) (by omega) (by omega) (by omega)
      have es := oa_sum_same (T := T) (w := w) (w' := fun j => if j = 2 then s' else v' j) (p := p) (hw 1 (by omega) (by omega) (by omega) (by omega)) (fun j h1 h2 => hw j (by omega) (by omega) (by omega) (by omega)) i1
      rw [ep, es]
      show (if 9 + p = 2 then s' else v' (9 + p)) + oa_sum (ob_ap v' p) 0 s' ≤ 9999 + 999 * n ∧ (if 21 + p = 2 then s' else v' (21 + p)) ≤ (if 9 + p = 2 then s' else v' (9 + p)) ∧ (p < T 0 → (if 21 + p = 2 then s' else v' (21 + p)) = _)
      rw [e9, e21]
      exact ⟨by omega, by omega, p3⟩
    · have hk' : k < (if 2 = 2 then s' else v' 2) := hk
      rw [if_pos rfl] at hk'
      show (if 33 + 3 * k = 2 then s' else v' (33 + 3 * k)) < T 0 ∧ 1 ≤ (if 33 + 3 * k + 1 = 2 then s' else v' (33 + 3 * k + 1)) ∧ (if 33 + 3 * k + 1 = 2 then s' else v' (33 + 3 * k + 1)) ≤ 999 ∧ (if 0 = 2 then s' else v' 0) < (if 33 + 3 * k + 2 = 2 then s' else v' (33 + 3 * k + 2)) ∧ (if 33 + 3 * k + 2 = 2 then s' else v' (33 + 3 * k + 2)) ≤ (if 0 = 2 then s' else v' 0) + 60 ∧ k < n
      rw [if_neg (show ¬ 33 + 3 * k = 2 by omega), if_neg (show ¬ 33 + 3 * k + 1 = 2 by omega), if_neg (show ¬ 33 + 3 * k + 2 = 2 by omega), if_neg (show ¬ 0 = 2 by omega), d7]
      have x1 := d3 k hk'
      have x2 := (i5 k (by omega)).2.2.2.2.2
      omega
    · exact I.orders (w' := fun j => if j = 2 then s' else v' j) (hw 1 (by omega) (by omega) (by omega) (by omega)) (fun j h1 h2 => hw j (by omega) (by omega) (by omega) (by omega)) o ho
  · rw [gC]
    refine ⟨⟨?_, ?_, ?_⟩, fun p hp => ⟨?_, ?_⟩, fun k hk => ?_, fun o ho => ?_⟩
    · rw [t6]
      show nI (w 0 + 1) = nI (if 0 = 2 then s' else v' 0)
      rw [if_neg (by omega), d7]
    · rw [← gC, fC 6 _ (by omega), g2]
      show nI (w 1) = nI (if 1 = 2 then s' else v' 1)
      rw [hw 1 (by omega) (by omega) (by omega) (by omega)]
    · rw [t7]
      show nI s' = nI (if 2 = 2 then s' else v' 2)
      rw [if_pos rfl]
    · rw [t8 p hp]
      show nI (v' (9 + p)) = nI (if 9 + p = 2 then s' else v' (9 + p))
      rw [if_neg (by omega)]
    · rw [← gC, fC 49 _ (by omega), (g4 p hp).2]
      show nI (w (21 + p)) = nI (if 21 + p = 2 then s' else v' (21 + p))
      rw [hw _ (by omega) (by omega) (by omega) (by omega)]
    · have hk' : k < (if 2 = 2 then s' else v' 2) := hk
      rw [if_pos rfl] at hk'
      have hs : s' ≤ w 2 := d1
      obtain ⟨x1, x2, x3⟩ := t9 k (by omega)
      rw [x1, x2, x3]
      show nI (v' (33 + 3 * k)) = nI (if 33 + 3 * k = 2 then s' else v' (33 + 3 * k)) ∧ nI (v' (33 + 3 * k + 1)) = nI (if 33 + 3 * k + 1 = 2 then s' else v' (33 + 3 * k + 1)) ∧ nI (v' (33 + 3 * k + 2)) = nI (if 33 + 3 * k + 2 = 2 then s' else v' (33 + 3 * k + 2))
      rw [if_neg (show ¬ 33 + 3 * k = 2 by omega), if_neg (show ¬ 33 + 3 * k + 1 = 2 by omega), if_neg (show ¬ 33 + 3 * k + 2 = 2 by omega)]
      exact ⟨rfl, rfl, rfl⟩
    · have ho' : o < (if 1 = 2 then s' else v' 1) := ho
      rw [hw 1 (by omega) (by omega) (by omega) (by omega)] at ho'
      rw [← gC, fC 36 _ (by omega), fC 37 _ (by omega), fC 38 _ (by omega), fC 39 _ (by omega), fC 40 _ (by omega), fC 41 _ (by omega), fC 42 _ (by omega), fC 43 _ (by omega)]
      have x := g6 o ho'
      have y : ∀ j, 93 ≤ j → (fun j => if j = 2 then s' else v' j) j = w j := fun j hj => hw j (by omega) (by omega) (by omega) (by omega)
      rw [y (93 + 8 * o) (by omega), y (93 + 8 * o + 1) (by omega), y (93 + 8 * o + 2) (by omega), y (93 + 8 * o + 3) (by omega), y (93 + 8 * o + 4) (by omega), y (93 + 8 * o + 5) (by omega), y (93 + 8 * o + 6) (by omega), y (93 + 8 * o + 7) (by omega)]
      exact x
  · rw [gM]
    rcases hk with hk | hk
    · rw [t3 k hk.1 hk.2, hp_i_g, if_neg (by omega)]
    · rw [t2 k (by omega) (by omega), hw k (by omega) (by omega) (by omega) (by omega), R.2 k (by omega) (by omega)]
  · show (if 0 = 2 then s' else v' 0) = w 0 + 1
    rw [if_neg (by omega), d7]
  · rw [gM, t4 12 (by omega), hp_i_t (by omega)]
theorem s_adv {D : Nat} (hD : D ≤ 100) : ∀ (m k e e' : Nat) (h hm : Hp) (w : Nat → Nat) (x : Int32), k + m = D → RW h hm T w S (n + 1) → w 0 ≤ 100 * n + k →
    pw_X11_advance_34 (m + 1 + e) h (nI D) x (nI k) ∧ pw_X12_advance_38 (m + 1 + e') hm (nI D) x (nI k) ∧ fw_X11_advance_34 (m + 1 + e) h (nI D) x (nI k) = fw_X12_advance_38 (m + 1 + e') hm (nI D) x (nI k) ∧ (∃ w', RW (gw_X11_advance_34 (m + 1 + e) h (nI D) x (nI k)) (gw_X12_advance_38 (m + 1 + e') hm (nI D) x (nI k)) T w' S (n + 1)) ∧ (gw_X12_advance_38 (m + 1 + e') hm (nI D) x (nI k)).1 12 0 = hm.1 12 0 := by
  intro m
  induction m with
  | zero =>
    intro k e e' h hm w x hk A hw
    rw [show 0 + 1 + e = e + 1 by omega, show 0 + 1 + e' = e' + 1 by omega]
    have c1 : nI D ≤ nI k := nI_le (by omega) (by omega)
    refine ⟨?_, ?_, ?_, ⟨w, ?_⟩, ?_⟩
    · simp [pw_X11_advance_34, c1]
    · simp [pw_X12_advance_38, c1]
    · rw [fw_X11_advance_34, if_pos c1, fw_X12_advance_38, if_pos c1]
    · rw [gw_X11_advance_34, if_pos c1, gw_X12_advance_38, if_pos c1]; exact A
    · rw [gw_X12_advance_38, if_pos c1]
  | succ m ih =>
    intro k e e' h hm w x hk A hw
    rw [show m + 1 + 1 + e = (m + 1 + e) + 1 by omega, show m + 1 + 1 + e' = (m + 1 + e') + 1 by omega]
    have c1 : ¬ nI D ≤ nI k := nI_ge (by omega) (by omega)
    obtain ⟨a1, a2, a3, ⟨w', a4, a5⟩, a6⟩ := A.day (by omega)
    obtain ⟨r1, r2, r3, r4, r5⟩ := ih (k + 1) e e' _ _ w' (x + f_X12_comesNow (hp_i hm 58 0 0 ((hm.1 58 0 0) + 1))) (by omega) a4 (by omega)
    rw [nI_succ] at r1 r2 r3 r4 r5
    have ec : gw_X11_advance_34 ((m + 1 + e) + 1) h (nI D) x (nI k) = gw_X11_advance_34 (m + 1 + e) (g_X10_passDay h (h.2.2 11 0 7)) (nI D) (x + f_X12_comesNow (hp_i hm 58 0 0 ((hm.1 58 0 0) + 1))) (nI k + 1) := by
      rw [gw_X11_advance_34, if_neg c1, a3]
    have em : gw_X12_advance_38 ((m + 1 + e') + 1) hm (nI D) x (nI k) = gw_X12_advance_38 (m + 1 + e') (g_X12_comesNow (hp_i hm 58 0 0 ((hm.1 58 0 0) + 1))) (nI D) (x + f_X12_comesNow (hp_i hm 58 0 0 ((hm.1 58 0 0) + 1))) (nI k + 1) := by
      rw [gw_X12_advance_38, if_neg c1]
    rw [ec, em]
    refine ⟨?_, ?_, ?_, r4, ?_⟩
    · rw [pw_X11_advance_34, a3]
      exact ⟨fun z => (c1 z).elim, fun _ => ⟨a1, r1⟩⟩
    · rw [pw_X12_advance_38]
      exact ⟨fun z => (c1 z).elim, fun _ => ⟨a2, r2⟩⟩
    · rw [fw_X11_advance_34, if_neg c1, a3, fw_X12_advance_38, if_neg c1]
      exact r3
    · rw [r5]; exact a6
theorem z_advance (hn : n < 512) (A : RA h hm n) (a : Int32) : p_X11_advance h a ∧ p_X12_advance hm a ∧ ZT (x_X11_advance h a) (f_X11_advance h a) (f_X12_advance hm a) (g_X12_advance hm a) [(2, 1)] ∧ RA (g_X11_advance h a) (g_X12_advance hm a) (n + 1) := by
  obtain ⟨T, w, S, W⟩ := RA_iff.mp A
  have I := W.1.2.1
  have ka := k_arg (hp_i hm 12 0 0 0) a 100 (by omega)
  have e9 : nI 100 = 100 := rfl
  rw [e9] at ka
  have Ah : ∀ x, RA h (hp_i (hp_i hm 12 0 0 0) 12 0 0 x) (n + 1) := fun x => (A.thr.thr).mono (by omega)
  have z1 : ∀ x : Int32, (hp_i (hp_i hm 12 0 0 0) 12 0 0 x).1 12 0 0 = x := fun x => rfl
  unfold p_X11_advance p_X12_advance x_X11_advance f_X11_advance f_X12_advance g_X11_advance g_X12_advance ZT
  rcases ka.2 with ⟨D, hv1, hv2, rfl, i1, i2⟩ | ⟨i1, i2⟩
  · obtain ⟨q1, q2, W', q4⟩ := RW.record (W.thr (x := 0))
    obtain ⟨e, he⟩ := oa_fuel (show D < 1000000 by omega)
    obtain ⟨r1, r2, r3, ⟨w', r4⟩, r5⟩ := s_adv (n := n) hv2 D 0 e e _ _ w 0 (by omega) (W'.mono (by omega)) (by have := I.1.1; omega)
    rw [← he, nI_0] at r1 r2 r3 r4 r5
    have fin := r4.ra
    have q5 : (gw_X12_advance_38 oa_N (g_X12_keeps (hp_i hm 12 0 0 0)) (nI D) 0 0).1 12 0 0 = 0 := by rw [r5]; exact q4
    simp [ka.1, i1, i2, p_X11_checkArgument, x_X11_checkArgument, p_X12_throwsIf, f_X12_throwsIf, g_X12_throwsIf, q1, q2, r1, r2, r3, fin, q5]
  · simp [ka.1, i1, i2, z1, p_X11_checkArgument, x_X11_checkArgument, p_X12_throwsIf, f_X12_throwsIf, g_X12_throwsIf]
    exact Ah 1
end RAQ
