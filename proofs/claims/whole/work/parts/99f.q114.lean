/-! the law: load, level and the two texts -/
section LWX
variable {h hm : Hp} {T w : Nat → Nat} {n : Nat}
theorem z_level2 (A : RA h hm n) (a : Int32) : p_X11_level h a ∧ ∃ fm gm, ZT (x_X11_level h a) (f_X11_level h a) fm gm [(1, 1)] ∧ RA h gm n ∧ ((∀ t i, ¬ (t = 12 ∧ i = 0) → gm.1 t i = hm.1 t i) ∧ gm.2 = hm.2) ∧ ∀ (d : Nat) (P : Int32 → Hp → Prop) (Qx : String → Hp → Prop), P fm gm → CL 0 (d + 9) mX12_level [vR 12 0, vI a] hm (oI P) Qx := by
  obtain ⟨T, w, B, -⟩ := id A
  obtain ⟨p1, p2, k⟩ := kk_product B a
  obtain ⟨J, I, R, C, G⟩ := B
  have bT := J.1
  unfold p_X11_level x_X11_level f_X11_level
  rcases k with ⟨q, hq, rfl, x1, f1, g1⟩ | ⟨x1, f1, g1⟩
  · have in1 := a_inside h (k := q) (N := T 1) hq (by omega)
    have v1 : vp_in (nI q) 8 := vp_in_nI (by omega) (by omega)
    refine ⟨?_, nI (oa_lvl T 8 q), hp_i hm 12 0 0 0, ?_, A.thr, ⟨fun t i y => hp_i_n y, rfl⟩, fun d P Qx k => ?_⟩
    · simp [p1, x1, p_X1_levelOf, C.1.2.1, in1, v1]
    · refine Or.inl ⟨by simp [x1], ?_, hp_i_g.trans (if_pos rfl)⟩
      simp [x1, f_X1_levelOf, C.1.2.1, in1, nI_clamp (show q < 2 ^ 31 by omega), C.2.2.2.2.2.1 q hq]
    · refine CL.ofF (plainFor_of_name rfl) rfl (Nat.le_of_ble_eq_true rfl) (vc_X12_level_0 (d := d + 8) ?_)
      refine c_X12_noProduct (d := d + 6) p2 ?_
      rw [f1, g1]
      refine ⟨fun _ => ?_, fun z => (z rfl).elim⟩
      exact c_X12_levelOf J (show RM (hp_i hm 12 0 0 0) T w from R) (P := P) 8 _ q d (by omega) hq (by omega) k
  · refine ⟨?_, 0, hp_i (hp_i hm 12 0 0 0) 12 0 0 1, ?_, A.thr.thr, ⟨fun t i y => by rw [hp_i_n y, hp_i_n y], rfl⟩, fun d P Qx k => ?_⟩
    · simp [p1, x1]
    · refine Or.inr ⟨1, ?_, hp_i_g.trans (if_pos rfl)⟩
      simp [x1]
    · refine CL.ofF (plainFor_of_name rfl) rfl (Nat.le_of_ble_eq_true rfl) (vc_X12_level_0 (d := d + 8) ?_)
      refine c_X12_noProduct (d := d + 6) p2 ?_
      rw [f1, g1]
      exact ⟨fun z => absurd z (by decide), fun _ => k⟩
end LWX
section LWZ
variable {nS : Nat} {sc : Nat → Int32} {d rb n : Nat} {h : Hp} {Qr : Option AV → Hp → Prop} {Qx : String → Hp → Prop} {x4 : Int32}
theorem fr_X11_load {t : Nat} (ht : t = 12 ∨ (54 ≤ t ∧ t ≤ 65)) : (g_X11_load h).1 t 0 = h.1 t 0 := by
  have e1 : (lgE h).1 t 0 = h.1 t 0 := by
    unfold lgE
    rw [fr_X4_shorten (by omega), (cf_lgw 900 (g_X7_begin h) 1).1 t 0 (by omega) (by omega) (by omega) (by omega) (by omega)]
    exact cf_begin.1 t 0 (by omega) (by omega) (by omega) (by omega) (by omega)
  unfold g_X11_load
  refine oa_ite e1 ?_
  unfold lgS lg4 lg3 g_X3_forget g_X7_swapLedger
  rw [hp_i_t (by omega), hp_r_f, hp_r_f, hp_r_f, fr_X7_swapCatalog (by omega) (by omega) (by omega) (by omega)]
  exact e1
theorem lw_load (hn : n < 512) (A : RA h h n) (kk : ∀ h', RA h' h' (n + 1) → LK nS sc d rb x4 h' Qr Qx) : AW (oa_X nS sc) (d + 10 + 1) (rb + 1) mL_law 382 [(0, vR 2000 0), (1, vR 11 0), (2, vR 12 0), (3, vR 66 0), (4, vI x4)] [] h Qr Qx := by
  have F : MFr h (g_X11_load h) := fun t ht => fr_X11_load (by omega)
  have p1 := (z_load2 A).1
  have cf : ∀ G H HM : Hp, CFr G H → ((∀ a i, ¬ (a = 12 ∧ i = 0) → ¬ (54 ≤ a ∧ a ≤ 65 ∧ i = 0) → HM.1 a i = H.1 a i) ∧ HM.2.1 = H.2.1 ∧ HM.2.2 = H.2.2) → CFr G HM := fun G H HM g m => g.trans ⟨fun t ht i => m.1 t i (by unfold CS at ht; omega) (by unfold CS at ht; omega), fun t _ => by rw [m.2.1], m.2.2⟩
  refine vc_L_law_382 (d := d + 10) ?_
  by_cases hx : x_X11_load h = 0
  · obtain ⟨-, fm, HM, K, M, Zt, ZA⟩ := z_load2 (A.m (F.l (v := (f_X11_load h).toInt64)))
    have o := Zt.ok hx (by decide)
    refine ch_L_load (k := 0) (d := d + 9) (by omega) (c_X11_load (d := d) p1 hx ?_)
    refine K (d := d) ?_
    refine lw_t0 o.2 ?_ (kk _ ((ZA.mono (by omega)).c (cf _ _ _ CFr.l M)))
    rw [M.2.1, hp_l_66, o.1]
  · obtain ⟨-, fm, HM, K, M, Zt, ZA⟩ := z_load2 (A.m F)
    obtain ⟨z, hz, ez⟩ := Zt.bad hx
    simp only [List.mem_cons, Prod.mk.injEq, List.not_mem_nil, or_false] at hz
    obtain ⟨e1, e2⟩ := hz
    refine ch_L_load (k := 1) (d := d + 9) (by omega) ((t_X11_load (d := d) p1 hx ?_).imp (fun _ _ y => y.elim) (fun _ _ y => y))
    rw [e1]
    refine ⟨rfl, K (d := d) ?_⟩
    exact lw_t1 (by decide) (ez.trans e2) (kk _ ((ZA.mono (by omega)).c (cf _ _ _ CFr.rfl' M)))
theorem lw_level (hn : n < 512) (A : RA h h n) (v1 : vp_in (x4 + 1) nS) (kk : ∀ h', RA h' h' (n + 1) → LK nS sc d rb x4 h' Qr Qx) : AW (oa_X nS sc) (d + 10 + 1) (rb + 1) mL_law 737 [(0, vR 2000 0), (1, vR 11 0), (2, vR 12 0), (3, vR 66 0), (4, vI x4)] [] h Qr Qx := by
  have p1 := (z_level2 A (sc (x4 + 1).toNatClampNeg)).1
  have cf : ∀ G H HM : Hp, CFr G H → ((∀ t i, ¬ (t = 12 ∧ i = 0) → HM.1 t i = H.1 t i) ∧ HM.2 = H.2) → CFr G HM := fun G H HM g m => g.trans ⟨fun t ht i => m.1 t i (by unfold CS at ht; omega), fun t _ => by rw [m.2], by rw [m.2]⟩
  refine vc_L_law_737 (d := d + 10) ⟨v1, ?_⟩
  by_cases hx : x_X11_level h (sc (x4 + 1).toNatClampNeg) = 0
  · obtain ⟨-, fm, gm, Zt, ZA, M, K⟩ := z_level2 (A.m (MFr.rfl'.l (v := (f_X11_level h (sc (x4 + 1).toNatClampNeg)).toInt64))) (sc (x4 + 1).toNatClampNeg)
    have o := Zt.ok hx (by decide)
    refine ch_L_level (k := 0) (d := d + 9) (by omega) (c_X11_level p1 hx ?_)
    refine ⟨v1, K (d + 1) _ _ ?_⟩
    refine lw_t0 o.2 ?_ (kk _ ((ZA.mono (by omega)).c (cf _ _ _ CFr.l M)))
    rw [M.2, hp_l_66, o.1]
  · obtain ⟨-, fm, gm, Zt, ZA, M, K⟩ := z_level2 A (sc (x4 + 1).toNatClampNeg)
    obtain ⟨z, hz, ez⟩ := Zt.bad hx
    simp only [List.mem_cons, Prod.mk.injEq, List.not_mem_nil, or_false] at hz
    obtain ⟨e1, e2⟩ := hz
    refine ch_L_level (k := 1) (d := d + 9) (by omega) ((t_X11_level p1 hx ?_).imp (fun _ _ y => y.elim) (fun _ _ y => y))
    rw [e1]
    refine ⟨rfl, v1, K (d + 1) _ _ ?_⟩
    exact lw_t1 (by decide) (ez.trans e2) (kk _ ((ZA.mono (by omega)).c (cf _ _ _ CFr.rfl' M)))
theorem lw_formatOrder (hn : n < 512) (A : RA h h n) (v1 : vp_in (x4 + 1) nS) (kk : ∀ h', RA h' h' (n + 1) → LK nS sc d rb x4 h' Qr Qx) : AW (oa_X nS sc) (d + 10 + 1) (rb + 1) mL_law 3003 [(0, vR 2000 0), (1, vR 11 0), (2, vR 12 0), (3, vR 66 0), (4, vI x4)] [] h Qr Qx := by
  refine vc_L_law_3003 (d := d + 10) ⟨v1, ?_⟩
  obtain ⟨T, w, B, -⟩ := id A
  obtain ⟨J, I, R, C, G⟩ := id B
  generalize sc (x4 + 1).toNatClampNeg = a
  obtain ⟨-, -, kc⟩ := kk_order B a
  rcases kc with ⟨o, ho, ea, hx, -, -⟩ | ⟨hx, hf, hg⟩
  · rw [ea] at hx ⊢
    have key : ∀ h', TC h h' (ob_fo T w o) → CL 0 (d + 10) mX12_formatOrder [vR 12 0, vI (nI o)] (hp_l h' 66 0 0 (nI (ob_fo T w o).length).toInt64) (oI fun r4 h3 => CL 0 (d + 10) mX12_thrown [vR 12 0] h3 (oI fun r6 h5 => ((r6 = 0) → ((¬ (0 : Int32) = 0) → LK nS sc d rb x4 h5 Qr Qx) ∧ (((0 : Int32) = 0) → (((lg_cmp (h5.2.1 66 0 0) r4.toInt64) = 0) → LK nS sc d rb x4 h5 Qr Qx) ∧ ((¬ (lg_cmp (h5.2.1 66 0 0) r4.toInt64) = 0) → Qr (some (vI 0)) h5))) ∧ ((¬ r6 = 0) → Qr (some (vI 0)) h5)) Qx) Qx := by
      intro h' tc
      have F : MFr h h' := fun t ht => tc.2.2.1 t 0 (by omega) (by omega)
      have A1 := A.m (F.l (v := (nI (ob_fo T w o).length).toInt64))
      have B1 : RB h (hp_l h' 66 0 0 (nI (ob_fo T w o).length).toInt64) T w n := ⟨J, I, R.same (F.l 56 (by omega)) (F.l 58 (by omega)), C, G⟩
      obtain ⟨-, -, kc⟩ := kk_order B1 (nI o)
      rcases kc with ⟨-, -, -, -, hf, hg⟩ | ⟨z, -, -⟩
      · refine c_X12_formatOrder (d := d + 2) B1 ho hf hg (fun h2 tm => ?_)
        have el : h2.2 = (hp_l h' 66 0 0 (nI (ob_fo T w o).length).toInt64).2 := tm.2.2.2.2
        refine lw_t0 ?_ ?_ (kk _ ?_)
        · rw [tm.2.2.2.1 0 (by omega), hp_i_g, if_pos rfl]
        · rw [el, hp_l_66]
        · refine ((A1.thr.fmt tc tm (by have := ob_fo_len J I ho; omega)).mono (by omega)).c (CFr.l.trans ⟨fun t ht i => ?_, fun t _ => by rw [el], by rw [el]⟩)
          rw [tm.2.2.1 t i (by unfold CS at ht; omega) (by unfold CS at ht; omega), hp_i_n (by unfold CS at ht; omega)]
      · rw [hx] at z; exact absurd z (by decide)
    exact ch_L_formatOrder (k := 0) (d := d + 9) (by omega) (c_X11_formatOrder (d := d + 1) B ho hx (fun h' tc => ⟨v1, key h' tc⟩))
  · have T1 : CL 0 (d + 10) mX12_formatOrder [vR 12 0, vI a] h (oI fun r4 h3 => CL 0 (d + 10) mX12_thrown [vR 12 0] h3 (oI fun r6 h5 => ((r6 = 1) → ((¬ (1 : Int32) = 0) → LK nS sc d rb x4 h5 Qr Qx) ∧ (((1 : Int32) = 0) → (((lg_cmp (h5.2.1 66 0 0) r4.toInt64) = 0) → LK nS sc d rb x4 h5 Qr Qx) ∧ ((¬ (lg_cmp (h5.2.1 66 0 0) r4.toInt64) = 0) → Qr (some (vI 0)) h5))) ∧ ((¬ r6 = 1) → Qr (some (vI 0)) h5)) Qx) Qx := c_X12_formatOrder_t (d := d + 2) B hf hg (lw_t1 (by decide) (hp_i_g.trans (if_pos rfl)) (kk _ ((A.thr.thr.mono (by omega)).c ⟨fun t ht i => by rw [hp_i_n (by unfold CS at ht; omega), hp_i_n (by unfold CS at ht; omega)], fun _ _ => rfl, rfl⟩)))
    refine ch_L_formatOrder (k := 1) (d := d + 9) (by omega) ((t_X11_formatOrder (d := d + 1) B (by rw [hx]; decide) ?_).imp (fun _ _ y => y.elim) (fun _ _ y => y))
    rw [hx]
    exact ⟨rfl, v1, T1⟩
theorem lw_formatNeeds (hn : n < 512) (A : RA h h n) (v1 : vp_in (x4 + 1) nS) (kk : ∀ h', RA h' h' (n + 1) → LK nS sc d rb x4 h' Qr Qx) : AW (oa_X nS sc) (d + 10 + 1) (rb + 1) mL_law 3059 [(0, vR 2000 0), (1, vR 11 0), (2, vR 12 0), (3, vR 66 0), (4, vI x4)] [] h Qr Qx := by
  refine vc_L_law_3059 (d := d + 10) ⟨v1, ?_⟩
  obtain ⟨T, w, B, -⟩ := id A
  obtain ⟨J, I, R, C, G⟩ := id B
  generalize sc (x4 + 1).toNatClampNeg = a
  obtain ⟨-, -, kc⟩ := kk_product B a
  rcases kc with ⟨o, ho, ea, hx, -, -⟩ | ⟨hx, hf, hg⟩
  · rw [ea] at hx ⊢
    have key : ∀ h', TC h h' (ob_fq T o) → CL 0 (d + 10) mX12_formatNeeds [vR 12 0, vI (nI o)] (hp_l h' 66 0 0 (nI (ob_fq T o).length).toInt64) (oI fun r4 h3 => CL 0 (d + 10) mX12_thrown [vR 12 0] h3 (oI fun r6 h5 => ((r6 = 0) → ((¬ (0 : Int32) = 0) → LK nS sc d rb x4 h5 Qr Qx) ∧ (((0 : Int32) = 0) → (((lg_cmp (h5.2.1 66 0 0) r4.toInt64) = 0) → LK nS sc d rb x4 h5 Qr Qx) ∧ ((¬ (lg_cmp (h5.2.1 66 0 0) r4.toInt64) = 0) → Qr (some (vI 0)) h5))) ∧ ((¬ r6 = 0) → Qr (some (vI 0)) h5)) Qx) Qx := by
      intro h' tc
      have F : MFr h h' := fun t ht => tc.2.2.1 t 0 (by omega) (by omega)
      have A1 := A.m (F.l (v := (nI (ob_fq T o).length).toInt64))
      have B1 : RB h (hp_l h' 66 0 0 (nI (ob_fq T o).length).toInt64) T w n := ⟨J, I, R.same (F.l 56 (by omega)) (F.l 58 (by omega)), C, G⟩
      obtain ⟨-, -, kc⟩ := kk_product B1 (nI o)
      rcases kc with ⟨-, -, -, -, hf, hg⟩ | ⟨z, -, -⟩
      · refine c_X12_formatNeeds (d := d + 2) B1 ho hf hg (fun h2 tm => ?_)
        have el : h2.2 = (hp_l h' 66 0 0 (nI (ob_fq T o).length).toInt64).2 := tm.2.2.2.2
        refine lw_t0 ?_ ?_ (kk _ ?_)
        · rw [tm.2.2.2.1 0 (by omega), hp_i_g, if_pos rfl]
        · rw [el, hp_l_66]
        · refine ((A1.thr.fmt tc tm (by have := ob_fq_len J (show o < 8 by have := J.1; omega); omega)).mono (by omega)).c (CFr.l.trans ⟨fun t ht i => ?_, fun t _ => by rw [el], by rw [el]⟩)
          rw [tm.2.2.1 t i (by unfold CS at ht; omega) (by unfold CS at ht; omega), hp_i_n (by unfold CS at ht; omega)]
      · rw [hx] at z; exact absurd z (by decide)
    obtain ⟨q1, q2, q3, q4⟩ := s_formatNeeds B ho hx
    refine ch_L_formatNeeds (k := 0) (d := d + 9) (by omega) (c_X11_formatNeeds (d := d + 1) q1 q2 ?_)
    rw [q3]
    exact ⟨v1, key _ q4⟩
  · have T1 : CL 0 (d + 10) mX12_formatNeeds [vR 12 0, vI a] h (oI fun r4 h3 => CL 0 (d + 10) mX12_thrown [vR 12 0] h3 (oI fun r6 h5 => ((r6 = 1) → ((¬ (1 : Int32) = 0) → LK nS sc d rb x4 h5 Qr Qx) ∧ (((1 : Int32) = 0) → (((lg_cmp (h5.2.1 66 0 0) r4.toInt64) = 0) → LK nS sc d rb x4 h5 Qr Qx) ∧ ((¬ (lg_cmp (h5.2.1 66 0 0) r4.toInt64) = 0) → Qr (some (vI 0)) h5))) ∧ ((¬ r6 = 1) → Qr (some (vI 0)) h5)) Qx) Qx := c_X12_formatNeeds_t (d := d + 2) B hf hg (lw_t1 (by decide) (hp_i_g.trans (if_pos rfl)) (kk _ ((A.thr.thr.mono (by omega)).c ⟨fun t ht i => by rw [hp_i_n (by unfold CS at ht; omega), hp_i_n (by unfold CS at ht; omega)], fun _ _ => rfl, rfl⟩)))
    obtain ⟨q1, q2, q3⟩ := s_formatNeeds_t B hx
    refine ch_L_formatNeeds (k := 1) (d := d + 9) (by omega) ((t_X11_formatNeeds (d := d + 1) q1 (by rw [q2]; decide) ?_).imp (fun _ _ y => y.elim) (fun _ _ y => y))
    rw [q2, q3]
    exact ⟨rfl, v1, T1⟩
end LWZ
