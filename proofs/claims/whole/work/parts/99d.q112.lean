/-! the law: one turn of its loop, for each call -/
section LWS
variable {nS : Nat} {sc : Nat → Int32} {d rb n : Nat} {h : Hp} {Qr : Option AV → Hp → Prop} {Qx : String → Hp → Prop} {x4 : Int32}
theorem lw_append (hn : n < 512) (A : RA h h n) (v1 : vp_in (x4 + 1) nS) (v2 : vp_in (x4 + 2) nS) (v3 : vp_in (x4 + 3) nS) (v4 : vp_in (x4 + 4) nS) (v5 : vp_in (x4 + 5) nS) (kk : ∀ h', RA h' h' (n + 1) → LK nS sc d rb x4 h' Qr Qx) : AW (oa_X nS sc) (d + 10 + 1) (rb + 1) mL_law 284 [(0, vR 2000 0), (1, vR 11 0), (2, vR 12 0), (3, vR 66 0), (4, vI x4)] [] h Qr Qx := by
  have F : MFr h (g_X11_append h (sc (x4 + 1).toNatClampNeg) (sc (x4 + 2).toNatClampNeg) (sc (x4 + 3).toNatClampNeg) (sc (x4 + 4).toNatClampNeg) (sc (x4 + 5).toNatClampNeg)) := fun t ht => fr_X11_append (by omega) (by omega)
  have C : ∀ H, CFr H (g_X12_append H (sc (x4 + 1).toNatClampNeg) (sc (x4 + 2).toNatClampNeg) (sc (x4 + 3).toNatClampNeg) (sc (x4 + 4).toNatClampNeg) (sc (x4 + 5).toNatClampNeg)) := fun H => ⟨fun t ht i => fr_X12_append (by unfold CS at ht; omega) (by unfold CS at ht; omega) (by unfold CS at ht; omega), fun t _ => by rw [gl_X12_append], gr_X12_append⟩
  have Z := y_append hn (A.m F) (sc (x4 + 1).toNatClampNeg) (sc (x4 + 2).toNatClampNeg) (sc (x4 + 3).toNatClampNeg) (sc (x4 + 4).toNatClampNeg) (sc (x4 + 5).toNatClampNeg)
  refine vc_L_law_284 (d := d + 10) ⟨v1, v2, v3, v4, v5, ?_⟩
  refine c_X11_append Z.1 ?_
  refine ⟨v1, v2, v3, v4, v5, ?_⟩
  refine c_X12_append Z.2.1 ?_
  exact ⟨fun _ => kk _ (Z.2.2.2.c (C _)), fun z => (z Z.2.2.1).elim⟩
theorem lw_truncate (hn : n < 512) (A : RA h h n) (v1 : vp_in (x4 + 1) nS) (kk : ∀ h', RA h' h' (n + 1) → LK nS sc d rb x4 h' Qr Qx) : AW (oa_X nS sc) (d + 10 + 1) (rb + 1) mL_law 357 [(0, vR 2000 0), (1, vR 11 0), (2, vR 12 0), (3, vR 66 0), (4, vI x4)] [] h Qr Qx := by
  have F : MFr h (g_X11_truncate h (sc (x4 + 1).toNatClampNeg)) := fun t ht => fr_X11_truncate (by omega)
  have C : ∀ H, CFr H (g_X12_truncate H (sc (x4 + 1).toNatClampNeg)) := fun H => ⟨fun t ht i => fr_X12_truncate (by unfold CS at ht; omega), fun t _ => by rw [gl_X12_truncate], gr_X12_truncate⟩
  have Z := y_truncate hn (A.m F) (sc (x4 + 1).toNatClampNeg)
  refine vc_L_law_357 (d := d + 10) ⟨v1, ?_⟩
  refine c_X11_truncate Z.1 ?_
  refine ⟨v1, ?_⟩
  refine c_X12_truncate Z.2.1 ?_
  exact ⟨fun _ => kk _ (Z.2.2.2.c (C _)), fun z => (z Z.2.2.1).elim⟩
theorem lw_errorOffset (hn : n < 512) (A : RA h h n) (kk : ∀ h', RA h' h' (n + 1) → LK nS sc d rb x4 h' Qr Qx) : AW (oa_X nS sc) (d + 10 + 1) (rb + 1) mL_law 426 [(0, vR 2000 0), (1, vR 11 0), (2, vR 12 0), (3, vR 66 0), (4, vI x4)] [] h Qr Qx := by
  have F : MFr h h := MFr.rfl'
  have C : ∀ H, CFr H (g_X12_errorOffset H) := fun H => ⟨fun t ht i => fr_X12_errorOffset (by unfold CS at ht; omega), fun t _ => by rw [gl_X12_errorOffset], gr_X12_errorOffset⟩
  have Z := y_errorOffset hn (A.m F)
  refine vc_L_law_426 (d := d + 10) ?_
  refine c_X11_errorOffset Z.1 ?_
  refine c_X12_errorOffset Z.2.1 ?_
  exact ⟨fun _ => kk _ (Z.2.2.2.c (C _)), fun z => (z Z.2.2.1).elim⟩
theorem lw_errorKind (hn : n < 512) (A : RA h h n) (kk : ∀ h', RA h' h' (n + 1) → LK nS sc d rb x4 h' Qr Qx) : AW (oa_X nS sc) (d + 10 + 1) (rb + 1) mL_law 439 [(0, vR 2000 0), (1, vR 11 0), (2, vR 12 0), (3, vR 66 0), (4, vI x4)] [] h Qr Qx := by
  have F : MFr h h := MFr.rfl'
  have C : ∀ H, CFr H (g_X12_errorKind H) := fun H => ⟨fun t ht i => fr_X12_errorKind (by unfold CS at ht; omega), fun t _ => by rw [gl_X12_errorKind], gr_X12_errorKind⟩
  have Z := y_errorKind hn (A.m F)
  refine vc_L_law_439 (d := d + 10) ?_
  refine c_X11_errorKind Z.1 ?_
  refine c_X12_errorKind Z.2.1 ?_
  exact ⟨fun _ => kk _ (Z.2.2.2.c (C _)), fun z => (z Z.2.2.1).elim⟩
theorem lw_count (hn : n < 512) (A : RA h h n) (v1 : vp_in (x4 + 1) nS) (kk : ∀ h', RA h' h' (n + 1) → LK nS sc d rb x4 h' Qr Qx) : AW (oa_X nS sc) (d + 10 + 1) (rb + 1) mL_law 452 [(0, vR 2000 0), (1, vR 11 0), (2, vR 12 0), (3, vR 66 0), (4, vI x4)] [] h Qr Qx := by
  have F : MFr h h := MFr.rfl'
  have C : ∀ H, CFr H (g_X12_count H (sc (x4 + 1).toNatClampNeg)) := fun H => ⟨fun t ht i => fr_X12_count (by unfold CS at ht; omega), fun t _ => by rw [gl_X12_count], gr_X12_count⟩
  have Z := y_count hn (A.m F) (sc (x4 + 1).toNatClampNeg)
  refine vc_L_law_452 (d := d + 10) ⟨v1, ?_⟩
  refine c_X11_count Z.1 ?_
  refine ⟨v1, ?_⟩
  refine c_X12_count Z.2.1 ?_
  exact ⟨fun _ => kk _ (Z.2.2.2.c (C _)), fun z => (z Z.2.2.1).elim⟩
theorem lw_lineCount (hn : n < 512) (A : RA h h n) (v1 : vp_in (x4 + 1) nS) (kk : ∀ h', RA h' h' (n + 1) → LK nS sc d rb x4 h' Qr Qx) : AW (oa_X nS sc) (d + 10 + 1) (rb + 1) mL_law 477 [(0, vR 2000 0), (1, vR 11 0), (2, vR 12 0), (3, vR 66 0), (4, vI x4)] [] h Qr Qx := by
  have F : MFr h h := MFr.rfl'
  have C : ∀ H, CFr H (g_X12_lineCount H (sc (x4 + 1).toNatClampNeg)) := fun H => ⟨fun t ht i => fr_X12_lineCount (by unfold CS at ht; omega), fun t _ => by rw [gl_X12_lineCount], gr_X12_lineCount⟩
  have p1 := (y_lineCount hn A (sc (x4 + 1).toNatClampNeg)).1
  refine vc_L_law_477 (d := d + 10) ⟨v1, ?_⟩
  by_cases hx : x_X11_lineCount h (sc (x4 + 1).toNatClampNeg) = 0
  · have Z := y_lineCount hn (A.m (F.l (v := (f_X11_lineCount h (sc (x4 + 1).toNatClampNeg)).toInt64))) (sc (x4 + 1).toNatClampNeg)
    have o := Z.2.2.1.ok hx (by decide)
    refine ch_L_lineCount (k := 0) (d := d + 9) (by omega) (c_X11_lineCount p1 hx ?_)
    refine ⟨v1, ?_⟩
    refine c_X12_lineCount Z.2.1 ?_
    refine lw_t0 o.2 ?_ (kk _ (Z.2.2.2.c (CFr.l.trans (C _))))
    rw [gl_X12_lineCount, hp_l_66]
    exact congrArg Int32.toInt64 o.1
  · have Z := y_lineCount hn (A.m F) (sc (x4 + 1).toNatClampNeg)
    obtain ⟨z, hz, ez⟩ := Z.2.2.1.bad hx
    have T : ¬ z = 0 → CL 0 (d + 10) mX12_lineCount [vR 12 0, vI (sc (x4 + 1).toNatClampNeg)] h (oI fun r4 h3 => CL 0 (d + 10) mX12_thrown [vR 12 0] h3 (oI fun r6 h5 => ((r6 = z) → ((¬ z = 0) → LK nS sc d rb x4 h5 Qr Qx) ∧ ((z = 0) → (((lg_cmp (h5.2.1 66 0 0) r4.toInt64) = 0) → LK nS sc d rb x4 h5 Qr Qx) ∧ ((¬ (lg_cmp (h5.2.1 66 0 0) r4.toInt64) = 0) → Qr (some (vI 0)) h5))) ∧ ((¬ r6 = z) → Qr (some (vI 0)) h5)) Qx) Qx := fun nz => c_X12_lineCount Z.2.1 (lw_t1 nz ez (kk _ (Z.2.2.2.c (C _))))
    refine ch_L_lineCount (k := 1) (d := d + 9) (by omega) ((t_X11_lineCount p1 hx ?_).imp (fun _ _ y => y.elim) (fun _ _ y => y))
    generalize x_X11_lineCount h (sc (x4 + 1).toNatClampNeg) = xx at hx hz ⊢
    clear ez Z
    simp only [List.mem_cons, Prod.mk.injEq, List.not_mem_nil, or_false] at hz
    obtain ⟨e1, e2⟩ := hz
    subst e1 e2
    exact ⟨rfl, v1, T (by decide)⟩
theorem lw_lineItem (hn : n < 512) (A : RA h h n) (v1 : vp_in (x4 + 1) nS) (v2 : vp_in (x4 + 2) nS) (kk : ∀ h', RA h' h' (n + 1) → LK nS sc d rb x4 h' Qr Qx) : AW (oa_X nS sc) (d + 10 + 1) (rb + 1) mL_law 533 [(0, vR 2000 0), (1, vR 11 0), (2, vR 12 0), (3, vR 66 0), (4, vI x4)] [] h Qr Qx := by
  have F : MFr h h := MFr.rfl'
  have C : ∀ H, CFr H (g_X12_lineItem H (sc (x4 + 1).toNatClampNeg) (sc (x4 + 2).toNatClampNeg)) := fun H => ⟨fun t ht i => fr_X12_lineItem (by unfold CS at ht; omega), fun t _ => by rw [gl_X12_lineItem], gr_X12_lineItem⟩
  have p1 := (y_lineItem hn A (sc (x4 + 1).toNatClampNeg) (sc (x4 + 2).toNatClampNeg)).1
  refine vc_L_law_533 (d := d + 10) ⟨v1, v2, ?_⟩
  by_cases hx : x_X11_lineItem h (sc (x4 + 1).toNatClampNeg) (sc (x4 + 2).toNatClampNeg) = 0
  · have Z := y_lineItem hn (A.m (F.l (v := (f_X11_lineItem h (sc (x4 + 1).toNatClampNeg) (sc (x4 + 2).toNatClampNeg)).toInt64))) (sc (x4 + 1).toNatClampNeg) (sc (x4 + 2).toNatClampNeg)
    have o := Z.2.2.1.ok hx (by decide)
    refine ch_L_lineItem (k := 0) (d := d + 9) (by omega) (c_X11_lineItem p1 hx ?_)
    refine ⟨v1, v2, ?_⟩
    refine c_X12_lineItem Z.2.1 ?_
    refine lw_t0 o.2 ?_ (kk _ (Z.2.2.2.c (CFr.l.trans (C _))))
    rw [gl_X12_lineItem, hp_l_66]
    exact congrArg Int32.toInt64 o.1
  · have Z := y_lineItem hn (A.m F) (sc (x4 + 1).toNatClampNeg) (sc (x4 + 2).toNatClampNeg)
    obtain ⟨z, hz, ez⟩ := Z.2.2.1.bad hx
    have T : ¬ z = 0 → CL 0 (d + 10) mX12_lineItem [vR 12 0, vI (sc (x4 + 1).toNatClampNeg), vI (sc (x4 + 2).toNatClampNeg)] h (oI fun r4 h3 => CL 0 (d + 10) mX12_thrown [vR 12 0] h3 (oI fun r6 h5 => ((r6 = z) → ((¬ z = 0) → LK nS sc d rb x4 h5 Qr Qx) ∧ ((z = 0) → (((lg_cmp (h5.2.1 66 0 0) r4.toInt64) = 0) → LK nS sc d rb x4 h5 Qr Qx) ∧ ((¬ (lg_cmp (h5.2.1 66 0 0) r4.toInt64) = 0) → Qr (some (vI 0)) h5))) ∧ ((¬ r6 = z) → Qr (some (vI 0)) h5)) Qx) Qx := fun nz => c_X12_lineItem Z.2.1 (lw_t1 nz ez (kk _ (Z.2.2.2.c (C _))))
    refine ch_L_lineItem (k := 1) (d := d + 9) (by omega) ((t_X11_lineItem p1 hx ?_).imp (fun _ _ y => y.elim) (fun _ _ y => y))
    generalize x_X11_lineItem h (sc (x4 + 1).toNatClampNeg) (sc (x4 + 2).toNatClampNeg) = xx at hx hz ⊢
    clear ez Z
    simp only [List.mem_cons, Prod.mk.injEq, List.not_mem_nil, or_false] at hz
    obtain ⟨e1, e2⟩ := hz
    subst e1 e2
    exact ⟨rfl, v1, v2, T (by decide)⟩
theorem lw_lineQuantity (hn : n < 512) (A : RA h h n) (v1 : vp_in (x4 + 1) nS) (v2 : vp_in (x4 + 2) nS) (kk : ∀ h', RA h' h' (n + 1) → LK nS sc d rb x4 h' Qr Qx) : AW (oa_X nS sc) (d + 10 + 1) (rb + 1) mL_law 601 [(0, vR 2000 0), (1, vR 11 0), (2, vR 12 0), (3, vR 66 0), (4, vI x4)] [] h Qr Qx := by
  have F : MFr h h := MFr.rfl'
  have C : ∀ H, CFr H (g_X12_lineQuantity H (sc (x4 + 1).toNatClampNeg) (sc (x4 + 2).toNatClampNeg)) := fun H => ⟨fun t ht i => fr_X12_lineQuantity (by unfold CS at ht; omega), fun t _ => by rw [gl_X12_lineQuantity], gr_X12_lineQuantity⟩
  have p1 := (y_lineQuantity hn A (sc (x4 + 1).toNatClampNeg) (sc (x4 + 2).toNatClampNeg)).1
  refine vc_L_law_601 (d := d + 10) ⟨v1, v2, ?_⟩
  by_cases hx : x_X11_lineQuantity h (sc (x4 + 1).toNatClampNeg) (sc (x4 + 2).toNatClampNeg) = 0
  · have Z := y_lineQuantity hn (A.m (F.l (v := (f_X11_lineQuantity h (sc (x4 + 1).toNatClampNeg) (sc (x4 + 2).toNatClampNeg)).toInt64))) (sc (x4 + 1).toNatClampNeg) (sc (x4 + 2).toNatClampNeg)
    have o := Z.2.2.1.ok hx (by decide)
    refine ch_L_lineQuantity (k := 0) (d := d + 9) (by omega) (c_X11_lineQuantity p1 hx ?_)
    refine ⟨v1, v2, ?_⟩
    refine c_X12_lineQuantity Z.2.1 ?_
    refine lw_t0 o.2 ?_ (kk _ (Z.2.2.2.c (CFr.l.trans (C _))))
    rw [gl_X12_lineQuantity, hp_l_66]
    exact congrArg Int32.toInt64 o.1
  · have Z := y_lineQuantity hn (A.m F) (sc (x4 + 1).toNatClampNeg) (sc (x4 + 2).toNatClampNeg)
    obtain ⟨z, hz, ez⟩ := Z.2.2.1.bad hx
    have T : ¬ z = 0 → CL 0 (d + 10) mX12_lineQuantity [vR 12 0, vI (sc (x4 + 1).toNatClampNeg), vI (sc (x4 + 2).toNatClampNeg)] h (oI fun r4 h3 => CL 0 (d + 10) mX12_thrown [vR 12 0] h3 (oI fun r6 h5 => ((r6 = z) → ((¬ z = 0) → LK nS sc d rb x4 h5 Qr Qx) ∧ ((z = 0) → (((lg_cmp (h5.2.1 66 0 0) r4.toInt64) = 0) → LK nS sc d rb x4 h5 Qr Qx) ∧ ((¬ (lg_cmp (h5.2.1 66 0 0) r4.toInt64) = 0) → Qr (some (vI 0)) h5))) ∧ ((¬ r6 = z) → Qr (some (vI 0)) h5)) Qx) Qx := fun nz => c_X12_lineQuantity Z.2.1 (lw_t1 nz ez (kk _ (Z.2.2.2.c (C _))))
    refine ch_L_lineQuantity (k := 1) (d := d + 9) (by omega) ((t_X11_lineQuantity p1 hx ?_).imp (fun _ _ y => y.elim) (fun _ _ y => y))
    generalize x_X11_lineQuantity h (sc (x4 + 1).toNatClampNeg) (sc (x4 + 2).toNatClampNeg) = xx at hx hz ⊢
    clear ez Z
    simp only [List.mem_cons, Prod.mk.injEq, List.not_mem_nil, or_false] at hz
    obtain ⟨e1, e2⟩ := hz
    subst e1 e2
    exact ⟨rfl, v1, v2, T (by decide)⟩
theorem lw_need (hn : n < 512) (A : RA h h n) (v1 : vp_in (x4 + 1) nS) (v2 : vp_in (x4 + 2) nS) (kk : ∀ h', RA h' h' (n + 1) → LK nS sc d rb x4 h' Qr Qx) : AW (oa_X nS sc) (d + 10 + 1) (rb + 1) mL_law 669 [(0, vR 2000 0), (1, vR 11 0), (2, vR 12 0), (3, vR 66 0), (4, vI x4)] [] h Qr Qx := by
  have F : MFr h h := MFr.rfl'
  have C : ∀ H, CFr H (g_X12_need H (sc (x4 + 1).toNatClampNeg) (sc (x4 + 2).toNatClampNeg)) := fun H => ⟨fun t ht i => fr_X12_need (by unfold CS at ht; omega), fun t _ => by rw [gl_X12_need], gr_X12_need⟩
  have p1 := (y_need hn A (sc (x4 + 1).toNatClampNeg) (sc (x4 + 2).toNatClampNeg)).1
  refine vc_L_law_669 (d := d + 10) ⟨v1, v2, ?_⟩
  by_cases hx : x_X11_need h (sc (x4 + 1).toNatClampNeg) (sc (x4 + 2).toNatClampNeg) = 0
  · have Z := y_need hn (A.m (F.l (v := (f_X11_need h (sc (x4 + 1).toNatClampNeg) (sc (x4 + 2).toNatClampNeg)).toInt64))) (sc (x4 + 1).toNatClampNeg) (sc (x4 + 2).toNatClampNeg)
    have o := Z.2.2.1.ok hx (by decide)
    refine ch_L_need (k := 0) (d := d + 9) (by omega) (c_X11_need p1 hx ?_)
    refine ⟨v1, v2, ?_⟩
    refine c_X12_need Z.2.1 ?_
    refine lw_t0 o.2 ?_ (kk _ (Z.2.2.2.c (CFr.l.trans (C _))))
    rw [gl_X12_need, hp_l_66]
    exact congrArg Int32.toInt64 o.1
  · have Z := y_need hn (A.m F) (sc (x4 + 1).toNatClampNeg) (sc (x4 + 2).toNatClampNeg)
    obtain ⟨z, hz, ez⟩ := Z.2.2.1.bad hx
    have T : ¬ z = 0 → CL 0 (d + 10) mX12_need [vR 12 0, vI (sc (x4 + 1).toNatClampNeg), vI (sc (x4 + 2).toNatClampNeg)] h (oI fun r4 h3 => CL 0 (d + 10) mX12_thrown [vR 12 0] h3 (oI fun r6 h5 => ((r6 = z) → ((¬ z = 0) → LK nS sc d rb x4 h5 Qr Qx) ∧ ((z = 0) → (((lg_cmp (h5.2.1 66 0 0) r4.toInt64) = 0) → LK nS sc d rb x4 h5 Qr Qx) ∧ ((¬ (lg_cmp (h5.2.1 66 0 0) r4.toInt64) = 0) → Qr (some (vI 0)) h5))) ∧ ((¬ r6 = z) → Qr (some (vI 0)) h5)) Qx) Qx := fun nz => c_X12_need Z.2.1 (lw_t1 nz ez (kk _ (Z.2.2.2.c (C _))))
    refine ch_L_need (k := 1) (d := d + 9) (by omega) ((t_X11_need p1 hx ?_).imp (fun _ _ y => y.elim) (fun _ _ y => y))
    generalize x_X11_need h (sc (x4 + 1).toNatClampNeg) (sc (x4 + 2).toNatClampNeg) = xx at hx hz ⊢
    clear ez Z
    simp only [List.mem_cons, Prod.mk.injEq, List.not_mem_nil, or_false] at hz
    obtain ⟨e1, e2⟩ := hz
    subst e1 e2
    exact ⟨rfl, v1, v2, T (by decide)⟩
theorem lw_pieces (hn : n < 512) (A : RA h h n) (v1 : vp_in (x4 + 1) nS) (kk : ∀ h', RA h' h' (n + 1) → LK nS sc d rb x4 h' Qr Qx) : AW (oa_X nS sc) (d + 10 + 1) (rb + 1) mL_law 793 [(0, vR 2000 0), (1, vR 11 0), (2, vR 12 0), (3, vR 66 0), (4, vI x4)] [] h Qr Qx := by
  have F : MFr h h := MFr.rfl'
  have C : ∀ H, CFr H (g_X12_pieces H (sc (x4 + 1).toNatClampNeg)) := fun H => ⟨fun t ht i => fr_X12_pieces (by unfold CS at ht; omega), fun t _ => by rw [gl_X12_pieces], gr_X12_pieces⟩
  have p1 := (y_pieces hn A (sc (x4 + 1).toNatClampNeg)).1
  refine vc_L_law_793 (d := d + 10) ⟨v1, ?_⟩
  by_cases hx : x_X11_pieces h (sc (x4 + 1).toNatClampNeg) = 0
  · have Z := y_pieces hn (A.m (F.l (v := (f_X11_pieces h (sc (x4 + 1).toNatClampNeg)).toInt64))) (sc (x4 + 1).toNatClampNeg)
    have o := Z.2.2.1.ok hx (by decide)
    refine ch_L_pieces (k := 0) (d := d + 9) (by omega) (c_X11_pieces p1 hx ?_)
    refine ⟨v1, ?_⟩
    refine c_X12_pieces Z.2.1 ?_
    refine lw_t0 o.2 ?_ (kk _ (Z.2.2.2.c (CFr.l.trans (C _))))
    rw [gl_X12_pieces, hp_l_66]
    exact congrArg Int32.toInt64 o.1
  · have Z := y_pieces hn (A.m F) (sc (x4 + 1).toNatClampNeg)
    obtain ⟨z, hz, ez⟩ := Z.2.2.1.bad hx
    have T : ¬ z = 0 → CL 0 (d + 10) mX12_pieces [vR 12 0, vI (sc (x4 + 1).toNatClampNeg)] h (oI fun r4 h3 => CL 0 (d + 10) mX12_thrown [vR 12 0] h3 (oI fun r6 h5 => ((r6 = z) → ((¬ z = 0) → LK nS sc d rb x4 h5 Qr Qx) ∧ ((z = 0) → (((lg_cmp (h5.2.1 66 0 0) r4.toInt64) = 0) → LK nS sc d rb x4 h5 Qr Qx) ∧ ((¬ (lg_cmp (h5.2.1 66 0 0) r4.toInt64) = 0) → Qr (some (vI 0)) h5))) ∧ ((¬ r6 = z) → Qr (some (vI 0)) h5)) Qx) Qx := fun nz => c_X12_pieces Z.2.1 (lw_t1 nz ez (kk _ (Z.2.2.2.c (C _))))
    refine ch_L_pieces (k := 1) (d := d + 9) (by omega) ((t_X11_pieces p1 hx ?_).imp (fun _ _ y => y.elim) (fun _ _ y => y))
    generalize x_X11_pieces h (sc (x4 + 1).toNatClampNeg) = xx at hx hz ⊢
    clear ez Z
    simp only [List.mem_cons, Prod.mk.injEq, List.not_mem_nil, or_false] at hz
    obtain ⟨e1, e2⟩ := hz
    subst e1 e2
    exact ⟨rfl, v1, T (by decide)⟩
theorem lw_usedBy (hn : n < 512) (A : RA h h n) (v1 : vp_in (x4 + 1) nS) (kk : ∀ h', RA h' h' (n + 1) → LK nS sc d rb x4 h' Qr Qx) : AW (oa_X nS sc) (d + 10 + 1) (rb + 1) mL_law 849 [(0, vR 2000 0), (1, vR 11 0), (2, vR 12 0), (3, vR 66 0), (4, vI x4)] [] h Qr Qx := by
  have F : MFr h h := MFr.rfl'
  have C : ∀ H, CFr H (g_X12_usedBy H (sc (x4 + 1).toNatClampNeg)) := fun H => ⟨fun t ht i => fr_X12_usedBy (by unfold CS at ht; omega), fun t _ => by rw [gl_X12_usedBy], gr_X12_usedBy⟩
  have p1 := (y_usedBy hn A (sc (x4 + 1).toNatClampNeg)).1
  refine vc_L_law_849 (d := d + 10) ⟨v1, ?_⟩
  by_cases hx : x_X11_usedBy h (sc (x4 + 1).toNatClampNeg) = 0
  · have Z := y_usedBy hn (A.m (F.l (v := (f_X11_usedBy h (sc (x4 + 1).toNatClampNeg)).toInt64))) (sc (x4 + 1).toNatClampNeg)
    have o := Z.2.2.1.ok hx (by decide)
    refine ch_L_usedBy (k := 0) (d := d + 9) (by omega) (c_X11_usedBy p1 hx ?_)
    refine ⟨v1, ?_⟩
    refine c_X12_usedBy Z.2.1 ?_
    refine lw_t0 o.2 ?_ (kk _ (Z.2.2.2.c (CFr.l.trans (C _))))
    rw [gl_X12_usedBy, hp_l_66]
    exact congrArg Int32.toInt64 o.1
  · have Z := y_usedBy hn (A.m F) (sc (x4 + 1).toNatClampNeg)
    obtain ⟨z, hz, ez⟩ := Z.2.2.1.bad hx
    have T : ¬ z = 0 → CL 0 (d + 10) mX12_usedBy [vR 12 0, vI (sc (x4 + 1).toNatClampNeg)] h (oI fun r4 h3 => CL 0 (d + 10) mX12_thrown [vR 12 0] h3 (oI fun r6 h5 => ((r6 = z) → ((¬ z = 0) → LK nS sc d rb x4 h5 Qr Qx) ∧ ((z = 0) → (((lg_cmp (h5.2.1 66 0 0) r4.toInt64) = 0) → LK nS sc d rb x4 h5 Qr Qx) ∧ ((¬ (lg_cmp (h5.2.1 66 0 0) r4.toInt64) = 0) → Qr (some (vI 0)) h5))) ∧ ((¬ r6 = z) → Qr (some (vI 0)) h5)) Qx) Qx := fun nz => c_X12_usedBy Z.2.1 (lw_t1 nz ez (kk _ (Z.2.2.2.c (C _))))
    refine ch_L_usedBy (k := 1) (d := d + 9) (by omega) ((t_X11_usedBy p1 hx ?_).imp (fun _ _ y => y.elim) (fun _ _ y => y))
    generalize x_X11_usedBy h (sc (x4 + 1).toNatClampNeg) = xx at hx hz ⊢
    clear ez Z
    simp only [List.mem_cons, Prod.mk.injEq, List.not_mem_nil, or_false] at hz
    obtain ⟨e1, e2⟩ := hz
    subst e1 e2
    exact ⟨rfl, v1, T (by decide)⟩
theorem lw_commonParts (hn : n < 512) (A : RA h h n) (v1 : vp_in (x4 + 1) nS) (v2 : vp_in (x4 + 2) nS) (kk : ∀ h', RA h' h' (n + 1) → LK nS sc d rb x4 h' Qr Qx) : AW (oa_X nS sc) (d + 10 + 1) (rb + 1) mL_law 905 [(0, vR 2000 0), (1, vR 11 0), (2, vR 12 0), (3, vR 66 0), (4, vI x4)] [] h Qr Qx := by
  have F : MFr h h := MFr.rfl'
  have C : ∀ H, CFr H (g_X12_commonParts H (sc (x4 + 1).toNatClampNeg) (sc (x4 + 2).toNatClampNeg)) := fun H => ⟨fun t ht i => fr_X12_commonParts (by unfold CS at ht; omega), fun t _ => by rw [gl_X12_commonParts], gr_X12_commonParts⟩
  have p1 := (y_commonParts hn A (sc (x4 + 1).toNatClampNeg) (sc (x4 + 2).toNatClampNeg)).1
  refine vc_L_law_905 (d := d + 10) ⟨v1, v2, ?_⟩
  by_cases hx : x_X11_commonParts h (sc (x4 + 1).toNatClampNeg) (sc (x4 + 2).toNatClampNeg) = 0
  · have Z := y_commonParts hn (A.m (F.l (v := (f_X11_commonParts h (sc (x4 + 1).toNatClampNeg) (sc (x4 + 2).toNatClampNeg)).toInt64))) (sc (x4 + 1).toNatClampNeg) (sc (x4 + 2).toNatClampNeg)
    have o := Z.2.2.1.ok hx (by decide)
    refine ch_L_commonParts (k := 0) (d := d + 9) (by omega) (c_X11_commonParts p1 hx ?_)
    refine ⟨v1, v2, ?_⟩
    refine c_X12_commonParts Z.2.1 ?_
    refine lw_t0 o.2 ?_ (kk _ (Z.2.2.2.c (CFr.l.trans (C _))))
    rw [gl_X12_commonParts, hp_l_66]
    exact congrArg Int32.toInt64 o.1
  · have Z := y_commonParts hn (A.m F) (sc (x4 + 1).toNatClampNeg) (sc (x4 + 2).toNatClampNeg)
    obtain ⟨z, hz, ez⟩ := Z.2.2.1.bad hx
    have T : ¬ z = 0 → CL 0 (d + 10) mX12_commonParts [vR 12 0, vI (sc (x4 + 1).toNatClampNeg), vI (sc (x4 + 2).toNatClampNeg)] h (oI fun r4 h3 => CL 0 (d + 10) mX12_thrown [vR 12 0] h3 (oI fun r6 h5 => ((r6 = z) → ((¬ z = 0) → LK nS sc d rb x4 h5 Qr Qx) ∧ ((z = 0) → (((lg_cmp (h5.2.1 66 0 0) r4.toInt64) = 0) → LK nS sc d rb x4 h5 Qr Qx) ∧ ((¬ (lg_cmp (h5.2.1 66 0 0) r4.toInt64) = 0) → Qr (some (vI 0)) h5))) ∧ ((¬ r6 = z) → Qr (some (vI 0)) h5)) Qx) Qx := fun nz => c_X12_commonParts Z.2.1 (lw_t1 nz ez (kk _ (Z.2.2.2.c (C _))))
    refine ch_L_commonParts (k := 1) (d := d + 9) (by omega) ((t_X11_commonParts p1 hx ?_).imp (fun _ _ y => y.elim) (fun _ _ y => y))
    generalize x_X11_commonParts h (sc (x4 + 1).toNatClampNeg) (sc (x4 + 2).toNatClampNeg) = xx at hx hz ⊢
    clear ez Z
    simp only [List.mem_cons, Prod.mk.injEq, List.not_mem_nil, or_false] at hz
    obtain ⟨e1, e2⟩ := hz
    subst e1 e2
    exact ⟨rfl, v1, v2, T (by decide)⟩
theorem lw_day (hn : n < 512) (A : RA h h n) (kk : ∀ h', RA h' h' (n + 1) → LK nS sc d rb x4 h' Qr Qx) : AW (oa_X nS sc) (d + 10 + 1) (rb + 1) mL_law 973 [(0, vR 2000 0), (1, vR 11 0), (2, vR 12 0), (3, vR 66 0), (4, vI x4)] [] h Qr Qx := by
  have F : MFr h h := MFr.rfl'
  have C : ∀ H, CFr H (g_X12_day H) := fun H => ⟨fun t ht i => fr_X12_day (by unfold CS at ht; omega), fun t _ => by rw [gl_X12_day], gr_X12_day⟩
  have Z := y_day hn (A.m F)
  refine vc_L_law_973 (d := d + 10) ?_
  refine c_X11_day Z.1 ?_
  refine c_X12_day Z.2.1 ?_
  exact ⟨fun _ => kk _ (Z.2.2.2.c (C _)), fun z => (z Z.2.2.1).elim⟩
theorem lw_stock (hn : n < 512) (A : RA h h n) (v1 : vp_in (x4 + 1) nS) (kk : ∀ h', RA h' h' (n + 1) → LK nS sc d rb x4 h' Qr Qx) : AW (oa_X nS sc) (d + 10 + 1) (rb + 1) mL_law 986 [(0, vR 2000 0), (1, vR 11 0), (2, vR 12 0), (3, vR 66 0), (4, vI x4)] [] h Qr Qx := by
  have F : MFr h h := MFr.rfl'
  have C : ∀ H, CFr H (g_X12_stock H (sc (x4 + 1).toNatClampNeg)) := fun H => ⟨fun t ht i => fr_X12_stock (by unfold CS at ht; omega), fun t _ => by rw [gl_X12_stock], gr_X12_stock⟩
  have p1 := (y_stock hn A (sc (x4 + 1).toNatClampNeg)).1
  refine vc_L_law_986 (d := d + 10) ⟨v1, ?_⟩
  by_cases hx : x_X11_stock h (sc (x4 + 1).toNatClampNeg) = 0
  · have Z := y_stock hn (A.m (F.l (v := (f_X11_stock h (sc (x4 + 1).toNatClampNeg)).toInt64))) (sc (x4 + 1).toNatClampNeg)
    have o := Z.2.2.1.ok hx (by decide)
    refine ch_L_stock (k := 0) (d := d + 9) (by omega) (c_X11_stock p1 hx ?_)
    refine ⟨v1, ?_⟩
    refine c_X12_stock Z.2.1 ?_
    refine lw_t0 o.2 ?_ (kk _ (Z.2.2.2.c (CFr.l.trans (C _))))
    rw [gl_X12_stock, hp_l_66]
    exact congrArg Int32.toInt64 o.1
  · have Z := y_stock hn (A.m F) (sc (x4 + 1).toNatClampNeg)
    obtain ⟨z, hz, ez⟩ := Z.2.2.1.bad hx
    have T : ¬ z = 0 → CL 0 (d + 10) mX12_stock [vR 12 0, vI (sc (x4 + 1).toNatClampNeg)] h (oI fun r4 h3 => CL 0 (d + 10) mX12_thrown [vR 12 0] h3 (oI fun r6 h5 => ((r6 = z) → ((¬ z = 0) → LK nS sc d rb x4 h5 Qr Qx) ∧ ((z = 0) → (((lg_cmp (h5.2.1 66 0 0) r4.toInt64) = 0) → LK nS sc d rb x4 h5 Qr Qx) ∧ ((¬ (lg_cmp (h5.2.1 66 0 0) r4.toInt64) = 0) → Qr (some (vI 0)) h5))) ∧ ((¬ r6 = z) → Qr (some (vI 0)) h5)) Qx) Qx := fun nz => c_X12_stock Z.2.1 (lw_t1 nz ez (kk _ (Z.2.2.2.c (C _))))
    refine ch_L_stock (k := 1) (d := d + 9) (by omega) ((t_X11_stock p1 hx ?_).imp (fun _ _ y => y.elim) (fun _ _ y => y))
    generalize x_X11_stock h (sc (x4 + 1).toNatClampNeg) = xx at hx hz ⊢
    clear ez Z
    simp only [List.mem_cons, Prod.mk.injEq, List.not_mem_nil, or_false] at hz
    obtain ⟨e1, e2⟩ := hz
    subst e1 e2
    exact ⟨rfl, v1, T (by decide)⟩
theorem lw_reserved (hn : n < 512) (A : RA h h n) (v1 : vp_in (x4 + 1) nS) (kk : ∀ h', RA h' h' (n + 1) → LK nS sc d rb x4 h' Qr Qx) : AW (oa_X nS sc) (d + 10 + 1) (rb + 1) mL_law 1042 [(0, vR 2000 0), (1, vR 11 0), (2, vR 12 0), (3, vR 66 0), (4, vI x4)] [] h Qr Qx := by
  have F : MFr h h := MFr.rfl'
  have C : ∀ H, CFr H (g_X12_reserved H (sc (x4 + 1).toNatClampNeg)) := fun H => ⟨fun t ht i => fr_X12_reserved (by unfold CS at ht; omega), fun t _ => by rw [gl_X12_reserved], gr_X12_reserved⟩
  have p1 := (y_reserved hn A (sc (x4 + 1).toNatClampNeg)).1
  refine vc_L_law_1042 (d := d + 10) ⟨v1, ?_⟩
  by_cases hx : x_X11_reserved h (sc (x4 + 1).toNatClampNeg) = 0
  · have Z := y_reserved hn (A.m (F.l (v := (f_X11_reserved h (sc (x4 + 1).toNatClampNeg)).toInt64))) (sc (x4 + 1).toNatClampNeg)
    have o := Z.2.2.1.ok hx (by decide)
    refine ch_L_reserved (k := 0) (d := d + 9) (by omega) (c_X11_reserved p1 hx ?_)
    refine ⟨v1, ?_⟩
    refine c_X12_reserved Z.2.1 ?_
    refine lw_t0 o.2 ?_ (kk _ (Z.2.2.2.c (CFr.l.trans (C _))))
    rw [gl_X12_reserved, hp_l_66]
    exact congrArg Int32.toInt64 o.1
  · have Z := y_reserved hn (A.m F) (sc (x4 + 1).toNatClampNeg)
    obtain ⟨z, hz, ez⟩ := Z.2.2.1.bad hx
    have T : ¬ z = 0 → CL 0 (d + 10) mX12_reserved [vR 12 0, vI (sc (x4 + 1).toNatClampNeg)] h (oI fun r4 h3 => CL 0 (d + 10) mX12_thrown [vR 12 0] h3 (oI fun r6 h5 => ((r6 = z) → ((¬ z = 0) → LK nS sc d rb x4 h5 Qr Qx) ∧ ((z = 0) → (((lg_cmp (h5.2.1 66 0 0) r4.toInt64) = 0) → LK nS sc d rb x4 h5 Qr Qx) ∧ ((¬ (lg_cmp (h5.2.1 66 0 0) r4.toInt64) = 0) → Qr (some (vI 0)) h5))) ∧ ((¬ r6 = z) → Qr (some (vI 0)) h5)) Qx) Qx := fun nz => c_X12_reserved Z.2.1 (lw_t1 nz ez (kk _ (Z.2.2.2.c (C _))))
    refine ch_L_reserved (k := 1) (d := d + 9) (by omega) ((t_X11_reserved p1 hx ?_).imp (fun _ _ y => y.elim) (fun _ _ y => y))
    generalize x_X11_reserved h (sc (x4 + 1).toNatClampNeg) = xx at hx hz ⊢
    clear ez Z
    simp only [List.mem_cons, Prod.mk.injEq, List.not_mem_nil, or_false] at hz
    obtain ⟨e1, e2⟩ := hz
    subst e1 e2
    exact ⟨rfl, v1, T (by decide)⟩
theorem lw_arriving (hn : n < 512) (A : RA h h n) (v1 : vp_in (x4 + 1) nS) (kk : ∀ h', RA h' h' (n + 1) → LK nS sc d rb x4 h' Qr Qx) : AW (oa_X nS sc) (d + 10 + 1) (rb + 1) mL_law 1098 [(0, vR 2000 0), (1, vR 11 0), (2, vR 12 0), (3, vR 66 0), (4, vI x4)] [] h Qr Qx := by
  have F : MFr h h := MFr.rfl'
  have C : ∀ H, CFr H (g_X12_arriving H (sc (x4 + 1).toNatClampNeg)) := fun H => ⟨fun t ht i => fr_X12_arriving (by unfold CS at ht; omega), fun t _ => by rw [gl_X12_arriving], gr_X12_arriving⟩
  have p1 := (y_arriving hn A (sc (x4 + 1).toNatClampNeg)).1
  refine vc_L_law_1098 (d := d + 10) ⟨v1, ?_⟩
  by_cases hx : x_X11_arriving h (sc (x4 + 1).toNatClampNeg) = 0
  · have Z := y_arriving hn (A.m (F.l (v := (f_X11_arriving h (sc (x4 + 1).toNatClampNeg)).toInt64))) (sc (x4 + 1).toNatClampNeg)
    have o := Z.2.2.1.ok hx (by decide)
    refine ch_L_arriving (k := 0) (d := d + 9) (by omega) (c_X11_arriving p1 hx ?_)
    refine ⟨v1, ?_⟩
    refine c_X12_arriving Z.2.1 ?_
    refine lw_t0 o.2 ?_ (kk _ (Z.2.2.2.c (CFr.l.trans (C _))))
    rw [gl_X12_arriving, hp_l_66]
    exact congrArg Int32.toInt64 o.1
  · have Z := y_arriving hn (A.m F) (sc (x4 + 1).toNatClampNeg)
    obtain ⟨z, hz, ez⟩ := Z.2.2.1.bad hx
    have T : ¬ z = 0 → CL 0 (d + 10) mX12_arriving [vR 12 0, vI (sc (x4 + 1).toNatClampNeg)] h (oI fun r4 h3 => CL 0 (d + 10) mX12_thrown [vR 12 0] h3 (oI fun r6 h5 => ((r6 = z) → ((¬ z = 0) → LK nS sc d rb x4 h5 Qr Qx) ∧ ((z = 0) → (((lg_cmp (h5.2.1 66 0 0) r4.toInt64) = 0) → LK nS sc d rb x4 h5 Qr Qx) ∧ ((¬ (lg_cmp (h5.2.1 66 0 0) r4.toInt64) = 0) → Qr (some (vI 0)) h5))) ∧ ((¬ r6 = z) → Qr (some (vI 0)) h5)) Qx) Qx := fun nz => c_X12_arriving Z.2.1 (lw_t1 nz ez (kk _ (Z.2.2.2.c (C _))))
    refine ch_L_arriving (k := 1) (d := d + 9) (by omega) ((t_X11_arriving p1 hx ?_).imp (fun _ _ y => y.elim) (fun _ _ y => y))
    generalize x_X11_arriving h (sc (x4 + 1).toNatClampNeg) = xx at hx hz ⊢
    clear ez Z
    simp only [List.mem_cons, Prod.mk.injEq, List.not_mem_nil, or_false] at hz
    obtain ⟨e1, e2⟩ := hz
    subst e1 e2
    exact ⟨rfl, v1, T (by decide)⟩
theorem lw_nextArrival (hn : n < 512) (A : RA h h n) (v1 : vp_in (x4 + 1) nS) (kk : ∀ h', RA h' h' (n + 1) → LK nS sc d rb x4 h' Qr Qx) : AW (oa_X nS sc) (d + 10 + 1) (rb + 1) mL_law 1154 [(0, vR 2000 0), (1, vR 11 0), (2, vR 12 0), (3, vR 66 0), (4, vI x4)] [] h Qr Qx := by
  have F : MFr h h := MFr.rfl'
  have C : ∀ H, CFr H (g_X12_nextArrival H (sc (x4 + 1).toNatClampNeg)) := fun H => ⟨fun t ht i => fr_X12_nextArrival (by unfold CS at ht; omega), fun t _ => by rw [gl_X12_nextArrival], gr_X12_nextArrival⟩
  have p1 := (y_nextArrival hn A (sc (x4 + 1).toNatClampNeg)).1
  refine vc_L_law_1154 (d := d + 10) ⟨v1, ?_⟩
  by_cases hx : x_X11_nextArrival h (sc (x4 + 1).toNatClampNeg) = 0
  · have Z := y_nextArrival hn (A.m (F.l (v := (f_X11_nextArrival h (sc (x4 + 1).toNatClampNeg)).toInt64))) (sc (x4 + 1).toNatClampNeg)
    have o := Z.2.2.1.ok hx (by decide)
    refine ch_L_nextArrival (k := 0) (d := d + 9) (by omega) (c_X11_nextArrival p1 hx ?_)
    refine ⟨v1, ?_⟩
    refine c_X12_nextArrival Z.2.1 ?_
    refine lw_t0 o.2 ?_ (kk _ (Z.2.2.2.c (CFr.l.trans (C _))))
    rw [gl_X12_nextArrival, hp_l_66]
    exact congrArg Int32.toInt64 o.1
  · have Z := y_nextArrival hn (A.m F) (sc (x4 + 1).toNatClampNeg)
    obtain ⟨z, hz, ez⟩ := Z.2.2.1.bad hx
    have T : ¬ z = 0 → CL 0 (d + 10) mX12_nextArrival [vR 12 0, vI (sc (x4 + 1).toNatClampNeg)] h (oI fun r4 h3 => CL 0 (d + 10) mX12_thrown [vR 12 0] h3 (oI fun r6 h5 => ((r6 = z) → ((¬ z = 0) → LK nS sc d rb x4 h5 Qr Qx) ∧ ((z = 0) → (((lg_cmp (h5.2.1 66 0 0) r4.toInt64) = 0) → LK nS sc d rb x4 h5 Qr Qx) ∧ ((¬ (lg_cmp (h5.2.1 66 0 0) r4.toInt64) = 0) → Qr (some (vI 0)) h5))) ∧ ((¬ r6 = z) → Qr (some (vI 0)) h5)) Qx) Qx := fun nz => c_X12_nextArrival Z.2.1 (lw_t1 nz ez (kk _ (Z.2.2.2.c (C _))))
    refine ch_L_nextArrival (k := 1) (d := d + 9) (by omega) ((t_X11_nextArrival p1 hx ?_).imp (fun _ _ y => y.elim) (fun _ _ y => y))
    generalize x_X11_nextArrival h (sc (x4 + 1).toNatClampNeg) = xx at hx hz ⊢
    clear ez Z
    simp only [List.mem_cons, Prod.mk.injEq, List.not_mem_nil, or_false] at hz
    obtain ⟨e1, e2⟩ := hz
    subst e1 e2
    exact ⟨rfl, v1, T (by decide)⟩
theorem lw_buildable (hn : n < 512) (A : RA h h n) (v1 : vp_in (x4 + 1) nS) (kk : ∀ h', RA h' h' (n + 1) → LK nS sc d rb x4 h' Qr Qx) : AW (oa_X nS sc) (d + 10 + 1) (rb + 1) mL_law 1210 [(0, vR 2000 0), (1, vR 11 0), (2, vR 12 0), (3, vR 66 0), (4, vI x4)] [] h Qr Qx := by
  have F : MFr h (g_X11_buildable h (sc (x4 + 1).toNatClampNeg)) := fun t ht => fr_X11_buildable (by omega)
  have C : ∀ H, CFr H (g_X12_buildable H (sc (x4 + 1).toNatClampNeg)) := fun H => ⟨fun t ht i => fr_X12_buildable (by unfold CS at ht; omega), fun t _ => by rw [gl_X12_buildable], gr_X12_buildable⟩
  have p1 := (y_buildable hn A (sc (x4 + 1).toNatClampNeg)).1
  refine vc_L_law_1210 (d := d + 10) ⟨v1, ?_⟩
  by_cases hx : x_X11_buildable h (sc (x4 + 1).toNatClampNeg) = 0
  · have Z := y_buildable hn (A.m (F.l (v := (f_X11_buildable h (sc (x4 + 1).toNatClampNeg)).toInt64))) (sc (x4 + 1).toNatClampNeg)
    have o := Z.2.2.1.ok hx (by decide)
    refine ch_L_buildable (k := 0) (d := d + 9) (by omega) (c_X11_buildable p1 hx ?_)
    refine ⟨v1, ?_⟩
    refine c_X12_buildable Z.2.1 ?_
    refine lw_t0 o.2 ?_ (kk _ (Z.2.2.2.c (CFr.l.trans (C _))))
    rw [gl_X12_buildable, hp_l_66]
    exact congrArg Int32.toInt64 o.1
  · have Z := y_buildable hn (A.m F) (sc (x4 + 1).toNatClampNeg)
    obtain ⟨z, hz, ez⟩ := Z.2.2.1.bad hx
    have T : ¬ z = 0 → CL 0 (d + 10) mX12_buildable [vR 12 0, vI (sc (x4 + 1).toNatClampNeg)] (g_X11_buildable h (sc (x4 + 1).toNatClampNeg)) (oI fun r4 h3 => CL 0 (d + 10) mX12_thrown [vR 12 0] h3 (oI fun r6 h5 => ((r6 = z) → ((¬ z = 0) → LK nS sc d rb x4 h5 Qr Qx) ∧ ((z = 0) → (((lg_cmp (h5.2.1 66 0 0) r4.toInt64) = 0) → LK nS sc d rb x4 h5 Qr Qx) ∧ ((¬ (lg_cmp (h5.2.1 66 0 0) r4.toInt64) = 0) → Qr (some (vI 0)) h5))) ∧ ((¬ r6 = z) → Qr (some (vI 0)) h5)) Qx) Qx := fun nz => c_X12_buildable Z.2.1 (lw_t1 nz ez (kk _ (Z.2.2.2.c (C _))))
    refine ch_L_buildable (k := 1) (d := d + 9) (by omega) ((t_X11_buildable p1 hx ?_).imp (fun _ _ y => y.elim) (fun _ _ y => y))
    generalize x_X11_buildable h (sc (x4 + 1).toNatClampNeg) = xx at hx hz ⊢
    clear ez Z
    simp only [List.mem_cons, Prod.mk.injEq, List.not_mem_nil, or_false] at hz
    obtain ⟨e1, e2⟩ := hz
    subst e1 e2
    exact ⟨rfl, v1, T (by decide)⟩
theorem lw_bottleneck (hn : n < 512) (A : RA h h n) (v1 : vp_in (x4 + 1) nS) (kk : ∀ h', RA h' h' (n + 1) → LK nS sc d rb x4 h' Qr Qx) : AW (oa_X nS sc) (d + 10 + 1) (rb + 1) mL_law 1266 [(0, vR 2000 0), (1, vR 11 0), (2, vR 12 0), (3, vR 66 0), (4, vI x4)] [] h Qr Qx := by
  have F : MFr h (g_X11_bottleneck h (sc (x4 + 1).toNatClampNeg)) := fun t ht => fr_X11_bottleneck (by omega)
  have C : ∀ H, CFr H (g_X12_bottleneck H (sc (x4 + 1).toNatClampNeg)) := fun H => ⟨fun t ht i => fr_X12_bottleneck (by unfold CS at ht; omega), fun t _ => by rw [gl_X12_bottleneck], gr_X12_bottleneck⟩
  have p1 := (y_bottleneck hn A (sc (x4 + 1).toNatClampNeg)).1
  refine vc_L_law_1266 (d := d + 10) ⟨v1, ?_⟩
  by_cases hx : x_X11_bottleneck h (sc (x4 + 1).toNatClampNeg) = 0
  · have Z := y_bottleneck hn (A.m (F.l (v := (f_X11_bottleneck h (sc (x4 + 1).toNatClampNeg)).toInt64))) (sc (x4 + 1).toNatClampNeg)
    have o := Z.2.2.1.ok hx (by decide)
    refine ch_L_bottleneck (k := 0) (d := d + 9) (by omega) (c_X11_bottleneck p1 hx ?_)
    refine ⟨v1, ?_⟩
    refine c_X12_bottleneck Z.2.1 ?_
    refine lw_t0 o.2 ?_ (kk _ (Z.2.2.2.c (CFr.l.trans (C _))))
    rw [gl_X12_bottleneck, hp_l_66]
    exact congrArg Int32.toInt64 o.1
  · have Z := y_bottleneck hn (A.m F) (sc (x4 + 1).toNatClampNeg)
    obtain ⟨z, hz, ez⟩ := Z.2.2.1.bad hx
    have T : ¬ z = 0 → CL 0 (d + 10) mX12_bottleneck [vR 12 0, vI (sc (x4 + 1).toNatClampNeg)] (g_X11_bottleneck h (sc (x4 + 1).toNatClampNeg)) (oI fun r4 h3 => CL 0 (d + 10) mX12_thrown [vR 12 0] h3 (oI fun r6 h5 => ((r6 = z) → ((¬ z = 0) → LK nS sc d rb x4 h5 Qr Qx) ∧ ((z = 0) → (((lg_cmp (h5.2.1 66 0 0) r4.toInt64) = 0) → LK nS sc d rb x4 h5 Qr Qx) ∧ ((¬ (lg_cmp (h5.2.1 66 0 0) r4.toInt64) = 0) → Qr (some (vI 0)) h5))) ∧ ((¬ r6 = z) → Qr (some (vI 0)) h5)) Qx) Qx := fun nz => c_X12_bottleneck Z.2.1 (lw_t1 nz ez (kk _ (Z.2.2.2.c (C _))))
    refine ch_L_bottleneck (k := 1) (d := d + 9) (by omega) ((t_X11_bottleneck p1 hx ?_).imp (fun _ _ y => y.elim) (fun _ _ y => y))
    generalize x_X11_bottleneck h (sc (x4 + 1).toNatClampNeg) = xx at hx hz ⊢
    clear ez Z
    simp only [List.mem_cons, Prod.mk.injEq, List.not_mem_nil, or_false] at hz
    obtain ⟨e1, e2⟩ := hz
    subst e1 e2
    exact ⟨rfl, v1, T (by decide)⟩
theorem lw_buildableTogether (hn : n < 512) (A : RA h h n) (v1 : vp_in (x4 + 1) nS) (v2 : vp_in (x4 + 2) nS) (kk : ∀ h', RA h' h' (n + 1) → LK nS sc d rb x4 h' Qr Qx) : AW (oa_X nS sc) (d + 10 + 1) (rb + 1) mL_law 1322 [(0, vR 2000 0), (1, vR 11 0), (2, vR 12 0), (3, vR 66 0), (4, vI x4)] [] h Qr Qx := by
  have F : MFr h (g_X11_buildableTogether h (sc (x4 + 1).toNatClampNeg) (sc (x4 + 2).toNatClampNeg)) := fun t ht => fr_X11_buildableTogether (by omega)
  have C : ∀ H, CFr H (g_X12_buildableTogether H (sc (x4 + 1).toNatClampNeg) (sc (x4 + 2).toNatClampNeg)) := fun H => ⟨fun t ht i => fr_X12_buildableTogether (by unfold CS at ht; omega), fun t _ => by rw [gl_X12_buildableTogether], gr_X12_buildableTogether⟩
  have p1 := (y_buildableTogether hn A (sc (x4 + 1).toNatClampNeg) (sc (x4 + 2).toNatClampNeg)).1
  refine vc_L_law_1322 (d := d + 10) ⟨v1, v2, ?_⟩
  by_cases hx : x_X11_buildableTogether h (sc (x4 + 1).toNatClampNeg) (sc (x4 + 2).toNatClampNeg) = 0
  · have Z := y_buildableTogether hn (A.m (F.l (v := (f_X11_buildableTogether h (sc (x4 + 1).toNatClampNeg) (sc (x4 + 2).toNatClampNeg)).toInt64))) (sc (x4 + 1).toNatClampNeg) (sc (x4 + 2).toNatClampNeg)
    have o := Z.2.2.1.ok hx (by decide)
    refine ch_L_buildableTogether (k := 0) (d := d + 9) (by omega) (c_X11_buildableTogether p1 hx ?_)
    refine ⟨v1, v2, ?_⟩
    refine c_X12_buildableTogether Z.2.1 ?_
    refine lw_t0 o.2 ?_ (kk _ (Z.2.2.2.c (CFr.l.trans (C _))))
    rw [gl_X12_buildableTogether, hp_l_66]
    exact congrArg Int32.toInt64 o.1
  · have Z := y_buildableTogether hn (A.m F) (sc (x4 + 1).toNatClampNeg) (sc (x4 + 2).toNatClampNeg)
    obtain ⟨z, hz, ez⟩ := Z.2.2.1.bad hx
    have T : ¬ z = 0 → CL 0 (d + 10) mX12_buildableTogether [vR 12 0, vI (sc (x4 + 1).toNatClampNeg), vI (sc (x4 + 2).toNatClampNeg)] (g_X11_buildableTogether h (sc (x4 + 1).toNatClampNeg) (sc (x4 + 2).toNatClampNeg)) (oI fun r4 h3 => CL 0 (d + 10) mX12_thrown [vR 12 0] h3 (oI fun r6 h5 => ((r6 = z) → ((¬ z = 0) → LK nS sc d rb x4 h5 Qr Qx) ∧ ((z = 0) → (((lg_cmp (h5.2.1 66 0 0) r4.toInt64) = 0) → LK nS sc d rb x4 h5 Qr Qx) ∧ ((¬ (lg_cmp (h5.2.1 66 0 0) r4.toInt64) = 0) → Qr (some (vI 0)) h5))) ∧ ((¬ r6 = z) → Qr (some (vI 0)) h5)) Qx) Qx := fun nz => c_X12_buildableTogether Z.2.1 (lw_t1 nz ez (kk _ (Z.2.2.2.c (C _))))
    refine ch_L_buildableTogether (k := 1) (d := d + 9) (by omega) ((t_X11_buildableTogether p1 hx ?_).imp (fun _ _ y => y.elim) (fun _ _ y => y))
    generalize x_X11_buildableTogether h (sc (x4 + 1).toNatClampNeg) (sc (x4 + 2).toNatClampNeg) = xx at hx hz ⊢
    clear ez Z
    simp only [List.mem_cons, Prod.mk.injEq, List.not_mem_nil, or_false] at hz
    rcases hz with ⟨e1, e2⟩ | ⟨e1, e2⟩
    · subst e1 e2
      exact Or.inl ⟨rfl, v1, v2, T (by decide)⟩
    · subst e1 e2
      exact Or.inr (⟨rfl, v1, v2, T (by decide)⟩)
theorem lw_stateOf (hn : n < 512) (A : RA h h n) (v1 : vp_in (x4 + 1) nS) (kk : ∀ h', RA h' h' (n + 1) → LK nS sc d rb x4 h' Qr Qx) : AW (oa_X nS sc) (d + 10 + 1) (rb + 1) mL_law 1390 [(0, vR 2000 0), (1, vR 11 0), (2, vR 12 0), (3, vR 66 0), (4, vI x4)] [] h Qr Qx := by
  have F : MFr h h := MFr.rfl'
  have C : ∀ H, CFr H (g_X12_stateOf H (sc (x4 + 1).toNatClampNeg)) := fun H => ⟨fun t ht i => fr_X12_stateOf (by unfold CS at ht; omega), fun t _ => by rw [gl_X12_stateOf], gr_X12_stateOf⟩
  have p1 := (y_stateOf hn A (sc (x4 + 1).toNatClampNeg)).1
  refine vc_L_law_1390 (d := d + 10) ⟨v1, ?_⟩
  by_cases hx : x_X11_stateOf h (sc (x4 + 1).toNatClampNeg) = 0
  · have Z := y_stateOf hn (A.m (F.l (v := (f_X11_stateOf h (sc (x4 + 1).toNatClampNeg)).toInt64))) (sc (x4 + 1).toNatClampNeg)
    have o := Z.2.2.1.ok hx (by decide)
    refine ch_L_stateOf (k := 0) (d := d + 9) (by omega) (c_X11_stateOf p1 hx ?_)
    refine ⟨v1, ?_⟩
    refine c_X12_stateOf Z.2.1 ?_
    refine lw_t0 o.2 ?_ (kk _ (Z.2.2.2.c (CFr.l.trans (C _))))
    rw [gl_X12_stateOf, hp_l_66]
    exact congrArg Int32.toInt64 o.1
  · have Z := y_stateOf hn (A.m F) (sc (x4 + 1).toNatClampNeg)
    obtain ⟨z, hz, ez⟩ := Z.2.2.1.bad hx
    have T : ¬ z = 0 → CL 0 (d + 10) mX12_stateOf [vR 12 0, vI (sc (x4 + 1).toNatClampNeg)] h (oI fun r4 h3 => CL 0 (d + 10) mX12_thrown [vR 12 0] h3 (oI fun r6 h5 => ((r6 = z) → ((¬ z = 0) → LK nS sc d rb x4 h5 Qr Qx) ∧ ((z = 0) → (((lg_cmp (h5.2.1 66 0 0) r4.toInt64) = 0) → LK nS sc d rb x4 h5 Qr Qx) ∧ ((¬ (lg_cmp (h5.2.1 66 0 0) r4.toInt64) = 0) → Qr (some (vI 0)) h5))) ∧ ((¬ r6 = z) → Qr (some (vI 0)) h5)) Qx) Qx := fun nz => c_X12_stateOf Z.2.1 (lw_t1 nz ez (kk _ (Z.2.2.2.c (C _))))
    refine ch_L_stateOf (k := 1) (d := d + 9) (by omega) ((t_X11_stateOf p1 hx ?_).imp (fun _ _ y => y.elim) (fun _ _ y => y))
    generalize x_X11_stateOf h (sc (x4 + 1).toNatClampNeg) = xx at hx hz ⊢
    clear ez Z
    simp only [List.mem_cons, Prod.mk.injEq, List.not_mem_nil, or_false] at hz
    obtain ⟨e1, e2⟩ := hz
    subst e1 e2
    exact ⟨rfl, v1, T (by decide)⟩
theorem lw_openUnits (hn : n < 512) (A : RA h h n) (v1 : vp_in (x4 + 1) nS) (kk : ∀ h', RA h' h' (n + 1) → LK nS sc d rb x4 h' Qr Qx) : AW (oa_X nS sc) (d + 10 + 1) (rb + 1) mL_law 1446 [(0, vR 2000 0), (1, vR 11 0), (2, vR 12 0), (3, vR 66 0), (4, vI x4)] [] h Qr Qx := by
  have F : MFr h h := MFr.rfl'
  have C : ∀ H, CFr H (g_X12_openUnits H (sc (x4 + 1).toNatClampNeg)) := fun H => ⟨fun t ht i => fr_X12_openUnits (by unfold CS at ht; omega), fun t _ => by rw [gl_X12_openUnits], gr_X12_openUnits⟩
  have p1 := (y_openUnits hn A (sc (x4 + 1).toNatClampNeg)).1
  refine vc_L_law_1446 (d := d + 10) ⟨v1, ?_⟩
  by_cases hx : x_X11_openUnits h (sc (x4 + 1).toNatClampNeg) = 0
  · have Z := y_openUnits hn (A.m (F.l (v := (f_X11_openUnits h (sc (x4 + 1).toNatClampNeg)).toInt64))) (sc (x4 + 1).toNatClampNeg)
    have o := Z.2.2.1.ok hx (by decide)
    refine ch_L_openUnits (k := 0) (d := d + 9) (by omega) (c_X11_openUnits p1 hx ?_)
    refine ⟨v1, ?_⟩
    refine c_X12_openUnits Z.2.1 ?_
    refine lw_t0 o.2 ?_ (kk _ (Z.2.2.2.c (CFr.l.trans (C _))))
    rw [gl_X12_openUnits, hp_l_66]
    exact congrArg Int32.toInt64 o.1
  · have Z := y_openUnits hn (A.m F) (sc (x4 + 1).toNatClampNeg)
    obtain ⟨z, hz, ez⟩ := Z.2.2.1.bad hx
    have T : ¬ z = 0 → CL 0 (d + 10) mX12_openUnits [vR 12 0, vI (sc (x4 + 1).toNatClampNeg)] h (oI fun r4 h3 => CL 0 (d + 10) mX12_thrown [vR 12 0] h3 (oI fun r6 h5 => ((r6 = z) → ((¬ z = 0) → LK nS sc d rb x4 h5 Qr Qx) ∧ ((z = 0) → (((lg_cmp (h5.2.1 66 0 0) r4.toInt64) = 0) → LK nS sc d rb x4 h5 Qr Qx) ∧ ((¬ (lg_cmp (h5.2.1 66 0 0) r4.toInt64) = 0) → Qr (some (vI 0)) h5))) ∧ ((¬ r6 = z) → Qr (some (vI 0)) h5)) Qx) Qx := fun nz => c_X12_openUnits Z.2.1 (lw_t1 nz ez (kk _ (Z.2.2.2.c (C _))))
    refine ch_L_openUnits (k := 1) (d := d + 9) (by omega) ((t_X11_openUnits p1 hx ?_).imp (fun _ _ y => y.elim) (fun _ _ y => y))
    generalize x_X11_openUnits h (sc (x4 + 1).toNatClampNeg) = xx at hx hz ⊢
    clear ez Z
    simp only [List.mem_cons, Prod.mk.injEq, List.not_mem_nil, or_false] at hz
    obtain ⟨e1, e2⟩ := hz
    subst e1 e2
    exact ⟨rfl, v1, T (by decide)⟩
theorem lw_reservedUnits (hn : n < 512) (A : RA h h n) (v1 : vp_in (x4 + 1) nS) (kk : ∀ h', RA h' h' (n + 1) → LK nS sc d rb x4 h' Qr Qx) : AW (oa_X nS sc) (d + 10 + 1) (rb + 1) mL_law 1502 [(0, vR 2000 0), (1, vR 11 0), (2, vR 12 0), (3, vR 66 0), (4, vI x4)] [] h Qr Qx := by
  have F : MFr h h := MFr.rfl'
  have C : ∀ H, CFr H (g_X12_reservedUnits H (sc (x4 + 1).toNatClampNeg)) := fun H => ⟨fun t ht i => fr_X12_reservedUnits (by unfold CS at ht; omega), fun t _ => by rw [gl_X12_reservedUnits], gr_X12_reservedUnits⟩
  have p1 := (y_reservedUnits hn A (sc (x4 + 1).toNatClampNeg)).1
  refine vc_L_law_1502 (d := d + 10) ⟨v1, ?_⟩
  by_cases hx : x_X11_reservedUnits h (sc (x4 + 1).toNatClampNeg) = 0
  · have Z := y_reservedUnits hn (A.m (F.l (v := (f_X11_reservedUnits h (sc (x4 + 1).toNatClampNeg)).toInt64))) (sc (x4 + 1).toNatClampNeg)
    have o := Z.2.2.1.ok hx (by decide)
    refine ch_L_reservedUnits (k := 0) (d := d + 9) (by omega) (c_X11_reservedUnits p1 hx ?_)
    refine ⟨v1, ?_⟩
    refine c_X12_reservedUnits Z.2.1 ?_
    refine lw_t0 o.2 ?_ (kk _ (Z.2.2.2.c (CFr.l.trans (C _))))
    rw [gl_X12_reservedUnits, hp_l_66]
    exact congrArg Int32.toInt64 o.1
  · have Z := y_reservedUnits hn (A.m F) (sc (x4 + 1).toNatClampNeg)
    obtain ⟨z, hz, ez⟩ := Z.2.2.1.bad hx
    have T : ¬ z = 0 → CL 0 (d + 10) mX12_reservedUnits [vR 12 0, vI (sc (x4 + 1).toNatClampNeg)] h (oI fun r4 h3 => CL 0 (d + 10) mX12_thrown [vR 12 0] h3 (oI fun r6 h5 => ((r6 = z) → ((¬ z = 0) → LK nS sc d rb x4 h5 Qr Qx) ∧ ((z = 0) → (((lg_cmp (h5.2.1 66 0 0) r4.toInt64) = 0) → LK nS sc d rb x4 h5 Qr Qx) ∧ ((¬ (lg_cmp (h5.2.1 66 0 0) r4.toInt64) = 0) → Qr (some (vI 0)) h5))) ∧ ((¬ r6 = z) → Qr (some (vI 0)) h5)) Qx) Qx := fun nz => c_X12_reservedUnits Z.2.1 (lw_t1 nz ez (kk _ (Z.2.2.2.c (C _))))
    refine ch_L_reservedUnits (k := 1) (d := d + 9) (by omega) ((t_X11_reservedUnits p1 hx ?_).imp (fun _ _ y => y.elim) (fun _ _ y => y))
    generalize x_X11_reservedUnits h (sc (x4 + 1).toNatClampNeg) = xx at hx hz ⊢
    clear ez Z
    simp only [List.mem_cons, Prod.mk.injEq, List.not_mem_nil, or_false] at hz
    obtain ⟨e1, e2⟩ := hz
    subst e1 e2
    exact ⟨rfl, v1, T (by decide)⟩
theorem lw_shippedUnits (hn : n < 512) (A : RA h h n) (v1 : vp_in (x4 + 1) nS) (kk : ∀ h', RA h' h' (n + 1) → LK nS sc d rb x4 h' Qr Qx) : AW (oa_X nS sc) (d + 10 + 1) (rb + 1) mL_law 1558 [(0, vR 2000 0), (1, vR 11 0), (2, vR 12 0), (3, vR 66 0), (4, vI x4)] [] h Qr Qx := by
  have F : MFr h h := MFr.rfl'
  have C : ∀ H, CFr H (g_X12_shippedUnits H (sc (x4 + 1).toNatClampNeg)) := fun H => ⟨fun t ht i => fr_X12_shippedUnits (by unfold CS at ht; omega), fun t _ => by rw [gl_X12_shippedUnits], gr_X12_shippedUnits⟩
  have p1 := (y_shippedUnits hn A (sc (x4 + 1).toNatClampNeg)).1
  refine vc_L_law_1558 (d := d + 10) ⟨v1, ?_⟩
  by_cases hx : x_X11_shippedUnits h (sc (x4 + 1).toNatClampNeg) = 0
  · have Z := y_shippedUnits hn (A.m (F.l (v := (f_X11_shippedUnits h (sc (x4 + 1).toNatClampNeg)).toInt64))) (sc (x4 + 1).toNatClampNeg)
    have o := Z.2.2.1.ok hx (by decide)
    refine ch_L_shippedUnits (k := 0) (d := d + 9) (by omega) (c_X11_shippedUnits p1 hx ?_)
    refine ⟨v1, ?_⟩
    refine c_X12_shippedUnits Z.2.1 ?_
    refine lw_t0 o.2 ?_ (kk _ (Z.2.2.2.c (CFr.l.trans (C _))))
    rw [gl_X12_shippedUnits, hp_l_66]
    exact congrArg Int32.toInt64 o.1
  · have Z := y_shippedUnits hn (A.m F) (sc (x4 + 1).toNatClampNeg)
    obtain ⟨z, hz, ez⟩ := Z.2.2.1.bad hx
    have T : ¬ z = 0 → CL 0 (d + 10) mX12_shippedUnits [vR 12 0, vI (sc (x4 + 1).toNatClampNeg)] h (oI fun r4 h3 => CL 0 (d + 10) mX12_thrown [vR 12 0] h3 (oI fun r6 h5 => ((r6 = z) → ((¬ z = 0) → LK nS sc d rb x4 h5 Qr Qx) ∧ ((z = 0) → (((lg_cmp (h5.2.1 66 0 0) r4.toInt64) = 0) → LK nS sc d rb x4 h5 Qr Qx) ∧ ((¬ (lg_cmp (h5.2.1 66 0 0) r4.toInt64) = 0) → Qr (some (vI 0)) h5))) ∧ ((¬ r6 = z) → Qr (some (vI 0)) h5)) Qx) Qx := fun nz => c_X12_shippedUnits Z.2.1 (lw_t1 nz ez (kk _ (Z.2.2.2.c (C _))))
    refine ch_L_shippedUnits (k := 1) (d := d + 9) (by omega) ((t_X11_shippedUnits p1 hx ?_).imp (fun _ _ y => y.elim) (fun _ _ y => y))
    generalize x_X11_shippedUnits h (sc (x4 + 1).toNatClampNeg) = xx at hx hz ⊢
    clear ez Z
    simp only [List.mem_cons, Prod.mk.injEq, List.not_mem_nil, or_false] at hz
    obtain ⟨e1, e2⟩ := hz
    subst e1 e2
    exact ⟨rfl, v1, T (by decide)⟩
theorem lw_orderField (hn : n < 512) (A : RA h h n) (v1 : vp_in (x4 + 1) nS) (v2 : vp_in (x4 + 2) nS) (kk : ∀ h', RA h' h' (n + 1) → LK nS sc d rb x4 h' Qr Qx) : AW (oa_X nS sc) (d + 10 + 1) (rb + 1) mL_law 1614 [(0, vR 2000 0), (1, vR 11 0), (2, vR 12 0), (3, vR 66 0), (4, vI x4)] [] h Qr Qx := by
  have F : MFr h h := MFr.rfl'
  have C : ∀ H, CFr H (g_X12_orderField H (sc (x4 + 1).toNatClampNeg) (sc (x4 + 2).toNatClampNeg)) := fun H => ⟨fun t ht i => fr_X12_orderField (by unfold CS at ht; omega), fun t _ => by rw [gl_X12_orderField], gr_X12_orderField⟩
  have p1 := (y_orderField hn A (sc (x4 + 1).toNatClampNeg) (sc (x4 + 2).toNatClampNeg)).1
  refine vc_L_law_1614 (d := d + 10) ⟨v1, v2, ?_⟩
  by_cases hx : x_X11_orderField h (sc (x4 + 1).toNatClampNeg) (sc (x4 + 2).toNatClampNeg) = 0
  · have Z := y_orderField hn (A.m (F.l (v := (f_X11_orderField h (sc (x4 + 1).toNatClampNeg) (sc (x4 + 2).toNatClampNeg)).toInt64))) (sc (x4 + 1).toNatClampNeg) (sc (x4 + 2).toNatClampNeg)
    have o := Z.2.2.1.ok hx (by decide)
    refine ch_L_orderField (k := 0) (d := d + 9) (by omega) (c_X11_orderField p1 hx ?_)
    refine ⟨v1, v2, ?_⟩
    refine c_X12_orderField Z.2.1 ?_
    refine lw_t0 o.2 ?_ (kk _ (Z.2.2.2.c (CFr.l.trans (C _))))
    rw [gl_X12_orderField, hp_l_66]
    exact congrArg Int32.toInt64 o.1
  · have Z := y_orderField hn (A.m F) (sc (x4 + 1).toNatClampNeg) (sc (x4 + 2).toNatClampNeg)
    obtain ⟨z, hz, ez⟩ := Z.2.2.1.bad hx
    have T : ¬ z = 0 → CL 0 (d + 10) mX12_orderField [vR 12 0, vI (sc (x4 + 1).toNatClampNeg), vI (sc (x4 + 2).toNatClampNeg)] h (oI fun r4 h3 => CL 0 (d + 10) mX12_thrown [vR 12 0] h3 (oI fun r6 h5 => ((r6 = z) → ((¬ z = 0) → LK nS sc d rb x4 h5 Qr Qx) ∧ ((z = 0) → (((lg_cmp (h5.2.1 66 0 0) r4.toInt64) = 0) → LK nS sc d rb x4 h5 Qr Qx) ∧ ((¬ (lg_cmp (h5.2.1 66 0 0) r4.toInt64) = 0) → Qr (some (vI 0)) h5))) ∧ ((¬ r6 = z) → Qr (some (vI 0)) h5)) Qx) Qx := fun nz => c_X12_orderField Z.2.1 (lw_t1 nz ez (kk _ (Z.2.2.2.c (C _))))
    refine ch_L_orderField (k := 1) (d := d + 9) (by omega) ((t_X11_orderField p1 hx ?_).imp (fun _ _ y => y.elim) (fun _ _ y => y))
    generalize x_X11_orderField h (sc (x4 + 1).toNatClampNeg) (sc (x4 + 2).toNatClampNeg) = xx at hx hz ⊢
    clear ez Z
    simp only [List.mem_cons, Prod.mk.injEq, List.not_mem_nil, or_false] at hz
    obtain ⟨e1, e2⟩ := hz
    subst e1 e2
    exact ⟨rfl, v1, v2, T (by decide)⟩
theorem lw_missing (hn : n < 512) (A : RA h h n) (v1 : vp_in (x4 + 1) nS) (v2 : vp_in (x4 + 2) nS) (kk : ∀ h', RA h' h' (n + 1) → LK nS sc d rb x4 h' Qr Qx) : AW (oa_X nS sc) (d + 10 + 1) (rb + 1) mL_law 1682 [(0, vR 2000 0), (1, vR 11 0), (2, vR 12 0), (3, vR 66 0), (4, vI x4)] [] h Qr Qx := by
  have F : MFr h h := MFr.rfl'
  have C : ∀ H, CFr H (g_X12_missing H (sc (x4 + 1).toNatClampNeg) (sc (x4 + 2).toNatClampNeg)) := fun H => ⟨fun t ht i => fr_X12_missing (by unfold CS at ht; omega), fun t _ => by rw [gl_X12_missing], gr_X12_missing⟩
  have p1 := (y_missing hn A (sc (x4 + 1).toNatClampNeg) (sc (x4 + 2).toNatClampNeg)).1
  refine vc_L_law_1682 (d := d + 10) ⟨v1, v2, ?_⟩
  by_cases hx : x_X11_missing h (sc (x4 + 1).toNatClampNeg) (sc (x4 + 2).toNatClampNeg) = 0
  · have Z := y_missing hn (A.m (F.l (v := (f_X11_missing h (sc (x4 + 1).toNatClampNeg) (sc (x4 + 2).toNatClampNeg)).toInt64))) (sc (x4 + 1).toNatClampNeg) (sc (x4 + 2).toNatClampNeg)
    have o := Z.2.2.1.ok hx (by decide)
    refine ch_L_missing (k := 0) (d := d + 9) (by omega) (c_X11_missing p1 hx ?_)
    refine ⟨v1, v2, ?_⟩
    refine c_X12_missing Z.2.1 ?_
    refine lw_t0 o.2 ?_ (kk _ (Z.2.2.2.c (CFr.l.trans (C _))))
    rw [gl_X12_missing, hp_l_66]
    exact congrArg Int32.toInt64 o.1
  · have Z := y_missing hn (A.m F) (sc (x4 + 1).toNatClampNeg) (sc (x4 + 2).toNatClampNeg)
    obtain ⟨z, hz, ez⟩ := Z.2.2.1.bad hx
    have T : ¬ z = 0 → CL 0 (d + 10) mX12_missing [vR 12 0, vI (sc (x4 + 1).toNatClampNeg), vI (sc (x4 + 2).toNatClampNeg)] h (oI fun r4 h3 => CL 0 (d + 10) mX12_thrown [vR 12 0] h3 (oI fun r6 h5 => ((r6 = z) → ((¬ z = 0) → LK nS sc d rb x4 h5 Qr Qx) ∧ ((z = 0) → (((lg_cmp (h5.2.1 66 0 0) r4.toInt64) = 0) → LK nS sc d rb x4 h5 Qr Qx) ∧ ((¬ (lg_cmp (h5.2.1 66 0 0) r4.toInt64) = 0) → Qr (some (vI 0)) h5))) ∧ ((¬ r6 = z) → Qr (some (vI 0)) h5)) Qx) Qx := fun nz => c_X12_missing Z.2.1 (lw_t1 nz ez (kk _ (Z.2.2.2.c (C _))))
    refine ch_L_missing (k := 1) (d := d + 9) (by omega) ((t_X11_missing p1 hx ?_).imp (fun _ _ y => y.elim) (fun _ _ y => y))
    generalize x_X11_missing h (sc (x4 + 1).toNatClampNeg) (sc (x4 + 2).toNatClampNeg) = xx at hx hz ⊢
    clear ez Z
    simp only [List.mem_cons, Prod.mk.injEq, List.not_mem_nil, or_false] at hz
    obtain ⟨e1, e2⟩ := hz
    subst e1 e2
    exact ⟨rfl, v1, v2, T (by decide)⟩
theorem lw_toBuy (hn : n < 512) (A : RA h h n) (v1 : vp_in (x4 + 1) nS) (kk : ∀ h', RA h' h' (n + 1) → LK nS sc d rb x4 h' Qr Qx) : AW (oa_X nS sc) (d + 10 + 1) (rb + 1) mL_law 1750 [(0, vR 2000 0), (1, vR 11 0), (2, vR 12 0), (3, vR 66 0), (4, vI x4)] [] h Qr Qx := by
  have F : MFr h h := MFr.rfl'
  have C : ∀ H, CFr H (g_X12_toBuy H (sc (x4 + 1).toNatClampNeg)) := fun H => ⟨fun t ht i => fr_X12_toBuy (by unfold CS at ht; omega), fun t _ => by rw [gl_X12_toBuy], gr_X12_toBuy⟩
  have p1 := (y_toBuy hn A (sc (x4 + 1).toNatClampNeg)).1
  refine vc_L_law_1750 (d := d + 10) ⟨v1, ?_⟩
  by_cases hx : x_X11_toBuy h (sc (x4 + 1).toNatClampNeg) = 0
  · have Z := y_toBuy hn (A.m (F.l (v := (f_X11_toBuy h (sc (x4 + 1).toNatClampNeg)).toInt64))) (sc (x4 + 1).toNatClampNeg)
    have o := Z.2.2.1.ok hx (by decide)
    refine ch_L_toBuy (k := 0) (d := d + 9) (by omega) (c_X11_toBuy p1 hx ?_)
    refine ⟨v1, ?_⟩
    refine c_X12_toBuy Z.2.1 ?_
    refine lw_t0 o.2 ?_ (kk _ (Z.2.2.2.c (CFr.l.trans (C _))))
    rw [gl_X12_toBuy, hp_l_66]
    exact congrArg Int32.toInt64 o.1
  · have Z := y_toBuy hn (A.m F) (sc (x4 + 1).toNatClampNeg)
    obtain ⟨z, hz, ez⟩ := Z.2.2.1.bad hx
    have T : ¬ z = 0 → CL 0 (d + 10) mX12_toBuy [vR 12 0, vI (sc (x4 + 1).toNatClampNeg)] h (oI fun r4 h3 => CL 0 (d + 10) mX12_thrown [vR 12 0] h3 (oI fun r6 h5 => ((r6 = z) → ((¬ z = 0) → LK nS sc d rb x4 h5 Qr Qx) ∧ ((z = 0) → (((lg_cmp (h5.2.1 66 0 0) r4.toInt64) = 0) → LK nS sc d rb x4 h5 Qr Qx) ∧ ((¬ (lg_cmp (h5.2.1 66 0 0) r4.toInt64) = 0) → Qr (some (vI 0)) h5))) ∧ ((¬ r6 = z) → Qr (some (vI 0)) h5)) Qx) Qx := fun nz => c_X12_toBuy Z.2.1 (lw_t1 nz ez (kk _ (Z.2.2.2.c (C _))))
    refine ch_L_toBuy (k := 1) (d := d + 9) (by omega) ((t_X11_toBuy p1 hx ?_).imp (fun _ _ y => y.elim) (fun _ _ y => y))
    generalize x_X11_toBuy h (sc (x4 + 1).toNatClampNeg) = xx at hx hz ⊢
    clear ez Z
    simp only [List.mem_cons, Prod.mk.injEq, List.not_mem_nil, or_false] at hz
    obtain ⟨e1, e2⟩ := hz
    subst e1 e2
    exact ⟨rfl, v1, T (by decide)⟩
theorem lw_scarcestPart (hn : n < 512) (A : RA h h n) (kk : ∀ h', RA h' h' (n + 1) → LK nS sc d rb x4 h' Qr Qx) : AW (oa_X nS sc) (d + 10 + 1) (rb + 1) mL_law 1806 [(0, vR 2000 0), (1, vR 11 0), (2, vR 12 0), (3, vR 66 0), (4, vI x4)] [] h Qr Qx := by
  have F : MFr h h := MFr.rfl'
  have C : ∀ H, CFr H (g_X12_scarcestPart H) := fun H => ⟨fun t ht i => fr_X12_scarcestPart (by unfold CS at ht; omega), fun t _ => by rw [gl_X12_scarcestPart], gr_X12_scarcestPart⟩
  have Z := y_scarcestPart hn (A.m F)
  refine vc_L_law_1806 (d := d + 10) ?_
  refine c_X11_scarcestPart Z.1 ?_
  refine c_X12_scarcestPart Z.2.1 ?_
  exact ⟨fun _ => kk _ (Z.2.2.2.c (C _)), fun z => (z Z.2.2.1).elim⟩
theorem lw_promise (hn : n < 512) (A : RA h h n) (v1 : vp_in (x4 + 1) nS) (v2 : vp_in (x4 + 2) nS) (kk : ∀ h', RA h' h' (n + 1) → LK nS sc d rb x4 h' Qr Qx) : AW (oa_X nS sc) (d + 10 + 1) (rb + 1) mL_law 1819 [(0, vR 2000 0), (1, vR 11 0), (2, vR 12 0), (3, vR 66 0), (4, vI x4)] [] h Qr Qx := by
  have F : MFr h h := MFr.rfl'
  have C : ∀ H, CFr H (g_X12_promise H (sc (x4 + 1).toNatClampNeg) (sc (x4 + 2).toNatClampNeg)) := fun H => ⟨fun t ht i => fr_X12_promise (by unfold CS at ht; omega), fun t _ => by rw [gl_X12_promise], gr_X12_promise⟩
  have p1 := (y_promise hn A (sc (x4 + 1).toNatClampNeg) (sc (x4 + 2).toNatClampNeg)).1
  refine vc_L_law_1819 (d := d + 10) ⟨v1, v2, ?_⟩
  by_cases hx : x_X11_promise h (sc (x4 + 1).toNatClampNeg) (sc (x4 + 2).toNatClampNeg) = 0
  · have Z := y_promise hn (A.m (F.l (v := (f_X11_promise h (sc (x4 + 1).toNatClampNeg) (sc (x4 + 2).toNatClampNeg)).toInt64))) (sc (x4 + 1).toNatClampNeg) (sc (x4 + 2).toNatClampNeg)
    have o := Z.2.2.1.ok hx (by decide)
    refine ch_L_promise (k := 0) (d := d + 9) (by omega) (c_X11_promise p1 hx ?_)
    refine ⟨v1, v2, ?_⟩
    refine c_X12_promise Z.2.1 ?_
    refine lw_t0 o.2 ?_ (kk _ (Z.2.2.2.c (CFr.l.trans (C _))))
    rw [gl_X12_promise, hp_l_66]
    exact congrArg Int32.toInt64 o.1
  · have Z := y_promise hn (A.m F) (sc (x4 + 1).toNatClampNeg) (sc (x4 + 2).toNatClampNeg)
    obtain ⟨z, hz, ez⟩ := Z.2.2.1.bad hx
    have T : ¬ z = 0 → CL 0 (d + 10) mX12_promise [vR 12 0, vI (sc (x4 + 1).toNatClampNeg), vI (sc (x4 + 2).toNatClampNeg)] h (oI fun r4 h3 => CL 0 (d + 10) mX12_thrown [vR 12 0] h3 (oI fun r6 h5 => ((r6 = z) → ((¬ z = 0) → LK nS sc d rb x4 h5 Qr Qx) ∧ ((z = 0) → (((lg_cmp (h5.2.1 66 0 0) r4.toInt64) = 0) → LK nS sc d rb x4 h5 Qr Qx) ∧ ((¬ (lg_cmp (h5.2.1 66 0 0) r4.toInt64) = 0) → Qr (some (vI 0)) h5))) ∧ ((¬ r6 = z) → Qr (some (vI 0)) h5)) Qx) Qx := fun nz => c_X12_promise Z.2.1 (lw_t1 nz ez (kk _ (Z.2.2.2.c (C _))))
    refine ch_L_promise (k := 1) (d := d + 9) (by omega) ((t_X11_promise p1 hx ?_).imp (fun _ _ y => y.elim) (fun _ _ y => y))
    generalize x_X11_promise h (sc (x4 + 1).toNatClampNeg) (sc (x4 + 2).toNatClampNeg) = xx at hx hz ⊢
    clear ez Z
    simp only [List.mem_cons, Prod.mk.injEq, List.not_mem_nil, or_false] at hz
    rcases hz with ⟨e1, e2⟩ | ⟨e1, e2⟩
    · subst e1 e2
      exact Or.inl ⟨rfl, v1, v2, T (by decide)⟩
    · subst e1 e2
      exact Or.inr (⟨rfl, v1, v2, T (by decide)⟩)
theorem lw_promiseOf (hn : n < 512) (A : RA h h n) (v1 : vp_in (x4 + 1) nS) (kk : ∀ h', RA h' h' (n + 1) → LK nS sc d rb x4 h' Qr Qx) : AW (oa_X nS sc) (d + 10 + 1) (rb + 1) mL_law 1887 [(0, vR 2000 0), (1, vR 11 0), (2, vR 12 0), (3, vR 66 0), (4, vI x4)] [] h Qr Qx := by
  have F : MFr h h := MFr.rfl'
  have C : ∀ H, CFr H (g_X12_promiseOf H (sc (x4 + 1).toNatClampNeg)) := fun H => ⟨fun t ht i => fr_X12_promiseOf (by unfold CS at ht; omega), fun t _ => by rw [gl_X12_promiseOf], gr_X12_promiseOf⟩
  have p1 := (y_promiseOf hn A (sc (x4 + 1).toNatClampNeg)).1
  refine vc_L_law_1887 (d := d + 10) ⟨v1, ?_⟩
  by_cases hx : x_X11_promiseOf h (sc (x4 + 1).toNatClampNeg) = 0
  · have Z := y_promiseOf hn (A.m (F.l (v := (f_X11_promiseOf h (sc (x4 + 1).toNatClampNeg)).toInt64))) (sc (x4 + 1).toNatClampNeg)
    have o := Z.2.2.1.ok hx (by decide)
    refine ch_L_promiseOf (k := 0) (d := d + 9) (by omega) (c_X11_promiseOf p1 hx ?_)
    refine ⟨v1, ?_⟩
    refine c_X12_promiseOf Z.2.1 ?_
    refine lw_t0 o.2 ?_ (kk _ (Z.2.2.2.c (CFr.l.trans (C _))))
    rw [gl_X12_promiseOf, hp_l_66]
    exact congrArg Int32.toInt64 o.1
  · have Z := y_promiseOf hn (A.m F) (sc (x4 + 1).toNatClampNeg)
    obtain ⟨z, hz, ez⟩ := Z.2.2.1.bad hx
    have T : ¬ z = 0 → CL 0 (d + 10) mX12_promiseOf [vR 12 0, vI (sc (x4 + 1).toNatClampNeg)] h (oI fun r4 h3 => CL 0 (d + 10) mX12_thrown [vR 12 0] h3 (oI fun r6 h5 => ((r6 = z) → ((¬ z = 0) → LK nS sc d rb x4 h5 Qr Qx) ∧ ((z = 0) → (((lg_cmp (h5.2.1 66 0 0) r4.toInt64) = 0) → LK nS sc d rb x4 h5 Qr Qx) ∧ ((¬ (lg_cmp (h5.2.1 66 0 0) r4.toInt64) = 0) → Qr (some (vI 0)) h5))) ∧ ((¬ r6 = z) → Qr (some (vI 0)) h5)) Qx) Qx := fun nz => c_X12_promiseOf Z.2.1 (lw_t1 nz ez (kk _ (Z.2.2.2.c (C _))))
    refine ch_L_promiseOf (k := 1) (d := d + 9) (by omega) ((t_X11_promiseOf p1 hx ?_).imp (fun _ _ y => y.elim) (fun _ _ y => y))
    generalize x_X11_promiseOf h (sc (x4 + 1).toNatClampNeg) = xx at hx hz ⊢
    clear ez Z
    simp only [List.mem_cons, Prod.mk.injEq, List.not_mem_nil, or_false] at hz
    obtain ⟨e1, e2⟩ := hz
    subst e1 e2
    exact ⟨rfl, v1, T (by decide)⟩
theorem lw_delayingPart (hn : n < 512) (A : RA h h n) (v1 : vp_in (x4 + 1) nS) (kk : ∀ h', RA h' h' (n + 1) → LK nS sc d rb x4 h' Qr Qx) : AW (oa_X nS sc) (d + 10 + 1) (rb + 1) mL_law 1943 [(0, vR 2000 0), (1, vR 11 0), (2, vR 12 0), (3, vR 66 0), (4, vI x4)] [] h Qr Qx := by
  have F : MFr h h := MFr.rfl'
  have C : ∀ H, CFr H (g_X12_delayingPart H (sc (x4 + 1).toNatClampNeg)) := fun H => ⟨fun t ht i => fr_X12_delayingPart (by unfold CS at ht; omega), fun t _ => by rw [gl_X12_delayingPart], gr_X12_delayingPart⟩
  have p1 := (y_delayingPart hn A (sc (x4 + 1).toNatClampNeg)).1
  refine vc_L_law_1943 (d := d + 10) ⟨v1, ?_⟩
  by_cases hx : x_X11_delayingPart h (sc (x4 + 1).toNatClampNeg) = 0
  · have Z := y_delayingPart hn (A.m (F.l (v := (f_X11_delayingPart h (sc (x4 + 1).toNatClampNeg)).toInt64))) (sc (x4 + 1).toNatClampNeg)
    have o := Z.2.2.1.ok hx (by decide)
    refine ch_L_delayingPart (k := 0) (d := d + 9) (by omega) (c_X11_delayingPart p1 hx ?_)
    refine ⟨v1, ?_⟩
    refine c_X12_delayingPart Z.2.1 ?_
    refine lw_t0 o.2 ?_ (kk _ (Z.2.2.2.c (CFr.l.trans (C _))))
    rw [gl_X12_delayingPart, hp_l_66]
    exact congrArg Int32.toInt64 o.1
  · have Z := y_delayingPart hn (A.m F) (sc (x4 + 1).toNatClampNeg)
    obtain ⟨z, hz, ez⟩ := Z.2.2.1.bad hx
    have T : ¬ z = 0 → CL 0 (d + 10) mX12_delayingPart [vR 12 0, vI (sc (x4 + 1).toNatClampNeg)] h (oI fun r4 h3 => CL 0 (d + 10) mX12_thrown [vR 12 0] h3 (oI fun r6 h5 => ((r6 = z) → ((¬ z = 0) → LK nS sc d rb x4 h5 Qr Qx) ∧ ((z = 0) → (((lg_cmp (h5.2.1 66 0 0) r4.toInt64) = 0) → LK nS sc d rb x4 h5 Qr Qx) ∧ ((¬ (lg_cmp (h5.2.1 66 0 0) r4.toInt64) = 0) → Qr (some (vI 0)) h5))) ∧ ((¬ r6 = z) → Qr (some (vI 0)) h5)) Qx) Qx := fun nz => c_X12_delayingPart Z.2.1 (lw_t1 nz ez (kk _ (Z.2.2.2.c (C _))))
    refine ch_L_delayingPart (k := 1) (d := d + 9) (by omega) ((t_X11_delayingPart p1 hx ?_).imp (fun _ _ y => y.elim) (fun _ _ y => y))
    generalize x_X11_delayingPart h (sc (x4 + 1).toNatClampNeg) = xx at hx hz ⊢
    clear ez Z
    simp only [List.mem_cons, Prod.mk.injEq, List.not_mem_nil, or_false] at hz
    obtain ⟨e1, e2⟩ := hz
    subst e1 e2
    exact ⟨rfl, v1, T (by decide)⟩
theorem lw_lateOrders (hn : n < 512) (A : RA h h n) (kk : ∀ h', RA h' h' (n + 1) → LK nS sc d rb x4 h' Qr Qx) : AW (oa_X nS sc) (d + 10 + 1) (rb + 1) mL_law 1999 [(0, vR 2000 0), (1, vR 11 0), (2, vR 12 0), (3, vR 66 0), (4, vI x4)] [] h Qr Qx := by
  have F : MFr h h := MFr.rfl'
  have C : ∀ H, CFr H (g_X12_lateOrders H) := fun H => ⟨fun t ht i => fr_X12_lateOrders (by unfold CS at ht; omega), fun t _ => by rw [gl_X12_lateOrders], gr_X12_lateOrders⟩
  have Z := y_lateOrders hn (A.m F)
  refine vc_L_law_1999 (d := d + 10) ?_
  refine c_X11_lateOrders Z.1 ?_
  refine c_X12_lateOrders Z.2.1 ?_
  exact ⟨fun _ => kk _ (Z.2.2.2.c (C _)), fun z => (z Z.2.2.1).elim⟩
theorem lw_wouldGet (hn : n < 512) (A : RA h h n) (v1 : vp_in (x4 + 1) nS) (kk : ∀ h', RA h' h' (n + 1) → LK nS sc d rb x4 h' Qr Qx) : AW (oa_X nS sc) (d + 10 + 1) (rb + 1) mL_law 2012 [(0, vR 2000 0), (1, vR 11 0), (2, vR 12 0), (3, vR 66 0), (4, vI x4)] [] h Qr Qx := by
  have F : MFr h (g_X11_wouldGet h (sc (x4 + 1).toNatClampNeg)) := fun t ht => fr_X11_wouldGet (by omega) (by omega) (by omega) (by omega) (by omega) (by omega)
  have C : ∀ H, CFr H (g_X12_wouldGet H (sc (x4 + 1).toNatClampNeg)) := fun H => ⟨fun t ht i => fr_X12_wouldGet (by unfold CS at ht; omega) (by unfold CS at ht; omega) (by unfold CS at ht; omega) (by unfold CS at ht; omega) (by unfold CS at ht; omega) (by unfold CS at ht; omega), fun t _ => by rw [gl_X12_wouldGet], gr_X12_wouldGet⟩
  have p1 := (y_wouldGet hn A (sc (x4 + 1).toNatClampNeg)).1
  refine vc_L_law_2012 (d := d + 10) ⟨v1, ?_⟩
  by_cases hx : x_X11_wouldGet h (sc (x4 + 1).toNatClampNeg) = 0
  · have Z := y_wouldGet hn (A.m (F.l (v := (f_X11_wouldGet h (sc (x4 + 1).toNatClampNeg)).toInt64))) (sc (x4 + 1).toNatClampNeg)
    have o := Z.2.2.1.ok hx (by decide)
    refine ch_L_wouldGet (k := 0) (d := d + 9) (by omega) (c_X11_wouldGet p1 hx ?_)
    refine ⟨v1, ?_⟩
    refine c_X12_wouldGet Z.2.1 ?_
    refine lw_t0 o.2 ?_ (kk _ (Z.2.2.2.c (CFr.l.trans (C _))))
    rw [gl_X12_wouldGet, hp_l_66]
    exact congrArg Int32.toInt64 o.1
  · have Z := y_wouldGet hn (A.m F) (sc (x4 + 1).toNatClampNeg)
    obtain ⟨z, hz, ez⟩ := Z.2.2.1.bad hx
    have T : ¬ z = 0 → CL 0 (d + 10) mX12_wouldGet [vR 12 0, vI (sc (x4 + 1).toNatClampNeg)] (g_X11_wouldGet h (sc (x4 + 1).toNatClampNeg)) (oI fun r4 h3 => CL 0 (d + 10) mX12_thrown [vR 12 0] h3 (oI fun r6 h5 => ((r6 = z) → ((¬ z = 0) → LK nS sc d rb x4 h5 Qr Qx) ∧ ((z = 0) → (((lg_cmp (h5.2.1 66 0 0) r4.toInt64) = 0) → LK nS sc d rb x4 h5 Qr Qx) ∧ ((¬ (lg_cmp (h5.2.1 66 0 0) r4.toInt64) = 0) → Qr (some (vI 0)) h5))) ∧ ((¬ r6 = z) → Qr (some (vI 0)) h5)) Qx) Qx := fun nz => c_X12_wouldGet Z.2.1 (lw_t1 nz ez (kk _ (Z.2.2.2.c (C _))))
    refine ch_L_wouldGet (k := 1) (d := d + 9) (by omega) ((t_X11_wouldGet p1 hx ?_).imp (fun _ _ y => y.elim) (fun _ _ y => y))
    generalize x_X11_wouldGet h (sc (x4 + 1).toNatClampNeg) = xx at hx hz ⊢
    clear ez Z
    simp only [List.mem_cons, Prod.mk.injEq, List.not_mem_nil, or_false] at hz
    obtain ⟨e1, e2⟩ := hz
    subst e1 e2
    exact ⟨rfl, v1, T (by decide)⟩
theorem lw_rungOf (hn : n < 512) (A : RA h h n) (v1 : vp_in (x4 + 1) nS) (kk : ∀ h', RA h' h' (n + 1) → LK nS sc d rb x4 h' Qr Qx) : AW (oa_X nS sc) (d + 10 + 1) (rb + 1) mL_law 2068 [(0, vR 2000 0), (1, vR 11 0), (2, vR 12 0), (3, vR 66 0), (4, vI x4)] [] h Qr Qx := by
  have F : MFr h (g_X11_rungOf h (sc (x4 + 1).toNatClampNeg)) := fun t ht => fr_X11_rungOf (by omega) (by omega) (by omega) (by omega) (by omega) (by omega)
  have C : ∀ H, CFr H (g_X12_rungOf H (sc (x4 + 1).toNatClampNeg)) := fun H => ⟨fun t ht i => fr_X12_rungOf (by unfold CS at ht; omega) (by unfold CS at ht; omega) (by unfold CS at ht; omega) (by unfold CS at ht; omega) (by unfold CS at ht; omega) (by unfold CS at ht; omega), fun t _ => by rw [gl_X12_rungOf], gr_X12_rungOf⟩
  have p1 := (y_rungOf hn A (sc (x4 + 1).toNatClampNeg)).1
  refine vc_L_law_2068 (d := d + 10) ⟨v1, ?_⟩
  by_cases hx : x_X11_rungOf h (sc (x4 + 1).toNatClampNeg) = 0
  · have Z := y_rungOf hn (A.m (F.l (v := (f_X11_rungOf h (sc (x4 + 1).toNatClampNeg)).toInt64))) (sc (x4 + 1).toNatClampNeg)
    have o := Z.2.2.1.ok hx (by decide)
    refine ch_L_rungOf (k := 0) (d := d + 9) (by omega) (c_X11_rungOf p1 hx ?_)
    refine ⟨v1, ?_⟩
    refine c_X12_rungOf Z.2.1 ?_
    refine lw_t0 o.2 ?_ (kk _ (Z.2.2.2.c (CFr.l.trans (C _))))
    rw [gl_X12_rungOf, hp_l_66]
    exact congrArg Int32.toInt64 o.1
  · have Z := y_rungOf hn (A.m F) (sc (x4 + 1).toNatClampNeg)
    obtain ⟨z, hz, ez⟩ := Z.2.2.1.bad hx
    have T : ¬ z = 0 → CL 0 (d + 10) mX12_rungOf [vR 12 0, vI (sc (x4 + 1).toNatClampNeg)] (g_X11_rungOf h (sc (x4 + 1).toNatClampNeg)) (oI fun r4 h3 => CL 0 (d + 10) mX12_thrown [vR 12 0] h3 (oI fun r6 h5 => ((r6 = z) → ((¬ z = 0) → LK nS sc d rb x4 h5 Qr Qx) ∧ ((z = 0) → (((lg_cmp (h5.2.1 66 0 0) r4.toInt64) = 0) → LK nS sc d rb x4 h5 Qr Qx) ∧ ((¬ (lg_cmp (h5.2.1 66 0 0) r4.toInt64) = 0) → Qr (some (vI 0)) h5))) ∧ ((¬ r6 = z) → Qr (some (vI 0)) h5)) Qx) Qx := fun nz => c_X12_rungOf Z.2.1 (lw_t1 nz ez (kk _ (Z.2.2.2.c (C _))))
    refine ch_L_rungOf (k := 1) (d := d + 9) (by omega) ((t_X11_rungOf p1 hx ?_).imp (fun _ _ y => y.elim) (fun _ _ y => y))
    generalize x_X11_rungOf h (sc (x4 + 1).toNatClampNeg) = xx at hx hz ⊢
    clear ez Z
    simp only [List.mem_cons, Prod.mk.injEq, List.not_mem_nil, or_false] at hz
    obtain ⟨e1, e2⟩ := hz
    subst e1 e2
    exact ⟨rfl, v1, T (by decide)⟩
theorem lw_rungUnits (hn : n < 512) (A : RA h h n) (v1 : vp_in (x4 + 1) nS) (kk : ∀ h', RA h' h' (n + 1) → LK nS sc d rb x4 h' Qr Qx) : AW (oa_X nS sc) (d + 10 + 1) (rb + 1) mL_law 2124 [(0, vR 2000 0), (1, vR 11 0), (2, vR 12 0), (3, vR 66 0), (4, vI x4)] [] h Qr Qx := by
  have F : MFr h (g_X11_rungUnits h (sc (x4 + 1).toNatClampNeg)) := fun t ht => fr_X11_rungUnits (by omega) (by omega) (by omega) (by omega) (by omega) (by omega)
  have C : ∀ H, CFr H (g_X12_rungUnits H (sc (x4 + 1).toNatClampNeg)) := fun H => ⟨fun t ht i => fr_X12_rungUnits (by unfold CS at ht; omega) (by unfold CS at ht; omega) (by unfold CS at ht; omega) (by unfold CS at ht; omega) (by unfold CS at ht; omega) (by unfold CS at ht; omega), fun t _ => by rw [gl_X12_rungUnits], gr_X12_rungUnits⟩
  have p1 := (y_rungUnits hn A (sc (x4 + 1).toNatClampNeg)).1
  refine vc_L_law_2124 (d := d + 10) ⟨v1, ?_⟩
  by_cases hx : x_X11_rungUnits h (sc (x4 + 1).toNatClampNeg) = 0
  · have Z := y_rungUnits hn (A.m (F.l (v := (f_X11_rungUnits h (sc (x4 + 1).toNatClampNeg)).toInt64))) (sc (x4 + 1).toNatClampNeg)
    have o := Z.2.2.1.ok hx (by decide)
    refine ch_L_rungUnits (k := 0) (d := d + 9) (by omega) (c_X11_rungUnits p1 hx ?_)
    refine ⟨v1, ?_⟩
    refine c_X12_rungUnits Z.2.1 ?_
    refine lw_t0 o.2 ?_ (kk _ (Z.2.2.2.c (CFr.l.trans (C _))))
    rw [gl_X12_rungUnits, hp_l_66]
    exact congrArg Int32.toInt64 o.1
  · have Z := y_rungUnits hn (A.m F) (sc (x4 + 1).toNatClampNeg)
    obtain ⟨z, hz, ez⟩ := Z.2.2.1.bad hx
    have T : ¬ z = 0 → CL 0 (d + 10) mX12_rungUnits [vR 12 0, vI (sc (x4 + 1).toNatClampNeg)] (g_X11_rungUnits h (sc (x4 + 1).toNatClampNeg)) (oI fun r4 h3 => CL 0 (d + 10) mX12_thrown [vR 12 0] h3 (oI fun r6 h5 => ((r6 = z) → ((¬ z = 0) → LK nS sc d rb x4 h5 Qr Qx) ∧ ((z = 0) → (((lg_cmp (h5.2.1 66 0 0) r4.toInt64) = 0) → LK nS sc d rb x4 h5 Qr Qx) ∧ ((¬ (lg_cmp (h5.2.1 66 0 0) r4.toInt64) = 0) → Qr (some (vI 0)) h5))) ∧ ((¬ r6 = z) → Qr (some (vI 0)) h5)) Qx) Qx := fun nz => c_X12_rungUnits Z.2.1 (lw_t1 nz ez (kk _ (Z.2.2.2.c (C _))))
    refine ch_L_rungUnits (k := 1) (d := d + 9) (by omega) ((t_X11_rungUnits p1 hx ?_).imp (fun _ _ y => y.elim) (fun _ _ y => y))
    generalize x_X11_rungUnits h (sc (x4 + 1).toNatClampNeg) = xx at hx hz ⊢
    clear ez Z
    simp only [List.mem_cons, Prod.mk.injEq, List.not_mem_nil, or_false] at hz
    obtain ⟨e1, e2⟩ := hz
    subst e1 e2
    exact ⟨rfl, v1, T (by decide)⟩
theorem lw_missingPieces (hn : n < 512) (A : RA h h n) (v1 : vp_in (x4 + 1) nS) (kk : ∀ h', RA h' h' (n + 1) → LK nS sc d rb x4 h' Qr Qx) : AW (oa_X nS sc) (d + 10 + 1) (rb + 1) mL_law 2180 [(0, vR 2000 0), (1, vR 11 0), (2, vR 12 0), (3, vR 66 0), (4, vI x4)] [] h Qr Qx := by
  have F : MFr h h := MFr.rfl'
  have C : ∀ H, CFr H (g_X12_missingPieces H (sc (x4 + 1).toNatClampNeg)) := fun H => ⟨fun t ht i => fr_X12_missingPieces (by unfold CS at ht; omega), fun t _ => by rw [gl_X12_missingPieces], gr_X12_missingPieces⟩
  have p1 := (y_missingPieces hn A (sc (x4 + 1).toNatClampNeg)).1
  refine vc_L_law_2180 (d := d + 10) ⟨v1, ?_⟩
  by_cases hx : x_X11_missingPieces h (sc (x4 + 1).toNatClampNeg) = 0
  · have Z := y_missingPieces hn (A.m (F.l (v := (f_X11_missingPieces h (sc (x4 + 1).toNatClampNeg)).toInt64))) (sc (x4 + 1).toNatClampNeg)
    have o := Z.2.2.1.ok hx (by decide)
    refine ch_L_missingPieces (k := 0) (d := d + 9) (by omega) (c_X11_missingPieces p1 hx ?_)
    refine ⟨v1, ?_⟩
    refine c_X12_missingPieces Z.2.1 ?_
    refine lw_t0 o.2 ?_ (kk _ (Z.2.2.2.c (CFr.l.trans (C _))))
    rw [gl_X12_missingPieces, hp_l_66]
    exact congrArg Int32.toInt64 o.1
  · have Z := y_missingPieces hn (A.m F) (sc (x4 + 1).toNatClampNeg)
    obtain ⟨z, hz, ez⟩ := Z.2.2.1.bad hx
    have T : ¬ z = 0 → CL 0 (d + 10) mX12_missingPieces [vR 12 0, vI (sc (x4 + 1).toNatClampNeg)] h (oI fun r4 h3 => CL 0 (d + 10) mX12_thrown [vR 12 0] h3 (oI fun r6 h5 => ((r6 = z) → ((¬ z = 0) → LK nS sc d rb x4 h5 Qr Qx) ∧ ((z = 0) → (((lg_cmp (h5.2.1 66 0 0) r4.toInt64) = 0) → LK nS sc d rb x4 h5 Qr Qx) ∧ ((¬ (lg_cmp (h5.2.1 66 0 0) r4.toInt64) = 0) → Qr (some (vI 0)) h5))) ∧ ((¬ r6 = z) → Qr (some (vI 0)) h5)) Qx) Qx := fun nz => c_X12_missingPieces Z.2.1 (lw_t1 nz ez (kk _ (Z.2.2.2.c (C _))))
    refine ch_L_missingPieces (k := 1) (d := d + 9) (by omega) ((t_X11_missingPieces p1 hx ?_).imp (fun _ _ y => y.elim) (fun _ _ y => y))
    generalize x_X11_missingPieces h (sc (x4 + 1).toNatClampNeg) = xx at hx hz ⊢
    clear ez Z
    simp only [List.mem_cons, Prod.mk.injEq, List.not_mem_nil, or_false] at hz
    obtain ⟨e1, e2⟩ := hz
    subst e1 e2
    exact ⟨rfl, v1, T (by decide)⟩
theorem lw_buildableAfter (hn : n < 512) (A : RA h h n) (v1 : vp_in (x4 + 1) nS) (v2 : vp_in (x4 + 2) nS) (v3 : vp_in (x4 + 3) nS) (kk : ∀ h', RA h' h' (n + 1) → LK nS sc d rb x4 h' Qr Qx) : AW (oa_X nS sc) (d + 10 + 1) (rb + 1) mL_law 2236 [(0, vR 2000 0), (1, vR 11 0), (2, vR 12 0), (3, vR 66 0), (4, vI x4)] [] h Qr Qx := by
  have F : MFr h (g_X11_buildableAfter h (sc (x4 + 1).toNatClampNeg) (sc (x4 + 2).toNatClampNeg) (sc (x4 + 3).toNatClampNeg)) := fun t ht => fr_X11_buildableAfter (by omega)
  have C : ∀ H, CFr H (g_X12_buildableAfter H (sc (x4 + 1).toNatClampNeg) (sc (x4 + 2).toNatClampNeg) (sc (x4 + 3).toNatClampNeg)) := fun H => ⟨fun t ht i => fr_X12_buildableAfter (by unfold CS at ht; omega), fun t _ => by rw [gl_X12_buildableAfter], gr_X12_buildableAfter⟩
  have p1 := (y_buildableAfter hn A (sc (x4 + 1).toNatClampNeg) (sc (x4 + 2).toNatClampNeg) (sc (x4 + 3).toNatClampNeg)).1
  refine vc_L_law_2236 (d := d + 10) ⟨v1, v2, v3, ?_⟩
  by_cases hx : x_X11_buildableAfter h (sc (x4 + 1).toNatClampNeg) (sc (x4 + 2).toNatClampNeg) (sc (x4 + 3).toNatClampNeg) = 0
  · have Z := y_buildableAfter hn (A.m (F.l (v := (f_X11_buildableAfter h (sc (x4 + 1).toNatClampNeg) (sc (x4 + 2).toNatClampNeg) (sc (x4 + 3).toNatClampNeg)).toInt64))) (sc (x4 + 1).toNatClampNeg) (sc (x4 + 2).toNatClampNeg) (sc (x4 + 3).toNatClampNeg)
    have o := Z.2.2.1.ok hx (by decide)
    refine ch_L_buildableAfter (k := 0) (d := d + 9) (by omega) (c_X11_buildableAfter p1 hx ?_)
    refine ⟨v1, v2, v3, ?_⟩
    refine c_X12_buildableAfter Z.2.1 ?_
    refine lw_t0 o.2 ?_ (kk _ (Z.2.2.2.c (CFr.l.trans (C _))))
    rw [gl_X12_buildableAfter, hp_l_66]
    exact congrArg Int32.toInt64 o.1
  · have Z := y_buildableAfter hn (A.m F) (sc (x4 + 1).toNatClampNeg) (sc (x4 + 2).toNatClampNeg) (sc (x4 + 3).toNatClampNeg)
    obtain ⟨z, hz, ez⟩ := Z.2.2.1.bad hx
    have T : ¬ z = 0 → CL 0 (d + 10) mX12_buildableAfter [vR 12 0, vI (sc (x4 + 1).toNatClampNeg), vI (sc (x4 + 2).toNatClampNeg), vI (sc (x4 + 3).toNatClampNeg)] (g_X11_buildableAfter h (sc (x4 + 1).toNatClampNeg) (sc (x4 + 2).toNatClampNeg) (sc (x4 + 3).toNatClampNeg)) (oI fun r4 h3 => CL 0 (d + 10) mX12_thrown [vR 12 0] h3 (oI fun r6 h5 => ((r6 = z) → ((¬ z = 0) → LK nS sc d rb x4 h5 Qr Qx) ∧ ((z = 0) → (((lg_cmp (h5.2.1 66 0 0) r4.toInt64) = 0) → LK nS sc d rb x4 h5 Qr Qx) ∧ ((¬ (lg_cmp (h5.2.1 66 0 0) r4.toInt64) = 0) → Qr (some (vI 0)) h5))) ∧ ((¬ r6 = z) → Qr (some (vI 0)) h5)) Qx) Qx := fun nz => c_X12_buildableAfter Z.2.1 (lw_t1 nz ez (kk _ (Z.2.2.2.c (C _))))
    refine ch_L_buildableAfter (k := 1) (d := d + 9) (by omega) ((t_X11_buildableAfter p1 hx ?_).imp (fun _ _ y => y.elim) (fun _ _ y => y))
    generalize x_X11_buildableAfter h (sc (x4 + 1).toNatClampNeg) (sc (x4 + 2).toNatClampNeg) (sc (x4 + 3).toNatClampNeg) = xx at hx hz ⊢
    clear ez Z
    simp only [List.mem_cons, Prod.mk.injEq, List.not_mem_nil, or_false] at hz
    rcases hz with ⟨e1, e2⟩ | ⟨e1, e2⟩
    · subst e1 e2
      exact Or.inl ⟨rfl, v1, v2, v3, T (by decide)⟩
    · subst e1 e2
      exact Or.inr (⟨rfl, v1, v2, v3, T (by decide)⟩)
theorem lw_coveredOrders (hn : n < 512) (A : RA h h n) (kk : ∀ h', RA h' h' (n + 1) → LK nS sc d rb x4 h' Qr Qx) : AW (oa_X nS sc) (d + 10 + 1) (rb + 1) mL_law 2316 [(0, vR 2000 0), (1, vR 11 0), (2, vR 12 0), (3, vR 66 0), (4, vI x4)] [] h Qr Qx := by
  have F : MFr h (g_X11_coveredOrders h) := fun t ht => fr_X11_coveredOrders (by omega) (by omega) (by omega) (by omega) (by omega)
  have C : ∀ H, CFr H (g_X12_coveredOrders H) := fun H => ⟨fun t ht i => fr_X12_coveredOrders (by unfold CS at ht; omega) (by unfold CS at ht; omega), fun t _ => by rw [gl_X12_coveredOrders], gr_X12_coveredOrders⟩
  have Z := y_coveredOrders hn (A.m F)
  refine vc_L_law_2316 (d := d + 10) ?_
  refine c_X11_coveredOrders Z.1 ?_
  refine c_X12_coveredOrders Z.2.1 ?_
  exact ⟨fun _ => kk _ (Z.2.2.2.c (C _)), fun z => (z Z.2.2.1).elim⟩
theorem lw_promiseOfAll (hn : n < 512) (A : RA h h n) (kk : ∀ h', RA h' h' (n + 1) → LK nS sc d rb x4 h' Qr Qx) : AW (oa_X nS sc) (d + 10 + 1) (rb + 1) mL_law 2329 [(0, vR 2000 0), (1, vR 11 0), (2, vR 12 0), (3, vR 66 0), (4, vI x4)] [] h Qr Qx := by
  have F : MFr h h := MFr.rfl'
  have C : ∀ H, CFr H (g_X12_promiseOfAll H) := fun H => ⟨fun t ht i => fr_X12_promiseOfAll (by unfold CS at ht; omega), fun t _ => by rw [gl_X12_promiseOfAll], gr_X12_promiseOfAll⟩
  have Z := y_promiseOfAll hn (A.m F)
  refine vc_L_law_2329 (d := d + 10) ?_
  refine c_X11_promiseOfAll Z.1 ?_
  refine c_X12_promiseOfAll Z.2.1 ?_
  exact ⟨fun _ => kk _ (Z.2.2.2.c (C _)), fun z => (z Z.2.2.1).elim⟩
theorem lw_addOrder (hn : n < 512) (A : RA h h n) (v1 : vp_in (x4 + 1) nS) (v2 : vp_in (x4 + 2) nS) (v3 : vp_in (x4 + 3) nS) (v4 : vp_in (x4 + 4) nS) (v5 : vp_in (x4 + 5) nS) (kk : ∀ h', RA h' h' (n + 1) → LK nS sc d rb x4 h' Qr Qx) : AW (oa_X nS sc) (d + 10 + 1) (rb + 1) mL_law 2342 [(0, vR 2000 0), (1, vR 11 0), (2, vR 12 0), (3, vR 66 0), (4, vI x4)] [] h Qr Qx := by
  have F : MFr h (g_X11_addOrder h (sc (x4 + 1).toNatClampNeg) (sc (x4 + 2).toNatClampNeg) (sc (x4 + 3).toNatClampNeg) (sc (x4 + 4).toNatClampNeg) (if (sc (x4 + 5).toNatClampNeg) = 0 then (0 : Int32) else 1)) := fun t ht => fr_X11_addOrder (by omega) (by omega) (by omega) (by omega) (by omega) (by omega) (by omega) (by omega) (by omega) (by omega) (by omega) (by omega) (by omega) (by omega) (by omega) (by omega) (by omega) (by omega) (by omega) (by omega) (by omega) (by omega) (by omega) (by omega) (by omega) (by omega) (by omega) (by omega) (by omega)
  have C : ∀ H, CFr H (g_X12_addOrder H (sc (x4 + 1).toNatClampNeg) (sc (x4 + 2).toNatClampNeg) (sc (x4 + 3).toNatClampNeg) (sc (x4 + 4).toNatClampNeg) (if (sc (x4 + 5).toNatClampNeg) = 0 then (0 : Int32) else 1)) := fun H => ⟨fun t ht i => fr_X12_addOrder (by unfold CS at ht; omega) (by unfold CS at ht; omega) (by unfold CS at ht; omega), fun t _ => by rw [gl_X12_addOrder], gr_X12_addOrder⟩
  have p1 := (y_addOrder hn A (sc (x4 + 1).toNatClampNeg) (sc (x4 + 2).toNatClampNeg) (sc (x4 + 3).toNatClampNeg) (sc (x4 + 4).toNatClampNeg) (if (sc (x4 + 5).toNatClampNeg) = 0 then (0 : Int32) else 1) (by split <;> first | exact Or.inl rfl | exact Or.inr rfl)).1
  refine vc_L_law_2342 (d := d + 10) ⟨v1, v2, v3, v4, v5, ?_⟩
  by_cases hx : x_X11_addOrder h (sc (x4 + 1).toNatClampNeg) (sc (x4 + 2).toNatClampNeg) (sc (x4 + 3).toNatClampNeg) (sc (x4 + 4).toNatClampNeg) (if (sc (x4 + 5).toNatClampNeg) = 0 then (0 : Int32) else 1) = 0
  · have Z := y_addOrder hn (A.m (F.l (v := (f_X11_addOrder h (sc (x4 + 1).toNatClampNeg) (sc (x4 + 2).toNatClampNeg) (sc (x4 + 3).toNatClampNeg) (sc (x4 + 4).toNatClampNeg) (if (sc (x4 + 5).toNatClampNeg) = 0 then (0 : Int32) else 1)).toInt64))) (sc (x4 + 1).toNatClampNeg) (sc (x4 + 2).toNatClampNeg) (sc (x4 + 3).toNatClampNeg) (sc (x4 + 4).toNatClampNeg) (if (sc (x4 + 5).toNatClampNeg) = 0 then (0 : Int32) else 1) (by split <;> first | exact Or.inl rfl | exact Or.inr rfl)
    have o := Z.2.2.1.ok hx (by decide)
    refine ch_L_addOrder (k := 0) (d := d + 9) (by omega) (c_X11_addOrder p1 hx ?_)
    refine ⟨v1, v2, v3, v4, v5, ?_⟩
    refine c_X12_addOrder Z.2.1 ?_
    refine lw_t0 o.2 ?_ (kk _ (Z.2.2.2.c (CFr.l.trans (C _))))
    rw [gl_X12_addOrder, hp_l_66]
    exact congrArg Int32.toInt64 o.1
  · have Z := y_addOrder hn (A.m F) (sc (x4 + 1).toNatClampNeg) (sc (x4 + 2).toNatClampNeg) (sc (x4 + 3).toNatClampNeg) (sc (x4 + 4).toNatClampNeg) (if (sc (x4 + 5).toNatClampNeg) = 0 then (0 : Int32) else 1) (by split <;> first | exact Or.inl rfl | exact Or.inr rfl)
    obtain ⟨z, hz, ez⟩ := Z.2.2.1.bad hx
    have T : ¬ z = 0 → CL 0 (d + 10) mX12_addOrder [vR 12 0, vI (sc (x4 + 1).toNatClampNeg), vI (sc (x4 + 2).toNatClampNeg), vI (sc (x4 + 3).toNatClampNeg), vI (sc (x4 + 4).toNatClampNeg), vI (if (sc (x4 + 5).toNatClampNeg) = 0 then (0 : Int32) else 1)] (g_X11_addOrder h (sc (x4 + 1).toNatClampNeg) (sc (x4 + 2).toNatClampNeg) (sc (x4 + 3).toNatClampNeg) (sc (x4 + 4).toNatClampNeg) (if (sc (x4 + 5).toNatClampNeg) = 0 then (0 : Int32) else 1)) (oI fun r4 h3 => CL 0 (d + 10) mX12_thrown [vR 12 0] h3 (oI fun r6 h5 => ((r6 = z) → ((¬ z = 0) → LK nS sc d rb x4 h5 Qr Qx) ∧ ((z = 0) → (((lg_cmp (h5.2.1 66 0 0) r4.toInt64) = 0) → LK nS sc d rb x4 h5 Qr Qx) ∧ ((¬ (lg_cmp (h5.2.1 66 0 0) r4.toInt64) = 0) → Qr (some (vI 0)) h5))) ∧ ((¬ r6 = z) → Qr (some (vI 0)) h5)) Qx) Qx := fun nz => c_X12_addOrder Z.2.1 (lw_t1 nz ez (kk _ (Z.2.2.2.c (C _))))
    refine ch_L_addOrder (k := 1) (d := d + 9) (by omega) ((t_X11_addOrder p1 hx ?_).imp (fun _ _ y => y.elim) (fun _ _ y => y))
    generalize x_X11_addOrder h (sc (x4 + 1).toNatClampNeg) (sc (x4 + 2).toNatClampNeg) (sc (x4 + 3).toNatClampNeg) (sc (x4 + 4).toNatClampNeg) (if (sc (x4 + 5).toNatClampNeg) = 0 then (0 : Int32) else 1) = xx at hx hz ⊢
    clear ez Z
    simp only [List.mem_cons, Prod.mk.injEq, List.not_mem_nil, or_false] at hz
    rcases hz with ⟨e1, e2⟩ | ⟨e1, e2⟩ | ⟨e1, e2⟩
    · subst e1 e2
      exact Or.inl ⟨rfl, v1, v2, v3, v4, v5, T (by decide)⟩
    · subst e1 e2
      exact Or.inr (Or.inl ⟨rfl, v1, v2, v3, v4, v5, T (by decide)⟩)
    · subst e1 e2
      exact Or.inr (Or.inr (⟨rfl, v1, v2, v3, v4, v5, T (by decide)⟩))
theorem lw_cancel (hn : n < 512) (A : RA h h n) (v1 : vp_in (x4 + 1) nS) (kk : ∀ h', RA h' h' (n + 1) → LK nS sc d rb x4 h' Qr Qx) : AW (oa_X nS sc) (d + 10 + 1) (rb + 1) mL_law 2462 [(0, vR 2000 0), (1, vR 11 0), (2, vR 12 0), (3, vR 66 0), (4, vI x4)] [] h Qr Qx := by
  have F : MFr h (g_X11_cancel h (sc (x4 + 1).toNatClampNeg)) := fun t ht => fr_X11_cancel (by omega) (by omega) (by omega) (by omega) (by omega) (by omega) (by omega) (by omega) (by omega) (by omega) (by omega) (by omega) (by omega) (by omega) (by omega) (by omega) (by omega) (by omega) (by omega) (by omega) (by omega) (by omega) (by omega)
  have C : ∀ H, CFr H (g_X12_cancel H (sc (x4 + 1).toNatClampNeg)) := fun H => ⟨fun t ht i => fr_X12_cancel (by unfold CS at ht; omega) (by unfold CS at ht; omega) (by unfold CS at ht; omega), fun t _ => by rw [gl_X12_cancel], gr_X12_cancel⟩
  have p1 := (y_cancel hn A (sc (x4 + 1).toNatClampNeg)).1
  refine vc_L_law_2462 (d := d + 10) ⟨v1, ?_⟩
  by_cases hx : x_X11_cancel h (sc (x4 + 1).toNatClampNeg) = 0
  · have Z := y_cancel hn (A.m (F.l (v := (f_X11_cancel h (sc (x4 + 1).toNatClampNeg)).toInt64))) (sc (x4 + 1).toNatClampNeg)
    have o := Z.2.2.1.ok hx (by decide)
    refine ch_L_cancel (k := 0) (d := d + 9) (by omega) (c_X11_cancel p1 hx ?_)
    refine ⟨v1, ?_⟩
    refine c_X12_cancel Z.2.1 ?_
    refine lw_t0 o.2 ?_ (kk _ (Z.2.2.2.c (CFr.l.trans (C _))))
    rw [gl_X12_cancel, hp_l_66]
    exact congrArg Int32.toInt64 o.1
  · have Z := y_cancel hn (A.m F) (sc (x4 + 1).toNatClampNeg)
    obtain ⟨z, hz, ez⟩ := Z.2.2.1.bad hx
    have T : ¬ z = 0 → CL 0 (d + 10) mX12_cancel [vR 12 0, vI (sc (x4 + 1).toNatClampNeg)] (g_X11_cancel h (sc (x4 + 1).toNatClampNeg)) (oI fun r4 h3 => CL 0 (d + 10) mX12_thrown [vR 12 0] h3 (oI fun r6 h5 => ((r6 = z) → ((¬ z = 0) → LK nS sc d rb x4 h5 Qr Qx) ∧ ((z = 0) → (((lg_cmp (h5.2.1 66 0 0) r4.toInt64) = 0) → LK nS sc d rb x4 h5 Qr Qx) ∧ ((¬ (lg_cmp (h5.2.1 66 0 0) r4.toInt64) = 0) → Qr (some (vI 0)) h5))) ∧ ((¬ r6 = z) → Qr (some (vI 0)) h5)) Qx) Qx := fun nz => c_X12_cancel Z.2.1 (lw_t1 nz ez (kk _ (Z.2.2.2.c (C _))))
    refine ch_L_cancel (k := 1) (d := d + 9) (by omega) ((t_X11_cancel p1 hx ?_).imp (fun _ _ y => y.elim) (fun _ _ y => y))
    generalize x_X11_cancel h (sc (x4 + 1).toNatClampNeg) = xx at hx hz ⊢
    clear ez Z
    simp only [List.mem_cons, Prod.mk.injEq, List.not_mem_nil, or_false] at hz
    rcases hz with ⟨e1, e2⟩ | ⟨e1, e2⟩
    · subst e1 e2
      exact Or.inl ⟨rfl, v1, T (by decide)⟩
    · subst e1 e2
      exact Or.inr (⟨rfl, v1, T (by decide)⟩)
theorem lw_reserve (hn : n < 512) (A : RA h h n) (v1 : vp_in (x4 + 1) nS) (v2 : vp_in (x4 + 2) nS) (kk : ∀ h', RA h' h' (n + 1) → LK nS sc d rb x4 h' Qr Qx) : AW (oa_X nS sc) (d + 10 + 1) (rb + 1) mL_law 2518 [(0, vR 2000 0), (1, vR 11 0), (2, vR 12 0), (3, vR 66 0), (4, vI x4)] [] h Qr Qx := by
  have F : MFr h (g_X11_reserve h (sc (x4 + 1).toNatClampNeg) (sc (x4 + 2).toNatClampNeg)) := fun t ht => fr_X11_reserve (by omega) (by omega) (by omega) (by omega) (by omega) (by omega) (by omega) (by omega) (by omega) (by omega) (by omega) (by omega) (by omega) (by omega) (by omega) (by omega) (by omega) (by omega) (by omega) (by omega) (by omega) (by omega) (by omega)
  have C : ∀ H, CFr H (g_X12_reserve H (sc (x4 + 1).toNatClampNeg) (sc (x4 + 2).toNatClampNeg)) := fun H => ⟨fun t ht i => fr_X12_reserve (by unfold CS at ht; omega) (by unfold CS at ht; omega) (by unfold CS at ht; omega), fun t _ => by rw [gl_X12_reserve], gr_X12_reserve⟩
  have p1 := (y_reserve hn A (sc (x4 + 1).toNatClampNeg) (sc (x4 + 2).toNatClampNeg)).1
  refine vc_L_law_2518 (d := d + 10) ⟨v1, v2, ?_⟩
  by_cases hx : x_X11_reserve h (sc (x4 + 1).toNatClampNeg) (sc (x4 + 2).toNatClampNeg) = 0
  · have Z := y_reserve hn (A.m (F.l (v := (f_X11_reserve h (sc (x4 + 1).toNatClampNeg) (sc (x4 + 2).toNatClampNeg)).toInt64))) (sc (x4 + 1).toNatClampNeg) (sc (x4 + 2).toNatClampNeg)
    have o := Z.2.2.1.ok hx (by decide)
    refine ch_L_reserve (k := 0) (d := d + 9) (by omega) (c_X11_reserve p1 hx ?_)
    refine ⟨v1, v2, ?_⟩
    refine c_X12_reserve Z.2.1 ?_
    refine lw_t0 o.2 ?_ (kk _ (Z.2.2.2.c (CFr.l.trans (C _))))
    rw [gl_X12_reserve, hp_l_66]
    exact congrArg Int32.toInt64 o.1
  · have Z := y_reserve hn (A.m F) (sc (x4 + 1).toNatClampNeg) (sc (x4 + 2).toNatClampNeg)
    obtain ⟨z, hz, ez⟩ := Z.2.2.1.bad hx
    have T : ¬ z = 0 → CL 0 (d + 10) mX12_reserve [vR 12 0, vI (sc (x4 + 1).toNatClampNeg), vI (sc (x4 + 2).toNatClampNeg)] (g_X11_reserve h (sc (x4 + 1).toNatClampNeg) (sc (x4 + 2).toNatClampNeg)) (oI fun r4 h3 => CL 0 (d + 10) mX12_thrown [vR 12 0] h3 (oI fun r6 h5 => ((r6 = z) → ((¬ z = 0) → LK nS sc d rb x4 h5 Qr Qx) ∧ ((z = 0) → (((lg_cmp (h5.2.1 66 0 0) r4.toInt64) = 0) → LK nS sc d rb x4 h5 Qr Qx) ∧ ((¬ (lg_cmp (h5.2.1 66 0 0) r4.toInt64) = 0) → Qr (some (vI 0)) h5))) ∧ ((¬ r6 = z) → Qr (some (vI 0)) h5)) Qx) Qx := fun nz => c_X12_reserve Z.2.1 (lw_t1 nz ez (kk _ (Z.2.2.2.c (C _))))
    refine ch_L_reserve (k := 1) (d := d + 9) (by omega) ((t_X11_reserve p1 hx ?_).imp (fun _ _ y => y.elim) (fun _ _ y => y))
    generalize x_X11_reserve h (sc (x4 + 1).toNatClampNeg) (sc (x4 + 2).toNatClampNeg) = xx at hx hz ⊢
    clear ez Z
    simp only [List.mem_cons, Prod.mk.injEq, List.not_mem_nil, or_false] at hz
    rcases hz with ⟨e1, e2⟩ | ⟨e1, e2⟩ | ⟨e1, e2⟩
    · subst e1 e2
      exact Or.inl ⟨rfl, v1, v2, T (by decide)⟩
    · subst e1 e2
      exact Or.inr (Or.inl ⟨rfl, v1, v2, T (by decide)⟩)
    · subst e1 e2
      exact Or.inr (Or.inr (⟨rfl, v1, v2, T (by decide)⟩))
theorem lw_release (hn : n < 512) (A : RA h h n) (v1 : vp_in (x4 + 1) nS) (v2 : vp_in (x4 + 2) nS) (kk : ∀ h', RA h' h' (n + 1) → LK nS sc d rb x4 h' Qr Qx) : AW (oa_X nS sc) (d + 10 + 1) (rb + 1) mL_law 2586 [(0, vR 2000 0), (1, vR 11 0), (2, vR 12 0), (3, vR 66 0), (4, vI x4)] [] h Qr Qx := by
  have F : MFr h (g_X11_release h (sc (x4 + 1).toNatClampNeg) (sc (x4 + 2).toNatClampNeg)) := fun t ht => fr_X11_release (by omega) (by omega) (by omega) (by omega) (by omega) (by omega) (by omega) (by omega) (by omega) (by omega) (by omega) (by omega) (by omega) (by omega) (by omega) (by omega) (by omega) (by omega) (by omega) (by omega) (by omega) (by omega)
  have C : ∀ H, CFr H (g_X12_release H (sc (x4 + 1).toNatClampNeg) (sc (x4 + 2).toNatClampNeg)) := fun H => ⟨fun t ht i => fr_X12_release (by unfold CS at ht; omega) (by unfold CS at ht; omega) (by unfold CS at ht; omega), fun t _ => by rw [gl_X12_release], gr_X12_release⟩
  have p1 := (y_release hn A (sc (x4 + 1).toNatClampNeg) (sc (x4 + 2).toNatClampNeg)).1
  refine vc_L_law_2586 (d := d + 10) ⟨v1, v2, ?_⟩
  by_cases hx : x_X11_release h (sc (x4 + 1).toNatClampNeg) (sc (x4 + 2).toNatClampNeg) = 0
  · have Z := y_release hn (A.m (F.l (v := (f_X11_release h (sc (x4 + 1).toNatClampNeg) (sc (x4 + 2).toNatClampNeg)).toInt64))) (sc (x4 + 1).toNatClampNeg) (sc (x4 + 2).toNatClampNeg)
    have o := Z.2.2.1.ok hx (by decide)
    refine ch_L_release (k := 0) (d := d + 9) (by omega) (c_X11_release p1 hx ?_)
    refine ⟨v1, v2, ?_⟩
    refine c_X12_release Z.2.1 ?_
    refine lw_t0 o.2 ?_ (kk _ (Z.2.2.2.c (CFr.l.trans (C _))))
    rw [gl_X12_release, hp_l_66]
    exact congrArg Int32.toInt64 o.1
  · have Z := y_release hn (A.m F) (sc (x4 + 1).toNatClampNeg) (sc (x4 + 2).toNatClampNeg)
    obtain ⟨z, hz, ez⟩ := Z.2.2.1.bad hx
    have T : ¬ z = 0 → CL 0 (d + 10) mX12_release [vR 12 0, vI (sc (x4 + 1).toNatClampNeg), vI (sc (x4 + 2).toNatClampNeg)] (g_X11_release h (sc (x4 + 1).toNatClampNeg) (sc (x4 + 2).toNatClampNeg)) (oI fun r4 h3 => CL 0 (d + 10) mX12_thrown [vR 12 0] h3 (oI fun r6 h5 => ((r6 = z) → ((¬ z = 0) → LK nS sc d rb x4 h5 Qr Qx) ∧ ((z = 0) → (((lg_cmp (h5.2.1 66 0 0) r4.toInt64) = 0) → LK nS sc d rb x4 h5 Qr Qx) ∧ ((¬ (lg_cmp (h5.2.1 66 0 0) r4.toInt64) = 0) → Qr (some (vI 0)) h5))) ∧ ((¬ r6 = z) → Qr (some (vI 0)) h5)) Qx) Qx := fun nz => c_X12_release Z.2.1 (lw_t1 nz ez (kk _ (Z.2.2.2.c (C _))))
    refine ch_L_release (k := 1) (d := d + 9) (by omega) ((t_X11_release p1 hx ?_).imp (fun _ _ y => y.elim) (fun _ _ y => y))
    generalize x_X11_release h (sc (x4 + 1).toNatClampNeg) (sc (x4 + 2).toNatClampNeg) = xx at hx hz ⊢
    clear ez Z
    simp only [List.mem_cons, Prod.mk.injEq, List.not_mem_nil, or_false] at hz
    rcases hz with ⟨e1, e2⟩ | ⟨e1, e2⟩ | ⟨e1, e2⟩
    · subst e1 e2
      exact Or.inl ⟨rfl, v1, v2, T (by decide)⟩
    · subst e1 e2
      exact Or.inr (Or.inl ⟨rfl, v1, v2, T (by decide)⟩)
    · subst e1 e2
      exact Or.inr (Or.inr (⟨rfl, v1, v2, T (by decide)⟩))
theorem lw_allocate (hn : n < 512) (A : RA h h n) (kk : ∀ h', RA h' h' (n + 1) → LK nS sc d rb x4 h' Qr Qx) : AW (oa_X nS sc) (d + 10 + 1) (rb + 1) mL_law 2654 [(0, vR 2000 0), (1, vR 11 0), (2, vR 12 0), (3, vR 66 0), (4, vI x4)] [] h Qr Qx := by
  have F : MFr h (g_X11_allocate h) := fun t ht => fr_X11_allocate (by omega) (by omega) (by omega) (by omega) (by omega) (by omega) (by omega) (by omega) (by omega) (by omega) (by omega) (by omega) (by omega) (by omega) (by omega) (by omega) (by omega) (by omega) (by omega) (by omega) (by omega) (by omega) (by omega) (by omega) (by omega) (by omega) (by omega) (by omega)
  have C : ∀ H, CFr H (g_X12_allocate H) := fun H => ⟨fun t ht i => fr_X12_allocate (by unfold CS at ht; omega) (by unfold CS at ht; omega) (by unfold CS at ht; omega) (by unfold CS at ht; omega) (by unfold CS at ht; omega) (by unfold CS at ht; omega) (by unfold CS at ht; omega) (by unfold CS at ht; omega), fun t _ => by rw [gl_X12_allocate], gr_X12_allocate⟩
  have Z := y_allocate hn (A.m F)
  refine vc_L_law_2654 (d := d + 10) ?_
  refine c_X11_allocate Z.1 ?_
  refine c_X12_allocate Z.2.1 ?_
  exact ⟨fun _ => kk _ (Z.2.2.2.c (C _)), fun z => (z Z.2.2.1).elim⟩
theorem lw_ship (hn : n < 512) (A : RA h h n) (v1 : vp_in (x4 + 1) nS) (kk : ∀ h', RA h' h' (n + 1) → LK nS sc d rb x4 h' Qr Qx) : AW (oa_X nS sc) (d + 10 + 1) (rb + 1) mL_law 2667 [(0, vR 2000 0), (1, vR 11 0), (2, vR 12 0), (3, vR 66 0), (4, vI x4)] [] h Qr Qx := by
  have F : MFr h (g_X11_ship h (sc (x4 + 1).toNatClampNeg)) := fun t ht => fr_X11_ship (by omega) (by omega) (by omega) (by omega) (by omega) (by omega) (by omega) (by omega) (by omega) (by omega) (by omega) (by omega) (by omega) (by omega) (by omega) (by omega) (by omega) (by omega) (by omega) (by omega) (by omega) (by omega) (by omega) (by omega) (by omega) (by omega) (by omega) (by omega)
  have C : ∀ H, CFr H (g_X12_ship H (sc (x4 + 1).toNatClampNeg)) := fun H => ⟨fun t ht i => fr_X12_ship (by unfold CS at ht; omega) (by unfold CS at ht; omega) (by unfold CS at ht; omega), fun t _ => by rw [gl_X12_ship], gr_X12_ship⟩
  have p1 := (y_ship hn A (sc (x4 + 1).toNatClampNeg)).1
  refine vc_L_law_2667 (d := d + 10) ⟨v1, ?_⟩
  by_cases hx : x_X11_ship h (sc (x4 + 1).toNatClampNeg) = 0
  · have Z := y_ship hn (A.m (F.l (v := (f_X11_ship h (sc (x4 + 1).toNatClampNeg)).toInt64))) (sc (x4 + 1).toNatClampNeg)
    have o := Z.2.2.1.ok hx (by decide)
    refine ch_L_ship (k := 0) (d := d + 9) (by omega) (c_X11_ship p1 hx ?_)
    refine ⟨v1, ?_⟩
    refine c_X12_ship Z.2.1 ?_
    refine lw_t0 o.2 ?_ (kk _ (Z.2.2.2.c (CFr.l.trans (C _))))
    rw [gl_X12_ship, hp_l_66]
    exact congrArg Int32.toInt64 o.1
  · have Z := y_ship hn (A.m F) (sc (x4 + 1).toNatClampNeg)
    obtain ⟨z, hz, ez⟩ := Z.2.2.1.bad hx
    have T : ¬ z = 0 → CL 0 (d + 10) mX12_ship [vR 12 0, vI (sc (x4 + 1).toNatClampNeg)] (g_X11_ship h (sc (x4 + 1).toNatClampNeg)) (oI fun r4 h3 => CL 0 (d + 10) mX12_thrown [vR 12 0] h3 (oI fun r6 h5 => ((r6 = z) → ((¬ z = 0) → LK nS sc d rb x4 h5 Qr Qx) ∧ ((z = 0) → (((lg_cmp (h5.2.1 66 0 0) r4.toInt64) = 0) → LK nS sc d rb x4 h5 Qr Qx) ∧ ((¬ (lg_cmp (h5.2.1 66 0 0) r4.toInt64) = 0) → Qr (some (vI 0)) h5))) ∧ ((¬ r6 = z) → Qr (some (vI 0)) h5)) Qx) Qx := fun nz => c_X12_ship Z.2.1 (lw_t1 nz ez (kk _ (Z.2.2.2.c (C _))))
    refine ch_L_ship (k := 1) (d := d + 9) (by omega) ((t_X11_ship p1 hx ?_).imp (fun _ _ y => y.elim) (fun _ _ y => y))
    generalize x_X11_ship h (sc (x4 + 1).toNatClampNeg) = xx at hx hz ⊢
    clear ez Z
    simp only [List.mem_cons, Prod.mk.injEq, List.not_mem_nil, or_false] at hz
    rcases hz with ⟨e1, e2⟩ | ⟨e1, e2⟩
    · subst e1 e2
      exact Or.inl ⟨rfl, v1, T (by decide)⟩
    · subst e1 e2
      exact Or.inr (⟨rfl, v1, T (by decide)⟩)
theorem lw_buy (hn : n < 512) (A : RA h h n) (v1 : vp_in (x4 + 1) nS) (v2 : vp_in (x4 + 2) nS) (kk : ∀ h', RA h' h' (n + 1) → LK nS sc d rb x4 h' Qr Qx) : AW (oa_X nS sc) (d + 10 + 1) (rb + 1) mL_law 2723 [(0, vR 2000 0), (1, vR 11 0), (2, vR 12 0), (3, vR 66 0), (4, vI x4)] [] h Qr Qx := by
  have F : MFr h (g_X11_buy h (sc (x4 + 1).toNatClampNeg) (sc (x4 + 2).toNatClampNeg)) := fun t ht => fr_X11_buy (by omega) (by omega) (by omega) (by omega) (by omega) (by omega) (by omega) (by omega) (by omega) (by omega) (by omega) (by omega) (by omega) (by omega) (by omega) (by omega) (by omega) (by omega) (by omega) (by omega) (by omega) (by omega) (by omega) (by omega) (by omega)
  have C : ∀ H, CFr H (g_X12_buy H (sc (x4 + 1).toNatClampNeg) (sc (x4 + 2).toNatClampNeg)) := fun H => ⟨fun t ht i => fr_X12_buy (by unfold CS at ht; omega) (by unfold CS at ht; omega) (by unfold CS at ht; omega), fun t _ => by rw [gl_X12_buy], gr_X12_buy⟩
  have p1 := (y_buy hn A (sc (x4 + 1).toNatClampNeg) (sc (x4 + 2).toNatClampNeg)).1
  refine vc_L_law_2723 (d := d + 10) ⟨v1, v2, ?_⟩
  by_cases hx : x_X11_buy h (sc (x4 + 1).toNatClampNeg) (sc (x4 + 2).toNatClampNeg) = 0
  · have Z := y_buy hn (A.m (F.l (v := (f_X11_buy h (sc (x4 + 1).toNatClampNeg) (sc (x4 + 2).toNatClampNeg)).toInt64))) (sc (x4 + 1).toNatClampNeg) (sc (x4 + 2).toNatClampNeg)
    have o := Z.2.2.1.ok hx (by decide)
    refine ch_L_buy (k := 0) (d := d + 9) (by omega) (c_X11_buy p1 hx ?_)
    refine ⟨v1, v2, ?_⟩
    refine c_X12_buy Z.2.1 ?_
    refine lw_t0 o.2 ?_ (kk _ (Z.2.2.2.c (CFr.l.trans (C _))))
    rw [gl_X12_buy, hp_l_66]
    exact congrArg Int32.toInt64 o.1
  · have Z := y_buy hn (A.m F) (sc (x4 + 1).toNatClampNeg) (sc (x4 + 2).toNatClampNeg)
    obtain ⟨z, hz, ez⟩ := Z.2.2.1.bad hx
    have T : ¬ z = 0 → CL 0 (d + 10) mX12_buy [vR 12 0, vI (sc (x4 + 1).toNatClampNeg), vI (sc (x4 + 2).toNatClampNeg)] (g_X11_buy h (sc (x4 + 1).toNatClampNeg) (sc (x4 + 2).toNatClampNeg)) (oI fun r4 h3 => CL 0 (d + 10) mX12_thrown [vR 12 0] h3 (oI fun r6 h5 => ((r6 = z) → ((¬ z = 0) → LK nS sc d rb x4 h5 Qr Qx) ∧ ((z = 0) → (((lg_cmp (h5.2.1 66 0 0) r4.toInt64) = 0) → LK nS sc d rb x4 h5 Qr Qx) ∧ ((¬ (lg_cmp (h5.2.1 66 0 0) r4.toInt64) = 0) → Qr (some (vI 0)) h5))) ∧ ((¬ r6 = z) → Qr (some (vI 0)) h5)) Qx) Qx := fun nz => c_X12_buy Z.2.1 (lw_t1 nz ez (kk _ (Z.2.2.2.c (C _))))
    refine ch_L_buy (k := 1) (d := d + 9) (by omega) ((t_X11_buy p1 hx ?_).imp (fun _ _ y => y.elim) (fun _ _ y => y))
    generalize x_X11_buy h (sc (x4 + 1).toNatClampNeg) (sc (x4 + 2).toNatClampNeg) = xx at hx hz ⊢
    clear ez Z
    simp only [List.mem_cons, Prod.mk.injEq, List.not_mem_nil, or_false] at hz
    rcases hz with ⟨e1, e2⟩ | ⟨e1, e2⟩ | ⟨e1, e2⟩
    · subst e1 e2
      exact Or.inl ⟨rfl, v1, v2, T (by decide)⟩
    · subst e1 e2
      exact Or.inr (Or.inl ⟨rfl, v1, v2, T (by decide)⟩)
    · subst e1 e2
      exact Or.inr (Or.inr (⟨rfl, v1, v2, T (by decide)⟩))
theorem lw_adjust (hn : n < 512) (A : RA h h n) (v1 : vp_in (x4 + 1) nS) (v2 : vp_in (x4 + 2) nS) (kk : ∀ h', RA h' h' (n + 1) → LK nS sc d rb x4 h' Qr Qx) : AW (oa_X nS sc) (d + 10 + 1) (rb + 1) mL_law 2791 [(0, vR 2000 0), (1, vR 11 0), (2, vR 12 0), (3, vR 66 0), (4, vI x4)] [] h Qr Qx := by
  have F : MFr h (g_X11_adjust h (sc (x4 + 1).toNatClampNeg) (sc (x4 + 2).toNatClampNeg)) := fun t ht => fr_X11_adjust (by omega) (by omega) (by omega) (by omega) (by omega) (by omega) (by omega) (by omega) (by omega) (by omega) (by omega) (by omega) (by omega) (by omega) (by omega) (by omega) (by omega) (by omega) (by omega) (by omega) (by omega) (by omega) (by omega)
  have C : ∀ H, CFr H (g_X12_adjust H (sc (x4 + 1).toNatClampNeg) (sc (x4 + 2).toNatClampNeg)) := fun H => ⟨fun t ht i => fr_X12_adjust (by unfold CS at ht; omega) (by unfold CS at ht; omega) (by unfold CS at ht; omega), fun t _ => by rw [gl_X12_adjust], gr_X12_adjust⟩
  have p1 := (y_adjust hn A (sc (x4 + 1).toNatClampNeg) (sc (x4 + 2).toNatClampNeg)).1
  refine vc_L_law_2791 (d := d + 10) ⟨v1, v2, ?_⟩
  by_cases hx : x_X11_adjust h (sc (x4 + 1).toNatClampNeg) (sc (x4 + 2).toNatClampNeg) = 0
  · have Z := y_adjust hn (A.m (F.l (v := (f_X11_adjust h (sc (x4 + 1).toNatClampNeg) (sc (x4 + 2).toNatClampNeg)).toInt64))) (sc (x4 + 1).toNatClampNeg) (sc (x4 + 2).toNatClampNeg)
    have o := Z.2.2.1.ok hx (by decide)
    refine ch_L_adjust (k := 0) (d := d + 9) (by omega) (c_X11_adjust p1 hx ?_)
    refine ⟨v1, v2, ?_⟩
    refine c_X12_adjust Z.2.1 ?_
    refine lw_t0 o.2 ?_ (kk _ (Z.2.2.2.c (CFr.l.trans (C _))))
    rw [gl_X12_adjust, hp_l_66]
    exact congrArg Int32.toInt64 o.1
  · have Z := y_adjust hn (A.m F) (sc (x4 + 1).toNatClampNeg) (sc (x4 + 2).toNatClampNeg)
    obtain ⟨z, hz, ez⟩ := Z.2.2.1.bad hx
    have T : ¬ z = 0 → CL 0 (d + 10) mX12_adjust [vR 12 0, vI (sc (x4 + 1).toNatClampNeg), vI (sc (x4 + 2).toNatClampNeg)] (g_X11_adjust h (sc (x4 + 1).toNatClampNeg) (sc (x4 + 2).toNatClampNeg)) (oI fun r4 h3 => CL 0 (d + 10) mX12_thrown [vR 12 0] h3 (oI fun r6 h5 => ((r6 = z) → ((¬ z = 0) → LK nS sc d rb x4 h5 Qr Qx) ∧ ((z = 0) → (((lg_cmp (h5.2.1 66 0 0) r4.toInt64) = 0) → LK nS sc d rb x4 h5 Qr Qx) ∧ ((¬ (lg_cmp (h5.2.1 66 0 0) r4.toInt64) = 0) → Qr (some (vI 0)) h5))) ∧ ((¬ r6 = z) → Qr (some (vI 0)) h5)) Qx) Qx := fun nz => c_X12_adjust Z.2.1 (lw_t1 nz ez (kk _ (Z.2.2.2.c (C _))))
    refine ch_L_adjust (k := 1) (d := d + 9) (by omega) ((t_X11_adjust p1 hx ?_).imp (fun _ _ y => y.elim) (fun _ _ y => y))
    generalize x_X11_adjust h (sc (x4 + 1).toNatClampNeg) (sc (x4 + 2).toNatClampNeg) = xx at hx hz ⊢
    clear ez Z
    simp only [List.mem_cons, Prod.mk.injEq, List.not_mem_nil, or_false] at hz
    rcases hz with ⟨e1, e2⟩ | ⟨e1, e2⟩
    · subst e1 e2
      exact Or.inl ⟨rfl, v1, v2, T (by decide)⟩
    · subst e1 e2
      exact Or.inr (⟨rfl, v1, v2, T (by decide)⟩)
theorem lw_advance (hn : n < 512) (A : RA h h n) (v1 : vp_in (x4 + 1) nS) (kk : ∀ h', RA h' h' (n + 1) → LK nS sc d rb x4 h' Qr Qx) : AW (oa_X nS sc) (d + 10 + 1) (rb + 1) mL_law 2859 [(0, vR 2000 0), (1, vR 11 0), (2, vR 12 0), (3, vR 66 0), (4, vI x4)] [] h Qr Qx := by
  have F : MFr h (g_X11_advance h (sc (x4 + 1).toNatClampNeg)) := fun t ht => fr_X11_advance (by omega) (by omega) (by omega) (by omega) (by omega) (by omega) (by omega) (by omega) (by omega) (by omega) (by omega) (by omega) (by omega) (by omega) (by omega) (by omega) (by omega) (by omega) (by omega) (by omega) (by omega) (by omega) (by omega) (by omega) (by omega)
  have C : ∀ H, CFr H (g_X12_advance H (sc (x4 + 1).toNatClampNeg)) := fun H => ⟨fun t ht i => fr_X12_advance (by unfold CS at ht; omega) (by unfold CS at ht; omega) (by unfold CS at ht; omega), fun t _ => by rw [gl_X12_advance], gr_X12_advance⟩
  have p1 := (y_advance hn A (sc (x4 + 1).toNatClampNeg)).1
  refine vc_L_law_2859 (d := d + 10) ⟨v1, ?_⟩
  by_cases hx : x_X11_advance h (sc (x4 + 1).toNatClampNeg) = 0
  · have Z := y_advance hn (A.m (F.l (v := (f_X11_advance h (sc (x4 + 1).toNatClampNeg)).toInt64))) (sc (x4 + 1).toNatClampNeg)
    have o := Z.2.2.1.ok hx (by decide)
    refine ch_L_advance (k := 0) (d := d + 9) (by omega) (c_X11_advance p1 hx ?_)
    refine ⟨v1, ?_⟩
    refine c_X12_advance Z.2.1 ?_
    refine lw_t0 o.2 ?_ (kk _ (Z.2.2.2.c (CFr.l.trans (C _))))
    rw [gl_X12_advance, hp_l_66]
    exact congrArg Int32.toInt64 o.1
  · have Z := y_advance hn (A.m F) (sc (x4 + 1).toNatClampNeg)
    obtain ⟨z, hz, ez⟩ := Z.2.2.1.bad hx
    have T : ¬ z = 0 → CL 0 (d + 10) mX12_advance [vR 12 0, vI (sc (x4 + 1).toNatClampNeg)] (g_X11_advance h (sc (x4 + 1).toNatClampNeg)) (oI fun r4 h3 => CL 0 (d + 10) mX12_thrown [vR 12 0] h3 (oI fun r6 h5 => ((r6 = z) → ((¬ z = 0) → LK nS sc d rb x4 h5 Qr Qx) ∧ ((z = 0) → (((lg_cmp (h5.2.1 66 0 0) r4.toInt64) = 0) → LK nS sc d rb x4 h5 Qr Qx) ∧ ((¬ (lg_cmp (h5.2.1 66 0 0) r4.toInt64) = 0) → Qr (some (vI 0)) h5))) ∧ ((¬ r6 = z) → Qr (some (vI 0)) h5)) Qx) Qx := fun nz => c_X12_advance Z.2.1 (lw_t1 nz ez (kk _ (Z.2.2.2.c (C _))))
    refine ch_L_advance (k := 1) (d := d + 9) (by omega) ((t_X11_advance p1 hx ?_).imp (fun _ _ y => y.elim) (fun _ _ y => y))
    generalize x_X11_advance h (sc (x4 + 1).toNatClampNeg) = xx at hx hz ⊢
    clear ez Z
    simp only [List.mem_cons, Prod.mk.injEq, List.not_mem_nil, or_false] at hz
    obtain ⟨e1, e2⟩ := hz
    subst e1 e2
    exact ⟨rfl, v1, T (by decide)⟩
theorem lw_undo (hn : n < 512) (A : RA h h n) (kk : ∀ h', RA h' h' (n + 1) → LK nS sc d rb x4 h' Qr Qx) : AW (oa_X nS sc) (d + 10 + 1) (rb + 1) mL_law 2915 [(0, vR 2000 0), (1, vR 11 0), (2, vR 12 0), (3, vR 66 0), (4, vI x4)] [] h Qr Qx := by
  have F : MFr h (g_X11_undo h) := fun t ht => fr_X11_undo (by omega) (by omega) (by omega) (by omega) (by omega) (by omega) (by omega) (by omega) (by omega) (by omega) (by omega) (by omega) (by omega) (by omega) (by omega) (by omega) (by omega) (by omega) (by omega) (by omega)
  have C : ∀ H, CFr H (g_X12_undo H) := fun H => ⟨fun t ht i => fr_X12_undo (by unfold CS at ht; omega) (by unfold CS at ht; omega), fun t _ => by rw [gl_X12_undo], gr_X12_undo⟩
  have Z := y_undo hn (A.m F)
  refine vc_L_law_2915 (d := d + 10) ?_
  refine c_X11_undo Z.1 ?_
  refine c_X12_undo Z.2.1 ?_
  exact ⟨fun _ => kk _ (Z.2.2.2.c (C _)), fun z => (z Z.2.2.1).elim⟩
theorem lw_undoDepth (hn : n < 512) (A : RA h h n) (kk : ∀ h', RA h' h' (n + 1) → LK nS sc d rb x4 h' Qr Qx) : AW (oa_X nS sc) (d + 10 + 1) (rb + 1) mL_law 2928 [(0, vR 2000 0), (1, vR 11 0), (2, vR 12 0), (3, vR 66 0), (4, vI x4)] [] h Qr Qx := by
  have F : MFr h h := MFr.rfl'
  have C : ∀ H, CFr H (g_X12_undoDepth H) := fun H => ⟨fun t ht i => fr_X12_undoDepth (by unfold CS at ht; omega), fun t _ => by rw [gl_X12_undoDepth], gr_X12_undoDepth⟩
  have Z := y_undoDepth hn (A.m F)
  refine vc_L_law_2928 (d := d + 10) ?_
  refine c_X11_undoDepth Z.1 ?_
  refine c_X12_undoDepth Z.2.1 ?_
  exact ⟨fun _ => kk _ (Z.2.2.2.c (C _)), fun z => (z Z.2.2.1).elim⟩
theorem lw_total (hn : n < 512) (A : RA h h n) (v1 : vp_in (x4 + 1) nS) (kk : ∀ h', RA h' h' (n + 1) → LK nS sc d rb x4 h' Qr Qx) : AW (oa_X nS sc) (d + 10 + 1) (rb + 1) mL_law 2941 [(0, vR 2000 0), (1, vR 11 0), (2, vR 12 0), (3, vR 66 0), (4, vI x4)] [] h Qr Qx := by
  have F : MFr h h := MFr.rfl'
  have C : ∀ H, CFr H (g_X12_total H (sc (x4 + 1).toNatClampNeg)) := fun H => ⟨fun t ht i => fr_X12_total (by unfold CS at ht; omega), fun t _ => by rw [gl_X12_total], gr_X12_total⟩
  have Z := y_total hn (A.m F) (sc (x4 + 1).toNatClampNeg)
  refine vc_L_law_2941 (d := d + 10) ⟨v1, ?_⟩
  refine c_X11_total Z.1 ?_
  refine ⟨v1, ?_⟩
  refine c_X12_total Z.2.1 ?_
  exact ⟨fun _ => kk _ (Z.2.2.2.c (C _)), fun z => (z Z.2.2.1).elim⟩
theorem lw_shipment (hn : n < 512) (A : RA h h n) (v1 : vp_in (x4 + 1) nS) (v2 : vp_in (x4 + 2) nS) (kk : ∀ h', RA h' h' (n + 1) → LK nS sc d rb x4 h' Qr Qx) : AW (oa_X nS sc) (d + 10 + 1) (rb + 1) mL_law 2966 [(0, vR 2000 0), (1, vR 11 0), (2, vR 12 0), (3, vR 66 0), (4, vI x4)] [] h Qr Qx := by
  have F : MFr h h := MFr.rfl'
  have C : ∀ H, CFr H (g_X12_shipment H (sc (x4 + 1).toNatClampNeg) (sc (x4 + 2).toNatClampNeg)) := fun H => ⟨fun t ht i => fr_X12_shipment (by unfold CS at ht; omega), fun t _ => by rw [gl_X12_shipment], gr_X12_shipment⟩
  have Z := y_shipment hn (A.m F) (sc (x4 + 1).toNatClampNeg) (sc (x4 + 2).toNatClampNeg)
  refine vc_L_law_2966 (d := d + 10) ⟨v1, v2, ?_⟩
  refine c_X11_shipment Z.1 ?_
  refine ⟨v1, v2, ?_⟩
  refine c_X12_shipment Z.2.1 ?_
  exact ⟨fun _ => kk _ (Z.2.2.2.c (C _)), fun z => (z Z.2.2.1).elim⟩
theorem lw_formattedByte (hn : n < 512) (A : RA h h n) (v1 : vp_in (x4 + 1) nS) (kk : ∀ h', RA h' h' (n + 1) → LK nS sc d rb x4 h' Qr Qx) : AW (oa_X nS sc) (d + 10 + 1) (rb + 1) mL_law 3115 [(0, vR 2000 0), (1, vR 11 0), (2, vR 12 0), (3, vR 66 0), (4, vI x4)] [] h Qr Qx := by
  have F : MFr h h := MFr.rfl'
  have C : ∀ H, CFr H (g_X12_formattedByte H (sc (x4 + 1).toNatClampNeg)) := fun H => ⟨fun t ht i => fr_X12_formattedByte (by unfold CS at ht; omega), fun t _ => by rw [gl_X12_formattedByte], gr_X12_formattedByte⟩
  have Z := y_formattedByte hn (A.m F) (sc (x4 + 1).toNatClampNeg)
  refine vc_L_law_3115 (d := d + 10) ⟨v1, ?_⟩
  refine c_X11_formattedByte Z.1 ?_
  refine ⟨v1, ?_⟩
  refine c_X12_formattedByte Z.2.1 ?_
  exact ⟨fun _ => kk _ (Z.2.2.2.c (C _)), fun z => (z Z.2.2.1).elim⟩
end LWS
