theorem oa_nn {p : Prop} (h : p) : ¬ ¬ p := fun z => z h
set_option maxHeartbeats 4000000 in
set_option maxRecDepth 100000 in
theorem vc_J7_fill_53178_0 {X : WD → State → Prop} {d rb : Nat} {h : Hp} {Qr : Option AV → Hp → Prop} {Qx : String → Hp → Prop} {t0 i0 n0 : Nat} {f0 : List (Nat × Nat)} {a1 : Int32} (ht0 : t0 < oa_nT) (hk0 : oa_kd t0 = (1, n0, f0)) (k : AW X (d + 1) rb mJ7_fill_53178 5 [(0, vR t0 i0), (1, vI a1), (2, vI 0), (3, vI (Int32.ofNat n0))] [] h Qr Qx) : AW X (d + 1) rb mJ7_fill_53178 0 [(0, vR t0 i0), (1, vI a1)] [] h Qr Qx := by
  refine aw_iconst (v := 0) dJ7_fill_53178_0 rfl (by decide) ?_
  refine aw_istore_n (i := 2) (L2 := [(2, vI 0), (0, vR t0 i0), (1, vI a1)]) dJ7_fill_53178_1 rfl rfl (by decide) rfl ?_
  refine aw_aload_n (j := 1) (i := 0) dJ7_fill_53178_2 rfl rfl rfl ?_
  refine aw_alen dJ7_fill_53178_3 rfl ht0 hk0 rfl ?_
  refine aw_istore_n (i := 3) (L2 := [(3, vI (Int32.ofNat n0)), (2, vI 0), (0, vR t0 i0), (1, vI a1)]) dJ7_fill_53178_4 rfl rfl (by decide) rfl ?_
  exact aw_sub [2, 3, 1, 0] rfl k
set_option maxHeartbeats 4000000 in
set_option maxRecDepth 100000 in
theorem vc_J7_fill_53178_5 {X : WD → State → Prop} {d rb : Nat} {h : Hp} {Qr : Option AV → Hp → Prop} {Qx : String → Hp → Prop} {t0 i0 n0 : Nat} {f0 : List (Nat × Nat)} {x1 : Int32} {x2 : Int32} {x3 : Int32} (ht0 : t0 < oa_nT) (hk0 : oa_kd t0 = (1, n0, f0)) (k : ((x3 ≤ x2) → Qr none h) ∧ ((¬ x3 ≤ x2) → (vp_in x2 n0) ∧ AW X (d + 1) rb mJ7_fill_53178 5 [(0, vR t0 i0), (1, vI x1), (2, vI (x2 + 1)), (3, vI x3)] [] (hp_i h t0 i0 x2.toNatClampNeg x1) Qr Qx)) : AW X (d + 1) rb mJ7_fill_53178 5 [(0, vR t0 i0), (1, vI x1), (2, vI x2), (3, vI x3)] [] h Qr Qx := by
  refine aw_iload_n (j := 2) (i := 2) dJ7_fill_53178_5 rfl rfl rfl ?_
  refine aw_iload_n (j := 3) (i := 3) dJ7_fill_53178_6 rfl rfl rfl ?_
  refine aw_icmp_ge 20 dJ7_fill_53178_7 rfl rfl (fun c => ?_) (fun c => ?_)
  · replace k := k.1 c
    exact aw_vret dJ7_fill_53178_20 rfl k
  · replace k := k.2 c
    refine aw_aload_n (j := 0) (i := 0) dJ7_fill_53178_10 rfl rfl rfl ?_
    refine aw_iload_n (j := 2) (i := 2) dJ7_fill_53178_11 rfl rfl rfl ?_
    refine aw_iload_n (j := 1) (i := 1) dJ7_fill_53178_12 rfl rfl rfl ?_
    refine aw_iast dJ7_fill_53178_13 rfl ht0 hk0 k.1 ?_
    replace k := k.2
    refine aw_iinc (i := 2) (j := 2) (v := x2 + 1) (L2 := [(2, vI (x2 + 1)), (0, vR t0 i0), (1, vI x1), (3, vI x3)]) dJ7_fill_53178_14 rfl (by decide) rfl rfl rfl ?_
    refine aw_goto 5 dJ7_fill_53178_17 rfl ?_
    exact aw_sub [1, 2, 0, 3] rfl k
set_option maxHeartbeats 4000000 in
set_option maxRecDepth 100000 in
theorem vc_J9_floorMod_7cf53_0 {X : WD → State → Prop} {d rb : Nat} {h : Hp} {Qr : Option AV → Hp → Prop} {Qx : String → Hp → Prop} {a0 : Int32} {a1 : Int32}  (k : (¬ a1 = 0) ∧ ((0 ≤ (a0 ^^^ a1)) → Qr (some (vI (a0 - a0 / a1 * a1))) h) ∧ ((¬ 0 ≤ (a0 ^^^ a1)) → (((a0 - a0 / a1 * a1) = 0) → Qr (some (vI (a0 - a0 / a1 * a1))) h) ∧ ((¬ (a0 - a0 / a1 * a1) = 0) → Qr (some (vI ((a0 - a0 / a1 * a1) + a1))) h))) : AW X (d + 1) rb mJ9_floorMod_7cf53 0 [(0, vI a0), (1, vI a1)] [] h Qr Qx := by
  refine aw_iload_n (j := 0) (i := 0) dJ9_floorMod_7cf53_0 rfl rfl rfl ?_
  refine aw_iload_n (j := 1) (i := 1) dJ9_floorMod_7cf53_1 rfl rfl rfl ?_
  refine aw_irem dJ9_floorMod_7cf53_2 rfl k.1 ?_
  replace k := k.2
  refine aw_istore_n (i := 2) (L2 := [(2, vI (a0 - a0 / a1 * a1)), (0, vI a0), (1, vI a1)]) dJ9_floorMod_7cf53_3 rfl rfl (by decide) rfl ?_
  refine aw_iload_n (j := 1) (i := 0) dJ9_floorMod_7cf53_4 rfl rfl rfl ?_
  refine aw_iload_n (j := 2) (i := 1) dJ9_floorMod_7cf53_5 rfl rfl rfl ?_
  refine aw_ixor dJ9_floorMod_7cf53_6 rfl ?_
  refine aw_if_ge 18 dJ9_floorMod_7cf53_7 rfl rfl (fun c => ?_) (fun c => ?_)
  · replace k := k.1 c
    refine aw_iload_n (j := 0) (i := 2) dJ9_floorMod_7cf53_18 rfl rfl rfl ?_
    exact aw_iret dJ9_floorMod_7cf53_19 rfl k
  · replace k := k.2 c
    refine aw_iload_n (j := 0) (i := 2) dJ9_floorMod_7cf53_10 rfl rfl rfl ?_
    refine aw_if_eq 18 dJ9_floorMod_7cf53_11 rfl rfl (fun c => ?_) (fun c => ?_)
    · replace k := k.1 c
      refine aw_iload_n (j := 0) (i := 2) dJ9_floorMod_7cf53_18 rfl rfl rfl ?_
      exact aw_iret dJ9_floorMod_7cf53_19 rfl k
    · replace k := k.2 c
      refine aw_iload_n (j := 0) (i := 2) dJ9_floorMod_7cf53_14 rfl rfl rfl ?_
      refine aw_iload_n (j := 2) (i := 1) dJ9_floorMod_7cf53_15 rfl rfl rfl ?_
      refine aw_iadd dJ9_floorMod_7cf53_16 rfl ?_
      exact aw_iret dJ9_floorMod_7cf53_17 rfl k
set_option maxHeartbeats 4000000 in
set_option maxRecDepth 100000 in
theorem vc_X0_tryOut_0 {X : WD → State → Prop} {d rb : Nat} {h : Hp} {Qr : Option AV → Hp → Prop} {Qx : String → Hp → Prop} {i1 : Nat} {i2 : Nat}  (k : CL 0 d mX0_begin [vR 0 0, vR 5 i2] h (oV fun h1 => AW X (d + 1) rb mX0_tryOut 7 [(0, vR 0 0), (1, vR 1 i1), (2, vR 5 i2), (3, vI 0)] [] h1 Qr Qx) Qx) : AW X (d + 1) rb mX0_tryOut 0 [(0, vR 0 0), (1, vR 1 i1), (2, vR 5 i2)] [] h Qr Qx := by
  refine aw_aload_n (j := 0) (i := 0) dX0_tryOut_0 rfl rfl rfl ?_
  refine aw_aload_n (j := 2) (i := 2) dX0_tryOut_1 rfl rfl rfl ?_
  refine aw_callV (M' := mX0_begin) (S := []) (as := [vR 5 i2]) (k := 0) dX0_tryOut_2 rfl (by decide) rfl rfl gw_573 gw_575 gw_4 mb_X0_begin rfl (Nat.zero_le _) (Nat.le_of_ble_eq_true rfl) rfl (CL.imp k (fun _ h1 k => ?_) (fun _ _ k => k))
  obtain ⟨rfl, k⟩ := oV_of k
  show AW X (d + 1) rb mX0_tryOut 5 _ [] h1 Qr Qx
  refine aw_iconst (v := 0) dX0_tryOut_5 rfl (by decide) ?_
  refine aw_istore_n (i := 3) (L2 := [(3, vI 0), (0, vR 0 0), (1, vR 1 i1), (2, vR 5 i2)]) dX0_tryOut_6 rfl rfl (by decide) rfl ?_
  exact aw_sub [1, 2, 3, 0] rfl k
set_option maxHeartbeats 4000000 in
set_option maxRecDepth 100000 in
theorem vc_X0_tryOut_7 {X : WD → State → Prop} {d rb : Nat} {h : Hp} {Qr : Option AV → Hp → Prop} {Qx : String → Hp → Prop} {i1 : Nat} {i2 : Nat} {x3 : Int32}  (k : (((h.1 1 i1 2) ≤ x3) → Qr none h) ∧ ((¬ (h.1 1 i1 2) ≤ x3) → CL 0 d mX1_shareOf [vR 1 i1, vI x3] h (oI fun r2 h1 => CL 0 d mX0_setQuotas [vR 0 0, vI r2] h1 (oV fun h3 => AW X (d + 1) rb mX0_tryOut 27 [(0, vR 0 0), (1, vR 1 i1), (2, vR 5 i2), (3, vI x3), (4, vI 0)] [] h3 Qr Qx) Qx) Qx)) : AW X (d + 1) rb mX0_tryOut 7 [(0, vR 0 0), (1, vR 1 i1), (2, vR 5 i2), (3, vI x3)] [] h Qr Qx := by
  refine aw_iload_n (j := 3) (i := 3) dX0_tryOut_7 rfl rfl rfl ?_
  refine aw_aload_n (j := 1) (i := 1) dX0_tryOut_8 rfl rfl rfl ?_
  refine aw_geti (k := 2) dX0_tryOut_9 rfl (by decide) rfl rfl cb_1 (by decide) gw_179 ?_
  refine aw_icmp_ge 97 dX0_tryOut_12 rfl rfl (fun c => ?_) (fun c => ?_)
  · replace k := k.1 c
    exact aw_vret dX0_tryOut_97 rfl k
  · replace k := k.2 c
    refine aw_aload_n (j := 0) (i := 0) dX0_tryOut_15 rfl rfl rfl ?_
    refine aw_aload_n (j := 1) (i := 1) dX0_tryOut_16 rfl rfl rfl ?_
    refine aw_iload_n (j := 3) (i := 3) dX0_tryOut_17 rfl rfl rfl ?_
    refine aw_callV (M' := mX1_shareOf) (S := [vR 0 0]) (as := [vI x3]) (k := 0) dX0_tryOut_18 rfl (by decide) rfl rfl gw_655 gw_656 gw_657 mb_X1_shareOf rfl (Nat.zero_le _) (Nat.le_of_ble_eq_true rfl) rfl (CL.imp k (fun _ h1 k => ?_) (fun _ _ k => k))
    obtain ⟨r2, rfl, k⟩ := oI_of k
    show AW X (d + 1) rb mX0_tryOut 21 _ [vI r2, vR 0 0] h1 Qr Qx
    refine aw_callV (M' := mX0_setQuotas) (S := []) (as := [vI r2]) (k := 0) dX0_tryOut_21 rfl (by decide) rfl rfl gw_659 gw_661 gw_6 mb_X0_setQuotas rfl (Nat.zero_le _) (Nat.le_of_ble_eq_true rfl) rfl (CL.imp k (fun _ h3 k => ?_) (fun _ _ k => k))
    obtain ⟨rfl, k⟩ := oV_of k
    show AW X (d + 1) rb mX0_tryOut 24 _ [] h3 Qr Qx
    refine aw_iconst (v := 0) dX0_tryOut_24 rfl (by decide) ?_
    refine aw_istore (i := 4) (L2 := [(4, vI 0), (0, vR 0 0), (1, vR 1 i1), (2, vR 5 i2), (3, vI x3)]) dX0_tryOut_25 rfl (by decide) rfl ?_
    exact aw_sub [1, 2, 3, 4, 0] rfl k
set_option maxHeartbeats 4000000 in
set_option maxRecDepth 100000 in
theorem vc_X0_tryOut_27 {X : WD → State → Prop} {d rb : Nat} {h : Hp} {Qr : Option AV → Hp → Prop} {Qx : String → Hp → Prop} {i1 : Nat} {i2 : Nat} {x3 : Int32} {x4 : Int32}  (k : (((h.1 6 i2 0) ≤ x4) → AW X (d + 1) rb mX0_tryOut 91 [(0, vR 0 0), (1, vR 1 i1), (2, vR 5 i2), (3, vI x3), (4, vI x4)] [] h Qr Qx) ∧ ((¬ (h.1 6 i2 0) ≤ x4) → ((20 ≤ x4) → AW X (d + 1) rb mX0_tryOut 91 [(0, vR 0 0), (1, vR 1 i1), (2, vR 5 i2), (3, vI x3), (4, vI x4)] [] h Qr Qx) ∧ ((¬ 20 ≤ x4) → (vp_in x4 20) ∧ CL 0 d mX6_classOf [vR 6 i2, vI (h.1 15 0 x4.toNatClampNeg)] h (oI fun r2 h1 => CL 0 d mX1_rungTakes [vR 1 i1, vI x3, vI r2] h1 (oI fun r4 h3 => ((r4 = 0) → AW X (d + 1) rb mX0_tryOut 27 [(0, vR 0 0), (1, vR 1 i1), (2, vR 5 i2), (3, vI x3), (4, vI (x4 + 1))] [] h3 Qr Qx) ∧ ((¬ r4 = 0) → (vp_in x4 20) ∧ CL 0 d mX0_serve [vR 0 0, vR 1 i1, vR 6 i2, vI (h3.1 15 0 x4.toNatClampNeg), vI x3] h3 (oV fun h5 => AW X (d + 1) rb mX0_tryOut 27 [(0, vR 0 0), (1, vR 1 i1), (2, vR 5 i2), (3, vI x3), (4, vI (x4 + 1))] [] h5 Qr Qx) Qx)) Qx) Qx))) : AW X (d + 1) rb mX0_tryOut 27 [(0, vR 0 0), (1, vR 1 i1), (2, vR 5 i2), (3, vI x3), (4, vI x4)] [] h Qr Qx := by
  refine aw_iload (j := 4) (i := 4) dX0_tryOut_27 rfl rfl ?_
  refine aw_aload_n (j := 2) (i := 2) dX0_tryOut_29 rfl rfl rfl ?_
  refine aw_getf (k := 1) (z := 6) dX0_tryOut_30 rfl (by decide) rfl rfl rfl cb_5 (by decide) gw_325 ?_
  refine aw_geti (k := 0) dX0_tryOut_33 rfl (by decide) rfl rfl cb_6 (by decide) gw_270 ?_
  refine aw_icmp_ge 91 dX0_tryOut_36 rfl rfl (fun c => ?_) (fun c => ?_)
  · replace k := k.1 c
    exact aw_sub [0, 1, 2, 3, 4] rfl k
  · replace k := k.2 c
    refine aw_iload (j := 4) (i := 4) dX0_tryOut_39 rfl rfl ?_
    refine aw_bipush (v := 20) dX0_tryOut_41 rfl (by decide) ?_
    refine aw_icmp_ge 91 dX0_tryOut_43 rfl rfl (fun c => ?_) (fun c => ?_)
    · replace k := k.1 c
      exact aw_sub [0, 1, 2, 3, 4] rfl k
    · replace k := k.2 c
      refine aw_aload_n (j := 1) (i := 1) dX0_tryOut_46 rfl rfl rfl ?_
      refine aw_iload_n (j := 3) (i := 3) dX0_tryOut_47 rfl rfl rfl ?_
      refine aw_aload_n (j := 2) (i := 2) dX0_tryOut_48 rfl rfl rfl ?_
      refine aw_getf (k := 1) (z := 6) dX0_tryOut_49 rfl (by decide) rfl rfl rfl cb_5 (by decide) gw_325 ?_
      refine aw_aload_n (j := 0) (i := 0) dX0_tryOut_52 rfl rfl rfl ?_
      refine aw_getf (k := 2) (z := 15) dX0_tryOut_53 rfl (by decide) rfl rfl rfl cb_0 (by decide) gw_384 ?_
      refine aw_iload (j := 4) (i := 4) dX0_tryOut_56 rfl rfl ?_
      refine aw_iald dX0_tryOut_58 rfl (by decide) rfl k.1 ?_
      replace k := k.2
      refine aw_callV (M' := mX6_classOf) (S := [vI x3, vR 1 i1]) (as := [vI (h.1 15 0 x4.toNatClampNeg)]) (k := 0) dX0_tryOut_59 rfl (by decide) rfl rfl gw_663 gw_591 gw_592 mb_X6_classOf rfl (Nat.zero_le _) (Nat.le_of_ble_eq_true rfl) rfl (CL.imp k (fun _ h1 k => ?_) (fun _ _ k => k))
      obtain ⟨r2, rfl, k⟩ := oI_of k
      show AW X (d + 1) rb mX0_tryOut 62 _ [vI r2, vI x3, vR 1 i1] h1 Qr Qx
      refine aw_callV (M' := mX1_rungTakes) (S := []) (as := [vI x3, vI r2]) (k := 0) dX0_tryOut_62 rfl (by decide) rfl rfl gw_664 gw_665 gw_666 mb_X1_rungTakes rfl (Nat.zero_le _) (Nat.le_of_ble_eq_true rfl) rfl (CL.imp k (fun _ h3 k => ?_) (fun _ _ k => k))
      obtain ⟨r4, rfl, k⟩ := oI_of k
      show AW X (d + 1) rb mX0_tryOut 65 _ [vI r4] h3 Qr Qx
      refine aw_if_eq 85 dX0_tryOut_65 rfl rfl (fun c => ?_) (fun c => ?_)
      · replace k := k.1 c
        refine aw_iinc (i := 4) (j := 4) (v := x4 + 1) (L2 := [(4, vI (x4 + 1)), (0, vR 0 0), (1, vR 1 i1), (2, vR 5 i2), (3, vI x3)]) dX0_tryOut_85 rfl (by decide) rfl rfl rfl ?_
        refine aw_goto 27 dX0_tryOut_88 rfl ?_
        exact aw_sub [1, 2, 3, 4, 0] rfl k
      · replace k := k.2 c
        refine aw_aload_n (j := 0) (i := 0) dX0_tryOut_68 rfl rfl rfl ?_
        refine aw_aload_n (j := 1) (i := 1) dX0_tryOut_69 rfl rfl rfl ?_
        refine aw_aload_n (j := 2) (i := 2) dX0_tryOut_70 rfl rfl rfl ?_
        refine aw_getf (k := 1) (z := 6) dX0_tryOut_71 rfl (by decide) rfl rfl rfl cb_5 (by decide) gw_325 ?_
        refine aw_aload_n (j := 0) (i := 0) dX0_tryOut_74 rfl rfl rfl ?_
        refine aw_getf (k := 2) (z := 15) dX0_tryOut_75 rfl (by decide) rfl rfl rfl cb_0 (by decide) gw_384 ?_
        refine aw_iload (j := 4) (i := 4) dX0_tryOut_78 rfl rfl ?_
        refine aw_iald dX0_tryOut_80 rfl (by decide) rfl k.1 ?_
        replace k := k.2
        refine aw_iload_n (j := 3) (i := 3) dX0_tryOut_81 rfl rfl rfl ?_
        refine aw_callV (M' := mX0_serve) (S := []) (as := [vR 1 i1, vR 6 i2, vI (h3.1 15 0 x4.toNatClampNeg), vI x3]) (k := 0) dX0_tryOut_82 rfl (by decide) rfl rfl gw_668 gw_670 gw_7 mb_X0_serve rfl (Nat.zero_le _) (Nat.le_of_ble_eq_true rfl) rfl (CL.imp k (fun _ h5 k => ?_) (fun _ _ k => k))
        obtain ⟨rfl, k⟩ := oV_of k
        show AW X (d + 1) rb mX0_tryOut 85 _ [] h5 Qr Qx
        refine aw_iinc (i := 4) (j := 4) (v := x4 + 1) (L2 := [(4, vI (x4 + 1)), (0, vR 0 0), (1, vR 1 i1), (2, vR 5 i2), (3, vI x3)]) dX0_tryOut_85 rfl (by decide) rfl rfl rfl ?_
        refine aw_goto 27 dX0_tryOut_88 rfl ?_
        exact aw_sub [1, 2, 3, 4, 0] rfl k
set_option maxHeartbeats 4000000 in
set_option maxRecDepth 100000 in
theorem vc_X0_tryOut_91 {X : WD → State → Prop} {d rb : Nat} {h : Hp} {Qr : Option AV → Hp → Prop} {Qx : String → Hp → Prop} {i1 : Nat} {i2 : Nat} {x3 : Int32} {x4 : Int32}  (k : AW X (d + 1) rb mX0_tryOut 7 [(0, vR 0 0), (1, vR 1 i1), (2, vR 5 i2), (3, vI (x3 + 1))] [] h Qr Qx) : AW X (d + 1) rb mX0_tryOut 91 [(0, vR 0 0), (1, vR 1 i1), (2, vR 5 i2), (3, vI x3), (4, vI x4)] [] h Qr Qx := by
  refine aw_iinc (i := 3) (j := 3) (v := x3 + 1) (L2 := [(3, vI (x3 + 1)), (0, vR 0 0), (1, vR 1 i1), (2, vR 5 i2), (4, vI x4)]) dX0_tryOut_91 rfl (by decide) rfl rfl rfl ?_
  refine aw_goto 7 dX0_tryOut_94 rfl ?_
  exact aw_sub [1, 2, 3, 0] rfl k
set_option maxHeartbeats 4000000 in
set_option maxRecDepth 100000 in
theorem vc_X0_begin_0 {X : WD → State → Prop} {d rb : Nat} {h : Hp} {Qr : Option AV → Hp → Prop} {Qx : String → Hp → Prop} {i1 : Nat}  (k : CL 0 d mX10_fillFree [vR 10 i1, vR 13 0] h (oV fun h1 => CL 0 d mX6_fillTurns [vR 6 i1, vR 15 0] h1 (oV fun h2 => CL 0 d mJ7_fill_53178 [vR 16 0, vI 0] h2 (oV fun h3 => CL 0 d mJ7_fill_53178 [vR 17 0, vI (-1)] h3 (oV fun h4 => CL 0 d mJ7_fill_53178 [vR 18 0, vI 0] h4 (oV fun h5 => Qr none h5) Qx) Qx) Qx) Qx) Qx) : AW X (d + 1) rb mX0_begin 0 [(0, vR 0 0), (1, vR 5 i1)] [] h Qr Qx := by
  refine aw_aload_n (j := 1) (i := 1) dX0_begin_0 rfl rfl rfl ?_
  refine aw_getf (k := 0) (z := 10) dX0_begin_1 rfl (by decide) rfl rfl rfl cb_5 (by decide) gw_321 ?_
  refine aw_aload_n (j := 0) (i := 0) dX0_begin_4 rfl rfl rfl ?_
  refine aw_getf (k := 0) (z := 13) dX0_begin_5 rfl (by decide) rfl rfl rfl cb_0 (by decide) gw_382 ?_
  refine aw_callV (M' := mX10_fillFree) (S := []) (as := [vR 13 0]) (k := 0) dX0_begin_8 rfl (by decide) rfl rfl gw_577 gw_578 gw_579 mb_X10_fillFree rfl (Nat.zero_le _) (Nat.le_of_ble_eq_true rfl) rfl (CL.imp k (fun _ h1 k => ?_) (fun _ _ k => k))
  obtain ⟨rfl, k⟩ := oV_of k
  show AW X (d + 1) rb mX0_begin 11 _ [] h1 Qr Qx
  refine aw_aload_n (j := 1) (i := 1) dX0_begin_11 rfl rfl rfl ?_
  refine aw_getf (k := 1) (z := 6) dX0_begin_12 rfl (by decide) rfl rfl rfl cb_5 (by decide) gw_325 ?_
  refine aw_aload_n (j := 0) (i := 0) dX0_begin_15 rfl rfl rfl ?_
  refine aw_getf (k := 2) (z := 15) dX0_begin_16 rfl (by decide) rfl rfl rfl cb_0 (by decide) gw_384 ?_
  refine aw_callV (M' := mX6_fillTurns) (S := []) (as := [vR 15 0]) (k := 0) dX0_begin_19 rfl (by decide) rfl rfl gw_581 gw_582 gw_583 mb_X6_fillTurns rfl (Nat.zero_le _) (Nat.le_of_ble_eq_true rfl) rfl (CL.imp k (fun _ h2 k => ?_) (fun _ _ k => k))
  obtain ⟨rfl, k⟩ := oV_of k
  show AW X (d + 1) rb mX0_begin 22 _ [] h2 Qr Qx
  refine aw_aload_n (j := 0) (i := 0) dX0_begin_22 rfl rfl rfl ?_
  refine aw_getf (k := 3) (z := 16) dX0_begin_23 rfl (by decide) rfl rfl rfl cb_0 (by decide) gw_385 ?_
  refine aw_iconst (v := 0) dX0_begin_26 rfl (by decide) ?_
  refine aw_callS (M' := mJ7_fill_53178) (S := []) (as := [vR 16 0, vI 0]) (k := 0) dX0_begin_27 rfl gw_594 gw_595 mb_J7_fill_53178 rfl (Nat.zero_le _) (Nat.le_of_ble_eq_true rfl) rfl (CL.imp k (fun _ h3 k => ?_) (fun _ _ k => k))
  obtain ⟨rfl, k⟩ := oV_of k
  show AW X (d + 1) rb mX0_begin 30 _ [] h3 Qr Qx
  refine aw_aload_n (j := 0) (i := 0) dX0_begin_30 rfl rfl rfl ?_
  refine aw_getf (k := 4) (z := 17) dX0_begin_31 rfl (by decide) rfl rfl rfl cb_0 (by decide) gw_386 ?_
  refine aw_iconst (v := (-1)) dX0_begin_34 rfl (by decide) ?_
  refine aw_callS (M' := mJ7_fill_53178) (S := []) (as := [vR 17 0, vI (-1)]) (k := 0) dX0_begin_35 rfl gw_594 gw_595 mb_J7_fill_53178 rfl (Nat.zero_le _) (Nat.le_of_ble_eq_true rfl) rfl (CL.imp k (fun _ h4 k => ?_) (fun _ _ k => k))
  obtain ⟨rfl, k⟩ := oV_of k
  show AW X (d + 1) rb mX0_begin 38 _ [] h4 Qr Qx
  refine aw_aload_n (j := 0) (i := 0) dX0_begin_38 rfl rfl rfl ?_
  refine aw_getf (k := 5) (z := 18) dX0_begin_39 rfl (by decide) rfl rfl rfl cb_0 (by decide) gw_387 ?_
  refine aw_iconst (v := 0) dX0_begin_42 rfl (by decide) ?_
  refine aw_callS (M' := mJ7_fill_53178) (S := []) (as := [vR 18 0, vI 0]) (k := 0) dX0_begin_43 rfl gw_594 gw_595 mb_J7_fill_53178 rfl (Nat.zero_le _) (Nat.le_of_ble_eq_true rfl) rfl (CL.imp k (fun _ h5 k => ?_) (fun _ _ k => k))
  obtain ⟨rfl, k⟩ := oV_of k
  show AW X (d + 1) rb mX0_begin 46 _ [] h5 Qr Qx
  exact aw_vret dX0_begin_46 rfl k
set_option maxHeartbeats 4000000 in
set_option maxRecDepth 100000 in
theorem vc_X0_setQuotas_0 {X : WD → State → Prop} {d rb : Nat} {h : Hp} {Qr : Option AV → Hp → Prop} {Qx : String → Hp → Prop} {a1 : Int32}  (k : AW X (d + 1) rb mX0_setQuotas 2 [(0, vR 0 0), (1, vI a1), (2, vI 0)] [] h Qr Qx) : AW X (d + 1) rb mX0_setQuotas 0 [(0, vR 0 0), (1, vI a1)] [] h Qr Qx := by
  refine aw_iconst (v := 0) dX0_setQuotas_0 rfl (by decide) ?_
  refine aw_istore_n (i := 2) (L2 := [(2, vI 0), (0, vR 0 0), (1, vI a1)]) dX0_setQuotas_1 rfl rfl (by decide) rfl ?_
  exact aw_sub [1, 2, 0] rfl k
set_option maxHeartbeats 4000000 in
set_option maxRecDepth 100000 in
theorem vc_X0_setQuotas_2 {X : WD → State → Prop} {d rb : Nat} {h : Hp} {Qr : Option AV → Hp → Prop} {Qx : String → Hp → Prop} {x1 : Int32} {x2 : Int32}  (k : ((12 ≤ x2) → Qr none h) ∧ ((¬ 12 ≤ x2) → (vp_in x2 12) ∧ (vp_in x2 12) ∧ AW X (d + 1) rb mX0_setQuotas 2 [(0, vR 0 0), (1, vI x1), (2, vI (x2 + 1))] [] (hp_i h 14 0 x2.toNatClampNeg (((h.1 13 0 x2.toNatClampNeg) * x1) / 100)) Qr Qx)) : AW X (d + 1) rb mX0_setQuotas 2 [(0, vR 0 0), (1, vI x1), (2, vI x2)] [] h Qr Qx := by
  refine aw_iload_n (j := 2) (i := 2) dX0_setQuotas_2 rfl rfl rfl ?_
  refine aw_bipush (v := 12) dX0_setQuotas_3 rfl (by decide) ?_
  refine aw_icmp_ge 31 dX0_setQuotas_5 rfl rfl (fun c => ?_) (fun c => ?_)
  · replace k := k.1 c
    exact aw_vret dX0_setQuotas_31 rfl k
  · replace k := k.2 c
    refine aw_aload_n (j := 0) (i := 0) dX0_setQuotas_8 rfl rfl rfl ?_
    refine aw_getf (k := 1) (z := 14) dX0_setQuotas_9 rfl (by decide) rfl rfl rfl cb_0 (by decide) gw_383 ?_
    refine aw_iload_n (j := 2) (i := 2) dX0_setQuotas_12 rfl rfl rfl ?_
    refine aw_aload_n (j := 0) (i := 0) dX0_setQuotas_13 rfl rfl rfl ?_
    refine aw_getf (k := 0) (z := 13) dX0_setQuotas_14 rfl (by decide) rfl rfl rfl cb_0 (by decide) gw_382 ?_
    refine aw_iload_n (j := 2) (i := 2) dX0_setQuotas_17 rfl rfl rfl ?_
    refine aw_iald dX0_setQuotas_18 rfl (by decide) rfl k.1 ?_
    replace k := k.2
    refine aw_iload_n (j := 1) (i := 1) dX0_setQuotas_19 rfl rfl rfl ?_
    refine aw_imul dX0_setQuotas_20 rfl ?_
    refine aw_bipush (v := 100) dX0_setQuotas_21 rfl (by decide) ?_
    refine aw_idiv dX0_setQuotas_23 rfl (by decide) ?_
    refine aw_iast dX0_setQuotas_24 rfl (by decide) rfl k.1 ?_
    replace k := k.2
    refine aw_iinc (i := 2) (j := 2) (v := x2 + 1) (L2 := [(2, vI (x2 + 1)), (0, vR 0 0), (1, vI x1)]) dX0_setQuotas_25 rfl (by decide) rfl rfl rfl ?_
    refine aw_goto 2 dX0_setQuotas_28 rfl ?_
    exact aw_sub [1, 2, 0] rfl k
set_option maxHeartbeats 4000000 in
set_option maxRecDepth 100000 in
theorem vc_X0_serve_0 {X : WD → State → Prop} {d rb : Nat} {h : Hp} {Qr : Option AV → Hp → Prop} {Qx : String → Hp → Prop} {i1 : Nat} {i2 : Nat} {a3 : Int32} {a4 : Int32}  (k : CL 0 d mX6_productOf [vR 6 i2, vI a3] h (oI fun r2 h1 => CL 0 d mX6_openOf [vR 6 i2, vI a3] h1 (oI fun r4 h3 => CL 0 d mX0_grantOf [vR 0 0, vI a3] h3 (oI fun r6 h5 => CL 0 d mX1_mostUnits [vR 1 i1, vI r2, vR 14 0] h5 (oI fun r8 h7 => (((if r8 < (r4 - r6) then r8 else (r4 - r6)) = (r4 - r6)) → (((if r8 < (r4 - r6) then r8 else (r4 - r6)) ≤ 0) → Qr none h7) ∧ ((¬ (if r8 < (r4 - r6) then r8 else (r4 - r6)) ≤ 0) → CL 0 d mX11_isInside [vI a3, vI 20] h7 (oI fun r10 h9 => ((r10 = 0) → Qr none h9) ∧ ((¬ r10 = 0) → CL 0 d mX11_isInside [vI a4, vI 6] h9 (oI fun r12 h11 => ((r12 = 0) → Qr none h11) ∧ ((¬ r12 = 0) → CL 0 d mX1_takePieces [vR 1 i1, vI r2, vI (if r8 < (r4 - r6) then r8 else (r4 - r6)), vR 14 0] h11 (oV fun h13 => CL 0 d mX1_takePieces [vR 1 i1, vI r2, vI (if r8 < (r4 - r6) then r8 else (r4 - r6)), vR 13 0] h13 (oV fun h14 => (vp_in a3 20) ∧ (vp_in a3 20) ∧ (vp_in a4 6) ∧ (vp_in a4 6) ∧ (vp_in a3 20) ∧ ((¬ (h14.1 17 0 a3.toNatClampNeg) = (-1)) → (vp_in a3 20) ∧ (vp_in a3 20) ∧ Qr none (hp_i (hp_i (hp_i h14 16 0 a3.toNatClampNeg ((h14.1 16 0 a3.toNatClampNeg) + (if r8 < (r4 - r6) then r8 else (r4 - r6)))) 18 0 a4.toNatClampNeg ((h14.1 18 0 a4.toNatClampNeg) + (if r8 < (r4 - r6) then r8 else (r4 - r6)))) 17 0 a3.toNatClampNeg (h14.1 17 0 a3.toNatClampNeg))) ∧ (((h14.1 17 0 a3.toNatClampNeg) = (-1)) → (vp_in a3 20) ∧ Qr none (hp_i (hp_i (hp_i h14 16 0 a3.toNatClampNeg ((h14.1 16 0 a3.toNatClampNeg) + (if r8 < (r4 - r6) then r8 else (r4 - r6)))) 18 0 a4.toNatClampNeg ((h14.1 18 0 a4.toNatClampNeg) + (if r8 < (r4 - r6) then r8 else (r4 - r6)))) 17 0 a3.toNatClampNeg a4))) Qx) Qx)) Qx)) Qx)) ∧ ((¬ (if r8 < (r4 - r6) then r8 else (r4 - r6)) = (r4 - r6)) → CL 0 d mX6_isWhole [vR 6 i2, vI a3] h7 (oI fun r16 h15 => (((if r8 < (r4 - r6) then r8 else (r4 - r6)) ≤ 0) → Qr none h15) ∧ ((¬ (if r8 < (r4 - r6) then r8 else (r4 - r6)) ≤ 0) → (((if ¬ r16 = 0 then (0 : Int32) else 1) = 0) → Qr none h15) ∧ ((¬ (if ¬ r16 = 0 then (0 : Int32) else 1) = 0) → CL 0 d mX11_isInside [vI a3, vI 20] h15 (oI fun r18 h17 => ((r18 = 0) → Qr none h17) ∧ ((¬ r18 = 0) → CL 0 d mX11_isInside [vI a4, vI 6] h17 (oI fun r20 h19 => ((r20 = 0) → Qr none h19) ∧ ((¬ r20 = 0) → CL 0 d mX1_takePieces [vR 1 i1, vI r2, vI (if r8 < (r4 - r6) then r8 else (r4 - r6)), vR 14 0] h19 (oV fun h21 => CL 0 d mX1_takePieces [vR 1 i1, vI r2, vI (if r8 < (r4 - r6) then r8 else (r4 - r6)), vR 13 0] h21 (oV fun h22 => (vp_in a3 20) ∧ (vp_in a3 20) ∧ (vp_in a4 6) ∧ (vp_in a4 6) ∧ (vp_in a3 20) ∧ ((¬ (h22.1 17 0 a3.toNatClampNeg) = (-1)) → (vp_in a3 20) ∧ (vp_in a3 20) ∧ Qr none (hp_i (hp_i (hp_i h22 16 0 a3.toNatClampNeg ((h22.1 16 0 a3.toNatClampNeg) + (if r8 < (r4 - r6) then r8 else (r4 - r6)))) 18 0 a4.toNatClampNeg ((h22.1 18 0 a4.toNatClampNeg) + (if r8 < (r4 - r6) then r8 else (r4 - r6)))) 17 0 a3.toNatClampNeg (h22.1 17 0 a3.toNatClampNeg))) ∧ (((h22.1 17 0 a3.toNatClampNeg) = (-1)) → (vp_in a3 20) ∧ Qr none (hp_i (hp_i (hp_i h22 16 0 a3.toNatClampNeg ((h22.1 16 0 a3.toNatClampNeg) + (if r8 < (r4 - r6) then r8 else (r4 - r6)))) 18 0 a4.toNatClampNeg ((h22.1 18 0 a4.toNatClampNeg) + (if r8 < (r4 - r6) then r8 else (r4 - r6)))) 17 0 a3.toNatClampNeg a4))) Qx) Qx)) Qx)) Qx))) Qx)) Qx) Qx) Qx) Qx) : AW X (d + 1) rb mX0_serve 0 [(0, vR 0 0), (1, vR 1 i1), (2, vR 6 i2), (3, vI a3), (4, vI a4)] [] h Qr Qx := by
  refine aw_aload_n (j := 2) (i := 2) dX0_serve_0 rfl rfl rfl ?_
  refine aw_iload_n (j := 3) (i := 3) dX0_serve_1 rfl rfl rfl ?_
  refine aw_callV (M' := mX6_productOf) (S := []) (as := [vI a3]) (k := 0) dX0_serve_2 rfl (by decide) rfl rfl gw_597 gw_505 gw_506 mb_X6_productOf rfl (Nat.zero_le _) (Nat.le_of_ble_eq_true rfl) rfl (CL.imp k (fun _ h1 k => ?_) (fun _ _ k => k))
  obtain ⟨r2, rfl, k⟩ := oI_of k
  show AW X (d + 1) rb mX0_serve 5 _ [vI r2] h1 Qr Qx
  refine aw_istore (i := 5) (L2 := [(5, vI r2), (0, vR 0 0), (1, vR 1 i1), (2, vR 6 i2), (3, vI a3), (4, vI a4)]) dX0_serve_5 rfl (by decide) rfl ?_
  refine aw_aload_n (j := 3) (i := 2) dX0_serve_7 rfl rfl rfl ?_
  refine aw_iload_n (j := 4) (i := 3) dX0_serve_8 rfl rfl rfl ?_
  refine aw_callV (M' := mX6_openOf) (S := []) (as := [vI a3]) (k := 0) dX0_serve_9 rfl (by decide) rfl rfl gw_598 gw_500 gw_501 mb_X6_openOf rfl (Nat.zero_le _) (Nat.le_of_ble_eq_true rfl) rfl (CL.imp k (fun _ h3 k => ?_) (fun _ _ k => k))
  obtain ⟨r4, rfl, k⟩ := oI_of k
  show AW X (d + 1) rb mX0_serve 12 _ [vI r4] h3 Qr Qx
  refine aw_aload_n (j := 1) (i := 0) dX0_serve_12 rfl rfl rfl ?_
  refine aw_iload_n (j := 4) (i := 3) dX0_serve_13 rfl rfl rfl ?_
  refine aw_callV (M' := mX0_grantOf) (S := [vI r4]) (as := [vI a3]) (k := 0) dX0_serve_14 rfl (by decide) rfl rfl gw_672 gw_673 gw_674 mb_X0_grantOf rfl (Nat.zero_le _) (Nat.le_of_ble_eq_true rfl) rfl (CL.imp k (fun _ h5 k => ?_) (fun _ _ k => k))
  obtain ⟨r6, rfl, k⟩ := oI_of k
  show AW X (d + 1) rb mX0_serve 17 _ [vI r6, vI r4] h5 Qr Qx
  refine aw_isub dX0_serve_17 rfl ?_
  refine aw_istore (i := 6) (L2 := [(6, vI (r4 - r6)), (5, vI r2), (0, vR 0 0), (1, vR 1 i1), (2, vR 6 i2), (3, vI a3), (4, vI a4)]) dX0_serve_18 rfl (by decide) rfl ?_
  refine aw_iload (j := 0) (i := 6) dX0_serve_20 rfl rfl ?_
  refine aw_aload_n (j := 3) (i := 1) dX0_serve_22 rfl rfl rfl ?_
  refine aw_iload (j := 1) (i := 5) dX0_serve_23 rfl rfl ?_
  refine aw_aload_n (j := 2) (i := 0) dX0_serve_25 rfl rfl rfl ?_
  refine aw_getf (k := 1) (z := 14) dX0_serve_26 rfl (by decide) rfl rfl rfl cb_0 (by decide) gw_383 ?_
  refine aw_callV (M' := mX1_mostUnits) (S := [vI (r4 - r6)]) (as := [vI r2, vR 14 0]) (k := 0) dX0_serve_29 rfl (by decide) rfl rfl gw_599 gw_600 gw_601 mb_X1_mostUnits rfl (Nat.zero_le _) (Nat.le_of_ble_eq_true rfl) rfl (CL.imp k (fun _ h7 k => ?_) (fun _ _ k => k))
  obtain ⟨r8, rfl, k⟩ := oI_of k
  show AW X (d + 1) rb mX0_serve 32 _ [vI r8, vI (r4 - r6)] h7 Qr Qx
  refine aw_min dX0_serve_32 rfl gw_677 gw_649 gw_104 gw_650 (Nat.le_of_ble_eq_true rfl) ?_
  refine aw_istore (i := 7) (L2 := [(7, vI (if r8 < (r4 - r6) then r8 else (r4 - r6))), (6, vI (r4 - r6)), (5, vI r2), (0, vR 0 0), (1, vR 1 i1), (2, vR 6 i2), (3, vI a3), (4, vI a4)]) dX0_serve_35 rfl (by decide) rfl ?_
  refine aw_iload (j := 0) (i := 7) dX0_serve_37 rfl rfl ?_
  refine aw_iload (j := 1) (i := 6) dX0_serve_39 rfl rfl ?_
  refine aw_icmp_eq 52 dX0_serve_41 rfl rfl (fun c => ?_) (fun c => ?_)
  · replace k := k.1 c
    refine aw_iconst (v := 1) dX0_serve_52 rfl (by decide) ?_
    refine aw_goto 57 dX0_serve_53 rfl ?_
    refine aw_istore (i := 8) (L2 := [(8, vI 1), (7, vI (if r8 < (r4 - r6) then r8 else (r4 - r6))), (6, vI (r4 - r6)), (5, vI r2), (0, vR 0 0), (1, vR 1 i1), (2, vR 6 i2), (3, vI a3), (4, vI a4)]) dX0_serve_57 rfl (by decide) rfl ?_
    refine aw_iload (j := 1) (i := 7) dX0_serve_59 rfl rfl ?_
    refine aw_if_le 162 dX0_serve_61 rfl rfl (fun c => ?_) (fun c => ?_)
    · replace k := k.1 c
      exact aw_vret dX0_serve_162 rfl k
    · replace k := k.2 c
      refine aw_iload (j := 0) (i := 8) dX0_serve_64 rfl rfl ?_
      refine aw_if_eq 162 dX0_serve_66 rfl rfl (fun z => absurd z (by decide)) (fun _ => ?_)
      refine aw_iload_n (j := 7) (i := 3) dX0_serve_69 rfl rfl rfl ?_
      refine aw_bipush (v := 20) dX0_serve_70 rfl (by decide) ?_
      refine aw_callSN (M' := mX11_isInside) (S := []) (as := [vI a3, vI 20]) (k := 0) dX0_serve_72 rfl nw_676 gw_461 mb_X11_isInside rfl (Nat.zero_le _) (Nat.le_of_ble_eq_true rfl) rfl (CL.imp k (fun _ h9 k => ?_) (fun _ _ k => k))
      obtain ⟨r10, rfl, k⟩ := oI_of k
      show AW X (d + 1) rb mX0_serve 75 _ [vI r10] h9 Qr Qx
      refine aw_if_eq 162 dX0_serve_75 rfl rfl (fun c => ?_) (fun c => ?_)
      · replace k := k.1 c
        exact aw_vret dX0_serve_162 rfl k
      · replace k := k.2 c
        refine aw_iload (j := 8) (i := 4) dX0_serve_78 rfl rfl ?_
        refine aw_bipush (v := 6) dX0_serve_80 rfl (by decide) ?_
        refine aw_callSN (M' := mX11_isInside) (S := []) (as := [vI a4, vI 6]) (k := 0) dX0_serve_82 rfl nw_676 gw_461 mb_X11_isInside rfl (Nat.zero_le _) (Nat.le_of_ble_eq_true rfl) rfl (CL.imp k (fun _ h11 k => ?_) (fun _ _ k => k))
        obtain ⟨r12, rfl, k⟩ := oI_of k
        show AW X (d + 1) rb mX0_serve 85 _ [vI r12] h11 Qr Qx
        refine aw_if_eq 162 dX0_serve_85 rfl rfl (fun c => ?_) (fun c => ?_)
        · replace k := k.1 c
          exact aw_vret dX0_serve_162 rfl k
        · replace k := k.2 c
          refine aw_aload_n (j := 5) (i := 1) dX0_serve_88 rfl rfl rfl ?_
          refine aw_iload (j := 3) (i := 5) dX0_serve_89 rfl rfl ?_
          refine aw_iload (j := 1) (i := 7) dX0_serve_91 rfl rfl ?_
          refine aw_aload_n (j := 4) (i := 0) dX0_serve_93 rfl rfl rfl ?_
          refine aw_getf (k := 1) (z := 14) dX0_serve_94 rfl (by decide) rfl rfl rfl cb_0 (by decide) gw_383 ?_
          refine aw_callV (M' := mX1_takePieces) (S := []) (as := [vI r2, vI (if r8 < (r4 - r6) then r8 else (r4 - r6)), vR 14 0]) (k := 0) dX0_serve_97 rfl (by decide) rfl rfl gw_608 gw_609 gw_610 mb_X1_takePieces rfl (Nat.zero_le _) (Nat.le_of_ble_eq_true rfl) rfl (CL.imp k (fun _ h13 k => ?_) (fun _ _ k => k))
          obtain ⟨rfl, k⟩ := oV_of k
          show AW X (d + 1) rb mX0_serve 100 _ [] h13 Qr Qx
          refine aw_aload_n (j := 5) (i := 1) dX0_serve_100 rfl rfl rfl ?_
          refine aw_iload (j := 3) (i := 5) dX0_serve_101 rfl rfl ?_
          refine aw_iload (j := 1) (i := 7) dX0_serve_103 rfl rfl ?_
          refine aw_aload_n (j := 4) (i := 0) dX0_serve_105 rfl rfl rfl ?_
          refine aw_getf (k := 0) (z := 13) dX0_serve_106 rfl (by decide) rfl rfl rfl cb_0 (by decide) gw_382 ?_
          refine aw_callV (M' := mX1_takePieces) (S := []) (as := [vI r2, vI (if r8 < (r4 - r6) then r8 else (r4 - r6)), vR 13 0]) (k := 0) dX0_serve_109 rfl (by decide) rfl rfl gw_608 gw_609 gw_610 mb_X1_takePieces rfl (Nat.zero_le _) (Nat.le_of_ble_eq_true rfl) rfl (CL.imp k (fun _ h14 k => ?_) (fun _ _ k => k))
          obtain ⟨rfl, k⟩ := oV_of k
          show AW X (d + 1) rb mX0_serve 112 _ [] h14 Qr Qx
          refine aw_aload_n (j := 4) (i := 0) dX0_serve_112 rfl rfl rfl ?_
          refine aw_getf (k := 3) (z := 16) dX0_serve_113 rfl (by decide) rfl rfl rfl cb_0 (by decide) gw_385 ?_
          refine aw_iload_n (j := 7) (i := 3) dX0_serve_116 rfl rfl rfl ?_
          refine aw_dup2 dX0_serve_117 rfl rfl rfl ?_
          refine aw_iald dX0_serve_118 rfl (by decide) rfl k.1 ?_
          replace k := k.2
          refine aw_iload (j := 1) (i := 7) dX0_serve_119 rfl rfl ?_
          refine aw_iadd dX0_serve_121 rfl ?_
          refine aw_iast dX0_serve_122 rfl (by decide) rfl k.1 ?_
          replace k := k.2
          refine aw_aload_n (j := 4) (i := 0) dX0_serve_123 rfl rfl rfl ?_
          refine aw_getf (k := 5) (z := 18) dX0_serve_124 rfl (by decide) rfl rfl rfl cb_0 (by decide) gw_387 ?_
          refine aw_iload (j := 8) (i := 4) dX0_serve_127 rfl rfl ?_
          refine aw_dup2 dX0_serve_129 rfl rfl rfl ?_
          refine aw_iald dX0_serve_130 rfl (by decide) rfl k.1 ?_
          replace k := k.2
          refine aw_iload (j := 1) (i := 7) dX0_serve_131 rfl rfl ?_
          refine aw_iadd dX0_serve_133 rfl ?_
          refine aw_iast dX0_serve_134 rfl (by decide) rfl k.1 ?_
          replace k := k.2
          refine aw_aload_n (j := 4) (i := 0) dX0_serve_135 rfl rfl rfl ?_
          refine aw_getf (k := 4) (z := 17) dX0_serve_136 rfl (by decide) rfl rfl rfl cb_0 (by decide) gw_386 ?_
          refine aw_iload_n (j := 7) (i := 3) dX0_serve_139 rfl rfl rfl ?_
          refine aw_aload_n (j := 4) (i := 0) dX0_serve_140 rfl rfl rfl ?_
          refine aw_getf (k := 4) (z := 17) dX0_serve_141 rfl (by decide) rfl rfl rfl cb_0 (by decide) gw_386 ?_
          refine aw_iload_n (j := 7) (i := 3) dX0_serve_144 rfl rfl rfl ?_
          refine aw_iald dX0_serve_145 rfl (by decide) rfl k.1 ?_
          replace k := k.2
          refine aw_iconst (v := (-1)) dX0_serve_146 rfl (by decide) ?_
          refine aw_icmp_ne 155 dX0_serve_147 rfl rfl (fun c => ?_) (fun c => ?_)
          · replace k := k.1 c
            refine aw_aload_n (j := 4) (i := 0) dX0_serve_155 rfl rfl rfl ?_
            refine aw_getf (k := 4) (z := 17) dX0_serve_156 rfl (by decide) rfl rfl rfl cb_0 (by decide) gw_386 ?_
            refine aw_iload_n (j := 7) (i := 3) dX0_serve_159 rfl rfl rfl ?_
            refine aw_iald dX0_serve_160 rfl (by decide) rfl k.1 ?_
            replace k := k.2
            refine aw_iast dX0_serve_161 rfl (by decide) rfl k.1 ?_
            replace k := k.2
            exact aw_vret dX0_serve_162 rfl k
          · replace k := k.2 c
            refine aw_iload (j := 8) (i := 4) dX0_serve_150 rfl rfl ?_
            refine aw_goto 161 dX0_serve_152 rfl ?_
            refine aw_iast dX0_serve_161 rfl (by decide) rfl k.1 ?_
            replace k := k.2
            exact aw_vret dX0_serve_162 rfl k
  · replace k := k.2 c
    refine aw_aload_n (j := 5) (i := 2) dX0_serve_44 rfl rfl rfl ?_
    refine aw_iload_n (j := 6) (i := 3) dX0_serve_45 rfl rfl rfl ?_
    refine aw_callV (M' := mX6_isWhole) (S := []) (as := [vI a3]) (k := 0) dX0_serve_46 rfl (by decide) rfl rfl gw_678 gw_679 gw_680 mb_X6_isWhole rfl (Nat.zero_le _) (Nat.le_of_ble_eq_true rfl) rfl (CL.imp k (fun _ h15 k => ?_) (fun _ _ k => k))
    obtain ⟨r16, rfl, k⟩ := oI_of k
    show AW X (d + 1) rb mX0_serve 49 _ [vI r16] h15 Qr Qx
    have kk : AW X (d + 1) rb mX0_serve 57 [(7, vI (if r8 < (r4 - r6) then r8 else (r4 - r6))), (6, vI (r4 - r6)), (5, vI r2), (0, vR 0 0), (1, vR 1 i1), (2, vR 6 i2), (3, vI a3), (4, vI a4)] [vI (if ¬ r16 = 0 then (0 : Int32) else 1)] h15 Qr Qx := by
      refine aw_istore (i := 8) (L2 := [(8, vI (if ¬ r16 = 0 then (0 : Int32) else 1)), (7, vI (if r8 < (r4 - r6) then r8 else (r4 - r6))), (6, vI (r4 - r6)), (5, vI r2), (0, vR 0 0), (1, vR 1 i1), (2, vR 6 i2), (3, vI a3), (4, vI a4)]) dX0_serve_57 rfl (by decide) rfl ?_
      refine aw_iload (j := 1) (i := 7) dX0_serve_59 rfl rfl ?_
      refine aw_if_le 162 dX0_serve_61 rfl rfl (fun c => ?_) (fun c => ?_)
      · replace k := k.1 c
        exact aw_vret dX0_serve_162 rfl k
      · replace k := k.2 c
        refine aw_iload (j := 0) (i := 8) dX0_serve_64 rfl rfl ?_
        refine aw_if_eq 162 dX0_serve_66 rfl rfl (fun c => ?_) (fun c => ?_)
        · replace k := k.1 c
          exact aw_vret dX0_serve_162 rfl k
        · replace k := k.2 c
          refine aw_iload_n (j := 7) (i := 3) dX0_serve_69 rfl rfl rfl ?_
          refine aw_bipush (v := 20) dX0_serve_70 rfl (by decide) ?_
          refine aw_callSN (M' := mX11_isInside) (S := []) (as := [vI a3, vI 20]) (k := 0) dX0_serve_72 rfl nw_676 gw_461 mb_X11_isInside rfl (Nat.zero_le _) (Nat.le_of_ble_eq_true rfl) rfl (CL.imp k (fun _ h17 k => ?_) (fun _ _ k => k))
          obtain ⟨r18, rfl, k⟩ := oI_of k
          show AW X (d + 1) rb mX0_serve 75 _ [vI r18] h17 Qr Qx
          refine aw_if_eq 162 dX0_serve_75 rfl rfl (fun c => ?_) (fun c => ?_)
          · replace k := k.1 c
            exact aw_vret dX0_serve_162 rfl k
          · replace k := k.2 c
            refine aw_iload (j := 8) (i := 4) dX0_serve_78 rfl rfl ?_
            refine aw_bipush (v := 6) dX0_serve_80 rfl (by decide) ?_
            refine aw_callSN (M' := mX11_isInside) (S := []) (as := [vI a4, vI 6]) (k := 0) dX0_serve_82 rfl nw_676 gw_461 mb_X11_isInside rfl (Nat.zero_le _) (Nat.le_of_ble_eq_true rfl) rfl (CL.imp k (fun _ h19 k => ?_) (fun _ _ k => k))
            obtain ⟨r20, rfl, k⟩ := oI_of k
            show AW X (d + 1) rb mX0_serve 85 _ [vI r20] h19 Qr Qx
            refine aw_if_eq 162 dX0_serve_85 rfl rfl (fun c => ?_) (fun c => ?_)
            · replace k := k.1 c
              exact aw_vret dX0_serve_162 rfl k
            · replace k := k.2 c
              refine aw_aload_n (j := 5) (i := 1) dX0_serve_88 rfl rfl rfl ?_
              refine aw_iload (j := 3) (i := 5) dX0_serve_89 rfl rfl ?_
              refine aw_iload (j := 1) (i := 7) dX0_serve_91 rfl rfl ?_
              refine aw_aload_n (j := 4) (i := 0) dX0_serve_93 rfl rfl rfl ?_
              refine aw_getf (k := 1) (z := 14) dX0_serve_94 rfl (by decide) rfl rfl rfl cb_0 (by decide) gw_383 ?_
              refine aw_callV (M' := mX1_takePieces) (S := []) (as := [vI r2, vI (if r8 < (r4 - r6) then r8 else (r4 - r6)), vR 14 0]) (k := 0) dX0_serve_97 rfl (by decide) rfl rfl gw_608 gw_609 gw_610 mb_X1_takePieces rfl (Nat.zero_le _) (Nat.le_of_ble_eq_true rfl) rfl (CL.imp k (fun _ h21 k => ?_) (fun _ _ k => k))
              obtain ⟨rfl, k⟩ := oV_of k
              show AW X (d + 1) rb mX0_serve 100 _ [] h21 Qr Qx
              refine aw_aload_n (j := 5) (i := 1) dX0_serve_100 rfl rfl rfl ?_
              refine aw_iload (j := 3) (i := 5) dX0_serve_101 rfl rfl ?_
              refine aw_iload (j := 1) (i := 7) dX0_serve_103 rfl rfl ?_
              refine aw_aload_n (j := 4) (i := 0) dX0_serve_105 rfl rfl rfl ?_
              refine aw_getf (k := 0) (z := 13) dX0_serve_106 rfl (by decide) rfl rfl rfl cb_0 (by decide) gw_382 ?_
              refine aw_callV (M' := mX1_takePieces) (S := []) (as := [vI r2, vI (if r8 < (r4 - r6) then r8 else (r4 - r6)), vR 13 0]) (k := 0) dX0_serve_109 rfl (by decide) rfl rfl gw_608 gw_609 gw_610 mb_X1_takePieces rfl (Nat.zero_le _) (Nat.le_of_ble_eq_true rfl) rfl (CL.imp k (fun _ h22 k => ?_) (fun _ _ k => k))
              obtain ⟨rfl, k⟩ := oV_of k
              show AW X (d + 1) rb mX0_serve 112 _ [] h22 Qr Qx
              refine aw_aload_n (j := 4) (i := 0) dX0_serve_112 rfl rfl rfl ?_
              refine aw_getf (k := 3) (z := 16) dX0_serve_113 rfl (by decide) rfl rfl rfl cb_0 (by decide) gw_385 ?_
              refine aw_iload_n (j := 7) (i := 3) dX0_serve_116 rfl rfl rfl ?_
              refine aw_dup2 dX0_serve_117 rfl rfl rfl ?_
              refine aw_iald dX0_serve_118 rfl (by decide) rfl k.1 ?_
              replace k := k.2
              refine aw_iload (j := 1) (i := 7) dX0_serve_119 rfl rfl ?_
              refine aw_iadd dX0_serve_121 rfl ?_
              refine aw_iast dX0_serve_122 rfl (by decide) rfl k.1 ?_
              replace k := k.2
              refine aw_aload_n (j := 4) (i := 0) dX0_serve_123 rfl rfl rfl ?_
              refine aw_getf (k := 5) (z := 18) dX0_serve_124 rfl (by decide) rfl rfl rfl cb_0 (by decide) gw_387 ?_
              refine aw_iload (j := 8) (i := 4) dX0_serve_127 rfl rfl ?_
              refine aw_dup2 dX0_serve_129 rfl rfl rfl ?_
              refine aw_iald dX0_serve_130 rfl (by decide) rfl k.1 ?_
              replace k := k.2
              refine aw_iload (j := 1) (i := 7) dX0_serve_131 rfl rfl ?_
              refine aw_iadd dX0_serve_133 rfl ?_
              refine aw_iast dX0_serve_134 rfl (by decide) rfl k.1 ?_
              replace k := k.2
              refine aw_aload_n (j := 4) (i := 0) dX0_serve_135 rfl rfl rfl ?_
              refine aw_getf (k := 4) (z := 17) dX0_serve_136 rfl (by decide) rfl rfl rfl cb_0 (by decide) gw_386 ?_
              refine aw_iload_n (j := 7) (i := 3) dX0_serve_139 rfl rfl rfl ?_
              refine aw_aload_n (j := 4) (i := 0) dX0_serve_140 rfl rfl rfl ?_
              refine aw_getf (k := 4) (z := 17) dX0_serve_141 rfl (by decide) rfl rfl rfl cb_0 (by decide) gw_386 ?_
              refine aw_iload_n (j := 7) (i := 3) dX0_serve_144 rfl rfl rfl ?_
              refine aw_iald dX0_serve_145 rfl (by decide) rfl k.1 ?_
              replace k := k.2
              refine aw_iconst (v := (-1)) dX0_serve_146 rfl (by decide) ?_
              refine aw_icmp_ne 155 dX0_serve_147 rfl rfl (fun c => ?_) (fun c => ?_)
              · replace k := k.1 c
                refine aw_aload_n (j := 4) (i := 0) dX0_serve_155 rfl rfl rfl ?_
                refine aw_getf (k := 4) (z := 17) dX0_serve_156 rfl (by decide) rfl rfl rfl cb_0 (by decide) gw_386 ?_
                refine aw_iload_n (j := 7) (i := 3) dX0_serve_159 rfl rfl rfl ?_
                refine aw_iald dX0_serve_160 rfl (by decide) rfl k.1 ?_
                replace k := k.2
                refine aw_iast dX0_serve_161 rfl (by decide) rfl k.1 ?_
                replace k := k.2
                exact aw_vret dX0_serve_162 rfl k
              · replace k := k.2 c
                refine aw_iload (j := 8) (i := 4) dX0_serve_150 rfl rfl ?_
                refine aw_goto 161 dX0_serve_152 rfl ?_
                refine aw_iast dX0_serve_161 rfl (by decide) rfl k.1 ?_
                replace k := k.2
                exact aw_vret dX0_serve_162 rfl k
    refine aw_if_ne 56 dX0_serve_49 rfl rfl (fun (c0 : ¬ r16 = 0) => ?_) (fun (c0 : r16 = 0) => ?_)
    · refine aw_iconst (v := 0) dX0_serve_56 rfl (by decide) ?_
      simp only [if_pos c0] at kk
      exact kk
    · refine aw_iconst (v := 1) dX0_serve_52 rfl (by decide) ?_
      refine aw_goto 57 dX0_serve_53 rfl ?_
      simp only [if_neg (oa_nn c0)] at kk
      exact kk
set_option maxHeartbeats 4000000 in
set_option maxRecDepth 100000 in
theorem vc_X0_grantOf_0 {X : WD → State → Prop} {d rb : Nat} {h : Hp} {Qr : Option AV → Hp → Prop} {Qx : String → Hp → Prop} {a1 : Int32}  (k : CL 0 d mX11_isInside [vI a1, vI 20] h (oI fun r2 h1 => ((r2 = 0) → Qr (some (vI 0)) h1) ∧ ((¬ r2 = 0) → (vp_in a1 20) ∧ Qr (some (vI (h1.1 16 0 a1.toNatClampNeg))) h1)) Qx) : AW X (d + 1) rb mX0_grantOf 0 [(0, vR 0 0), (1, vI a1)] [] h Qr Qx := by
  refine aw_iload_n (j := 1) (i := 1) dX0_grantOf_0 rfl rfl rfl ?_
  refine aw_bipush (v := 20) dX0_grantOf_1 rfl (by decide) ?_
  refine aw_callSN (M' := mX11_isInside) (S := []) (as := [vI a1, vI 20]) (k := 0) dX0_grantOf_3 rfl nw_676 gw_461 mb_X11_isInside rfl (Nat.zero_le _) (Nat.le_of_ble_eq_true rfl) rfl (CL.imp k (fun _ h1 k => ?_) (fun _ _ k => k))
  obtain ⟨r2, rfl, k⟩ := oI_of k
  show AW X (d + 1) rb mX0_grantOf 6 _ [vI r2] h1 Qr Qx
  refine aw_if_eq 18 dX0_grantOf_6 rfl rfl (fun c => ?_) (fun c => ?_)
  · replace k := k.1 c
    refine aw_iconst (v := 0) dX0_grantOf_18 rfl (by decide) ?_
    exact aw_iret dX0_grantOf_19 rfl k
  · replace k := k.2 c
    refine aw_aload_n (j := 0) (i := 0) dX0_grantOf_9 rfl rfl rfl ?_
    refine aw_getf (k := 3) (z := 16) dX0_grantOf_10 rfl (by decide) rfl rfl rfl cb_0 (by decide) gw_385 ?_
    refine aw_iload_n (j := 1) (i := 1) dX0_grantOf_13 rfl rfl rfl ?_
    refine aw_iald dX0_grantOf_14 rfl (by decide) rfl k.1 ?_
    replace k := k.2
    refine aw_goto 19 dX0_grantOf_15 rfl ?_
    exact aw_iret dX0_grantOf_19 rfl k
set_option maxHeartbeats 4000000 in
set_option maxRecDepth 100000 in
theorem vc_X0_firstRungOf_0 {X : WD → State → Prop} {d rb : Nat} {h : Hp} {Qr : Option AV → Hp → Prop} {Qx : String → Hp → Prop} {a1 : Int32}  (k : CL 0 d mX11_isInside [vI a1, vI 20] h (oI fun r2 h1 => ((r2 = 0) → Qr (some (vI (-1))) h1) ∧ ((¬ r2 = 0) → (vp_in a1 20) ∧ Qr (some (vI (h1.1 17 0 a1.toNatClampNeg))) h1)) Qx) : AW X (d + 1) rb mX0_firstRungOf 0 [(0, vR 0 0), (1, vI a1)] [] h Qr Qx := by
  refine aw_iload_n (j := 1) (i := 1) dX0_firstRungOf_0 rfl rfl rfl ?_
  refine aw_bipush (v := 20) dX0_firstRungOf_1 rfl (by decide) ?_
  refine aw_callSN (M' := mX11_isInside) (S := []) (as := [vI a1, vI 20]) (k := 0) dX0_firstRungOf_3 rfl nw_676 gw_461 mb_X11_isInside rfl (Nat.zero_le _) (Nat.le_of_ble_eq_true rfl) rfl (CL.imp k (fun _ h1 k => ?_) (fun _ _ k => k))
  obtain ⟨r2, rfl, k⟩ := oI_of k
  show AW X (d + 1) rb mX0_firstRungOf 6 _ [vI r2] h1 Qr Qx
  refine aw_if_eq 18 dX0_firstRungOf_6 rfl rfl (fun c => ?_) (fun c => ?_)
  · replace k := k.1 c
    refine aw_iconst (v := (-1)) dX0_firstRungOf_18 rfl (by decide) ?_
    exact aw_iret dX0_firstRungOf_19 rfl k
  · replace k := k.2 c
    refine aw_aload_n (j := 0) (i := 0) dX0_firstRungOf_9 rfl rfl rfl ?_
    refine aw_getf (k := 4) (z := 17) dX0_firstRungOf_10 rfl (by decide) rfl rfl rfl cb_0 (by decide) gw_386 ?_
    refine aw_iload_n (j := 1) (i := 1) dX0_firstRungOf_13 rfl rfl rfl ?_
    refine aw_iald dX0_firstRungOf_14 rfl (by decide) rfl k.1 ?_
    replace k := k.2
    refine aw_goto 19 dX0_firstRungOf_15 rfl ?_
    exact aw_iret dX0_firstRungOf_19 rfl k
set_option maxHeartbeats 4000000 in
set_option maxRecDepth 100000 in
theorem vc_X0_unitsInRung_0 {X : WD → State → Prop} {d rb : Nat} {h : Hp} {Qr : Option AV → Hp → Prop} {Qx : String → Hp → Prop} {a1 : Int32}  (k : CL 0 d mX11_isInside [vI a1, vI 6] h (oI fun r2 h1 => ((r2 = 0) → Qr (some (vI 0)) h1) ∧ ((¬ r2 = 0) → (vp_in a1 6) ∧ Qr (some (vI (h1.1 18 0 a1.toNatClampNeg))) h1)) Qx) : AW X (d + 1) rb mX0_unitsInRung 0 [(0, vR 0 0), (1, vI a1)] [] h Qr Qx := by
  refine aw_iload_n (j := 1) (i := 1) dX0_unitsInRung_0 rfl rfl rfl ?_
  refine aw_bipush (v := 6) dX0_unitsInRung_1 rfl (by decide) ?_
  refine aw_callSN (M' := mX11_isInside) (S := []) (as := [vI a1, vI 6]) (k := 0) dX0_unitsInRung_3 rfl nw_676 gw_461 mb_X11_isInside rfl (Nat.zero_le _) (Nat.le_of_ble_eq_true rfl) rfl (CL.imp k (fun _ h1 k => ?_) (fun _ _ k => k))
  obtain ⟨r2, rfl, k⟩ := oI_of k
  show AW X (d + 1) rb mX0_unitsInRung 6 _ [vI r2] h1 Qr Qx
  refine aw_if_eq 18 dX0_unitsInRung_6 rfl rfl (fun c => ?_) (fun c => ?_)
  · replace k := k.1 c
    refine aw_iconst (v := 0) dX0_unitsInRung_18 rfl (by decide) ?_
    exact aw_iret dX0_unitsInRung_19 rfl k
  · replace k := k.2 c
    refine aw_aload_n (j := 0) (i := 0) dX0_unitsInRung_9 rfl rfl rfl ?_
    refine aw_getf (k := 5) (z := 18) dX0_unitsInRung_10 rfl (by decide) rfl rfl rfl cb_0 (by decide) gw_387 ?_
    refine aw_iload_n (j := 1) (i := 1) dX0_unitsInRung_13 rfl rfl rfl ?_
    refine aw_iald dX0_unitsInRung_14 rfl (by decide) rfl k.1 ?_
    replace k := k.2
    refine aw_goto 19 dX0_unitsInRung_15 rfl ?_
    exact aw_iret dX0_unitsInRung_19 rfl k
set_option maxHeartbeats 4000000 in
set_option maxRecDepth 100000 in
theorem vc_X0_coveredSet_0 {X : WD → State → Prop} {d rb : Nat} {h : Hp} {Qr : Option AV → Hp → Prop} {Qx : String → Hp → Prop} {i1 : Nat} {i2 : Nat}  (k : CL 0 d mX0_begin [vR 0 0, vR 5 i2] h (oV fun h1 => AW X (d + 1) rb mX0_coveredSet 10 [(0, vR 0 0), (1, vR 1 i1), (2, vR 5 i2), (3, vI 0), (4, vI 0)] [] h1 Qr Qx) Qx) : AW X (d + 1) rb mX0_coveredSet 0 [(0, vR 0 0), (1, vR 1 i1), (2, vR 5 i2)] [] h Qr Qx := by
  refine aw_aload_n (j := 0) (i := 0) dX0_coveredSet_0 rfl rfl rfl ?_
  refine aw_aload_n (j := 2) (i := 2) dX0_coveredSet_1 rfl rfl rfl ?_
  refine aw_callV (M' := mX0_begin) (S := []) (as := [vR 5 i2]) (k := 0) dX0_coveredSet_2 rfl (by decide) rfl rfl gw_573 gw_575 gw_4 mb_X0_begin rfl (Nat.zero_le _) (Nat.le_of_ble_eq_true rfl) rfl (CL.imp k (fun _ h1 k => ?_) (fun _ _ k => k))
  obtain ⟨rfl, k⟩ := oV_of k
  show AW X (d + 1) rb mX0_coveredSet 5 _ [] h1 Qr Qx
  refine aw_iconst (v := 0) dX0_coveredSet_5 rfl (by decide) ?_
  refine aw_istore_n (i := 3) (L2 := [(3, vI 0), (0, vR 0 0), (1, vR 1 i1), (2, vR 5 i2)]) dX0_coveredSet_6 rfl rfl (by decide) rfl ?_
  refine aw_iconst (v := 0) dX0_coveredSet_7 rfl (by decide) ?_
  refine aw_istore (i := 4) (L2 := [(4, vI 0), (3, vI 0), (0, vR 0 0), (1, vR 1 i1), (2, vR 5 i2)]) dX0_coveredSet_8 rfl (by decide) rfl ?_
  exact aw_sub [2, 3, 4, 1, 0] rfl k
set_option maxHeartbeats 4000000 in
set_option maxRecDepth 100000 in
theorem vc_X0_coveredSet_10 {X : WD → State → Prop} {d rb : Nat} {h : Hp} {Qr : Option AV → Hp → Prop} {Qx : String → Hp → Prop} {i1 : Nat} {i2 : Nat} {x3 : Int32} {x4 : Int32}  (k : (((h.1 6 i2 0) ≤ x4) → Qr (some (vI x3)) h) ∧ ((¬ (h.1 6 i2 0) ≤ x4) → ((20 ≤ x4) → Qr (some (vI x3)) h) ∧ ((¬ 20 ≤ x4) → (vp_in x4 20) ∧ CL 0 d mX6_productOf [vR 6 i2, vI (h.1 15 0 x4.toNatClampNeg)] h (oI fun r2 h1 => CL 0 d mX6_openOf [vR 6 i2, vI (h.1 15 0 x4.toNatClampNeg)] h1 (oI fun r4 h3 => ((r4 ≤ 0) → AW X (d + 1) rb mX0_coveredSet 10 [(0, vR 0 0), (1, vR 1 i1), (2, vR 5 i2), (3, vI x3), (4, vI (x4 + 1))] [] h3 Qr Qx) ∧ ((¬ r4 ≤ 0) → CL 0 d mX1_mostUnits [vR 1 i1, vI r2, vR 13 0] h3 (oI fun r6 h5 => ((r6 < r4) → AW X (d + 1) rb mX0_coveredSet 10 [(0, vR 0 0), (1, vR 1 i1), (2, vR 5 i2), (3, vI x3), (4, vI (x4 + 1))] [] h5 Qr Qx) ∧ ((¬ r6 < r4) → CL 0 d mX1_takePieces [vR 1 i1, vI r2, vI r4, vR 13 0] h5 (oV fun h7 => AW X (d + 1) rb mX0_coveredSet 10 [(0, vR 0 0), (1, vR 1 i1), (2, vR 5 i2), (3, vI (x3 ||| (1 <<< ((h.1 15 0 x4.toNatClampNeg) &&& 31)))), (4, vI (x4 + 1))] [] h7 Qr Qx) Qx)) Qx)) Qx) Qx))) : AW X (d + 1) rb mX0_coveredSet 10 [(0, vR 0 0), (1, vR 1 i1), (2, vR 5 i2), (3, vI x3), (4, vI x4)] [] h Qr Qx := by
  refine aw_iload (j := 4) (i := 4) dX0_coveredSet_10 rfl rfl ?_
  refine aw_aload_n (j := 2) (i := 2) dX0_coveredSet_12 rfl rfl rfl ?_
  refine aw_getf (k := 1) (z := 6) dX0_coveredSet_13 rfl (by decide) rfl rfl rfl cb_5 (by decide) gw_325 ?_
  refine aw_geti (k := 0) dX0_coveredSet_16 rfl (by decide) rfl rfl cb_6 (by decide) gw_270 ?_
  refine aw_icmp_ge 105 dX0_coveredSet_19 rfl rfl (fun c => ?_) (fun c => ?_)
  · replace k := k.1 c
    refine aw_iload_n (j := 3) (i := 3) dX0_coveredSet_105 rfl rfl rfl ?_
    exact aw_iret dX0_coveredSet_106 rfl k
  · replace k := k.2 c
    refine aw_iload (j := 4) (i := 4) dX0_coveredSet_22 rfl rfl ?_
    refine aw_bipush (v := 20) dX0_coveredSet_24 rfl (by decide) ?_
    refine aw_icmp_ge 105 dX0_coveredSet_26 rfl rfl (fun c => ?_) (fun c => ?_)
    · replace k := k.1 c
      refine aw_iload_n (j := 3) (i := 3) dX0_coveredSet_105 rfl rfl rfl ?_
      exact aw_iret dX0_coveredSet_106 rfl k
    · replace k := k.2 c
      refine aw_aload_n (j := 0) (i := 0) dX0_coveredSet_29 rfl rfl rfl ?_
      refine aw_getf (k := 2) (z := 15) dX0_coveredSet_30 rfl (by decide) rfl rfl rfl cb_0 (by decide) gw_384 ?_
      refine aw_iload (j := 4) (i := 4) dX0_coveredSet_33 rfl rfl ?_
      refine aw_iald dX0_coveredSet_35 rfl (by decide) rfl k.1 ?_
      replace k := k.2
      refine aw_istore (i := 5) (L2 := [(5, vI (h.1 15 0 x4.toNatClampNeg)), (0, vR 0 0), (1, vR 1 i1), (2, vR 5 i2), (3, vI x3), (4, vI x4)]) dX0_coveredSet_36 rfl (by decide) rfl ?_
      refine aw_aload_n (j := 3) (i := 2) dX0_coveredSet_38 rfl rfl rfl ?_
      refine aw_getf (k := 1) (z := 6) dX0_coveredSet_39 rfl (by decide) rfl rfl rfl cb_5 (by decide) gw_325 ?_
      refine aw_iload (j := 0) (i := 5) dX0_coveredSet_42 rfl rfl ?_
      refine aw_callV (M' := mX6_productOf) (S := []) (as := [vI (h.1 15 0 x4.toNatClampNeg)]) (k := 0) dX0_coveredSet_44 rfl (by decide) rfl rfl gw_597 gw_505 gw_506 mb_X6_productOf rfl (Nat.zero_le _) (Nat.le_of_ble_eq_true rfl) rfl (CL.imp k (fun _ h1 k => ?_) (fun _ _ k => k))
      obtain ⟨r2, rfl, k⟩ := oI_of k
      show AW X (d + 1) rb mX0_coveredSet 47 _ [vI r2] h1 Qr Qx
      refine aw_istore (i := 6) (L2 := [(6, vI r2), (5, vI (h.1 15 0 x4.toNatClampNeg)), (0, vR 0 0), (1, vR 1 i1), (2, vR 5 i2), (3, vI x3), (4, vI x4)]) dX0_coveredSet_47 rfl (by decide) rfl ?_
      refine aw_aload_n (j := 4) (i := 2) dX0_coveredSet_49 rfl rfl rfl ?_
      refine aw_getf (k := 1) (z := 6) dX0_coveredSet_50 rfl (by decide) rfl rfl rfl cb_5 (by decide) gw_325 ?_
      refine aw_iload (j := 1) (i := 5) dX0_coveredSet_53 rfl rfl ?_
      refine aw_callV (M' := mX6_openOf) (S := []) (as := [vI (h.1 15 0 x4.toNatClampNeg)]) (k := 0) dX0_coveredSet_55 rfl (by decide) rfl rfl gw_598 gw_500 gw_501 mb_X6_openOf rfl (Nat.zero_le _) (Nat.le_of_ble_eq_true rfl) rfl (CL.imp k (fun _ h3 k => ?_) (fun _ _ k => k))
      obtain ⟨r4, rfl, k⟩ := oI_of k
      show AW X (d + 1) rb mX0_coveredSet 58 _ [vI r4] h3 Qr Qx
      refine aw_istore (i := 7) (L2 := [(7, vI r4), (6, vI r2), (5, vI (h.1 15 0 x4.toNatClampNeg)), (0, vR 0 0), (1, vR 1 i1), (2, vR 5 i2), (3, vI x3), (4, vI x4)]) dX0_coveredSet_58 rfl (by decide) rfl ?_
      refine aw_iload (j := 0) (i := 7) dX0_coveredSet_60 rfl rfl ?_
      refine aw_if_le 99 dX0_coveredSet_62 rfl rfl (fun c => ?_) (fun c => ?_)
      · replace k := k.1 c
        refine aw_iinc (i := 4) (j := 7) (v := x4 + 1) (L2 := [(4, vI (x4 + 1)), (7, vI r4), (6, vI r2), (5, vI (h.1 15 0 x4.toNatClampNeg)), (0, vR 0 0), (1, vR 1 i1), (2, vR 5 i2), (3, vI x3)]) dX0_coveredSet_99 rfl (by decide) rfl rfl rfl ?_
        refine aw_goto 10 dX0_coveredSet_102 rfl ?_
        exact aw_sub [4, 5, 6, 7, 0] rfl k
      · replace k := k.2 c
        refine aw_iload (j := 0) (i := 7) dX0_coveredSet_65 rfl rfl ?_
        refine aw_aload_n (j := 4) (i := 1) dX0_coveredSet_67 rfl rfl rfl ?_
        refine aw_iload (j := 1) (i := 6) dX0_coveredSet_68 rfl rfl ?_
        refine aw_aload_n (j := 3) (i := 0) dX0_coveredSet_70 rfl rfl rfl ?_
        refine aw_getf (k := 0) (z := 13) dX0_coveredSet_71 rfl (by decide) rfl rfl rfl cb_0 (by decide) gw_382 ?_
        refine aw_callV (M' := mX1_mostUnits) (S := [vI r4]) (as := [vI r2, vR 13 0]) (k := 0) dX0_coveredSet_74 rfl (by decide) rfl rfl gw_599 gw_600 gw_601 mb_X1_mostUnits rfl (Nat.zero_le _) (Nat.le_of_ble_eq_true rfl) rfl (CL.imp k (fun _ h5 k => ?_) (fun _ _ k => k))
        obtain ⟨r6, rfl, k⟩ := oI_of k
        show AW X (d + 1) rb mX0_coveredSet 77 _ [vI r6, vI r4] h5 Qr Qx
        refine aw_icmp_gt 99 dX0_coveredSet_77 rfl rfl (fun c => ?_) (fun c => ?_)
        · replace k := k.1 c
          refine aw_iinc (i := 4) (j := 7) (v := x4 + 1) (L2 := [(4, vI (x4 + 1)), (7, vI r4), (6, vI r2), (5, vI (h.1 15 0 x4.toNatClampNeg)), (0, vR 0 0), (1, vR 1 i1), (2, vR 5 i2), (3, vI x3)]) dX0_coveredSet_99 rfl (by decide) rfl rfl rfl ?_
          refine aw_goto 10 dX0_coveredSet_102 rfl ?_
          exact aw_sub [4, 5, 6, 7, 0] rfl k
        · replace k := k.2 c
          refine aw_aload_n (j := 4) (i := 1) dX0_coveredSet_80 rfl rfl rfl ?_
          refine aw_iload (j := 1) (i := 6) dX0_coveredSet_81 rfl rfl ?_
          refine aw_iload (j := 0) (i := 7) dX0_coveredSet_83 rfl rfl ?_
          refine aw_aload_n (j := 3) (i := 0) dX0_coveredSet_85 rfl rfl rfl ?_
          refine aw_getf (k := 0) (z := 13) dX0_coveredSet_86 rfl (by decide) rfl rfl rfl cb_0 (by decide) gw_382 ?_
          refine aw_callV (M' := mX1_takePieces) (S := []) (as := [vI r2, vI r4, vR 13 0]) (k := 0) dX0_coveredSet_89 rfl (by decide) rfl rfl gw_608 gw_609 gw_610 mb_X1_takePieces rfl (Nat.zero_le _) (Nat.le_of_ble_eq_true rfl) rfl (CL.imp k (fun _ h7 k => ?_) (fun _ _ k => k))
          obtain ⟨rfl, k⟩ := oV_of k
          show AW X (d + 1) rb mX0_coveredSet 92 _ [] h7 Qr Qx
          refine aw_iload_n (j := 6) (i := 3) dX0_coveredSet_92 rfl rfl rfl ?_
          refine aw_iconst (v := 1) dX0_coveredSet_93 rfl (by decide) ?_
          refine aw_iload (j := 2) (i := 5) dX0_coveredSet_94 rfl rfl ?_
          refine aw_ishl dX0_coveredSet_96 rfl ?_
          refine aw_ior dX0_coveredSet_97 rfl ?_
          refine aw_istore_n (i := 3) (L2 := [(3, vI (x3 ||| (1 <<< ((h.1 15 0 x4.toNatClampNeg) &&& 31)))), (7, vI r4), (6, vI r2), (5, vI (h.1 15 0 x4.toNatClampNeg)), (0, vR 0 0), (1, vR 1 i1), (2, vR 5 i2), (4, vI x4)]) dX0_coveredSet_98 rfl rfl (by decide) rfl ?_
          refine aw_iinc (i := 4) (j := 7) (v := x4 + 1) (L2 := [(4, vI (x4 + 1)), (3, vI (x3 ||| (1 <<< ((h.1 15 0 x4.toNatClampNeg) &&& 31)))), (7, vI r4), (6, vI r2), (5, vI (h.1 15 0 x4.toNatClampNeg)), (0, vR 0 0), (1, vR 1 i1), (2, vR 5 i2)]) dX0_coveredSet_99 rfl (by decide) rfl rfl rfl ?_
          refine aw_goto 10 dX0_coveredSet_102 rfl ?_
          exact aw_sub [5, 6, 7, 1, 0] rfl k
set_option maxHeartbeats 4000000 in
set_option maxRecDepth 100000 in
theorem vc_X1_clear_0 {X : WD → State → Prop} {d rb : Nat} {h : Hp} {Qr : Option AV → Hp → Prop} {Qx : String → Hp → Prop} {i0 : Nat}  (k : Qr none (hp_i (hp_i (hp_i h 1 i0 0 0) 1 i0 1 0) 1 i0 2 0)) : AW X (d + 1) rb mX1_clear 0 [(0, vR 1 i0)] [] h Qr Qx := by
  refine aw_aload_n (j := 0) (i := 0) dX1_clear_0 rfl rfl rfl ?_
  refine aw_iconst (v := 0) dX1_clear_1 rfl (by decide) ?_
  refine aw_puti (k := 0) dX1_clear_2 rfl (by decide) rfl rfl cb_1 (by decide) rfl rfl gw_172 ?_
  refine aw_aload_n (j := 0) (i := 0) dX1_clear_5 rfl rfl rfl ?_
  refine aw_iconst (v := 0) dX1_clear_6 rfl (by decide) ?_
  refine aw_puti (k := 1) dX1_clear_7 rfl (by decide) rfl rfl cb_1 (by decide) rfl rfl gw_176 ?_
  refine aw_aload_n (j := 0) (i := 0) dX1_clear_10 rfl rfl rfl ?_
  refine aw_iconst (v := 0) dX1_clear_11 rfl (by decide) ?_
  refine aw_puti (k := 2) dX1_clear_12 rfl (by decide) rfl rfl cb_1 (by decide) rfl rfl gw_180 ?_
  exact aw_vret dX1_clear_15 rfl k
set_option maxHeartbeats 4000000 in
set_option maxRecDepth 100000 in
theorem vc_X1_addPart_0 {X : WD → State → Prop} {d rb : Nat} {h : Hp} {Qr : Option AV → Hp → Prop} {Qx : String → Hp → Prop} {i0 : Nat} {a1 : Int64} {a3 : Int32}  (k : ((12 ≤ (h.1 1 i0 0)) → Qr none h) ∧ ((¬ 12 ≤ (h.1 1 i0 0)) → (vp_in (h.1 1 i0 0) 12) ∧ (vp_in (h.1 1 i0 0) 12) ∧ Qr none (hp_i (hp_i (hp_l h 19 i0 ((h.1 1 i0 0).toNatClampNeg) a1) 20 i0 ((h.1 1 i0 0).toNatClampNeg) a3) 1 i0 0 ((h.1 1 i0 0) + 1)))) : AW X (d + 1) rb mX1_addPart 0 [(0, vR 1 i0), (1, vJ a1), (3, vI a3)] [] h Qr Qx := by
  refine aw_aload_n (j := 0) (i := 0) dX1_addPart_0 rfl rfl rfl ?_
  refine aw_geti (k := 0) dX1_addPart_1 rfl (by decide) rfl rfl cb_1 (by decide) gw_172 ?_
  refine aw_bipush (v := 12) dX1_addPart_4 rfl (by decide) ?_
  refine aw_icmp_ge 39 dX1_addPart_6 rfl rfl (fun c => ?_) (fun c => ?_)
  · replace k := k.1 c
    exact aw_vret dX1_addPart_39 rfl k
  · replace k := k.2 c
    refine aw_aload_n (j := 0) (i := 0) dX1_addPart_9 rfl rfl rfl ?_
    refine aw_getf (k := 3) (z := 19) dX1_addPart_10 rfl (by decide) rfl rfl rfl cb_1 (by decide) gw_183 ?_
    refine aw_aload_n (j := 0) (i := 0) dX1_addPart_13 rfl rfl rfl ?_
    refine aw_geti (k := 0) dX1_addPart_14 rfl (by decide) rfl rfl cb_1 (by decide) gw_172 ?_
    refine aw_lload_n (j := 1) (i := 1) dX1_addPart_17 rfl rfl rfl ?_
    refine aw_last dX1_addPart_18 rfl (by decide) rfl k.1 ?_
    replace k := k.2
    refine aw_aload_n (j := 0) (i := 0) dX1_addPart_19 rfl rfl rfl ?_
    refine aw_getf (k := 4) (z := 20) dX1_addPart_20 rfl (by decide) rfl rfl rfl cb_1 (by decide) gw_184 ?_
    refine aw_aload_n (j := 0) (i := 0) dX1_addPart_23 rfl rfl rfl ?_
    refine aw_geti (k := 0) dX1_addPart_24 rfl (by decide) rfl rfl cb_1 (by decide) gw_172 ?_
    refine aw_iload_n (j := 2) (i := 3) dX1_addPart_27 rfl rfl rfl ?_
    refine aw_iast dX1_addPart_28 rfl (by decide) rfl k.1 ?_
    replace k := k.2
    refine aw_aload_n (j := 0) (i := 0) dX1_addPart_29 rfl rfl rfl ?_
    refine aw_dup dX1_addPart_30 rfl rfl ?_
    refine aw_geti (k := 0) dX1_addPart_31 rfl (by decide) rfl rfl cb_1 (by decide) gw_172 ?_
    refine aw_iconst (v := 1) dX1_addPart_34 rfl (by decide) ?_
    refine aw_iadd dX1_addPart_35 rfl ?_
    refine aw_puti (k := 0) dX1_addPart_36 rfl (by decide) rfl rfl cb_1 (by decide) rfl rfl gw_172 ?_
    exact aw_vret dX1_addPart_39 rfl k
set_option maxHeartbeats 4000000 in
set_option maxRecDepth 100000 in
theorem vc_X1_addRung_0 {X : WD → State → Prop} {d rb : Nat} {h : Hp} {Qr : Option AV → Hp → Prop} {Qx : String → Hp → Prop} {i0 : Nat} {a1 : Int32} {a2 : Int32} {a3 : Int32}  (k : ((6 ≤ (h.1 1 i0 2)) → Qr none h) ∧ ((¬ 6 ≤ (h.1 1 i0 2)) → (vp_in (h.1 1 i0 2) 6) ∧ (vp_in (h.1 1 i0 2) 6) ∧ (vp_in (h.1 1 i0 2) 6) ∧ Qr none (hp_i (hp_i (hp_i (hp_i h 30 i0 ((h.1 1 i0 2).toNatClampNeg) a1) 31 i0 ((h.1 1 i0 2).toNatClampNeg) a2) 32 i0 ((h.1 1 i0 2).toNatClampNeg) a3) 1 i0 2 ((h.1 1 i0 2) + 1)))) : AW X (d + 1) rb mX1_addRung 0 [(0, vR 1 i0), (1, vI a1), (2, vI a2), (3, vI a3)] [] h Qr Qx := by
  refine aw_aload_n (j := 0) (i := 0) dX1_addRung_0 rfl rfl rfl ?_
  refine aw_geti (k := 2) dX1_addRung_1 rfl (by decide) rfl rfl cb_1 (by decide) gw_180 ?_
  refine aw_bipush (v := 6) dX1_addRung_4 rfl (by decide) ?_
  refine aw_icmp_ge 49 dX1_addRung_6 rfl rfl (fun c => ?_) (fun c => ?_)
  · replace k := k.1 c
    exact aw_vret dX1_addRung_49 rfl k
  · replace k := k.2 c
    refine aw_aload_n (j := 0) (i := 0) dX1_addRung_9 rfl rfl rfl ?_
    refine aw_getf (k := 11) (z := 30) dX1_addRung_10 rfl (by decide) rfl rfl rfl cb_1 (by decide) gw_191 ?_
    refine aw_aload_n (j := 0) (i := 0) dX1_addRung_13 rfl rfl rfl ?_
    refine aw_geti (k := 2) dX1_addRung_14 rfl (by decide) rfl rfl cb_1 (by decide) gw_180 ?_
    refine aw_iload_n (j := 1) (i := 1) dX1_addRung_17 rfl rfl rfl ?_
    refine aw_iast dX1_addRung_18 rfl (by decide) rfl k.1 ?_
    replace k := k.2
    refine aw_aload_n (j := 0) (i := 0) dX1_addRung_19 rfl rfl rfl ?_
    refine aw_getf (k := 12) (z := 31) dX1_addRung_20 rfl (by decide) rfl rfl rfl cb_1 (by decide) gw_192 ?_
    refine aw_aload_n (j := 0) (i := 0) dX1_addRung_23 rfl rfl rfl ?_
    refine aw_geti (k := 2) dX1_addRung_24 rfl (by decide) rfl rfl cb_1 (by decide) gw_180 ?_
    refine aw_iload_n (j := 2) (i := 2) dX1_addRung_27 rfl rfl rfl ?_
    refine aw_iast dX1_addRung_28 rfl (by decide) rfl k.1 ?_
    replace k := k.2
    refine aw_aload_n (j := 0) (i := 0) dX1_addRung_29 rfl rfl rfl ?_
    refine aw_getf (k := 13) (z := 32) dX1_addRung_30 rfl (by decide) rfl rfl rfl cb_1 (by decide) gw_193 ?_
    refine aw_aload_n (j := 0) (i := 0) dX1_addRung_33 rfl rfl rfl ?_
    refine aw_geti (k := 2) dX1_addRung_34 rfl (by decide) rfl rfl cb_1 (by decide) gw_180 ?_
    refine aw_iload_n (j := 3) (i := 3) dX1_addRung_37 rfl rfl rfl ?_
    refine aw_iast dX1_addRung_38 rfl (by decide) rfl k.1 ?_
    replace k := k.2
    refine aw_aload_n (j := 0) (i := 0) dX1_addRung_39 rfl rfl rfl ?_
    refine aw_dup dX1_addRung_40 rfl rfl ?_
    refine aw_geti (k := 2) dX1_addRung_41 rfl (by decide) rfl rfl cb_1 (by decide) gw_180 ?_
    refine aw_iconst (v := 1) dX1_addRung_44 rfl (by decide) ?_
    refine aw_iadd dX1_addRung_45 rfl ?_
    refine aw_puti (k := 2) dX1_addRung_46 rfl (by decide) rfl rfl cb_1 (by decide) rfl rfl gw_180 ?_
    exact aw_vret dX1_addRung_49 rfl k
set_option maxHeartbeats 4000000 in
set_option maxRecDepth 100000 in
theorem vc_X1_beginProduct_0 {X : WD → State → Prop} {d rb : Nat} {h : Hp} {Qr : Option AV → Hp → Prop} {Qx : String → Hp → Prop} {i0 : Nat} {a1 : Int64}  (k : ((8 ≤ (h.1 1 i0 1)) → Qr none h) ∧ ((¬ 8 ≤ (h.1 1 i0 1)) → (vp_in (h.1 1 i0 1) 8) ∧ (vp_in (h.1 1 i0 1) 8) ∧ (vp_in (h.1 1 i0 1) 8) ∧ (vp_in (h.1 1 i0 1) 8) ∧ CL 0 d mJ7_fill_53178 [vR 29 (8 * i0 + (h.1 1 i0 1).toNatClampNeg), vI 0] (hp_i (hp_i (hp_l h 21 i0 ((h.1 1 i0 1).toNatClampNeg) a1) 22 i0 ((h.1 1 i0 1).toNatClampNeg) 1) 23 i0 ((h.1 1 i0 1).toNatClampNeg) 0) (oV fun h1 => Qr none h1) Qx)) : AW X (d + 1) rb mX1_beginProduct 0 [(0, vR 1 i0), (1, vJ a1)] [] h Qr Qx := by
  refine aw_aload_n (j := 0) (i := 0) dX1_beginProduct_0 rfl rfl rfl ?_
  refine aw_geti (k := 1) dX1_beginProduct_1 rfl (by decide) rfl rfl cb_1 (by decide) gw_176 ?_
  refine aw_bipush (v := 8) dX1_beginProduct_4 rfl (by decide) ?_
  refine aw_icmp_ge 52 dX1_beginProduct_6 rfl rfl (fun c => ?_) (fun c => ?_)
  · replace k := k.1 c
    exact aw_vret dX1_beginProduct_52 rfl k
  · replace k := k.2 c
    refine aw_aload_n (j := 0) (i := 0) dX1_beginProduct_9 rfl rfl rfl ?_
    refine aw_getf (k := 5) (z := 21) dX1_beginProduct_10 rfl (by decide) rfl rfl rfl cb_1 (by decide) gw_185 ?_
    refine aw_aload_n (j := 0) (i := 0) dX1_beginProduct_13 rfl rfl rfl ?_
    refine aw_geti (k := 1) dX1_beginProduct_14 rfl (by decide) rfl rfl cb_1 (by decide) gw_176 ?_
    refine aw_lload_n (j := 1) (i := 1) dX1_beginProduct_17 rfl rfl rfl ?_
    refine aw_last dX1_beginProduct_18 rfl (by decide) rfl k.1 ?_
    replace k := k.2
    refine aw_aload_n (j := 0) (i := 0) dX1_beginProduct_19 rfl rfl rfl ?_
    refine aw_getf (k := 6) (z := 22) dX1_beginProduct_20 rfl (by decide) rfl rfl rfl cb_1 (by decide) gw_186 ?_
    refine aw_aload_n (j := 0) (i := 0) dX1_beginProduct_23 rfl rfl rfl ?_
    refine aw_geti (k := 1) dX1_beginProduct_24 rfl (by decide) rfl rfl cb_1 (by decide) gw_176 ?_
    refine aw_iconst (v := 1) dX1_beginProduct_27 rfl (by decide) ?_
    refine aw_iast dX1_beginProduct_28 rfl (by decide) rfl k.1 ?_
    replace k := k.2
    refine aw_aload_n (j := 0) (i := 0) dX1_beginProduct_29 rfl rfl rfl ?_
    refine aw_getf (k := 7) (z := 23) dX1_beginProduct_30 rfl (by decide) rfl rfl rfl cb_1 (by decide) gw_187 ?_
    refine aw_aload_n (j := 0) (i := 0) dX1_beginProduct_33 rfl rfl rfl ?_
    refine aw_geti (k := 1) dX1_beginProduct_34 rfl (by decide) rfl rfl cb_1 (by decide) gw_176 ?_
    refine aw_iconst (v := 0) dX1_beginProduct_37 rfl (by decide) ?_
    refine aw_iast dX1_beginProduct_38 rfl (by decide) rfl k.1 ?_
    replace k := k.2
    refine aw_aload_n (j := 0) (i := 0) dX1_beginProduct_39 rfl rfl rfl ?_
    refine aw_getf (k := 10) (z := 28) dX1_beginProduct_40 rfl (by decide) rfl rfl rfl cb_1 (by decide) gw_190 ?_
    refine aw_aload_n (j := 0) (i := 0) dX1_beginProduct_43 rfl rfl rfl ?_
    refine aw_geti (k := 1) dX1_beginProduct_44 rfl (by decide) rfl rfl cb_1 (by decide) gw_176 ?_
    refine aw_aald6 (o := 8) (u := 29) dX1_beginProduct_47 rfl (by decide) rfl oa_hu28 k.1 ?_
    replace k := k.2
    refine aw_iconst (v := 0) dX1_beginProduct_48 rfl (by decide) ?_
    refine aw_callS (M' := mJ7_fill_53178) (S := []) (as := [vR 29 (8 * i0 + (h.1 1 i0 1).toNatClampNeg), vI 0]) (k := 0) dX1_beginProduct_49 rfl gw_910 gw_595 mb_J7_fill_53178 rfl (Nat.zero_le _) (Nat.le_of_ble_eq_true rfl) rfl (CL.imp k (fun _ h1 k => ?_) (fun _ _ k => k))
    obtain ⟨rfl, k⟩ := oV_of k
    show AW X (d + 1) rb mX1_beginProduct 52 _ [] h1 Qr Qx
    exact aw_vret dX1_beginProduct_52 rfl k
set_option maxHeartbeats 4000000 in
set_option maxRecDepth 100000 in
theorem vc_X1_linesOfBegun_0 {X : WD → State → Prop} {d rb : Nat} {h : Hp} {Qr : Option AV → Hp → Prop} {Qx : String → Hp → Prop} {i0 : Nat}  (k : ((8 ≤ (h.1 1 i0 1)) → Qr (some (vI 6)) h) ∧ ((¬ 8 ≤ (h.1 1 i0 1)) → (vp_in (h.1 1 i0 1) 8) ∧ Qr (some (vI (h.1 23 i0 ((h.1 1 i0 1).toNatClampNeg)))) h)) : AW X (d + 1) rb mX1_linesOfBegun 0 [(0, vR 1 i0)] [] h Qr Qx := by
  refine aw_aload_n (j := 0) (i := 0) dX1_linesOfBegun_0 rfl rfl rfl ?_
  refine aw_geti (k := 1) dX1_linesOfBegun_1 rfl (by decide) rfl rfl cb_1 (by decide) gw_176 ?_
  refine aw_bipush (v := 8) dX1_linesOfBegun_4 rfl (by decide) ?_
  refine aw_icmp_ge 21 dX1_linesOfBegun_6 rfl rfl (fun c => ?_) (fun c => ?_)
  · replace k := k.1 c
    refine aw_bipush (v := 6) dX1_linesOfBegun_21 rfl (by decide) ?_
    exact aw_iret dX1_linesOfBegun_23 rfl k
  · replace k := k.2 c
    refine aw_aload_n (j := 0) (i := 0) dX1_linesOfBegun_9 rfl rfl rfl ?_
    refine aw_getf (k := 7) (z := 23) dX1_linesOfBegun_10 rfl (by decide) rfl rfl rfl cb_1 (by decide) gw_187 ?_
    refine aw_aload_n (j := 0) (i := 0) dX1_linesOfBegun_13 rfl rfl rfl ?_
    refine aw_geti (k := 1) dX1_linesOfBegun_14 rfl (by decide) rfl rfl cb_1 (by decide) gw_176 ?_
    refine aw_iald dX1_linesOfBegun_17 rfl (by decide) rfl k.1 ?_
    replace k := k.2
    refine aw_goto 23 dX1_linesOfBegun_18 rfl ?_
    exact aw_iret dX1_linesOfBegun_23 rfl k
set_option maxHeartbeats 4000000 in
set_option maxRecDepth 100000 in
theorem vc_X1_begunHas_0 {X : WD → State → Prop} {d rb : Nat} {h : Hp} {Qr : Option AV → Hp → Prop} {Qx : String → Hp → Prop} {i0 : Nat} {a1 : Int32}  (k : AW X (d + 1) rb mX1_begunHas 2 [(0, vR 1 i0), (1, vI a1), (2, vI 0)] [] h Qr Qx) : AW X (d + 1) rb mX1_begunHas 0 [(0, vR 1 i0), (1, vI a1)] [] h Qr Qx := by
  refine aw_iconst (v := 0) dX1_begunHas_0 rfl (by decide) ?_
  refine aw_istore_n (i := 2) (L2 := [(2, vI 0), (0, vR 1 i0), (1, vI a1)]) dX1_begunHas_1 rfl rfl (by decide) rfl ?_
  exact aw_sub [1, 2, 0] rfl k
set_option maxHeartbeats 4000000 in
set_option maxRecDepth 100000 in
theorem vc_X1_begunHas_2 {X : WD → State → Prop} {d rb : Nat} {h : Hp} {Qr : Option AV → Hp → Prop} {Qx : String → Hp → Prop} {i0 : Nat} {x1 : Int32} {x2 : Int32}  (k : CL 0 d mX1_linesOfBegun [vR 1 i0] h (oI fun r2 h1 => ((r2 ≤ x2) → Qr (some (vI 0)) h1) ∧ ((¬ r2 ≤ x2) → ((8 ≤ (h1.1 1 i0 1)) → AW X (d + 1) rb mX1_begunHas 2 [(0, vR 1 i0), (1, vI x1), (2, vI (x2 + 1))] [] h1 Qr Qx) ∧ ((¬ 8 ≤ (h1.1 1 i0 1)) → (vp_in (h1.1 1 i0 1) 8) ∧ (vp_in x2 6) ∧ ((¬ (h1.1 25 (8 * i0 + (h1.1 1 i0 1).toNatClampNeg) x2.toNatClampNeg) = x1) → AW X (d + 1) rb mX1_begunHas 2 [(0, vR 1 i0), (1, vI x1), (2, vI (x2 + 1))] [] h1 Qr Qx) ∧ (((h1.1 25 (8 * i0 + (h1.1 1 i0 1).toNatClampNeg) x2.toNatClampNeg) = x1) → Qr (some (vI 1)) h1)))) Qx) : AW X (d + 1) rb mX1_begunHas 2 [(0, vR 1 i0), (1, vI x1), (2, vI x2)] [] h Qr Qx := by
  refine aw_iload_n (j := 2) (i := 2) dX1_begunHas_2 rfl rfl rfl ?_
  refine aw_aload_n (j := 0) (i := 0) dX1_begunHas_3 rfl rfl rfl ?_
  refine aw_callV (M' := mX1_linesOfBegun) (S := [vI x2]) (as := []) (k := 0) dX1_begunHas_4 rfl (by decide) rfl rfl gw_923 gw_916 gw_917 mb_X1_linesOfBegun rfl (Nat.zero_le _) (Nat.le_of_ble_eq_true rfl) rfl (CL.imp k (fun _ h1 k => ?_) (fun _ _ k => k))
  obtain ⟨r2, rfl, k⟩ := oI_of k
  show AW X (d + 1) rb mX1_begunHas 7 _ [vI r2, vI x2] h1 Qr Qx
  refine aw_icmp_ge 42 dX1_begunHas_7 rfl rfl (fun c => ?_) (fun c => ?_)
  · replace k := k.1 c
    refine aw_iconst (v := 0) dX1_begunHas_42 rfl (by decide) ?_
    exact aw_zret dX1_begunHas_43 rfl (by decide) k
  · replace k := k.2 c
    refine aw_aload_n (j := 0) (i := 0) dX1_begunHas_10 rfl rfl rfl ?_
    refine aw_geti (k := 1) dX1_begunHas_11 rfl (by decide) rfl rfl cb_1 (by decide) gw_176 ?_
    refine aw_bipush (v := 8) dX1_begunHas_14 rfl (by decide) ?_
    refine aw_icmp_ge 36 dX1_begunHas_16 rfl rfl (fun c => ?_) (fun c => ?_)
    · replace k := k.1 c
      refine aw_iinc (i := 2) (j := 2) (v := x2 + 1) (L2 := [(2, vI (x2 + 1)), (0, vR 1 i0), (1, vI x1)]) dX1_begunHas_36 rfl (by decide) rfl rfl rfl ?_
      refine aw_goto 2 dX1_begunHas_39 rfl ?_
      exact aw_sub [1, 2, 0] rfl k
    · replace k := k.2 c
      refine aw_aload_n (j := 0) (i := 0) dX1_begunHas_19 rfl rfl rfl ?_
      refine aw_getf (k := 8) (z := 24) dX1_begunHas_20 rfl (by decide) rfl rfl rfl cb_1 (by decide) gw_188 ?_
      refine aw_aload_n (j := 0) (i := 0) dX1_begunHas_23 rfl rfl rfl ?_
      refine aw_geti (k := 1) dX1_begunHas_24 rfl (by decide) rfl rfl cb_1 (by decide) gw_176 ?_
      refine aw_aald6 (o := 8) (u := 25) dX1_begunHas_27 rfl (by decide) rfl oa_hu24 k.1 ?_
      replace k := k.2
      refine aw_iload_n (j := 2) (i := 2) dX1_begunHas_28 rfl rfl rfl ?_
      refine aw_iald dX1_begunHas_29 rfl (by decide) rfl k.1 ?_
      replace k := k.2
      refine aw_iload_n (j := 1) (i := 1) dX1_begunHas_30 rfl rfl rfl ?_
      refine aw_icmp_ne 36 dX1_begunHas_31 rfl rfl (fun c => ?_) (fun c => ?_)
      · replace k := k.1 c
        refine aw_iinc (i := 2) (j := 2) (v := x2 + 1) (L2 := [(2, vI (x2 + 1)), (0, vR 1 i0), (1, vI x1)]) dX1_begunHas_36 rfl (by decide) rfl rfl rfl ?_
        refine aw_goto 2 dX1_begunHas_39 rfl ?_
        exact aw_sub [1, 2, 0] rfl k
      · replace k := k.2 c
        refine aw_iconst (v := 1) dX1_begunHas_34 rfl (by decide) ?_
        exact aw_zret dX1_begunHas_35 rfl (by decide) k
set_option maxHeartbeats 4000000 in
set_option maxRecDepth 100000 in
theorem vc_X1_begunCanHold_0 {X : WD → State → Prop} {d rb : Nat} {h : Hp} {Qr : Option AV → Hp → Prop} {Qx : String → Hp → Prop} {i0 : Nat} {a1 : Int32} {a2 : Int32}  (k : AW X (d + 1) rb mX1_begunCanHold 2 [(0, vR 1 i0), (1, vI a1), (2, vI a2), (3, vI 0)] [] h Qr Qx) : AW X (d + 1) rb mX1_begunCanHold 0 [(0, vR 1 i0), (1, vI a1), (2, vI a2)] [] h Qr Qx := by
  refine aw_iconst (v := 0) dX1_begunCanHold_0 rfl (by decide) ?_
  refine aw_istore_n (i := 3) (L2 := [(3, vI 0), (0, vR 1 i0), (1, vI a1), (2, vI a2)]) dX1_begunCanHold_1 rfl rfl (by decide) rfl ?_
  exact aw_sub [1, 2, 3, 0] rfl k
set_option maxHeartbeats 4000000 in
set_option maxRecDepth 100000 in
theorem vc_X1_begunCanHold_2 {X : WD → State → Prop} {d rb : Nat} {h : Hp} {Qr : Option AV → Hp → Prop} {Qx : String → Hp → Prop} {i0 : Nat} {x1 : Int32} {x2 : Int32} {x3 : Int32}  (k : (((h.1 1 i0 0) ≤ x3) → Qr (some (vI 1)) h) ∧ ((¬ (h.1 1 i0 0) ≤ x3) → CL 0 d mX1_needWith [vR 1 i0, vI x1, vI x2, vI x3] h (oI fun r2 h1 => ((r2 ≤ 9999) → AW X (d + 1) rb mX1_begunCanHold 2 [(0, vR 1 i0), (1, vI x1), (2, vI x2), (3, vI (x3 + 1))] [] h1 Qr Qx) ∧ ((¬ r2 ≤ 9999) → Qr (some (vI 0)) h1)) Qx)) : AW X (d + 1) rb mX1_begunCanHold 2 [(0, vR 1 i0), (1, vI x1), (2, vI x2), (3, vI x3)] [] h Qr Qx := by
  refine aw_iload_n (j := 3) (i := 3) dX1_begunCanHold_2 rfl rfl rfl ?_
  refine aw_aload_n (j := 0) (i := 0) dX1_begunCanHold_3 rfl rfl rfl ?_
  refine aw_geti (k := 0) dX1_begunCanHold_4 rfl (by decide) rfl rfl cb_1 (by decide) gw_172 ?_
  refine aw_icmp_ge 31 dX1_begunCanHold_7 rfl rfl (fun c => ?_) (fun c => ?_)
  · replace k := k.1 c
    refine aw_iconst (v := 1) dX1_begunCanHold_31 rfl (by decide) ?_
    exact aw_zret dX1_begunCanHold_32 rfl (by decide) k
  · replace k := k.2 c
    refine aw_aload_n (j := 0) (i := 0) dX1_begunCanHold_10 rfl rfl rfl ?_
    refine aw_iload_n (j := 1) (i := 1) dX1_begunCanHold_11 rfl rfl rfl ?_
    refine aw_iload_n (j := 2) (i := 2) dX1_begunCanHold_12 rfl rfl rfl ?_
    refine aw_iload_n (j := 3) (i := 3) dX1_begunCanHold_13 rfl rfl rfl ?_
    refine aw_callV (M' := mX1_needWith) (S := []) (as := [vI x1, vI x2, vI x3]) (k := 0) dX1_begunCanHold_14 rfl (by decide) rfl rfl gw_928 gw_930 gw_15 mb_X1_needWith rfl (Nat.zero_le _) (Nat.le_of_ble_eq_true rfl) rfl (CL.imp k (fun _ h1 k => ?_) (fun _ _ k => k))
    obtain ⟨r2, rfl, k⟩ := oI_of k
    show AW X (d + 1) rb mX1_begunCanHold 17 _ [vI r2] h1 Qr Qx
    refine aw_sipush (v := 9999) dX1_begunCanHold_17 rfl (by decide) ?_
    refine aw_icmp_le 25 dX1_begunCanHold_20 rfl rfl (fun c => ?_) (fun c => ?_)
    · replace k := k.1 c
      refine aw_iinc (i := 3) (j := 3) (v := x3 + 1) (L2 := [(3, vI (x3 + 1)), (0, vR 1 i0), (1, vI x1), (2, vI x2)]) dX1_begunCanHold_25 rfl (by decide) rfl rfl rfl ?_
      refine aw_goto 2 dX1_begunCanHold_28 rfl ?_
      exact aw_sub [1, 2, 3, 0] rfl k
    · replace k := k.2 c
      refine aw_iconst (v := 0) dX1_begunCanHold_23 rfl (by decide) ?_
      exact aw_zret dX1_begunCanHold_24 rfl (by decide) k
set_option maxHeartbeats 4000000 in
set_option maxRecDepth 100000 in
theorem vc_X1_addLine_0 {X : WD → State → Prop} {d rb : Nat} {h : Hp} {Qr : Option AV → Hp → Prop} {Qx : String → Hp → Prop} {i0 : Nat} {a1 : Int32} {a2 : Int32}  (k : CL 0 d mX1_linesOfBegun [vR 1 i0] h (oI fun r2 h1 => ((8 ≤ (h1.1 1 i0 1)) → Qr none h1) ∧ ((¬ 8 ≤ (h1.1 1 i0 1)) → ((r2 < 6) → AW X (d + 1) rb mX1_addLine 24 [(0, vR 1 i0), (1, vI a1), (2, vI a2), (3, vI r2), (4, vI 0)] [] h1 Qr Qx) ∧ ((¬ r2 < 6) → Qr none h1))) Qx) : AW X (d + 1) rb mX1_addLine 0 [(0, vR 1 i0), (1, vI a1), (2, vI a2)] [] h Qr Qx := by
  refine aw_aload_n (j := 0) (i := 0) dX1_addLine_0 rfl rfl rfl ?_
  refine aw_callV (M' := mX1_linesOfBegun) (S := []) (as := []) (k := 0) dX1_addLine_1 rfl (by decide) rfl rfl gw_923 gw_916 gw_917 mb_X1_linesOfBegun rfl (Nat.zero_le _) (Nat.le_of_ble_eq_true rfl) rfl (CL.imp k (fun _ h1 k => ?_) (fun _ _ k => k))
  obtain ⟨r2, rfl, k⟩ := oI_of k
  show AW X (d + 1) rb mX1_addLine 4 _ [vI r2] h1 Qr Qx
  refine aw_istore_n (i := 3) (L2 := [(3, vI r2), (0, vR 1 i0), (1, vI a1), (2, vI a2)]) dX1_addLine_4 rfl rfl (by decide) rfl ?_
  refine aw_aload_n (j := 1) (i := 0) dX1_addLine_5 rfl rfl rfl ?_
  refine aw_geti (k := 1) dX1_addLine_6 rfl (by decide) rfl rfl cb_1 (by decide) gw_176 ?_
  refine aw_bipush (v := 8) dX1_addLine_9 rfl (by decide) ?_
  refine aw_icmp_ge 20 dX1_addLine_11 rfl rfl (fun c => ?_) (fun c => ?_)
  · replace k := k.1 c
    exact aw_vret dX1_addLine_20 rfl k
  · replace k := k.2 c
    refine aw_iload_n (j := 0) (i := 3) dX1_addLine_14 rfl rfl rfl ?_
    refine aw_bipush (v := 6) dX1_addLine_15 rfl (by decide) ?_
    refine aw_icmp_lt 21 dX1_addLine_17 rfl rfl (fun c => ?_) (fun c => ?_)
    · replace k := k.1 c
      refine aw_iconst (v := 0) dX1_addLine_21 rfl (by decide) ?_
      refine aw_istore (i := 4) (L2 := [(4, vI 0), (3, vI r2), (0, vR 1 i0), (1, vI a1), (2, vI a2)]) dX1_addLine_22 rfl (by decide) rfl ?_
      exact aw_sub [2, 3, 4, 1, 0] rfl k
    · replace k := k.2 c
      exact aw_vret dX1_addLine_20 rfl k
set_option maxHeartbeats 4000000 in
set_option maxRecDepth 100000 in
theorem vc_X1_addLine_24 {X : WD → State → Prop} {d rb : Nat} {h : Hp} {Qr : Option AV → Hp → Prop} {Qx : String → Hp → Prop} {i0 : Nat} {x1 : Int32} {x2 : Int32} {x3 : Int32} {x4 : Int32}  (k : (((h.1 1 i0 0) ≤ x4) → (vp_in (h.1 1 i0 1) 8) ∧ CL 0 d mX1_levelOf [vR 1 i0, vI (x1 - 100)] h (oI fun r2 h1 => (vp_in (h.1 1 i0 1) 8) ∧ (vp_in (h1.1 1 i0 1) 8) ∧ (vp_in x3 6) ∧ (vp_in (h1.1 1 i0 1) 8) ∧ (vp_in x3 6) ∧ (vp_in (h1.1 1 i0 1) 8) ∧ Qr none (hp_i (hp_i (hp_i (hp_i h1 22 i0 ((h.1 1 i0 1).toNatClampNeg) (if (h.1 22 i0 ((h.1 1 i0 1).toNatClampNeg)) < (1 + r2) then (1 + r2) else (h.1 22 i0 ((h.1 1 i0 1).toNatClampNeg)))) 25 (8 * i0 + (h1.1 1 i0 1).toNatClampNeg) x3.toNatClampNeg x1) 27 (8 * i0 + (h1.1 1 i0 1).toNatClampNeg) x3.toNatClampNeg x2) 23 i0 ((h1.1 1 i0 1).toNatClampNeg) (x3 + 1))) Qx) ∧ ((¬ (h.1 1 i0 0) ≤ x4) → (vp_in (h.1 1 i0 1) 8) ∧ CL 0 d mX1_needWith [vR 1 i0, vI x1, vI x2, vI x4] h (oI fun r4 h3 => (vp_in x4 12) ∧ AW X (d + 1) rb mX1_addLine 24 [(0, vR 1 i0), (1, vI x1), (2, vI x2), (3, vI x3), (4, vI (x4 + 1))] [] (hp_i h3 29 (8 * i0 + (h.1 1 i0 1).toNatClampNeg) x4.toNatClampNeg r4) Qr Qx) Qx)) : AW X (d + 1) rb mX1_addLine 24 [(0, vR 1 i0), (1, vI x1), (2, vI x2), (3, vI x3), (4, vI x4)] [] h Qr Qx := by
  refine aw_iload (j := 4) (i := 4) dX1_addLine_24 rfl rfl ?_
  refine aw_aload_n (j := 0) (i := 0) dX1_addLine_26 rfl rfl rfl ?_
  refine aw_geti (k := 0) dX1_addLine_27 rfl (by decide) rfl rfl cb_1 (by decide) gw_172 ?_
  refine aw_icmp_ge 59 dX1_addLine_30 rfl rfl (fun c => ?_) (fun c => ?_)
  · replace k := k.1 c
    refine aw_aload_n (j := 0) (i := 0) dX1_addLine_59 rfl rfl rfl ?_
    refine aw_getf (k := 6) (z := 22) dX1_addLine_60 rfl (by decide) rfl rfl rfl cb_1 (by decide) gw_186 ?_
    refine aw_aload_n (j := 0) (i := 0) dX1_addLine_63 rfl rfl rfl ?_
    refine aw_geti (k := 1) dX1_addLine_64 rfl (by decide) rfl rfl cb_1 (by decide) gw_176 ?_
    refine aw_aload_n (j := 0) (i := 0) dX1_addLine_67 rfl rfl rfl ?_
    refine aw_getf (k := 6) (z := 22) dX1_addLine_68 rfl (by decide) rfl rfl rfl cb_1 (by decide) gw_186 ?_
    refine aw_aload_n (j := 0) (i := 0) dX1_addLine_71 rfl rfl rfl ?_
    refine aw_geti (k := 1) dX1_addLine_72 rfl (by decide) rfl rfl cb_1 (by decide) gw_176 ?_
    refine aw_iald dX1_addLine_75 rfl (by decide) rfl k.1 ?_
    replace k := k.2
    refine aw_iconst (v := 1) dX1_addLine_76 rfl (by decide) ?_
    refine aw_aload_n (j := 0) (i := 0) dX1_addLine_77 rfl rfl rfl ?_
    refine aw_iload_n (j := 1) (i := 1) dX1_addLine_78 rfl rfl rfl ?_
    refine aw_bipush (v := 100) dX1_addLine_79 rfl (by decide) ?_
    refine aw_isub dX1_addLine_81 rfl ?_
    refine aw_callV (M' := mX1_levelOf) (S := [vI 1, vI (h.1 22 i0 ((h.1 1 i0 1).toNatClampNeg)), vI (h.1 1 i0 1), vR 22 i0]) (as := [vI (x1 - 100)]) (k := 0) dX1_addLine_82 rfl (by decide) rfl rfl gw_936 gw_937 gw_938 mb_X1_levelOf rfl (Nat.zero_le _) (Nat.le_of_ble_eq_true rfl) rfl (CL.imp k (fun _ h1 k => ?_) (fun _ _ k => k))
    obtain ⟨r2, rfl, k⟩ := oI_of k
    show AW X (d + 1) rb mX1_addLine 85 _ [vI r2, vI 1, vI (h.1 22 i0 ((h.1 1 i0 1).toNatClampNeg)), vI (h.1 1 i0 1), vR 22 i0] h1 Qr Qx
    refine aw_iadd dX1_addLine_85 rfl ?_
    refine aw_max dX1_addLine_86 rfl gw_940 gw_534 gw_104 gw_535 (Nat.le_of_ble_eq_true rfl) ?_
    refine aw_iast dX1_addLine_89 rfl (by decide) rfl k.1 ?_
    replace k := k.2
    refine aw_aload_n (j := 0) (i := 0) dX1_addLine_90 rfl rfl rfl ?_
    refine aw_getf (k := 8) (z := 24) dX1_addLine_91 rfl (by decide) rfl rfl rfl cb_1 (by decide) gw_188 ?_
    refine aw_aload_n (j := 0) (i := 0) dX1_addLine_94 rfl rfl rfl ?_
    refine aw_geti (k := 1) dX1_addLine_95 rfl (by decide) rfl rfl cb_1 (by decide) gw_176 ?_
    refine aw_aald6 (o := 8) (u := 25) dX1_addLine_98 rfl (by decide) rfl oa_hu24 k.1 ?_
    replace k := k.2
    refine aw_iload_n (j := 3) (i := 3) dX1_addLine_99 rfl rfl rfl ?_
    refine aw_iload_n (j := 1) (i := 1) dX1_addLine_100 rfl rfl rfl ?_
    refine aw_iast dX1_addLine_101 rfl (by decide) rfl k.1 ?_
    replace k := k.2
    refine aw_aload_n (j := 0) (i := 0) dX1_addLine_102 rfl rfl rfl ?_
    refine aw_getf (k := 9) (z := 26) dX1_addLine_103 rfl (by decide) rfl rfl rfl cb_1 (by decide) gw_189 ?_
    refine aw_aload_n (j := 0) (i := 0) dX1_addLine_106 rfl rfl rfl ?_
    refine aw_geti (k := 1) dX1_addLine_107 rfl (by decide) rfl rfl cb_1 (by decide) gw_176 ?_
    refine aw_aald6 (o := 8) (u := 27) dX1_addLine_110 rfl (by decide) rfl oa_hu26 k.1 ?_
    replace k := k.2
    refine aw_iload_n (j := 3) (i := 3) dX1_addLine_111 rfl rfl rfl ?_
    refine aw_iload_n (j := 2) (i := 2) dX1_addLine_112 rfl rfl rfl ?_
    refine aw_iast dX1_addLine_113 rfl (by decide) rfl k.1 ?_
    replace k := k.2
    refine aw_aload_n (j := 0) (i := 0) dX1_addLine_114 rfl rfl rfl ?_
    refine aw_getf (k := 7) (z := 23) dX1_addLine_115 rfl (by decide) rfl rfl rfl cb_1 (by decide) gw_187 ?_
    refine aw_aload_n (j := 0) (i := 0) dX1_addLine_118 rfl rfl rfl ?_
    refine aw_geti (k := 1) dX1_addLine_119 rfl (by decide) rfl rfl cb_1 (by decide) gw_176 ?_
    refine aw_iload_n (j := 3) (i := 3) dX1_addLine_122 rfl rfl rfl ?_
    refine aw_iconst (v := 1) dX1_addLine_123 rfl (by decide) ?_
    refine aw_iadd dX1_addLine_124 rfl ?_
    refine aw_iast dX1_addLine_125 rfl (by decide) rfl k.1 ?_
    replace k := k.2
    exact aw_vret dX1_addLine_126 rfl k
  · replace k := k.2 c
    refine aw_aload_n (j := 0) (i := 0) dX1_addLine_33 rfl rfl rfl ?_
    refine aw_getf (k := 10) (z := 28) dX1_addLine_34 rfl (by decide) rfl rfl rfl cb_1 (by decide) gw_190 ?_
    refine aw_aload_n (j := 0) (i := 0) dX1_addLine_37 rfl rfl rfl ?_
    refine aw_geti (k := 1) dX1_addLine_38 rfl (by decide) rfl rfl cb_1 (by decide) gw_176 ?_
    refine aw_aald6 (o := 8) (u := 29) dX1_addLine_41 rfl (by decide) rfl oa_hu28 k.1 ?_
    replace k := k.2
    refine aw_iload (j := 4) (i := 4) dX1_addLine_42 rfl rfl ?_
    refine aw_aload_n (j := 0) (i := 0) dX1_addLine_44 rfl rfl rfl ?_
    refine aw_iload_n (j := 1) (i := 1) dX1_addLine_45 rfl rfl rfl ?_
    refine aw_iload_n (j := 2) (i := 2) dX1_addLine_46 rfl rfl rfl ?_
    refine aw_iload (j := 4) (i := 4) dX1_addLine_47 rfl rfl ?_
    refine aw_callV (M' := mX1_needWith) (S := [vI x4, vR 29 (8 * i0 + (h.1 1 i0 1).toNatClampNeg)]) (as := [vI x1, vI x2, vI x4]) (k := 0) dX1_addLine_49 rfl (by decide) rfl rfl gw_928 gw_930 gw_15 mb_X1_needWith rfl (Nat.zero_le _) (Nat.le_of_ble_eq_true rfl) rfl (CL.imp k (fun _ h3 k => ?_) (fun _ _ k => k))
    obtain ⟨r4, rfl, k⟩ := oI_of k
    show AW X (d + 1) rb mX1_addLine 52 _ [vI r4, vI x4, vR 29 (8 * i0 + (h.1 1 i0 1).toNatClampNeg)] h3 Qr Qx
    refine aw_iast dX1_addLine_52 rfl (by decide) rfl k.1 ?_
    replace k := k.2
    refine aw_iinc (i := 4) (j := 4) (v := x4 + 1) (L2 := [(4, vI (x4 + 1)), (0, vR 1 i0), (1, vI x1), (2, vI x2), (3, vI x3)]) dX1_addLine_53 rfl (by decide) rfl rfl rfl ?_
    refine aw_goto 24 dX1_addLine_56 rfl ?_
    exact aw_sub [1, 2, 3, 4, 0] rfl k
set_option maxHeartbeats 4000000 in
set_option maxRecDepth 100000 in
theorem vc_X1_needWith_0 {X : WD → State → Prop} {d rb : Nat} {h : Hp} {Qr : Option AV → Hp → Prop} {Qx : String → Hp → Prop} {i0 : Nat} {a1 : Int32} {a2 : Int32} {a3 : Int32}  (k : ((8 ≤ (h.1 1 i0 1)) → ((¬ a1 = a3) → CL 0 d mX1_needOf [vR 1 i0, vI (a1 - 100), vI a3] h (oI fun r2 h1 => Qr (some (vI (0 + (a2 * r2)))) h1) Qx) ∧ ((a1 = a3) → Qr (some (vI (0 + (a2 * 1)))) h)) ∧ ((¬ 8 ≤ (h.1 1 i0 1)) → (vp_in (h.1 1 i0 1) 8) ∧ (vp_in a3 12) ∧ ((¬ a1 = a3) → CL 0 d mX1_needOf [vR 1 i0, vI (a1 - 100), vI a3] h (oI fun r4 h3 => Qr (some (vI ((h.1 29 (8 * i0 + (h.1 1 i0 1).toNatClampNeg) a3.toNatClampNeg) + (a2 * r4)))) h3) Qx) ∧ ((a1 = a3) → Qr (some (vI ((h.1 29 (8 * i0 + (h.1 1 i0 1).toNatClampNeg) a3.toNatClampNeg) + (a2 * 1)))) h))) : AW X (d + 1) rb mX1_needWith 0 [(0, vR 1 i0), (1, vI a1), (2, vI a2), (3, vI a3)] [] h Qr Qx := by
  refine aw_aload_n (j := 0) (i := 0) dX1_needWith_0 rfl rfl rfl ?_
  refine aw_geti (k := 1) dX1_needWith_1 rfl (by decide) rfl rfl cb_1 (by decide) gw_176 ?_
  refine aw_bipush (v := 8) dX1_needWith_4 rfl (by decide) ?_
  refine aw_icmp_ge 23 dX1_needWith_6 rfl rfl (fun c => ?_) (fun c => ?_)
  · replace k := k.1 c
    refine aw_iconst (v := 0) dX1_needWith_23 rfl (by decide) ?_
    refine aw_istore (i := 4) (L2 := [(4, vI 0), (0, vR 1 i0), (1, vI a1), (2, vI a2), (3, vI a3)]) dX1_needWith_24 rfl (by decide) rfl ?_
    refine aw_iload_n (j := 2) (i := 1) dX1_needWith_26 rfl rfl rfl ?_
    refine aw_iload_n (j := 4) (i := 3) dX1_needWith_27 rfl rfl rfl ?_
    refine aw_icmp_ne 35 dX1_needWith_28 rfl rfl (fun c => ?_) (fun c => ?_)
    · replace k := k.1 c
      refine aw_aload_n (j := 1) (i := 0) dX1_needWith_35 rfl rfl rfl ?_
      refine aw_iload_n (j := 2) (i := 1) dX1_needWith_36 rfl rfl rfl ?_
      refine aw_bipush (v := 100) dX1_needWith_37 rfl (by decide) ?_
      refine aw_isub dX1_needWith_39 rfl ?_
      refine aw_iload_n (j := 4) (i := 3) dX1_needWith_40 rfl rfl rfl ?_
      refine aw_callV (M' := mX1_needOf) (S := []) (as := [vI (a1 - 100), vI a3]) (k := 0) dX1_needWith_41 rfl (by decide) rfl rfl gw_607 gw_509 gw_510 mb_X1_needOf rfl (Nat.zero_le _) (Nat.le_of_ble_eq_true rfl) rfl (CL.imp k (fun _ h1 k => ?_) (fun _ _ k => k))
      obtain ⟨r2, rfl, k⟩ := oI_of k
      show AW X (d + 1) rb mX1_needWith 44 _ [vI r2] h1 Qr Qx
      refine aw_istore (i := 5) (L2 := [(5, vI r2), (4, vI 0), (0, vR 1 i0), (1, vI a1), (2, vI a2), (3, vI a3)]) dX1_needWith_44 rfl (by decide) rfl ?_
      refine aw_iload (j := 1) (i := 4) dX1_needWith_46 rfl rfl ?_
      refine aw_iload_n (j := 4) (i := 2) dX1_needWith_48 rfl rfl rfl ?_
      refine aw_iload (j := 0) (i := 5) dX1_needWith_49 rfl rfl ?_
      refine aw_imul dX1_needWith_51 rfl ?_
      refine aw_iadd dX1_needWith_52 rfl ?_
      exact aw_iret dX1_needWith_53 rfl k
    · replace k := k.2 c
      refine aw_iconst (v := 1) dX1_needWith_31 rfl (by decide) ?_
      refine aw_goto 44 dX1_needWith_32 rfl ?_
      refine aw_istore (i := 5) (L2 := [(5, vI 1), (4, vI 0), (0, vR 1 i0), (1, vI a1), (2, vI a2), (3, vI a3)]) dX1_needWith_44 rfl (by decide) rfl ?_
      refine aw_iload (j := 1) (i := 4) dX1_needWith_46 rfl rfl ?_
      refine aw_iload_n (j := 4) (i := 2) dX1_needWith_48 rfl rfl rfl ?_
      refine aw_iload (j := 0) (i := 5) dX1_needWith_49 rfl rfl ?_
      refine aw_imul dX1_needWith_51 rfl ?_
      refine aw_iadd dX1_needWith_52 rfl ?_
      exact aw_iret dX1_needWith_53 rfl k
  · replace k := k.2 c
    refine aw_aload_n (j := 0) (i := 0) dX1_needWith_9 rfl rfl rfl ?_
    refine aw_getf (k := 10) (z := 28) dX1_needWith_10 rfl (by decide) rfl rfl rfl cb_1 (by decide) gw_190 ?_
    refine aw_aload_n (j := 0) (i := 0) dX1_needWith_13 rfl rfl rfl ?_
    refine aw_geti (k := 1) dX1_needWith_14 rfl (by decide) rfl rfl cb_1 (by decide) gw_176 ?_
    refine aw_aald6 (o := 8) (u := 29) dX1_needWith_17 rfl (by decide) rfl oa_hu28 k.1 ?_
    replace k := k.2
    refine aw_iload_n (j := 3) (i := 3) dX1_needWith_18 rfl rfl rfl ?_
    refine aw_iald dX1_needWith_19 rfl (by decide) rfl k.1 ?_
    replace k := k.2
    refine aw_goto 24 dX1_needWith_20 rfl ?_
    refine aw_istore (i := 4) (L2 := [(4, vI (h.1 29 (8 * i0 + (h.1 1 i0 1).toNatClampNeg) a3.toNatClampNeg)), (0, vR 1 i0), (1, vI a1), (2, vI a2), (3, vI a3)]) dX1_needWith_24 rfl (by decide) rfl ?_
    refine aw_iload_n (j := 2) (i := 1) dX1_needWith_26 rfl rfl rfl ?_
    refine aw_iload_n (j := 4) (i := 3) dX1_needWith_27 rfl rfl rfl ?_
    refine aw_icmp_ne 35 dX1_needWith_28 rfl rfl (fun c => ?_) (fun c => ?_)
    · replace k := k.1 c
      refine aw_aload_n (j := 1) (i := 0) dX1_needWith_35 rfl rfl rfl ?_
      refine aw_iload_n (j := 2) (i := 1) dX1_needWith_36 rfl rfl rfl ?_
      refine aw_bipush (v := 100) dX1_needWith_37 rfl (by decide) ?_
      refine aw_isub dX1_needWith_39 rfl ?_
      refine aw_iload_n (j := 4) (i := 3) dX1_needWith_40 rfl rfl rfl ?_
      refine aw_callV (M' := mX1_needOf) (S := []) (as := [vI (a1 - 100), vI a3]) (k := 0) dX1_needWith_41 rfl (by decide) rfl rfl gw_607 gw_509 gw_510 mb_X1_needOf rfl (Nat.zero_le _) (Nat.le_of_ble_eq_true rfl) rfl (CL.imp k (fun _ h3 k => ?_) (fun _ _ k => k))
      obtain ⟨r4, rfl, k⟩ := oI_of k
      show AW X (d + 1) rb mX1_needWith 44 _ [vI r4] h3 Qr Qx
      refine aw_istore (i := 5) (L2 := [(5, vI r4), (4, vI (h.1 29 (8 * i0 + (h.1 1 i0 1).toNatClampNeg) a3.toNatClampNeg)), (0, vR 1 i0), (1, vI a1), (2, vI a2), (3, vI a3)]) dX1_needWith_44 rfl (by decide) rfl ?_
      refine aw_iload (j := 1) (i := 4) dX1_needWith_46 rfl rfl ?_
      refine aw_iload_n (j := 4) (i := 2) dX1_needWith_48 rfl rfl rfl ?_
      refine aw_iload (j := 0) (i := 5) dX1_needWith_49 rfl rfl ?_
      refine aw_imul dX1_needWith_51 rfl ?_
      refine aw_iadd dX1_needWith_52 rfl ?_
      exact aw_iret dX1_needWith_53 rfl k
    · replace k := k.2 c
      refine aw_iconst (v := 1) dX1_needWith_31 rfl (by decide) ?_
      refine aw_goto 44 dX1_needWith_32 rfl ?_
      refine aw_istore (i := 5) (L2 := [(5, vI 1), (4, vI (h.1 29 (8 * i0 + (h.1 1 i0 1).toNatClampNeg) a3.toNatClampNeg)), (0, vR 1 i0), (1, vI a1), (2, vI a2), (3, vI a3)]) dX1_needWith_44 rfl (by decide) rfl ?_
      refine aw_iload (j := 1) (i := 4) dX1_needWith_46 rfl rfl ?_
      refine aw_iload_n (j := 4) (i := 2) dX1_needWith_48 rfl rfl rfl ?_
      refine aw_iload (j := 0) (i := 5) dX1_needWith_49 rfl rfl ?_
      refine aw_imul dX1_needWith_51 rfl ?_
      refine aw_iadd dX1_needWith_52 rfl ?_
      exact aw_iret dX1_needWith_53 rfl k
set_option maxHeartbeats 4000000 in
set_option maxRecDepth 100000 in
theorem vc_X1_endProduct_0 {X : WD → State → Prop} {d rb : Nat} {h : Hp} {Qr : Option AV → Hp → Prop} {Qx : String → Hp → Prop} {i0 : Nat}  (k : ((8 ≤ (h.1 1 i0 1)) → Qr none h) ∧ ((¬ 8 ≤ (h.1 1 i0 1)) → Qr none (hp_i h 1 i0 1 ((h.1 1 i0 1) + 1)))) : AW X (d + 1) rb mX1_endProduct 0 [(0, vR 1 i0)] [] h Qr Qx := by
  refine aw_aload_n (j := 0) (i := 0) dX1_endProduct_0 rfl rfl rfl ?_
  refine aw_geti (k := 1) dX1_endProduct_1 rfl (by decide) rfl rfl cb_1 (by decide) gw_176 ?_
  refine aw_bipush (v := 8) dX1_endProduct_4 rfl (by decide) ?_
  refine aw_icmp_ge 19 dX1_endProduct_6 rfl rfl (fun c => ?_) (fun c => ?_)
  · replace k := k.1 c
    exact aw_vret dX1_endProduct_19 rfl k
  · replace k := k.2 c
    refine aw_aload_n (j := 0) (i := 0) dX1_endProduct_9 rfl rfl rfl ?_
    refine aw_dup dX1_endProduct_10 rfl rfl ?_
    refine aw_geti (k := 1) dX1_endProduct_11 rfl (by decide) rfl rfl cb_1 (by decide) gw_176 ?_
    refine aw_iconst (v := 1) dX1_endProduct_14 rfl (by decide) ?_
    refine aw_iadd dX1_endProduct_15 rfl ?_
    refine aw_puti (k := 1) dX1_endProduct_16 rfl (by decide) rfl rfl cb_1 (by decide) rfl rfl gw_176 ?_
    exact aw_vret dX1_endProduct_19 rfl k
set_option maxHeartbeats 4000000 in
set_option maxRecDepth 100000 in
theorem vc_X1_partNamed_0 {X : WD → State → Prop} {d rb : Nat} {h : Hp} {Qr : Option AV → Hp → Prop} {Qx : String → Hp → Prop} {i0 : Nat} {a1 : Int64}  (k : AW X (d + 1) rb mX1_partNamed 2 [(0, vR 1 i0), (1, vJ a1), (3, vI 0)] [] h Qr Qx) : AW X (d + 1) rb mX1_partNamed 0 [(0, vR 1 i0), (1, vJ a1)] [] h Qr Qx := by
  refine aw_iconst (v := 0) dX1_partNamed_0 rfl (by decide) ?_
  refine aw_istore_n (i := 3) (L2 := [(3, vI 0), (0, vR 1 i0), (1, vJ a1)]) dX1_partNamed_1 rfl rfl (by decide) rfl ?_
  exact aw_sub [1, 2, 0] rfl k
set_option maxHeartbeats 4000000 in
set_option maxRecDepth 100000 in
theorem vc_X1_partNamed_2 {X : WD → State → Prop} {d rb : Nat} {h : Hp} {Qr : Option AV → Hp → Prop} {Qx : String → Hp → Prop} {i0 : Nat} {x1 : Int64} {x3 : Int32}  (k : (((h.1 1 i0 0) ≤ x3) → Qr (some (vI (-1))) h) ∧ ((¬ (h.1 1 i0 0) ≤ x3) → (vp_in x3 12) ∧ ((¬ (lg_cmp (h.2.1 19 i0 x3.toNatClampNeg) x1) = 0) → AW X (d + 1) rb mX1_partNamed 2 [(0, vR 1 i0), (1, vJ x1), (3, vI (x3 + 1))] [] h Qr Qx) ∧ (((lg_cmp (h.2.1 19 i0 x3.toNatClampNeg) x1) = 0) → Qr (some (vI x3)) h))) : AW X (d + 1) rb mX1_partNamed 2 [(0, vR 1 i0), (1, vJ x1), (3, vI x3)] [] h Qr Qx := by
  refine aw_iload_n (j := 2) (i := 3) dX1_partNamed_2 rfl rfl rfl ?_
  refine aw_aload_n (j := 0) (i := 0) dX1_partNamed_3 rfl rfl rfl ?_
  refine aw_geti (k := 0) dX1_partNamed_4 rfl (by decide) rfl rfl cb_1 (by decide) gw_172 ?_
  refine aw_icmp_ge 29 dX1_partNamed_7 rfl rfl (fun c => ?_) (fun c => ?_)
  · replace k := k.1 c
    refine aw_iconst (v := (-1)) dX1_partNamed_29 rfl (by decide) ?_
    exact aw_iret dX1_partNamed_30 rfl k
  · replace k := k.2 c
    refine aw_aload_n (j := 0) (i := 0) dX1_partNamed_10 rfl rfl rfl ?_
    refine aw_getf (k := 3) (z := 19) dX1_partNamed_11 rfl (by decide) rfl rfl rfl cb_1 (by decide) gw_183 ?_
    refine aw_iload_n (j := 2) (i := 3) dX1_partNamed_14 rfl rfl rfl ?_
    refine aw_lald dX1_partNamed_15 rfl (by decide) rfl k.1 ?_
    replace k := k.2
    refine aw_lload_n (j := 1) (i := 1) dX1_partNamed_16 rfl rfl rfl ?_
    refine aw_lcmp dX1_partNamed_17 rfl ?_
    refine aw_if_ne 23 dX1_partNamed_18 rfl rfl (fun c => ?_) (fun c => ?_)
    · replace k := k.1 c
      refine aw_iinc (i := 3) (j := 2) (v := x3 + 1) (L2 := [(3, vI (x3 + 1)), (0, vR 1 i0), (1, vJ x1)]) dX1_partNamed_23 rfl (by decide) rfl rfl rfl ?_
      refine aw_goto 2 dX1_partNamed_26 rfl ?_
      exact aw_sub [1, 2, 0] rfl k
    · replace k := k.2 c
      refine aw_iload_n (j := 2) (i := 3) dX1_partNamed_21 rfl rfl rfl ?_
      exact aw_iret dX1_partNamed_22 rfl k
set_option maxHeartbeats 4000000 in
set_option maxRecDepth 100000 in
theorem vc_X1_productNamed_0 {X : WD → State → Prop} {d rb : Nat} {h : Hp} {Qr : Option AV → Hp → Prop} {Qx : String → Hp → Prop} {i0 : Nat} {a1 : Int64}  (k : AW X (d + 1) rb mX1_productNamed 2 [(0, vR 1 i0), (1, vJ a1), (3, vI 0)] [] h Qr Qx) : AW X (d + 1) rb mX1_productNamed 0 [(0, vR 1 i0), (1, vJ a1)] [] h Qr Qx := by
  refine aw_iconst (v := 0) dX1_productNamed_0 rfl (by decide) ?_
  refine aw_istore_n (i := 3) (L2 := [(3, vI 0), (0, vR 1 i0), (1, vJ a1)]) dX1_productNamed_1 rfl rfl (by decide) rfl ?_
  exact aw_sub [1, 2, 0] rfl k
set_option maxHeartbeats 4000000 in
set_option maxRecDepth 100000 in
theorem vc_X1_productNamed_2 {X : WD → State → Prop} {d rb : Nat} {h : Hp} {Qr : Option AV → Hp → Prop} {Qx : String → Hp → Prop} {i0 : Nat} {x1 : Int64} {x3 : Int32}  (k : (((h.1 1 i0 1) ≤ x3) → Qr (some (vI (-1))) h) ∧ ((¬ (h.1 1 i0 1) ≤ x3) → (vp_in x3 8) ∧ ((¬ (lg_cmp (h.2.1 21 i0 x3.toNatClampNeg) x1) = 0) → AW X (d + 1) rb mX1_productNamed 2 [(0, vR 1 i0), (1, vJ x1), (3, vI (x3 + 1))] [] h Qr Qx) ∧ (((lg_cmp (h.2.1 21 i0 x3.toNatClampNeg) x1) = 0) → Qr (some (vI x3)) h))) : AW X (d + 1) rb mX1_productNamed 2 [(0, vR 1 i0), (1, vJ x1), (3, vI x3)] [] h Qr Qx := by
  refine aw_iload_n (j := 2) (i := 3) dX1_productNamed_2 rfl rfl rfl ?_
  refine aw_aload_n (j := 0) (i := 0) dX1_productNamed_3 rfl rfl rfl ?_
  refine aw_geti (k := 1) dX1_productNamed_4 rfl (by decide) rfl rfl cb_1 (by decide) gw_176 ?_
  refine aw_icmp_ge 29 dX1_productNamed_7 rfl rfl (fun c => ?_) (fun c => ?_)
  · replace k := k.1 c
    refine aw_iconst (v := (-1)) dX1_productNamed_29 rfl (by decide) ?_
    exact aw_iret dX1_productNamed_30 rfl k
  · replace k := k.2 c
    refine aw_aload_n (j := 0) (i := 0) dX1_productNamed_10 rfl rfl rfl ?_
    refine aw_getf (k := 5) (z := 21) dX1_productNamed_11 rfl (by decide) rfl rfl rfl cb_1 (by decide) gw_185 ?_
    refine aw_iload_n (j := 2) (i := 3) dX1_productNamed_14 rfl rfl rfl ?_
    refine aw_lald dX1_productNamed_15 rfl (by decide) rfl k.1 ?_
    replace k := k.2
    refine aw_lload_n (j := 1) (i := 1) dX1_productNamed_16 rfl rfl rfl ?_
    refine aw_lcmp dX1_productNamed_17 rfl ?_
    refine aw_if_ne 23 dX1_productNamed_18 rfl rfl (fun c => ?_) (fun c => ?_)
    · replace k := k.1 c
      refine aw_iinc (i := 3) (j := 2) (v := x3 + 1) (L2 := [(3, vI (x3 + 1)), (0, vR 1 i0), (1, vJ x1)]) dX1_productNamed_23 rfl (by decide) rfl rfl rfl ?_
      refine aw_goto 2 dX1_productNamed_26 rfl ?_
      exact aw_sub [1, 2, 0] rfl k
    · replace k := k.2 c
      refine aw_iload_n (j := 2) (i := 3) dX1_productNamed_21 rfl rfl rfl ?_
      exact aw_iret dX1_productNamed_22 rfl k
set_option maxHeartbeats 4000000 in
set_option maxRecDepth 100000 in
theorem vc_X1_itemNamed_0 {X : WD → State → Prop} {d rb : Nat} {h : Hp} {Qr : Option AV → Hp → Prop} {Qx : String → Hp → Prop} {i0 : Nat} {a1 : Int64}  (k : CL 0 d mX1_productNamed [vR 1 i0, vJ a1] h (oI fun r2 h1 => ((¬ r2 = (-1)) → Qr (some (vI (100 + r2))) h1) ∧ ((r2 = (-1)) → CL 0 d mX1_partNamed [vR 1 i0, vJ a1] h1 (oI fun r4 h3 => Qr (some (vI r4)) h3) Qx)) Qx) : AW X (d + 1) rb mX1_itemNamed 0 [(0, vR 1 i0), (1, vJ a1)] [] h Qr Qx := by
  refine aw_aload_n (j := 0) (i := 0) dX1_itemNamed_0 rfl rfl rfl ?_
  refine aw_lload_n (j := 1) (i := 1) dX1_itemNamed_1 rfl rfl rfl ?_
  refine aw_callV (M' := mX1_productNamed) (S := []) (as := [vJ a1]) (k := 0) dX1_itemNamed_2 rfl (by decide) rfl rfl gw_869 gw_870 gw_871 mb_X1_productNamed rfl (Nat.zero_le _) (Nat.le_of_ble_eq_true rfl) rfl (CL.imp k (fun _ h1 k => ?_) (fun _ _ k => k))
  obtain ⟨r2, rfl, k⟩ := oI_of k
  show AW X (d + 1) rb mX1_itemNamed 5 _ [vI r2] h1 Qr Qx
  refine aw_istore_n (i := 3) (L2 := [(3, vI r2), (0, vR 1 i0), (1, vJ a1)]) dX1_itemNamed_5 rfl rfl (by decide) rfl ?_
  refine aw_iload_n (j := 0) (i := 3) dX1_itemNamed_6 rfl rfl rfl ?_
  refine aw_iconst (v := (-1)) dX1_itemNamed_7 rfl (by decide) ?_
  refine aw_icmp_ne 19 dX1_itemNamed_8 rfl rfl (fun c => ?_) (fun c => ?_)
  · replace k := k.1 c
    refine aw_bipush (v := 100) dX1_itemNamed_19 rfl (by decide) ?_
    refine aw_iload_n (j := 0) (i := 3) dX1_itemNamed_21 rfl rfl rfl ?_
    refine aw_iadd dX1_itemNamed_22 rfl ?_
    exact aw_iret dX1_itemNamed_23 rfl k
  · replace k := k.2 c
    refine aw_aload_n (j := 1) (i := 0) dX1_itemNamed_11 rfl rfl rfl ?_
    refine aw_lload_n (j := 2) (i := 1) dX1_itemNamed_12 rfl rfl rfl ?_
    refine aw_callV (M' := mX1_partNamed) (S := []) (as := [vJ a1]) (k := 0) dX1_itemNamed_13 rfl (by decide) rfl rfl gw_873 gw_874 gw_875 mb_X1_partNamed rfl (Nat.zero_le _) (Nat.le_of_ble_eq_true rfl) rfl (CL.imp k (fun _ h3 k => ?_) (fun _ _ k => k))
    obtain ⟨r4, rfl, k⟩ := oI_of k
    show AW X (d + 1) rb mX1_itemNamed 16 _ [vI r4] h3 Qr Qx
    refine aw_goto 23 dX1_itemNamed_16 rfl ?_
    exact aw_iret dX1_itemNamed_23 rfl k
set_option maxHeartbeats 4000000 in
set_option maxRecDepth 100000 in
theorem vc_X1_partName_0 {X : WD → State → Prop} {d rb : Nat} {h : Hp} {Qr : Option AV → Hp → Prop} {Qx : String → Hp → Prop} {i0 : Nat} {a1 : Int32}  (k : CL 0 d mX11_isInside [vI a1, vI (h.1 1 i0 0)] h (oI fun r2 h1 => ((r2 = 0) → Qr (some (vJ 0)) h1) ∧ ((¬ r2 = 0) → (vp_in a1 12) ∧ Qr (some (vJ (h1.2.1 19 i0 a1.toNatClampNeg))) h1)) Qx) : AW X (d + 1) rb mX1_partName 0 [(0, vR 1 i0), (1, vI a1)] [] h Qr Qx := by
  refine aw_iload_n (j := 1) (i := 1) dX1_partName_0 rfl rfl rfl ?_
  refine aw_aload_n (j := 0) (i := 0) dX1_partName_1 rfl rfl rfl ?_
  refine aw_geti (k := 0) dX1_partName_2 rfl (by decide) rfl rfl cb_1 (by decide) gw_172 ?_
  refine aw_callSN (M' := mX11_isInside) (S := []) (as := [vI a1, vI (h.1 1 i0 0)]) (k := 0) dX1_partName_5 rfl nw_555 gw_461 mb_X11_isInside rfl (Nat.zero_le _) (Nat.le_of_ble_eq_true rfl) rfl (CL.imp k (fun _ h1 k => ?_) (fun _ _ k => k))
  obtain ⟨r2, rfl, k⟩ := oI_of k
  show AW X (d + 1) rb mX1_partName 8 _ [vI r2] h1 Qr Qx
  refine aw_if_eq 20 dX1_partName_8 rfl rfl (fun c => ?_) (fun c => ?_)
  · replace k := k.1 c
    refine aw_lconst (v := 0) dX1_partName_20 rfl (by decide) ?_
    exact aw_lret dX1_partName_21 rfl k
  · replace k := k.2 c
    refine aw_aload_n (j := 0) (i := 0) dX1_partName_11 rfl rfl rfl ?_
    refine aw_getf (k := 3) (z := 19) dX1_partName_12 rfl (by decide) rfl rfl rfl cb_1 (by decide) gw_183 ?_
    refine aw_iload_n (j := 1) (i := 1) dX1_partName_15 rfl rfl rfl ?_
    refine aw_lald dX1_partName_16 rfl (by decide) rfl k.1 ?_
    replace k := k.2
    refine aw_goto 21 dX1_partName_17 rfl ?_
    exact aw_lret dX1_partName_21 rfl k
set_option maxHeartbeats 4000000 in
set_option maxRecDepth 100000 in
theorem vc_X1_productName_0 {X : WD → State → Prop} {d rb : Nat} {h : Hp} {Qr : Option AV → Hp → Prop} {Qx : String → Hp → Prop} {i0 : Nat} {a1 : Int32}  (k : CL 0 d mX11_isInside [vI a1, vI (h.1 1 i0 1)] h (oI fun r2 h1 => ((r2 = 0) → Qr (some (vJ 0)) h1) ∧ ((¬ r2 = 0) → (vp_in a1 8) ∧ Qr (some (vJ (h1.2.1 21 i0 a1.toNatClampNeg))) h1)) Qx) : AW X (d + 1) rb mX1_productName 0 [(0, vR 1 i0), (1, vI a1)] [] h Qr Qx := by
  refine aw_iload_n (j := 1) (i := 1) dX1_productName_0 rfl rfl rfl ?_
  refine aw_aload_n (j := 0) (i := 0) dX1_productName_1 rfl rfl rfl ?_
  refine aw_geti (k := 1) dX1_productName_2 rfl (by decide) rfl rfl cb_1 (by decide) gw_176 ?_
  refine aw_callSN (M' := mX11_isInside) (S := []) (as := [vI a1, vI (h.1 1 i0 1)]) (k := 0) dX1_productName_5 rfl nw_555 gw_461 mb_X11_isInside rfl (Nat.zero_le _) (Nat.le_of_ble_eq_true rfl) rfl (CL.imp k (fun _ h1 k => ?_) (fun _ _ k => k))
  obtain ⟨r2, rfl, k⟩ := oI_of k
  show AW X (d + 1) rb mX1_productName 8 _ [vI r2] h1 Qr Qx
  refine aw_if_eq 20 dX1_productName_8 rfl rfl (fun c => ?_) (fun c => ?_)
  · replace k := k.1 c
    refine aw_lconst (v := 0) dX1_productName_20 rfl (by decide) ?_
    exact aw_lret dX1_productName_21 rfl k
  · replace k := k.2 c
    refine aw_aload_n (j := 0) (i := 0) dX1_productName_11 rfl rfl rfl ?_
    refine aw_getf (k := 5) (z := 21) dX1_productName_12 rfl (by decide) rfl rfl rfl cb_1 (by decide) gw_185 ?_
    refine aw_iload_n (j := 1) (i := 1) dX1_productName_15 rfl rfl rfl ?_
    refine aw_lald dX1_productName_16 rfl (by decide) rfl k.1 ?_
    replace k := k.2
    refine aw_goto 21 dX1_productName_17 rfl ?_
    exact aw_lret dX1_productName_21 rfl k
set_option maxHeartbeats 4000000 in
set_option maxRecDepth 100000 in
theorem vc_X1_leadTimeOf_0 {X : WD → State → Prop} {d rb : Nat} {h : Hp} {Qr : Option AV → Hp → Prop} {Qx : String → Hp → Prop} {i0 : Nat} {a1 : Int32}  (k : CL 0 d mX11_isInside [vI a1, vI (h.1 1 i0 0)] h (oI fun r2 h1 => ((r2 = 0) → Qr (some (vI 0)) h1) ∧ ((¬ r2 = 0) → (vp_in a1 12) ∧ Qr (some (vI (h1.1 20 i0 a1.toNatClampNeg))) h1)) Qx) : AW X (d + 1) rb mX1_leadTimeOf 0 [(0, vR 1 i0), (1, vI a1)] [] h Qr Qx := by
  refine aw_iload_n (j := 1) (i := 1) dX1_leadTimeOf_0 rfl rfl rfl ?_
  refine aw_aload_n (j := 0) (i := 0) dX1_leadTimeOf_1 rfl rfl rfl ?_
  refine aw_geti (k := 0) dX1_leadTimeOf_2 rfl (by decide) rfl rfl cb_1 (by decide) gw_172 ?_
  refine aw_callSN (M' := mX11_isInside) (S := []) (as := [vI a1, vI (h.1 1 i0 0)]) (k := 0) dX1_leadTimeOf_5 rfl nw_555 gw_461 mb_X11_isInside rfl (Nat.zero_le _) (Nat.le_of_ble_eq_true rfl) rfl (CL.imp k (fun _ h1 k => ?_) (fun _ _ k => k))
  obtain ⟨r2, rfl, k⟩ := oI_of k
  show AW X (d + 1) rb mX1_leadTimeOf 8 _ [vI r2] h1 Qr Qx
  refine aw_if_eq 20 dX1_leadTimeOf_8 rfl rfl (fun c => ?_) (fun c => ?_)
  · replace k := k.1 c
    refine aw_iconst (v := 0) dX1_leadTimeOf_20 rfl (by decide) ?_
    exact aw_iret dX1_leadTimeOf_21 rfl k
  · replace k := k.2 c
    refine aw_aload_n (j := 0) (i := 0) dX1_leadTimeOf_11 rfl rfl rfl ?_
    refine aw_getf (k := 4) (z := 20) dX1_leadTimeOf_12 rfl (by decide) rfl rfl rfl cb_1 (by decide) gw_184 ?_
    refine aw_iload_n (j := 1) (i := 1) dX1_leadTimeOf_15 rfl rfl rfl ?_
    refine aw_iald dX1_leadTimeOf_16 rfl (by decide) rfl k.1 ?_
    replace k := k.2
    refine aw_goto 21 dX1_leadTimeOf_17 rfl ?_
    exact aw_iret dX1_leadTimeOf_21 rfl k
set_option maxHeartbeats 4000000 in
set_option maxRecDepth 100000 in
theorem vc_X1_linesOf_0 {X : WD → State → Prop} {d rb : Nat} {h : Hp} {Qr : Option AV → Hp → Prop} {Qx : String → Hp → Prop} {i0 : Nat} {a1 : Int32}  (k : CL 0 d mX11_isInside [vI a1, vI (h.1 1 i0 1)] h (oI fun r2 h1 => ((r2 = 0) → Qr (some (vI 0)) h1) ∧ ((¬ r2 = 0) → (vp_in a1 8) ∧ Qr (some (vI (h1.1 23 i0 a1.toNatClampNeg))) h1)) Qx) : AW X (d + 1) rb mX1_linesOf 0 [(0, vR 1 i0), (1, vI a1)] [] h Qr Qx := by
  refine aw_iload_n (j := 1) (i := 1) dX1_linesOf_0 rfl rfl rfl ?_
  refine aw_aload_n (j := 0) (i := 0) dX1_linesOf_1 rfl rfl rfl ?_
  refine aw_geti (k := 1) dX1_linesOf_2 rfl (by decide) rfl rfl cb_1 (by decide) gw_176 ?_
  refine aw_callSN (M' := mX11_isInside) (S := []) (as := [vI a1, vI (h.1 1 i0 1)]) (k := 0) dX1_linesOf_5 rfl nw_555 gw_461 mb_X11_isInside rfl (Nat.zero_le _) (Nat.le_of_ble_eq_true rfl) rfl (CL.imp k (fun _ h1 k => ?_) (fun _ _ k => k))
  obtain ⟨r2, rfl, k⟩ := oI_of k
  show AW X (d + 1) rb mX1_linesOf 8 _ [vI r2] h1 Qr Qx
  refine aw_if_eq 20 dX1_linesOf_8 rfl rfl (fun c => ?_) (fun c => ?_)
  · replace k := k.1 c
    refine aw_iconst (v := 0) dX1_linesOf_20 rfl (by decide) ?_
    exact aw_iret dX1_linesOf_21 rfl k
  · replace k := k.2 c
    refine aw_aload_n (j := 0) (i := 0) dX1_linesOf_11 rfl rfl rfl ?_
    refine aw_getf (k := 7) (z := 23) dX1_linesOf_12 rfl (by decide) rfl rfl rfl cb_1 (by decide) gw_187 ?_
    refine aw_iload_n (j := 1) (i := 1) dX1_linesOf_15 rfl rfl rfl ?_
    refine aw_iald dX1_linesOf_16 rfl (by decide) rfl k.1 ?_
    replace k := k.2
    refine aw_goto 21 dX1_linesOf_17 rfl ?_
    exact aw_iret dX1_linesOf_21 rfl k
set_option maxHeartbeats 4000000 in
set_option maxRecDepth 100000 in
theorem vc_X1_itemOf_0 {X : WD → State → Prop} {d rb : Nat} {h : Hp} {Qr : Option AV → Hp → Prop} {Qx : String → Hp → Prop} {i0 : Nat} {a1 : Int32} {a2 : Int32}  (k : CL 0 d mX1_linesOf [vR 1 i0, vI a1] h (oI fun r2 h1 => CL 0 d mX11_isInside [vI a2, vI r2] h1 (oI fun r4 h3 => ((r4 = 0) → Qr (some (vI (-1))) h3) ∧ ((¬ r4 = 0) → (vp_in a1 8) ∧ (vp_in a2 6) ∧ Qr (some (vI (h3.1 25 (8 * i0 + a1.toNatClampNeg) a2.toNatClampNeg))) h3)) Qx) Qx) : AW X (d + 1) rb mX1_itemOf 0 [(0, vR 1 i0), (1, vI a1), (2, vI a2)] [] h Qr Qx := by
  refine aw_iload_n (j := 2) (i := 2) dX1_itemOf_0 rfl rfl rfl ?_
  refine aw_aload_n (j := 0) (i := 0) dX1_itemOf_1 rfl rfl rfl ?_
  refine aw_iload_n (j := 1) (i := 1) dX1_itemOf_2 rfl rfl rfl ?_
  refine aw_callV (M' := mX1_linesOf) (S := [vI a2]) (as := [vI a1]) (k := 0) dX1_itemOf_3 rfl (by decide) rfl rfl gw_1085 gw_1071 gw_1072 mb_X1_linesOf rfl (Nat.zero_le _) (Nat.le_of_ble_eq_true rfl) rfl (CL.imp k (fun _ h1 k => ?_) (fun _ _ k => k))
  obtain ⟨r2, rfl, k⟩ := oI_of k
  show AW X (d + 1) rb mX1_itemOf 6 _ [vI r2, vI a2] h1 Qr Qx
  refine aw_callSN (M' := mX11_isInside) (S := []) (as := [vI a2, vI r2]) (k := 0) dX1_itemOf_6 rfl nw_555 gw_461 mb_X11_isInside rfl (Nat.zero_le _) (Nat.le_of_ble_eq_true rfl) rfl (CL.imp k (fun _ h3 k => ?_) (fun _ _ k => k))
  obtain ⟨r4, rfl, k⟩ := oI_of k
  show AW X (d + 1) rb mX1_itemOf 9 _ [vI r4] h3 Qr Qx
  refine aw_if_eq 23 dX1_itemOf_9 rfl rfl (fun c => ?_) (fun c => ?_)
  · replace k := k.1 c
    refine aw_iconst (v := (-1)) dX1_itemOf_23 rfl (by decide) ?_
    exact aw_iret dX1_itemOf_24 rfl k
  · replace k := k.2 c
    refine aw_aload_n (j := 0) (i := 0) dX1_itemOf_12 rfl rfl rfl ?_
    refine aw_getf (k := 8) (z := 24) dX1_itemOf_13 rfl (by decide) rfl rfl rfl cb_1 (by decide) gw_188 ?_
    refine aw_iload_n (j := 1) (i := 1) dX1_itemOf_16 rfl rfl rfl ?_
    refine aw_aald6 (o := 8) (u := 25) dX1_itemOf_17 rfl (by decide) rfl oa_hu24 k.1 ?_
    replace k := k.2
    refine aw_iload_n (j := 2) (i := 2) dX1_itemOf_18 rfl rfl rfl ?_
    refine aw_iald dX1_itemOf_19 rfl (by decide) rfl k.1 ?_
    replace k := k.2
    refine aw_goto 24 dX1_itemOf_20 rfl ?_
    exact aw_iret dX1_itemOf_24 rfl k
set_option maxHeartbeats 4000000 in
set_option maxRecDepth 100000 in
theorem vc_X1_quantityOf_0 {X : WD → State → Prop} {d rb : Nat} {h : Hp} {Qr : Option AV → Hp → Prop} {Qx : String → Hp → Prop} {i0 : Nat} {a1 : Int32} {a2 : Int32}  (k : CL 0 d mX1_linesOf [vR 1 i0, vI a1] h (oI fun r2 h1 => CL 0 d mX11_isInside [vI a2, vI r2] h1 (oI fun r4 h3 => ((r4 = 0) → Qr (some (vI (-1))) h3) ∧ ((¬ r4 = 0) → (vp_in a1 8) ∧ (vp_in a2 6) ∧ Qr (some (vI (h3.1 27 (8 * i0 + a1.toNatClampNeg) a2.toNatClampNeg))) h3)) Qx) Qx) : AW X (d + 1) rb mX1_quantityOf 0 [(0, vR 1 i0), (1, vI a1), (2, vI a2)] [] h Qr Qx := by
  refine aw_iload_n (j := 2) (i := 2) dX1_quantityOf_0 rfl rfl rfl ?_
  refine aw_aload_n (j := 0) (i := 0) dX1_quantityOf_1 rfl rfl rfl ?_
  refine aw_iload_n (j := 1) (i := 1) dX1_quantityOf_2 rfl rfl rfl ?_
  refine aw_callV (M' := mX1_linesOf) (S := [vI a2]) (as := [vI a1]) (k := 0) dX1_quantityOf_3 rfl (by decide) rfl rfl gw_1085 gw_1071 gw_1072 mb_X1_linesOf rfl (Nat.zero_le _) (Nat.le_of_ble_eq_true rfl) rfl (CL.imp k (fun _ h1 k => ?_) (fun _ _ k => k))
  obtain ⟨r2, rfl, k⟩ := oI_of k
  show AW X (d + 1) rb mX1_quantityOf 6 _ [vI r2, vI a2] h1 Qr Qx
  refine aw_callSN (M' := mX11_isInside) (S := []) (as := [vI a2, vI r2]) (k := 0) dX1_quantityOf_6 rfl nw_555 gw_461 mb_X11_isInside rfl (Nat.zero_le _) (Nat.le_of_ble_eq_true rfl) rfl (CL.imp k (fun _ h3 k => ?_) (fun _ _ k => k))
  obtain ⟨r4, rfl, k⟩ := oI_of k
  show AW X (d + 1) rb mX1_quantityOf 9 _ [vI r4] h3 Qr Qx
  refine aw_if_eq 23 dX1_quantityOf_9 rfl rfl (fun c => ?_) (fun c => ?_)
  · replace k := k.1 c
    refine aw_iconst (v := (-1)) dX1_quantityOf_23 rfl (by decide) ?_
    exact aw_iret dX1_quantityOf_24 rfl k
  · replace k := k.2 c
    refine aw_aload_n (j := 0) (i := 0) dX1_quantityOf_12 rfl rfl rfl ?_
    refine aw_getf (k := 9) (z := 26) dX1_quantityOf_13 rfl (by decide) rfl rfl rfl cb_1 (by decide) gw_189 ?_
    refine aw_iload_n (j := 1) (i := 1) dX1_quantityOf_16 rfl rfl rfl ?_
    refine aw_aald6 (o := 8) (u := 27) dX1_quantityOf_17 rfl (by decide) rfl oa_hu26 k.1 ?_
    replace k := k.2
    refine aw_iload_n (j := 2) (i := 2) dX1_quantityOf_18 rfl rfl rfl ?_
    refine aw_iald dX1_quantityOf_19 rfl (by decide) rfl k.1 ?_
    replace k := k.2
    refine aw_goto 24 dX1_quantityOf_20 rfl ?_
    exact aw_iret dX1_quantityOf_24 rfl k
set_option maxHeartbeats 4000000 in
set_option maxRecDepth 100000 in
theorem vc_X1_levelOf_0 {X : WD → State → Prop} {d rb : Nat} {h : Hp} {Qr : Option AV → Hp → Prop} {Qx : String → Hp → Prop} {i0 : Nat} {a1 : Int32}  (k : CL 0 d mX11_isInside [vI a1, vI (h.1 1 i0 1)] h (oI fun r2 h1 => ((r2 = 0) → Qr (some (vI 0)) h1) ∧ ((¬ r2 = 0) → (vp_in a1 8) ∧ Qr (some (vI (h1.1 22 i0 a1.toNatClampNeg))) h1)) Qx) : AW X (d + 1) rb mX1_levelOf 0 [(0, vR 1 i0), (1, vI a1)] [] h Qr Qx := by
  refine aw_iload_n (j := 1) (i := 1) dX1_levelOf_0 rfl rfl rfl ?_
  refine aw_aload_n (j := 0) (i := 0) dX1_levelOf_1 rfl rfl rfl ?_
  refine aw_geti (k := 1) dX1_levelOf_2 rfl (by decide) rfl rfl cb_1 (by decide) gw_176 ?_
  refine aw_callSN (M' := mX11_isInside) (S := []) (as := [vI a1, vI (h.1 1 i0 1)]) (k := 0) dX1_levelOf_5 rfl nw_555 gw_461 mb_X11_isInside rfl (Nat.zero_le _) (Nat.le_of_ble_eq_true rfl) rfl (CL.imp k (fun _ h1 k => ?_) (fun _ _ k => k))
  obtain ⟨r2, rfl, k⟩ := oI_of k
  show AW X (d + 1) rb mX1_levelOf 8 _ [vI r2] h1 Qr Qx
  refine aw_if_eq 20 dX1_levelOf_8 rfl rfl (fun c => ?_) (fun c => ?_)
  · replace k := k.1 c
    refine aw_iconst (v := 0) dX1_levelOf_20 rfl (by decide) ?_
    exact aw_iret dX1_levelOf_21 rfl k
  · replace k := k.2 c
    refine aw_aload_n (j := 0) (i := 0) dX1_levelOf_11 rfl rfl rfl ?_
    refine aw_getf (k := 6) (z := 22) dX1_levelOf_12 rfl (by decide) rfl rfl rfl cb_1 (by decide) gw_186 ?_
    refine aw_iload_n (j := 1) (i := 1) dX1_levelOf_15 rfl rfl rfl ?_
    refine aw_iald dX1_levelOf_16 rfl (by decide) rfl k.1 ?_
    replace k := k.2
    refine aw_goto 21 dX1_levelOf_17 rfl ?_
    exact aw_iret dX1_levelOf_21 rfl k
set_option maxHeartbeats 4000000 in
set_option maxRecDepth 100000 in
theorem vc_X1_needOf_0 {X : WD → State → Prop} {d rb : Nat} {h : Hp} {Qr : Option AV → Hp → Prop} {Qx : String → Hp → Prop} {i0 : Nat} {a1 : Int32} {a2 : Int32}  (k : (((if a1 < 0 then (0 : Int32) else (if (h.1 1 i0 1) ≤ a1 then (0 : Int32) else (if a2 < 0 then (0 : Int32) else (if (h.1 1 i0 0) ≤ a2 then (0 : Int32) else 1)))) = 0) → Qr (some (vI 0)) h) ∧ ((¬ (if a1 < 0 then (0 : Int32) else (if (h.1 1 i0 1) ≤ a1 then (0 : Int32) else (if a2 < 0 then (0 : Int32) else (if (h.1 1 i0 0) ≤ a2 then (0 : Int32) else 1)))) = 0) → (vp_in a1 8) ∧ (vp_in a2 12) ∧ Qr (some (vI (h.1 29 (8 * i0 + a1.toNatClampNeg) a2.toNatClampNeg))) h)) : AW X (d + 1) rb mX1_needOf 0 [(0, vR 1 i0), (1, vI a1), (2, vI a2)] [] h Qr Qx := by
  refine aw_iload_n (j := 1) (i := 1) dX1_needOf_0 rfl rfl rfl ?_
  have kk : AW X (d + 1) rb mX1_needOf 29 [(0, vR 1 i0), (1, vI a1), (2, vI a2)] [vI (if a1 < 0 then (0 : Int32) else (if (h.1 1 i0 1) ≤ a1 then (0 : Int32) else (if a2 < 0 then (0 : Int32) else (if (h.1 1 i0 0) ≤ a2 then (0 : Int32) else 1))))] h Qr Qx := by
    refine aw_istore_n (i := 3) (L2 := [(3, vI (if a1 < 0 then (0 : Int32) else (if (h.1 1 i0 1) ≤ a1 then (0 : Int32) else (if a2 < 0 then (0 : Int32) else (if (h.1 1 i0 0) ≤ a2 then (0 : Int32) else 1))))), (0, vR 1 i0), (1, vI a1), (2, vI a2)]) dX1_needOf_29 rfl rfl (by decide) rfl ?_
    refine aw_iload_n (j := 0) (i := 3) dX1_needOf_30 rfl rfl rfl ?_
    refine aw_if_eq 45 dX1_needOf_31 rfl rfl (fun c => ?_) (fun c => ?_)
    · replace k := k.1 c
      refine aw_iconst (v := 0) dX1_needOf_45 rfl (by decide) ?_
      exact aw_iret dX1_needOf_46 rfl k
    · replace k := k.2 c
      refine aw_aload_n (j := 1) (i := 0) dX1_needOf_34 rfl rfl rfl ?_
      refine aw_getf (k := 10) (z := 28) dX1_needOf_35 rfl (by decide) rfl rfl rfl cb_1 (by decide) gw_190 ?_
      refine aw_iload_n (j := 2) (i := 1) dX1_needOf_38 rfl rfl rfl ?_
      refine aw_aald6 (o := 8) (u := 29) dX1_needOf_39 rfl (by decide) rfl oa_hu28 k.1 ?_
      replace k := k.2
      refine aw_iload_n (j := 3) (i := 2) dX1_needOf_40 rfl rfl rfl ?_
      refine aw_iald dX1_needOf_41 rfl (by decide) rfl k.1 ?_
      replace k := k.2
      refine aw_goto 46 dX1_needOf_42 rfl ?_
      exact aw_iret dX1_needOf_46 rfl k
  refine aw_if_lt 28 dX1_needOf_1 rfl rfl (fun (c0 : a1 < 0) => ?_) (fun (c0 : ¬ a1 < 0) => ?_)
  · refine aw_iconst (v := 0) dX1_needOf_28 rfl (by decide) ?_
    simp only [if_pos c0] at kk
    exact kk
  · refine aw_iload_n (j := 1) (i := 1) dX1_needOf_4 rfl rfl rfl ?_
    refine aw_aload_n (j := 0) (i := 0) dX1_needOf_5 rfl rfl rfl ?_
    refine aw_geti (k := 1) dX1_needOf_6 rfl (by decide) rfl rfl cb_1 (by decide) gw_176 ?_
    refine aw_icmp_ge 28 dX1_needOf_9 rfl rfl (fun (c1 : (h.1 1 i0 1) ≤ a1) => ?_) (fun (c1 : ¬ (h.1 1 i0 1) ≤ a1) => ?_)
    · refine aw_iconst (v := 0) dX1_needOf_28 rfl (by decide) ?_
      simp only [if_neg c0, if_pos c1] at kk
      exact kk
    · refine aw_iload_n (j := 2) (i := 2) dX1_needOf_12 rfl rfl rfl ?_
      refine aw_if_lt 28 dX1_needOf_13 rfl rfl (fun (c2 : a2 < 0) => ?_) (fun (c2 : ¬ a2 < 0) => ?_)
      · refine aw_iconst (v := 0) dX1_needOf_28 rfl (by decide) ?_
        simp only [if_neg c0, if_neg c1, if_pos c2] at kk
        exact kk
      · refine aw_iload_n (j := 2) (i := 2) dX1_needOf_16 rfl rfl rfl ?_
        refine aw_aload_n (j := 0) (i := 0) dX1_needOf_17 rfl rfl rfl ?_
        refine aw_geti (k := 0) dX1_needOf_18 rfl (by decide) rfl rfl cb_1 (by decide) gw_172 ?_
        refine aw_icmp_ge 28 dX1_needOf_21 rfl rfl (fun (c3 : (h.1 1 i0 0) ≤ a2) => ?_) (fun (c3 : ¬ (h.1 1 i0 0) ≤ a2) => ?_)
        · refine aw_iconst (v := 0) dX1_needOf_28 rfl (by decide) ?_
          simp only [if_neg c0, if_neg c1, if_neg c2, if_pos c3] at kk
          exact kk
        · refine aw_iconst (v := 1) dX1_needOf_24 rfl (by decide) ?_
          refine aw_goto 29 dX1_needOf_25 rfl ?_
          simp only [if_neg c0, if_neg c1, if_neg c2, if_neg c3] at kk
          exact kk
set_option maxHeartbeats 4000000 in
set_option maxRecDepth 100000 in
theorem vc_X1_rungTakes_0 {X : WD → State → Prop} {d rb : Nat} {h : Hp} {Qr : Option AV → Hp → Prop} {Qx : String → Hp → Prop} {i0 : Nat} {a1 : Int32} {a2 : Int32}  (k : CL 0 d mX11_isInside [vI a1, vI (h.1 1 i0 2)] h (oI fun r2 h1 => ((r2 = 0) → Qr (some (vI 0)) h1) ∧ ((¬ r2 = 0) → (vp_in a1 6) ∧ ((a2 < (h1.1 30 i0 a1.toNatClampNeg)) → Qr (some (vI 0)) h1) ∧ ((¬ a2 < (h1.1 30 i0 a1.toNatClampNeg)) → (vp_in a1 6) ∧ ((if (h1.1 31 i0 a1.toNatClampNeg) < a2 then (0 : Int32) else 1) = 0 ∨ (if (h1.1 31 i0 a1.toNatClampNeg) < a2 then (0 : Int32) else 1) = 1) ∧ Qr (some (vI (if (h1.1 31 i0 a1.toNatClampNeg) < a2 then (0 : Int32) else 1))) h1))) Qx) : AW X (d + 1) rb mX1_rungTakes 0 [(0, vR 1 i0), (1, vI a1), (2, vI a2)] [] h Qr Qx := by
  refine aw_iload_n (j := 1) (i := 1) dX1_rungTakes_0 rfl rfl rfl ?_
  refine aw_aload_n (j := 0) (i := 0) dX1_rungTakes_1 rfl rfl rfl ?_
  refine aw_geti (k := 2) dX1_rungTakes_2 rfl (by decide) rfl rfl cb_1 (by decide) gw_180 ?_
  refine aw_callSN (M' := mX11_isInside) (S := []) (as := [vI a1, vI (h.1 1 i0 2)]) (k := 0) dX1_rungTakes_5 rfl nw_555 gw_461 mb_X11_isInside rfl (Nat.zero_le _) (Nat.le_of_ble_eq_true rfl) rfl (CL.imp k (fun _ h1 k => ?_) (fun _ _ k => k))
  obtain ⟨r2, rfl, k⟩ := oI_of k
  show AW X (d + 1) rb mX1_rungTakes 8 _ [vI r2] h1 Qr Qx
  refine aw_if_eq 35 dX1_rungTakes_8 rfl rfl (fun c => ?_) (fun c => ?_)
  · replace k := k.1 c
    refine aw_iconst (v := 0) dX1_rungTakes_35 rfl (by decide) ?_
    exact aw_zret dX1_rungTakes_36 rfl (by decide) k
  · replace k := k.2 c
    refine aw_iload_n (j := 2) (i := 2) dX1_rungTakes_11 rfl rfl rfl ?_
    refine aw_aload_n (j := 0) (i := 0) dX1_rungTakes_12 rfl rfl rfl ?_
    refine aw_getf (k := 11) (z := 30) dX1_rungTakes_13 rfl (by decide) rfl rfl rfl cb_1 (by decide) gw_191 ?_
    refine aw_iload_n (j := 1) (i := 1) dX1_rungTakes_16 rfl rfl rfl ?_
    refine aw_iald dX1_rungTakes_17 rfl (by decide) rfl k.1 ?_
    replace k := k.2
    refine aw_icmp_lt 35 dX1_rungTakes_18 rfl rfl (fun c => ?_) (fun c => ?_)
    · replace k := k.1 c
      refine aw_iconst (v := 0) dX1_rungTakes_35 rfl (by decide) ?_
      exact aw_zret dX1_rungTakes_36 rfl (by decide) k
    · replace k := k.2 c
      refine aw_iload_n (j := 2) (i := 2) dX1_rungTakes_21 rfl rfl rfl ?_
      refine aw_aload_n (j := 0) (i := 0) dX1_rungTakes_22 rfl rfl rfl ?_
      refine aw_getf (k := 12) (z := 31) dX1_rungTakes_23 rfl (by decide) rfl rfl rfl cb_1 (by decide) gw_192 ?_
      refine aw_iload_n (j := 1) (i := 1) dX1_rungTakes_26 rfl rfl rfl ?_
      refine aw_iald dX1_rungTakes_27 rfl (by decide) rfl k.1 ?_
      replace k := k.2
      have kk : AW X (d + 1) rb mX1_rungTakes 36 [(0, vR 1 i0), (1, vI a1), (2, vI a2)] [vI (if (h1.1 31 i0 a1.toNatClampNeg) < a2 then (0 : Int32) else 1)] h1 Qr Qx := by
        exact aw_zret dX1_rungTakes_36 rfl k.1 k.2
      refine aw_icmp_gt 35 dX1_rungTakes_28 rfl rfl (fun (c0 : (h1.1 31 i0 a1.toNatClampNeg) < a2) => ?_) (fun (c0 : ¬ (h1.1 31 i0 a1.toNatClampNeg) < a2) => ?_)
      · refine aw_iconst (v := 0) dX1_rungTakes_35 rfl (by decide) ?_
        simp only [if_pos c0] at kk
        exact kk
      · refine aw_iconst (v := 1) dX1_rungTakes_31 rfl (by decide) ?_
        refine aw_goto 36 dX1_rungTakes_32 rfl ?_
        simp only [if_neg c0] at kk
        exact kk
set_option maxHeartbeats 4000000 in
set_option maxRecDepth 100000 in
theorem vc_X1_shareOf_0 {X : WD → State → Prop} {d rb : Nat} {h : Hp} {Qr : Option AV → Hp → Prop} {Qx : String → Hp → Prop} {i0 : Nat} {a1 : Int32}  (k : CL 0 d mX11_isInside [vI a1, vI (h.1 1 i0 2)] h (oI fun r2 h1 => ((r2 = 0) → Qr (some (vI 0)) h1) ∧ ((¬ r2 = 0) → (vp_in a1 6) ∧ Qr (some (vI (h1.1 32 i0 a1.toNatClampNeg))) h1)) Qx) : AW X (d + 1) rb mX1_shareOf 0 [(0, vR 1 i0), (1, vI a1)] [] h Qr Qx := by
  refine aw_iload_n (j := 1) (i := 1) dX1_shareOf_0 rfl rfl rfl ?_
  refine aw_aload_n (j := 0) (i := 0) dX1_shareOf_1 rfl rfl rfl ?_
  refine aw_geti (k := 2) dX1_shareOf_2 rfl (by decide) rfl rfl cb_1 (by decide) gw_180 ?_
  refine aw_callSN (M' := mX11_isInside) (S := []) (as := [vI a1, vI (h.1 1 i0 2)]) (k := 0) dX1_shareOf_5 rfl nw_555 gw_461 mb_X11_isInside rfl (Nat.zero_le _) (Nat.le_of_ble_eq_true rfl) rfl (CL.imp k (fun _ h1 k => ?_) (fun _ _ k => k))
  obtain ⟨r2, rfl, k⟩ := oI_of k
  show AW X (d + 1) rb mX1_shareOf 8 _ [vI r2] h1 Qr Qx
  refine aw_if_eq 20 dX1_shareOf_8 rfl rfl (fun c => ?_) (fun c => ?_)
  · replace k := k.1 c
    refine aw_iconst (v := 0) dX1_shareOf_20 rfl (by decide) ?_
    exact aw_iret dX1_shareOf_21 rfl k
  · replace k := k.2 c
    refine aw_aload_n (j := 0) (i := 0) dX1_shareOf_11 rfl rfl rfl ?_
    refine aw_getf (k := 13) (z := 32) dX1_shareOf_12 rfl (by decide) rfl rfl rfl cb_1 (by decide) gw_193 ?_
    refine aw_iload_n (j := 1) (i := 1) dX1_shareOf_15 rfl rfl rfl ?_
    refine aw_iald dX1_shareOf_16 rfl (by decide) rfl k.1 ?_
    replace k := k.2
    refine aw_goto 21 dX1_shareOf_17 rfl ?_
    exact aw_iret dX1_shareOf_21 rfl k
set_option maxHeartbeats 4000000 in
set_option maxRecDepth 100000 in
theorem vc_X1_tightestPart_0 {X : WD → State → Prop} {d rb : Nat} {h : Hp} {Qr : Option AV → Hp → Prop} {Qx : String → Hp → Prop} {i0 : Nat} {a1 : Int32} {t2 i2 n2 : Nat} {f2 : List (Nat × Nat)} (ht2 : t2 < oa_nT) (hk2 : oa_kd t2 = (1, n2, f2)) (k : AW X (d + 1) rb mX1_tightestPart 8 [(0, vR 1 i0), (1, vI a1), (2, vR t2 i2), (3, vI (-1)), (4, vI 0), (5, vI 0)] [] h Qr Qx) : AW X (d + 1) rb mX1_tightestPart 0 [(0, vR 1 i0), (1, vI a1), (2, vR t2 i2)] [] h Qr Qx := by
  refine aw_iconst (v := (-1)) dX1_tightestPart_0 rfl (by decide) ?_
  refine aw_istore_n (i := 3) (L2 := [(3, vI (-1)), (0, vR 1 i0), (1, vI a1), (2, vR t2 i2)]) dX1_tightestPart_1 rfl rfl (by decide) rfl ?_
  refine aw_iconst (v := 0) dX1_tightestPart_2 rfl (by decide) ?_
  refine aw_istore (i := 4) (L2 := [(4, vI 0), (3, vI (-1)), (0, vR 1 i0), (1, vI a1), (2, vR t2 i2)]) dX1_tightestPart_3 rfl (by decide) rfl ?_
  refine aw_iconst (v := 0) dX1_tightestPart_5 rfl (by decide) ?_
  refine aw_istore (i := 5) (L2 := [(5, vI 0), (4, vI 0), (3, vI (-1)), (0, vR 1 i0), (1, vI a1), (2, vR t2 i2)]) dX1_tightestPart_6 rfl (by decide) rfl ?_
  exact aw_sub [3, 4, 5, 2, 1, 0] rfl k
set_option maxHeartbeats 4000000 in
set_option maxRecDepth 100000 in
theorem vc_X1_tightestPart_8 {X : WD → State → Prop} {d rb : Nat} {h : Hp} {Qr : Option AV → Hp → Prop} {Qx : String → Hp → Prop} {i0 : Nat} {x1 : Int32} {t2 i2 n2 : Nat} {f2 : List (Nat × Nat)} {x3 : Int32} {x4 : Int32} {x5 : Int32} (ht2 : t2 < oa_nT) (hk2 : oa_kd t2 = (1, n2, f2)) (k : (((h.1 1 i0 0) ≤ x5) → Qr (some (vI x3)) h) ∧ ((¬ (h.1 1 i0 0) ≤ x5) → (((Int32.ofNat n2) ≤ x5) → Qr (some (vI x3)) h) ∧ ((¬ (Int32.ofNat n2) ≤ x5) → CL 0 d mX1_needOf [vR 1 i0, vI x1, vI x5] h (oI fun r2 h1 => ((r2 ≤ 0) → AW X (d + 1) rb mX1_tightestPart 8 [(0, vR 1 i0), (1, vI x1), (2, vR t2 i2), (3, vI x3), (4, vI x4), (5, vI (x5 + 1))] [] h1 Qr Qx) ∧ ((¬ r2 ≤ 0) → ((x3 = (-1)) → (vp_in x5 n2) ∧ (¬ r2 = 0) ∧ AW X (d + 1) rb mX1_tightestPart 8 [(0, vR 1 i0), (1, vI x1), (2, vR t2 i2), (3, vI x5), (4, vI ((h1.1 t2 i2 x5.toNatClampNeg) / r2)), (5, vI (x5 + 1))] [] h1 Qr Qx) ∧ ((¬ x3 = (-1)) → (vp_in x5 n2) ∧ (¬ r2 = 0) ∧ ((x4 ≤ ((h1.1 t2 i2 x5.toNatClampNeg) / r2)) → AW X (d + 1) rb mX1_tightestPart 8 [(0, vR 1 i0), (1, vI x1), (2, vR t2 i2), (3, vI x3), (4, vI x4), (5, vI (x5 + 1))] [] h1 Qr Qx) ∧ ((¬ x4 ≤ ((h1.1 t2 i2 x5.toNatClampNeg) / r2)) → (vp_in x5 n2) ∧ (¬ r2 = 0) ∧ AW X (d + 1) rb mX1_tightestPart 8 [(0, vR 1 i0), (1, vI x1), (2, vR t2 i2), (3, vI x5), (4, vI ((h1.1 t2 i2 x5.toNatClampNeg) / r2)), (5, vI (x5 + 1))] [] h1 Qr Qx)))) Qx))) : AW X (d + 1) rb mX1_tightestPart 8 [(0, vR 1 i0), (1, vI x1), (2, vR t2 i2), (3, vI x3), (4, vI x4), (5, vI x5)] [] h Qr Qx := by
  refine aw_iload (j := 5) (i := 5) dX1_tightestPart_8 rfl rfl ?_
  refine aw_aload_n (j := 0) (i := 0) dX1_tightestPart_10 rfl rfl rfl ?_
  refine aw_geti (k := 0) dX1_tightestPart_11 rfl (by decide) rfl rfl cb_1 (by decide) gw_172 ?_
  refine aw_icmp_ge 73 dX1_tightestPart_14 rfl rfl (fun c => ?_) (fun c => ?_)
  · replace k := k.1 c
    refine aw_iload_n (j := 3) (i := 3) dX1_tightestPart_73 rfl rfl rfl ?_
    exact aw_iret dX1_tightestPart_74 rfl k
  · replace k := k.2 c
    refine aw_iload (j := 5) (i := 5) dX1_tightestPart_17 rfl rfl ?_
    refine aw_aload_n (j := 2) (i := 2) dX1_tightestPart_19 rfl rfl rfl ?_
    refine aw_alen dX1_tightestPart_20 rfl ht2 hk2 rfl ?_
    refine aw_icmp_ge 73 dX1_tightestPart_21 rfl rfl (fun c => ?_) (fun c => ?_)
    · replace k := k.1 c
      refine aw_iload_n (j := 3) (i := 3) dX1_tightestPart_73 rfl rfl rfl ?_
      exact aw_iret dX1_tightestPart_74 rfl k
    · replace k := k.2 c
      refine aw_aload_n (j := 0) (i := 0) dX1_tightestPart_24 rfl rfl rfl ?_
      refine aw_iload_n (j := 1) (i := 1) dX1_tightestPart_25 rfl rfl rfl ?_
      refine aw_iload (j := 5) (i := 5) dX1_tightestPart_26 rfl rfl ?_
      refine aw_callV (M' := mX1_needOf) (S := []) (as := [vI x1, vI x5]) (k := 0) dX1_tightestPart_28 rfl (by decide) rfl rfl gw_607 gw_509 gw_510 mb_X1_needOf rfl (Nat.zero_le _) (Nat.le_of_ble_eq_true rfl) rfl (CL.imp k (fun _ h1 k => ?_) (fun _ _ k => k))
      obtain ⟨r2, rfl, k⟩ := oI_of k
      show AW X (d + 1) rb mX1_tightestPart 31 _ [vI r2] h1 Qr Qx
      refine aw_istore (i := 6) (L2 := [(6, vI r2), (0, vR 1 i0), (1, vI x1), (2, vR t2 i2), (3, vI x3), (4, vI x4), (5, vI x5)]) dX1_tightestPart_31 rfl (by decide) rfl ?_
      refine aw_iload (j := 0) (i := 6) dX1_tightestPart_33 rfl rfl ?_
      refine aw_if_le 67 dX1_tightestPart_35 rfl rfl (fun c => ?_) (fun c => ?_)
      · replace k := k.1 c
        refine aw_iinc (i := 5) (j := 6) (v := x5 + 1) (L2 := [(5, vI (x5 + 1)), (6, vI r2), (0, vR 1 i0), (1, vI x1), (2, vR t2 i2), (3, vI x3), (4, vI x4)]) dX1_tightestPart_67 rfl (by decide) rfl rfl rfl ?_
        refine aw_goto 8 dX1_tightestPart_70 rfl ?_
        exact aw_sub [2, 3, 4, 5, 6, 0] rfl k
      · replace k := k.2 c
        refine aw_iload_n (j := 4) (i := 3) dX1_tightestPart_38 rfl rfl rfl ?_
        refine aw_iconst (v := (-1)) dX1_tightestPart_39 rfl (by decide) ?_
        refine aw_icmp_eq 55 dX1_tightestPart_40 rfl rfl (fun c => ?_) (fun c => ?_)
        · replace k := k.1 c
          refine aw_iload (j := 6) (i := 5) dX1_tightestPart_55 rfl rfl ?_
          refine aw_istore_n (i := 3) (L2 := [(3, vI x5), (6, vI r2), (0, vR 1 i0), (1, vI x1), (2, vR t2 i2), (4, vI x4), (5, vI x5)]) dX1_tightestPart_57 rfl rfl (by decide) rfl ?_
          refine aw_aload_n (j := 4) (i := 2) dX1_tightestPart_58 rfl rfl rfl ?_
          refine aw_iload (j := 6) (i := 5) dX1_tightestPart_59 rfl rfl ?_
          refine aw_iald dX1_tightestPart_61 rfl ht2 hk2 k.1 ?_
          replace k := k.2
          refine aw_iload (j := 1) (i := 6) dX1_tightestPart_62 rfl rfl ?_
          refine aw_idiv dX1_tightestPart_64 rfl k.1 ?_
          replace k := k.2
          refine aw_istore (i := 4) (L2 := [(4, vI ((h1.1 t2 i2 x5.toNatClampNeg) / r2)), (3, vI x5), (6, vI r2), (0, vR 1 i0), (1, vI x1), (2, vR t2 i2), (5, vI x5)]) dX1_tightestPart_65 rfl (by decide) rfl ?_
          refine aw_iinc (i := 5) (j := 6) (v := x5 + 1) (L2 := [(5, vI (x5 + 1)), (4, vI ((h1.1 t2 i2 x5.toNatClampNeg) / r2)), (3, vI x5), (6, vI r2), (0, vR 1 i0), (1, vI x1), (2, vR t2 i2)]) dX1_tightestPart_67 rfl (by decide) rfl rfl rfl ?_
          refine aw_goto 8 dX1_tightestPart_70 rfl ?_
          exact aw_sub [4, 5, 6, 2, 1, 0] rfl k
        · replace k := k.2 c
          refine aw_aload_n (j := 3) (i := 2) dX1_tightestPart_43 rfl rfl rfl ?_
          refine aw_iload (j := 6) (i := 5) dX1_tightestPart_44 rfl rfl ?_
          refine aw_iald dX1_tightestPart_46 rfl ht2 hk2 k.1 ?_
          replace k := k.2
          refine aw_iload (j := 0) (i := 6) dX1_tightestPart_47 rfl rfl ?_
          refine aw_idiv dX1_tightestPart_49 rfl k.1 ?_
          replace k := k.2
          refine aw_iload (j := 5) (i := 4) dX1_tightestPart_50 rfl rfl ?_
          refine aw_icmp_ge 67 dX1_tightestPart_52 rfl rfl (fun c => ?_) (fun c => ?_)
          · replace k := k.1 c
            refine aw_iinc (i := 5) (j := 6) (v := x5 + 1) (L2 := [(5, vI (x5 + 1)), (6, vI r2), (0, vR 1 i0), (1, vI x1), (2, vR t2 i2), (3, vI x3), (4, vI x4)]) dX1_tightestPart_67 rfl (by decide) rfl rfl rfl ?_
            refine aw_goto 8 dX1_tightestPart_70 rfl ?_
            exact aw_sub [2, 3, 4, 5, 6, 0] rfl k
          · replace k := k.2 c
            refine aw_iload (j := 6) (i := 5) dX1_tightestPart_55 rfl rfl ?_
            refine aw_istore_n (i := 3) (L2 := [(3, vI x5), (6, vI r2), (0, vR 1 i0), (1, vI x1), (2, vR t2 i2), (4, vI x4), (5, vI x5)]) dX1_tightestPart_57 rfl rfl (by decide) rfl ?_
            refine aw_aload_n (j := 4) (i := 2) dX1_tightestPart_58 rfl rfl rfl ?_
            refine aw_iload (j := 6) (i := 5) dX1_tightestPart_59 rfl rfl ?_
            refine aw_iald dX1_tightestPart_61 rfl ht2 hk2 k.1 ?_
            replace k := k.2
            refine aw_iload (j := 1) (i := 6) dX1_tightestPart_62 rfl rfl ?_
            refine aw_idiv dX1_tightestPart_64 rfl k.1 ?_
            replace k := k.2
            refine aw_istore (i := 4) (L2 := [(4, vI ((h1.1 t2 i2 x5.toNatClampNeg) / r2)), (3, vI x5), (6, vI r2), (0, vR 1 i0), (1, vI x1), (2, vR t2 i2), (5, vI x5)]) dX1_tightestPart_65 rfl (by decide) rfl ?_
            refine aw_iinc (i := 5) (j := 6) (v := x5 + 1) (L2 := [(5, vI (x5 + 1)), (4, vI ((h1.1 t2 i2 x5.toNatClampNeg) / r2)), (3, vI x5), (6, vI r2), (0, vR 1 i0), (1, vI x1), (2, vR t2 i2)]) dX1_tightestPart_67 rfl (by decide) rfl rfl rfl ?_
            refine aw_goto 8 dX1_tightestPart_70 rfl ?_
            exact aw_sub [4, 5, 6, 2, 1, 0] rfl k
set_option maxHeartbeats 4000000 in
set_option maxRecDepth 100000 in
theorem vc_X1_mostUnits_0 {X : WD → State → Prop} {d rb : Nat} {h : Hp} {Qr : Option AV → Hp → Prop} {Qx : String → Hp → Prop} {i0 : Nat} {a1 : Int32} {t2 i2 n2 : Nat} {f2 : List (Nat × Nat)} (ht2 : t2 < oa_nT) (hk2 : oa_kd t2 = (1, n2, f2)) (k : CL 0 d mX1_tightestPart [vR 1 i0, vI a1, vR t2 i2] h (oI fun r2 h1 => CL 0 d mX1_needOf [vR 1 i0, vI a1, vI r2] h1 (oI fun r4 h3 => ((r4 ≤ 0) → Qr (some (vI 0)) h3) ∧ ((¬ r4 ≤ 0) → CL 0 d mX11_isInside [vI r2, vI (Int32.ofNat n2)] h3 (oI fun r6 h5 => ((r6 = 0) → Qr (some (vI 0)) h5) ∧ ((¬ r6 = 0) → (vp_in r2 n2) ∧ (¬ r4 = 0) ∧ Qr (some (vI ((h5.1 t2 i2 r2.toNatClampNeg) / r4))) h5)) Qx)) Qx) Qx) : AW X (d + 1) rb mX1_mostUnits 0 [(0, vR 1 i0), (1, vI a1), (2, vR t2 i2)] [] h Qr Qx := by
  refine aw_aload_n (j := 0) (i := 0) dX1_mostUnits_0 rfl rfl rfl ?_
  refine aw_iload_n (j := 1) (i := 1) dX1_mostUnits_1 rfl rfl rfl ?_
  refine aw_aload_n (j := 2) (i := 2) dX1_mostUnits_2 rfl rfl rfl ?_
  refine aw_callV (M' := mX1_tightestPart) (S := []) (as := [vI a1, vR t2 i2]) (k := 0) dX1_mostUnits_3 rfl (by decide) rfl rfl gw_603 gw_604 gw_605 mb_X1_tightestPart rfl (Nat.zero_le _) (Nat.le_of_ble_eq_true rfl) rfl (CL.imp k (fun _ h1 k => ?_) (fun _ _ k => k))
  obtain ⟨r2, rfl, k⟩ := oI_of k
  show AW X (d + 1) rb mX1_mostUnits 6 _ [vI r2] h1 Qr Qx
  refine aw_istore_n (i := 3) (L2 := [(3, vI r2), (0, vR 1 i0), (1, vI a1), (2, vR t2 i2)]) dX1_mostUnits_6 rfl rfl (by decide) rfl ?_
  refine aw_aload_n (j := 1) (i := 0) dX1_mostUnits_7 rfl rfl rfl ?_
  refine aw_iload_n (j := 2) (i := 1) dX1_mostUnits_8 rfl rfl rfl ?_
  refine aw_iload_n (j := 0) (i := 3) dX1_mostUnits_9 rfl rfl rfl ?_
  refine aw_callV (M' := mX1_needOf) (S := []) (as := [vI a1, vI r2]) (k := 0) dX1_mostUnits_10 rfl (by decide) rfl rfl gw_607 gw_509 gw_510 mb_X1_needOf rfl (Nat.zero_le _) (Nat.le_of_ble_eq_true rfl) rfl (CL.imp k (fun _ h3 k => ?_) (fun _ _ k => k))
  obtain ⟨r4, rfl, k⟩ := oI_of k
  show AW X (d + 1) rb mX1_mostUnits 13 _ [vI r4] h3 Qr Qx
  refine aw_istore (i := 4) (L2 := [(4, vI r4), (3, vI r2), (0, vR 1 i0), (1, vI a1), (2, vR t2 i2)]) dX1_mostUnits_13 rfl (by decide) rfl ?_
  refine aw_iload (j := 0) (i := 4) dX1_mostUnits_15 rfl rfl ?_
  refine aw_if_le 38 dX1_mostUnits_17 rfl rfl (fun c => ?_) (fun c => ?_)
  · replace k := k.1 c
    refine aw_iconst (v := 0) dX1_mostUnits_38 rfl (by decide) ?_
    exact aw_iret dX1_mostUnits_39 rfl k
  · replace k := k.2 c
    refine aw_iload_n (j := 1) (i := 3) dX1_mostUnits_20 rfl rfl rfl ?_
    refine aw_aload_n (j := 4) (i := 2) dX1_mostUnits_21 rfl rfl rfl ?_
    refine aw_alen dX1_mostUnits_22 rfl ht2 hk2 rfl ?_
    refine aw_callSN (M' := mX11_isInside) (S := []) (as := [vI r2, vI (Int32.ofNat n2)]) (k := 0) dX1_mostUnits_23 rfl nw_555 gw_461 mb_X11_isInside rfl (Nat.zero_le _) (Nat.le_of_ble_eq_true rfl) rfl (CL.imp k (fun _ h5 k => ?_) (fun _ _ k => k))
    obtain ⟨r6, rfl, k⟩ := oI_of k
    show AW X (d + 1) rb mX1_mostUnits 26 _ [vI r6] h5 Qr Qx
    refine aw_if_eq 38 dX1_mostUnits_26 rfl rfl (fun c => ?_) (fun c => ?_)
    · replace k := k.1 c
      refine aw_iconst (v := 0) dX1_mostUnits_38 rfl (by decide) ?_
      exact aw_iret dX1_mostUnits_39 rfl k
    · replace k := k.2 c
      refine aw_aload_n (j := 4) (i := 2) dX1_mostUnits_29 rfl rfl rfl ?_
      refine aw_iload_n (j := 1) (i := 3) dX1_mostUnits_30 rfl rfl rfl ?_
      refine aw_iald dX1_mostUnits_31 rfl ht2 hk2 k.1 ?_
      replace k := k.2
      refine aw_iload (j := 0) (i := 4) dX1_mostUnits_32 rfl rfl ?_
      refine aw_idiv dX1_mostUnits_34 rfl k.1 ?_
      replace k := k.2
      refine aw_goto 39 dX1_mostUnits_35 rfl ?_
      exact aw_iret dX1_mostUnits_39 rfl k
set_option maxHeartbeats 4000000 in
set_option maxRecDepth 100000 in
theorem vc_X1_takePieces_0 {X : WD → State → Prop} {d rb : Nat} {h : Hp} {Qr : Option AV → Hp → Prop} {Qx : String → Hp → Prop} {i0 : Nat} {a1 : Int32} {a2 : Int32} {t3 i3 n3 : Nat} {f3 : List (Nat × Nat)} (ht3 : t3 < oa_nT) (hk3 : oa_kd t3 = (1, n3, f3)) (k : AW X (d + 1) rb mX1_takePieces 3 [(0, vR 1 i0), (1, vI a1), (2, vI a2), (3, vR t3 i3), (4, vI 0)] [] h Qr Qx) : AW X (d + 1) rb mX1_takePieces 0 [(0, vR 1 i0), (1, vI a1), (2, vI a2), (3, vR t3 i3)] [] h Qr Qx := by
  refine aw_iconst (v := 0) dX1_takePieces_0 rfl (by decide) ?_
  refine aw_istore (i := 4) (L2 := [(4, vI 0), (0, vR 1 i0), (1, vI a1), (2, vI a2), (3, vR t3 i3)]) dX1_takePieces_1 rfl (by decide) rfl ?_
  exact aw_sub [1, 2, 3, 4, 0] rfl k
set_option maxHeartbeats 4000000 in
set_option maxRecDepth 100000 in
theorem vc_X1_takePieces_3 {X : WD → State → Prop} {d rb : Nat} {h : Hp} {Qr : Option AV → Hp → Prop} {Qx : String → Hp → Prop} {i0 : Nat} {x1 : Int32} {x2 : Int32} {t3 i3 n3 : Nat} {f3 : List (Nat × Nat)} {x4 : Int32} (ht3 : t3 < oa_nT) (hk3 : oa_kd t3 = (1, n3, f3)) (k : (((h.1 1 i0 0) ≤ x4) → Qr none h) ∧ ((¬ (h.1 1 i0 0) ≤ x4) → (((Int32.ofNat n3) ≤ x4) → Qr none h) ∧ ((¬ (Int32.ofNat n3) ≤ x4) → (vp_in x4 n3) ∧ CL 0 d mX1_needOf [vR 1 i0, vI x1, vI x4] h (oI fun r2 h1 => (vp_in x4 n3) ∧ AW X (d + 1) rb mX1_takePieces 3 [(0, vR 1 i0), (1, vI x1), (2, vI x2), (3, vR t3 i3), (4, vI (x4 + 1))] [] (hp_i h1 t3 i3 x4.toNatClampNeg ((h.1 t3 i3 x4.toNatClampNeg) - (x2 * r2))) Qr Qx) Qx))) : AW X (d + 1) rb mX1_takePieces 3 [(0, vR 1 i0), (1, vI x1), (2, vI x2), (3, vR t3 i3), (4, vI x4)] [] h Qr Qx := by
  refine aw_iload (j := 4) (i := 4) dX1_takePieces_3 rfl rfl ?_
  refine aw_aload_n (j := 0) (i := 0) dX1_takePieces_5 rfl rfl rfl ?_
  refine aw_geti (k := 0) dX1_takePieces_6 rfl (by decide) rfl rfl cb_1 (by decide) gw_172 ?_
  refine aw_icmp_ge 41 dX1_takePieces_9 rfl rfl (fun c => ?_) (fun c => ?_)
  · replace k := k.1 c
    exact aw_vret dX1_takePieces_41 rfl k
  · replace k := k.2 c
    refine aw_iload (j := 4) (i := 4) dX1_takePieces_12 rfl rfl ?_
    refine aw_aload_n (j := 3) (i := 3) dX1_takePieces_14 rfl rfl rfl ?_
    refine aw_alen dX1_takePieces_15 rfl ht3 hk3 rfl ?_
    refine aw_icmp_ge 41 dX1_takePieces_16 rfl rfl (fun c => ?_) (fun c => ?_)
    · replace k := k.1 c
      exact aw_vret dX1_takePieces_41 rfl k
    · replace k := k.2 c
      refine aw_aload_n (j := 3) (i := 3) dX1_takePieces_19 rfl rfl rfl ?_
      refine aw_iload (j := 4) (i := 4) dX1_takePieces_20 rfl rfl ?_
      refine aw_dup2 dX1_takePieces_22 rfl rfl rfl ?_
      refine aw_iald dX1_takePieces_23 rfl ht3 hk3 k.1 ?_
      replace k := k.2
      refine aw_iload_n (j := 2) (i := 2) dX1_takePieces_24 rfl rfl rfl ?_
      refine aw_aload_n (j := 0) (i := 0) dX1_takePieces_25 rfl rfl rfl ?_
      refine aw_iload_n (j := 1) (i := 1) dX1_takePieces_26 rfl rfl rfl ?_
      refine aw_iload (j := 4) (i := 4) dX1_takePieces_27 rfl rfl ?_
      refine aw_callV (M' := mX1_needOf) (S := [vI x2, vI (h.1 t3 i3 x4.toNatClampNeg), vI x4, vR t3 i3]) (as := [vI x1, vI x4]) (k := 0) dX1_takePieces_29 rfl (by decide) rfl rfl gw_607 gw_509 gw_510 mb_X1_needOf rfl (Nat.zero_le _) (Nat.le_of_ble_eq_true rfl) rfl (CL.imp k (fun _ h1 k => ?_) (fun _ _ k => k))
      obtain ⟨r2, rfl, k⟩ := oI_of k
      show AW X (d + 1) rb mX1_takePieces 32 _ [vI r2, vI x2, vI (h.1 t3 i3 x4.toNatClampNeg), vI x4, vR t3 i3] h1 Qr Qx
      refine aw_imul dX1_takePieces_32 rfl ?_
      refine aw_isub dX1_takePieces_33 rfl ?_
      refine aw_iast dX1_takePieces_34 rfl ht3 hk3 k.1 ?_
      replace k := k.2
      refine aw_iinc (i := 4) (j := 4) (v := x4 + 1) (L2 := [(4, vI (x4 + 1)), (0, vR 1 i0), (1, vI x1), (2, vI x2), (3, vR t3 i3)]) dX1_takePieces_35 rfl (by decide) rfl rfl rfl ?_
      refine aw_goto 3 dX1_takePieces_38 rfl ?_
      exact aw_sub [1, 2, 3, 4, 0] rfl k
set_option maxHeartbeats 4000000 in
set_option maxRecDepth 100000 in
theorem vc_X1_mostTogether_0 {X : WD → State → Prop} {d rb : Nat} {h : Hp} {Qr : Option AV → Hp → Prop} {Qx : String → Hp → Prop} {i0 : Nat} {a1 : Int32} {a2 : Int32} {t3 i3 n3 : Nat} {f3 : List (Nat × Nat)} (ht3 : t3 < oa_nT) (hk3 : oa_kd t3 = (1, n3, f3)) (k : CL 0 d mX1_mostUnits [vR 1 i0, vI a1, vR t3 i3] h (oI fun r2 h1 => AW X (d + 1) rb mX1_mostTogether 14 [(0, vR 1 i0), (1, vI a1), (2, vI a2), (3, vR t3 i3), (4, vI 0), (5, vI r2), (6, vI 0)] [] h1 Qr Qx) Qx) : AW X (d + 1) rb mX1_mostTogether 0 [(0, vR 1 i0), (1, vI a1), (2, vI a2), (3, vR t3 i3)] [] h Qr Qx := by
  refine aw_iconst (v := 0) dX1_mostTogether_0 rfl (by decide) ?_
  refine aw_istore (i := 4) (L2 := [(4, vI 0), (0, vR 1 i0), (1, vI a1), (2, vI a2), (3, vR t3 i3)]) dX1_mostTogether_1 rfl (by decide) rfl ?_
  refine aw_aload_n (j := 1) (i := 0) dX1_mostTogether_3 rfl rfl rfl ?_
  refine aw_iload_n (j := 2) (i := 1) dX1_mostTogether_4 rfl rfl rfl ?_
  refine aw_aload_n (j := 4) (i := 3) dX1_mostTogether_5 rfl rfl rfl ?_
  refine aw_callV (M' := mX1_mostUnits) (S := []) (as := [vI a1, vR t3 i3]) (k := 0) dX1_mostTogether_6 rfl (by decide) rfl rfl gw_1204 gw_600 gw_601 mb_X1_mostUnits rfl (Nat.zero_le _) (Nat.le_of_ble_eq_true rfl) rfl (CL.imp k (fun _ h1 k => ?_) (fun _ _ k => k))
  obtain ⟨r2, rfl, k⟩ := oI_of k
  show AW X (d + 1) rb mX1_mostTogether 9 _ [vI r2] h1 Qr Qx
  refine aw_istore (i := 5) (L2 := [(5, vI r2), (4, vI 0), (0, vR 1 i0), (1, vI a1), (2, vI a2), (3, vR t3 i3)]) dX1_mostTogether_9 rfl (by decide) rfl ?_
  refine aw_iconst (v := 0) dX1_mostTogether_11 rfl (by decide) ?_
  refine aw_istore (i := 6) (L2 := [(6, vI 0), (5, vI r2), (4, vI 0), (0, vR 1 i0), (1, vI a1), (2, vI a2), (3, vR t3 i3)]) dX1_mostTogether_12 rfl (by decide) rfl ?_
  exact aw_sub [3, 4, 5, 6, 2, 1, 0] rfl k
set_option maxHeartbeats 4000000 in
set_option maxRecDepth 100000 in
theorem vc_X1_mostTogether_14 {X : WD → State → Prop} {d rb : Nat} {h : Hp} {Qr : Option AV → Hp → Prop} {Qx : String → Hp → Prop} {i0 : Nat} {x1 : Int32} {x2 : Int32} {t3 i3 n3 : Nat} {f3 : List (Nat × Nat)} {x4 : Int32} {x5 : Int32} {x6 : Int32} (ht3 : t3 < oa_nT) (hk3 : oa_kd t3 = (1, n3, f3)) (k : ((32 ≤ x6) → CL 0 d mX1_limitingPart [vR 1 i0, vI x1, vI x2, vR t3 i3, vI x4] h (oI fun r2 h1 => CL 0 d mX1_needOf [vR 1 i0, vI x2, vI r2] h1 (oI fun r4 h3 => ((r4 ≤ 0) → Qr (some (vI x4)) h3) ∧ ((¬ r4 ≤ 0) → CL 0 d mX1_leftAfter [vR 1 i0, vI x1, vR t3 i3, vI r2, vI x4] h3 (oJ fun r6 h5 => (¬ r4.toInt64 = 0) ∧ Qr (some (vI (x4 + ((r6 / r4.toInt64).toInt32)))) h5) Qx)) Qx) Qx) ∧ ((¬ 32 ≤ x6) → ((x5 ≤ x4) → CL 0 d mX1_limitingPart [vR 1 i0, vI x1, vI x2, vR t3 i3, vI x4] h (oI fun r8 h7 => CL 0 d mX1_needOf [vR 1 i0, vI x2, vI r8] h7 (oI fun r10 h9 => ((r10 ≤ 0) → Qr (some (vI x4)) h9) ∧ ((¬ r10 ≤ 0) → CL 0 d mX1_leftAfter [vR 1 i0, vI x1, vR t3 i3, vI r8, vI x4] h9 (oJ fun r12 h11 => (¬ r10.toInt64 = 0) ∧ Qr (some (vI (x4 + ((r12 / r10.toInt64).toInt32)))) h11) Qx)) Qx) Qx) ∧ ((¬ x5 ≤ x4) → CL 0 d mX1_oneMoreGains [vR 1 i0, vI x1, vI x2, vR t3 i3, vI (x4 + ((x5 - x4) / 2))] h (oI fun r14 h13 => ((r14 = 0) → AW X (d + 1) rb mX1_mostTogether 14 [(0, vR 1 i0), (1, vI x1), (2, vI x2), (3, vR t3 i3), (4, vI x4), (5, vI (x4 + ((x5 - x4) / 2))), (6, vI (x6 + 1))] [] h13 Qr Qx) ∧ ((¬ r14 = 0) → AW X (d + 1) rb mX1_mostTogether 14 [(0, vR 1 i0), (1, vI x1), (2, vI x2), (3, vR t3 i3), (4, vI ((x4 + ((x5 - x4) / 2)) + 1)), (5, vI x5), (6, vI (x6 + 1))] [] h13 Qr Qx)) Qx))) : AW X (d + 1) rb mX1_mostTogether 14 [(0, vR 1 i0), (1, vI x1), (2, vI x2), (3, vR t3 i3), (4, vI x4), (5, vI x5), (6, vI x6)] [] h Qr Qx := by
  refine aw_iload (j := 6) (i := 6) dX1_mostTogether_14 rfl rfl ?_
  refine aw_bipush (v := 32) dX1_mostTogether_16 rfl (by decide) ?_
  refine aw_icmp_ge 71 dX1_mostTogether_18 rfl rfl (fun c => ?_) (fun c => ?_)
  · replace k := k.1 c
    refine aw_aload_n (j := 0) (i := 0) dX1_mostTogether_71 rfl rfl rfl ?_
    refine aw_iload_n (j := 1) (i := 1) dX1_mostTogether_72 rfl rfl rfl ?_
    refine aw_iload_n (j := 2) (i := 2) dX1_mostTogether_73 rfl rfl rfl ?_
    refine aw_aload_n (j := 3) (i := 3) dX1_mostTogether_74 rfl rfl rfl ?_
    refine aw_iload (j := 4) (i := 4) dX1_mostTogether_75 rfl rfl ?_
    refine aw_callV (M' := mX1_limitingPart) (S := []) (as := [vI x1, vI x2, vR t3 i3, vI x4]) (k := 0) dX1_mostTogether_77 rfl (by decide) rfl rfl gw_1209 gw_1211 gw_22 mb_X1_limitingPart rfl (Nat.zero_le _) (Nat.le_of_ble_eq_true rfl) rfl (CL.imp k (fun _ h1 k => ?_) (fun _ _ k => k))
    obtain ⟨r2, rfl, k⟩ := oI_of k
    show AW X (d + 1) rb mX1_mostTogether 80 _ [vI r2] h1 Qr Qx
    refine aw_istore (i := 6) (L2 := [(6, vI r2), (0, vR 1 i0), (1, vI x1), (2, vI x2), (3, vR t3 i3), (4, vI x4), (5, vI x5)]) dX1_mostTogether_80 rfl (by decide) rfl ?_
    refine aw_aload_n (j := 1) (i := 0) dX1_mostTogether_82 rfl rfl rfl ?_
    refine aw_iload_n (j := 3) (i := 2) dX1_mostTogether_83 rfl rfl rfl ?_
    refine aw_iload (j := 0) (i := 6) dX1_mostTogether_84 rfl rfl ?_
    refine aw_callV (M' := mX1_needOf) (S := []) (as := [vI x2, vI r2]) (k := 0) dX1_mostTogether_86 rfl (by decide) rfl rfl gw_607 gw_509 gw_510 mb_X1_needOf rfl (Nat.zero_le _) (Nat.le_of_ble_eq_true rfl) rfl (CL.imp k (fun _ h3 k => ?_) (fun _ _ k => k))
    obtain ⟨r4, rfl, k⟩ := oI_of k
    show AW X (d + 1) rb mX1_mostTogether 89 _ [vI r4] h3 Qr Qx
    refine aw_istore (i := 7) (L2 := [(7, vI r4), (6, vI r2), (0, vR 1 i0), (1, vI x1), (2, vI x2), (3, vR t3 i3), (4, vI x4), (5, vI x5)]) dX1_mostTogether_89 rfl (by decide) rfl ?_
    refine aw_iload (j := 0) (i := 7) dX1_mostTogether_91 rfl rfl ?_
    refine aw_if_le 117 dX1_mostTogether_93 rfl rfl (fun c => ?_) (fun c => ?_)
    · replace k := k.1 c
      refine aw_iload (j := 6) (i := 4) dX1_mostTogether_117 rfl rfl ?_
      exact aw_iret dX1_mostTogether_119 rfl k
    · replace k := k.2 c
      refine aw_iload (j := 6) (i := 4) dX1_mostTogether_96 rfl rfl ?_
      refine aw_aload_n (j := 2) (i := 0) dX1_mostTogether_98 rfl rfl rfl ?_
      refine aw_iload_n (j := 3) (i := 1) dX1_mostTogether_99 rfl rfl rfl ?_
      refine aw_aload_n (j := 5) (i := 3) dX1_mostTogether_100 rfl rfl rfl ?_
      refine aw_iload (j := 1) (i := 6) dX1_mostTogether_101 rfl rfl ?_
      refine aw_iload (j := 6) (i := 4) dX1_mostTogether_103 rfl rfl ?_
      refine aw_callV (M' := mX1_leftAfter) (S := [vI x4]) (as := [vI x1, vR t3 i3, vI r2, vI x4]) (k := 0) dX1_mostTogether_105 rfl (by decide) rfl rfl gw_1213 gw_1215 gw_23 mb_X1_leftAfter rfl (Nat.zero_le _) (Nat.le_of_ble_eq_true rfl) rfl (CL.imp k (fun _ h5 k => ?_) (fun _ _ k => k))
      obtain ⟨r6, rfl, k⟩ := oJ_of k
      show AW X (d + 1) rb mX1_mostTogether 108 _ [vJ r6, vI x4] h5 Qr Qx
      refine aw_iload (j := 0) (i := 7) dX1_mostTogether_108 rfl rfl ?_
      refine aw_i2l dX1_mostTogether_110 rfl ?_
      refine aw_ldiv dX1_mostTogether_111 rfl k.1 ?_
      replace k := k.2
      refine aw_l2i dX1_mostTogether_112 rfl ?_
      refine aw_iadd dX1_mostTogether_113 rfl ?_
      refine aw_goto 119 dX1_mostTogether_114 rfl ?_
      exact aw_iret dX1_mostTogether_119 rfl k
  · replace k := k.2 c
    refine aw_iload (j := 4) (i := 4) dX1_mostTogether_21 rfl rfl ?_
    refine aw_iload (j := 5) (i := 5) dX1_mostTogether_23 rfl rfl ?_
    refine aw_icmp_ge 71 dX1_mostTogether_25 rfl rfl (fun c => ?_) (fun c => ?_)
    · replace k := k.1 c
      refine aw_aload_n (j := 0) (i := 0) dX1_mostTogether_71 rfl rfl rfl ?_
      refine aw_iload_n (j := 1) (i := 1) dX1_mostTogether_72 rfl rfl rfl ?_
      refine aw_iload_n (j := 2) (i := 2) dX1_mostTogether_73 rfl rfl rfl ?_
      refine aw_aload_n (j := 3) (i := 3) dX1_mostTogether_74 rfl rfl rfl ?_
      refine aw_iload (j := 4) (i := 4) dX1_mostTogether_75 rfl rfl ?_
      refine aw_callV (M' := mX1_limitingPart) (S := []) (as := [vI x1, vI x2, vR t3 i3, vI x4]) (k := 0) dX1_mostTogether_77 rfl (by decide) rfl rfl gw_1209 gw_1211 gw_22 mb_X1_limitingPart rfl (Nat.zero_le _) (Nat.le_of_ble_eq_true rfl) rfl (CL.imp k (fun _ h7 k => ?_) (fun _ _ k => k))
      obtain ⟨r8, rfl, k⟩ := oI_of k
      show AW X (d + 1) rb mX1_mostTogether 80 _ [vI r8] h7 Qr Qx
      refine aw_istore (i := 6) (L2 := [(6, vI r8), (0, vR 1 i0), (1, vI x1), (2, vI x2), (3, vR t3 i3), (4, vI x4), (5, vI x5)]) dX1_mostTogether_80 rfl (by decide) rfl ?_
      refine aw_aload_n (j := 1) (i := 0) dX1_mostTogether_82 rfl rfl rfl ?_
      refine aw_iload_n (j := 3) (i := 2) dX1_mostTogether_83 rfl rfl rfl ?_
      refine aw_iload (j := 0) (i := 6) dX1_mostTogether_84 rfl rfl ?_
      refine aw_callV (M' := mX1_needOf) (S := []) (as := [vI x2, vI r8]) (k := 0) dX1_mostTogether_86 rfl (by decide) rfl rfl gw_607 gw_509 gw_510 mb_X1_needOf rfl (Nat.zero_le _) (Nat.le_of_ble_eq_true rfl) rfl (CL.imp k (fun _ h9 k => ?_) (fun _ _ k => k))
      obtain ⟨r10, rfl, k⟩ := oI_of k
      show AW X (d + 1) rb mX1_mostTogether 89 _ [vI r10] h9 Qr Qx
      refine aw_istore (i := 7) (L2 := [(7, vI r10), (6, vI r8), (0, vR 1 i0), (1, vI x1), (2, vI x2), (3, vR t3 i3), (4, vI x4), (5, vI x5)]) dX1_mostTogether_89 rfl (by decide) rfl ?_
      refine aw_iload (j := 0) (i := 7) dX1_mostTogether_91 rfl rfl ?_
      refine aw_if_le 117 dX1_mostTogether_93 rfl rfl (fun c => ?_) (fun c => ?_)
      · replace k := k.1 c
        refine aw_iload (j := 6) (i := 4) dX1_mostTogether_117 rfl rfl ?_
        exact aw_iret dX1_mostTogether_119 rfl k
      · replace k := k.2 c
        refine aw_iload (j := 6) (i := 4) dX1_mostTogether_96 rfl rfl ?_
        refine aw_aload_n (j := 2) (i := 0) dX1_mostTogether_98 rfl rfl rfl ?_
        refine aw_iload_n (j := 3) (i := 1) dX1_mostTogether_99 rfl rfl rfl ?_
        refine aw_aload_n (j := 5) (i := 3) dX1_mostTogether_100 rfl rfl rfl ?_
        refine aw_iload (j := 1) (i := 6) dX1_mostTogether_101 rfl rfl ?_
        refine aw_iload (j := 6) (i := 4) dX1_mostTogether_103 rfl rfl ?_
        refine aw_callV (M' := mX1_leftAfter) (S := [vI x4]) (as := [vI x1, vR t3 i3, vI r8, vI x4]) (k := 0) dX1_mostTogether_105 rfl (by decide) rfl rfl gw_1213 gw_1215 gw_23 mb_X1_leftAfter rfl (Nat.zero_le _) (Nat.le_of_ble_eq_true rfl) rfl (CL.imp k (fun _ h11 k => ?_) (fun _ _ k => k))
        obtain ⟨r12, rfl, k⟩ := oJ_of k
        show AW X (d + 1) rb mX1_mostTogether 108 _ [vJ r12, vI x4] h11 Qr Qx
        refine aw_iload (j := 0) (i := 7) dX1_mostTogether_108 rfl rfl ?_
        refine aw_i2l dX1_mostTogether_110 rfl ?_
        refine aw_ldiv dX1_mostTogether_111 rfl k.1 ?_
        replace k := k.2
        refine aw_l2i dX1_mostTogether_112 rfl ?_
        refine aw_iadd dX1_mostTogether_113 rfl ?_
        refine aw_goto 119 dX1_mostTogether_114 rfl ?_
        exact aw_iret dX1_mostTogether_119 rfl k
    · replace k := k.2 c
      refine aw_iload (j := 4) (i := 4) dX1_mostTogether_28 rfl rfl ?_
      refine aw_iload (j := 5) (i := 5) dX1_mostTogether_30 rfl rfl ?_
      refine aw_iload (j := 4) (i := 4) dX1_mostTogether_32 rfl rfl ?_
      refine aw_isub dX1_mostTogether_34 rfl ?_
      refine aw_iconst (v := 2) dX1_mostTogether_35 rfl (by decide) ?_
      refine aw_idiv dX1_mostTogether_36 rfl (by decide) ?_
      refine aw_iadd dX1_mostTogether_37 rfl ?_
      refine aw_istore (i := 7) (L2 := [(7, vI (x4 + ((x5 - x4) / 2))), (0, vR 1 i0), (1, vI x1), (2, vI x2), (3, vR t3 i3), (4, vI x4), (5, vI x5), (6, vI x6)]) dX1_mostTogether_38 rfl (by decide) rfl ?_
      refine aw_aload_n (j := 1) (i := 0) dX1_mostTogether_40 rfl rfl rfl ?_
      refine aw_iload_n (j := 2) (i := 1) dX1_mostTogether_41 rfl rfl rfl ?_
      refine aw_iload_n (j := 3) (i := 2) dX1_mostTogether_42 rfl rfl rfl ?_
      refine aw_aload_n (j := 4) (i := 3) dX1_mostTogether_43 rfl rfl rfl ?_
      refine aw_iload (j := 0) (i := 7) dX1_mostTogether_44 rfl rfl ?_
      refine aw_callV (M' := mX1_oneMoreGains) (S := []) (as := [vI x1, vI x2, vR t3 i3, vI (x4 + ((x5 - x4) / 2))]) (k := 0) dX1_mostTogether_46 rfl (by decide) rfl rfl gw_1205 gw_1207 gw_21 mb_X1_oneMoreGains rfl (Nat.zero_le _) (Nat.le_of_ble_eq_true rfl) rfl (CL.imp k (fun _ h13 k => ?_) (fun _ _ k => k))
      obtain ⟨r14, rfl, k⟩ := oI_of k
      show AW X (d + 1) rb mX1_mostTogether 49 _ [vI r14] h13 Qr Qx
      refine aw_if_eq 61 dX1_mostTogether_49 rfl rfl (fun c => ?_) (fun c => ?_)
      · replace k := k.1 c
        refine aw_iload (j := 0) (i := 7) dX1_mostTogether_61 rfl rfl ?_
        refine aw_istore (i := 5) (L2 := [(5, vI (x4 + ((x5 - x4) / 2))), (7, vI (x4 + ((x5 - x4) / 2))), (0, vR 1 i0), (1, vI x1), (2, vI x2), (3, vR t3 i3), (4, vI x4), (6, vI x6)]) dX1_mostTogether_63 rfl (by decide) rfl ?_
        refine aw_iinc (i := 6) (j := 7) (v := x6 + 1) (L2 := [(6, vI (x6 + 1)), (5, vI (x4 + ((x5 - x4) / 2))), (7, vI (x4 + ((x5 - x4) / 2))), (0, vR 1 i0), (1, vI x1), (2, vI x2), (3, vR t3 i3), (4, vI x4)]) dX1_mostTogether_65 rfl (by decide) rfl rfl rfl ?_
        refine aw_goto 14 dX1_mostTogether_68 rfl ?_
        exact aw_sub [3, 4, 5, 6, 7, 1, 0] rfl k
      · replace k := k.2 c
        refine aw_iload (j := 0) (i := 7) dX1_mostTogether_52 rfl rfl ?_
        refine aw_iconst (v := 1) dX1_mostTogether_54 rfl (by decide) ?_
        refine aw_iadd dX1_mostTogether_55 rfl ?_
        refine aw_istore (i := 4) (L2 := [(4, vI ((x4 + ((x5 - x4) / 2)) + 1)), (7, vI (x4 + ((x5 - x4) / 2))), (0, vR 1 i0), (1, vI x1), (2, vI x2), (3, vR t3 i3), (5, vI x5), (6, vI x6)]) dX1_mostTogether_56 rfl (by decide) rfl ?_
        refine aw_goto 65 dX1_mostTogether_58 rfl ?_
        refine aw_iinc (i := 6) (j := 7) (v := x6 + 1) (L2 := [(6, vI (x6 + 1)), (4, vI ((x4 + ((x5 - x4) / 2)) + 1)), (7, vI (x4 + ((x5 - x4) / 2))), (0, vR 1 i0), (1, vI x1), (2, vI x2), (3, vR t3 i3), (5, vI x5)]) dX1_mostTogether_65 rfl (by decide) rfl rfl rfl ?_
        refine aw_goto 14 dX1_mostTogether_68 rfl ?_
        exact aw_sub [3, 4, 5, 6, 1, 7, 0] rfl k
set_option maxHeartbeats 4000000 in
set_option maxRecDepth 100000 in
theorem vc_X1_oneMoreGains_0 {X : WD → State → Prop} {d rb : Nat} {h : Hp} {Qr : Option AV → Hp → Prop} {Qx : String → Hp → Prop} {i0 : Nat} {a1 : Int32} {a2 : Int32} {t3 i3 n3 : Nat} {f3 : List (Nat × Nat)} {a4 : Int32} (ht3 : t3 < oa_nT) (hk3 : oa_kd t3 = (1, n3, f3)) (k : CL 0 d mX1_limitingPart [vR 1 i0, vI a1, vI a2, vR t3 i3, vI a4] h (oI fun r2 h1 => CL 0 d mX1_limitingPart [vR 1 i0, vI a1, vI a2, vR t3 i3, vI (a4 + 1)] h1 (oI fun r4 h3 => CL 0 d mX1_needOf [vR 1 i0, vI a2, vI r2] h3 (oI fun r6 h5 => CL 0 d mX1_needOf [vR 1 i0, vI a2, vI r4] h5 (oI fun r8 h7 => CL 0 d mX1_leftAfter [vR 1 i0, vI a1, vR t3 i3, vI r2, vI a4] h7 (oJ fun r10 h9 => CL 0 d mX1_leftAfter [vR 1 i0, vI a1, vR t3 i3, vI r4, vI (a4 + 1)] h9 (oJ fun r12 h11 => ((if (lg_cmp ((r12 + r8.toInt64) * r6.toInt64) (r10 * r8.toInt64)) ≤ 0 then (0 : Int32) else 1) = 0 ∨ (if (lg_cmp ((r12 + r8.toInt64) * r6.toInt64) (r10 * r8.toInt64)) ≤ 0 then (0 : Int32) else 1) = 1) ∧ Qr (some (vI (if (lg_cmp ((r12 + r8.toInt64) * r6.toInt64) (r10 * r8.toInt64)) ≤ 0 then (0 : Int32) else 1))) h11) Qx) Qx) Qx) Qx) Qx) Qx) : AW X (d + 1) rb mX1_oneMoreGains 0 [(0, vR 1 i0), (1, vI a1), (2, vI a2), (3, vR t3 i3), (4, vI a4)] [] h Qr Qx := by
  refine aw_aload_n (j := 0) (i := 0) dX1_oneMoreGains_0 rfl rfl rfl ?_
  refine aw_iload_n (j := 1) (i := 1) dX1_oneMoreGains_1 rfl rfl rfl ?_
  refine aw_iload_n (j := 2) (i := 2) dX1_oneMoreGains_2 rfl rfl rfl ?_
  refine aw_aload_n (j := 3) (i := 3) dX1_oneMoreGains_3 rfl rfl rfl ?_
  refine aw_iload (j := 4) (i := 4) dX1_oneMoreGains_4 rfl rfl ?_
  refine aw_callV (M' := mX1_limitingPart) (S := []) (as := [vI a1, vI a2, vR t3 i3, vI a4]) (k := 0) dX1_oneMoreGains_6 rfl (by decide) rfl rfl gw_1209 gw_1211 gw_22 mb_X1_limitingPart rfl (Nat.zero_le _) (Nat.le_of_ble_eq_true rfl) rfl (CL.imp k (fun _ h1 k => ?_) (fun _ _ k => k))
  obtain ⟨r2, rfl, k⟩ := oI_of k
  show AW X (d + 1) rb mX1_oneMoreGains 9 _ [vI r2] h1 Qr Qx
  refine aw_istore (i := 5) (L2 := [(5, vI r2), (0, vR 1 i0), (1, vI a1), (2, vI a2), (3, vR t3 i3), (4, vI a4)]) dX1_oneMoreGains_9 rfl (by decide) rfl ?_
  refine aw_aload_n (j := 1) (i := 0) dX1_oneMoreGains_11 rfl rfl rfl ?_
  refine aw_iload_n (j := 2) (i := 1) dX1_oneMoreGains_12 rfl rfl rfl ?_
  refine aw_iload_n (j := 3) (i := 2) dX1_oneMoreGains_13 rfl rfl rfl ?_
  refine aw_aload_n (j := 4) (i := 3) dX1_oneMoreGains_14 rfl rfl rfl ?_
  refine aw_iload (j := 5) (i := 4) dX1_oneMoreGains_15 rfl rfl ?_
  refine aw_iconst (v := 1) dX1_oneMoreGains_17 rfl (by decide) ?_
  refine aw_iadd dX1_oneMoreGains_18 rfl ?_
  refine aw_callV (M' := mX1_limitingPart) (S := []) (as := [vI a1, vI a2, vR t3 i3, vI (a4 + 1)]) (k := 0) dX1_oneMoreGains_19 rfl (by decide) rfl rfl gw_1209 gw_1211 gw_22 mb_X1_limitingPart rfl (Nat.zero_le _) (Nat.le_of_ble_eq_true rfl) rfl (CL.imp k (fun _ h3 k => ?_) (fun _ _ k => k))
  obtain ⟨r4, rfl, k⟩ := oI_of k
  show AW X (d + 1) rb mX1_oneMoreGains 22 _ [vI r4] h3 Qr Qx
  refine aw_istore (i := 6) (L2 := [(6, vI r4), (5, vI r2), (0, vR 1 i0), (1, vI a1), (2, vI a2), (3, vR t3 i3), (4, vI a4)]) dX1_oneMoreGains_22 rfl (by decide) rfl ?_
  refine aw_aload_n (j := 2) (i := 0) dX1_oneMoreGains_24 rfl rfl rfl ?_
  refine aw_iload_n (j := 4) (i := 2) dX1_oneMoreGains_25 rfl rfl rfl ?_
  refine aw_iload (j := 1) (i := 5) dX1_oneMoreGains_26 rfl rfl ?_
  refine aw_callV (M' := mX1_needOf) (S := []) (as := [vI a2, vI r2]) (k := 0) dX1_oneMoreGains_28 rfl (by decide) rfl rfl gw_607 gw_509 gw_510 mb_X1_needOf rfl (Nat.zero_le _) (Nat.le_of_ble_eq_true rfl) rfl (CL.imp k (fun _ h5 k => ?_) (fun _ _ k => k))
  obtain ⟨r6, rfl, k⟩ := oI_of k
  show AW X (d + 1) rb mX1_oneMoreGains 31 _ [vI r6] h5 Qr Qx
  refine aw_i2l dX1_oneMoreGains_31 rfl ?_
  refine aw_lstore (i := 7) (L2 := [(7, vJ r6.toInt64), (6, vI r4), (5, vI r2), (0, vR 1 i0), (1, vI a1), (2, vI a2), (3, vR t3 i3), (4, vI a4)]) dX1_oneMoreGains_32 rfl (by decide) rfl ?_
  refine aw_aload_n (j := 3) (i := 0) dX1_oneMoreGains_34 rfl rfl rfl ?_
  refine aw_iload_n (j := 5) (i := 2) dX1_oneMoreGains_35 rfl rfl rfl ?_
  refine aw_iload (j := 1) (i := 6) dX1_oneMoreGains_36 rfl rfl ?_
  refine aw_callV (M' := mX1_needOf) (S := []) (as := [vI a2, vI r4]) (k := 0) dX1_oneMoreGains_38 rfl (by decide) rfl rfl gw_607 gw_509 gw_510 mb_X1_needOf rfl (Nat.zero_le _) (Nat.le_of_ble_eq_true rfl) rfl (CL.imp k (fun _ h7 k => ?_) (fun _ _ k => k))
  obtain ⟨r8, rfl, k⟩ := oI_of k
  show AW X (d + 1) rb mX1_oneMoreGains 41 _ [vI r8] h7 Qr Qx
  refine aw_i2l dX1_oneMoreGains_41 rfl ?_
  refine aw_lstore (i := 9) (L2 := [(9, vJ r8.toInt64), (7, vJ r6.toInt64), (6, vI r4), (5, vI r2), (0, vR 1 i0), (1, vI a1), (2, vI a2), (3, vR t3 i3), (4, vI a4)]) dX1_oneMoreGains_42 rfl (by decide) rfl ?_
  refine aw_aload_n (j := 4) (i := 0) dX1_oneMoreGains_44 rfl rfl rfl ?_
  refine aw_iload_n (j := 5) (i := 1) dX1_oneMoreGains_45 rfl rfl rfl ?_
  refine aw_aload_n (j := 7) (i := 3) dX1_oneMoreGains_46 rfl rfl rfl ?_
  refine aw_iload (j := 3) (i := 5) dX1_oneMoreGains_47 rfl rfl ?_
  refine aw_iload (j := 8) (i := 4) dX1_oneMoreGains_49 rfl rfl ?_
  refine aw_callV (M' := mX1_leftAfter) (S := []) (as := [vI a1, vR t3 i3, vI r2, vI a4]) (k := 0) dX1_oneMoreGains_51 rfl (by decide) rfl rfl gw_1213 gw_1215 gw_23 mb_X1_leftAfter rfl (Nat.zero_le _) (Nat.le_of_ble_eq_true rfl) rfl (CL.imp k (fun _ h9 k => ?_) (fun _ _ k => k))
  obtain ⟨r10, rfl, k⟩ := oJ_of k
  show AW X (d + 1) rb mX1_oneMoreGains 54 _ [vJ r10] h9 Qr Qx
  refine aw_lstore (i := 11) (L2 := [(11, vJ r10), (9, vJ r8.toInt64), (7, vJ r6.toInt64), (6, vI r4), (5, vI r2), (0, vR 1 i0), (1, vI a1), (2, vI a2), (3, vR t3 i3), (4, vI a4)]) dX1_oneMoreGains_54 rfl (by decide) rfl ?_
  refine aw_aload_n (j := 5) (i := 0) dX1_oneMoreGains_56 rfl rfl rfl ?_
  refine aw_iload_n (j := 6) (i := 1) dX1_oneMoreGains_57 rfl rfl rfl ?_
  refine aw_aload_n (j := 8) (i := 3) dX1_oneMoreGains_58 rfl rfl rfl ?_
  refine aw_iload (j := 3) (i := 6) dX1_oneMoreGains_59 rfl rfl ?_
  refine aw_iload (j := 9) (i := 4) dX1_oneMoreGains_61 rfl rfl ?_
  refine aw_iconst (v := 1) dX1_oneMoreGains_63 rfl (by decide) ?_
  refine aw_iadd dX1_oneMoreGains_64 rfl ?_
  refine aw_callV (M' := mX1_leftAfter) (S := []) (as := [vI a1, vR t3 i3, vI r4, vI (a4 + 1)]) (k := 0) dX1_oneMoreGains_65 rfl (by decide) rfl rfl gw_1213 gw_1215 gw_23 mb_X1_leftAfter rfl (Nat.zero_le _) (Nat.le_of_ble_eq_true rfl) rfl (CL.imp k (fun _ h11 k => ?_) (fun _ _ k => k))
  obtain ⟨r12, rfl, k⟩ := oJ_of k
  show AW X (d + 1) rb mX1_oneMoreGains 68 _ [vJ r12] h11 Qr Qx
  refine aw_lstore (i := 13) (L2 := [(13, vJ r12), (11, vJ r10), (9, vJ r8.toInt64), (7, vJ r6.toInt64), (6, vI r4), (5, vI r2), (0, vR 1 i0), (1, vI a1), (2, vI a2), (3, vR t3 i3), (4, vI a4)]) dX1_oneMoreGains_68 rfl (by decide) rfl ?_
  refine aw_lload (j := 0) (i := 13) dX1_oneMoreGains_70 rfl rfl ?_
  refine aw_lload (j := 2) (i := 9) dX1_oneMoreGains_72 rfl rfl ?_
  refine aw_ladd dX1_oneMoreGains_74 rfl ?_
  refine aw_lload (j := 3) (i := 7) dX1_oneMoreGains_75 rfl rfl ?_
  refine aw_lmul dX1_oneMoreGains_77 rfl ?_
  refine aw_lload (j := 1) (i := 11) dX1_oneMoreGains_78 rfl rfl ?_
  refine aw_lload (j := 2) (i := 9) dX1_oneMoreGains_80 rfl rfl ?_
  refine aw_lmul dX1_oneMoreGains_82 rfl ?_
  refine aw_lcmp dX1_oneMoreGains_83 rfl ?_
  have kk : AW X (d + 1) rb mX1_oneMoreGains 92 [(13, vJ r12), (11, vJ r10), (9, vJ r8.toInt64), (7, vJ r6.toInt64), (6, vI r4), (5, vI r2), (0, vR 1 i0), (1, vI a1), (2, vI a2), (3, vR t3 i3), (4, vI a4)] [vI (if (lg_cmp ((r12 + r8.toInt64) * r6.toInt64) (r10 * r8.toInt64)) ≤ 0 then (0 : Int32) else 1)] h11 Qr Qx := by
    exact aw_zret dX1_oneMoreGains_92 rfl k.1 k.2
  refine aw_if_le 91 dX1_oneMoreGains_84 rfl rfl (fun (c0 : (lg_cmp ((r12 + r8.toInt64) * r6.toInt64) (r10 * r8.toInt64)) ≤ 0) => ?_) (fun (c0 : ¬ (lg_cmp ((r12 + r8.toInt64) * r6.toInt64) (r10 * r8.toInt64)) ≤ 0) => ?_)
  · refine aw_iconst (v := 0) dX1_oneMoreGains_91 rfl (by decide) ?_
    simp only [if_pos c0] at kk
    exact kk
  · refine aw_iconst (v := 1) dX1_oneMoreGains_87 rfl (by decide) ?_
    refine aw_goto 92 dX1_oneMoreGains_88 rfl ?_
    simp only [if_neg c0] at kk
    exact kk
set_option maxHeartbeats 4000000 in
set_option maxRecDepth 100000 in
theorem vc_X1_limitingPart_0 {X : WD → State → Prop} {d rb : Nat} {h : Hp} {Qr : Option AV → Hp → Prop} {Qx : String → Hp → Prop} {i0 : Nat} {a1 : Int32} {a2 : Int32} {t3 i3 n3 : Nat} {f3 : List (Nat × Nat)} {a4 : Int32} (ht3 : t3 < oa_nT) (hk3 : oa_kd t3 = (1, n3, f3)) (k : AW X (d + 1) rb mX1_limitingPart 6 [(0, vR 1 i0), (1, vI a1), (2, vI a2), (3, vR t3 i3), (4, vI a4), (5, vI (-1)), (6, vI 0)] [] h Qr Qx) : AW X (d + 1) rb mX1_limitingPart 0 [(0, vR 1 i0), (1, vI a1), (2, vI a2), (3, vR t3 i3), (4, vI a4)] [] h Qr Qx := by
  refine aw_iconst (v := (-1)) dX1_limitingPart_0 rfl (by decide) ?_
  refine aw_istore (i := 5) (L2 := [(5, vI (-1)), (0, vR 1 i0), (1, vI a1), (2, vI a2), (3, vR t3 i3), (4, vI a4)]) dX1_limitingPart_1 rfl (by decide) rfl ?_
  refine aw_iconst (v := 0) dX1_limitingPart_3 rfl (by decide) ?_
  refine aw_istore (i := 6) (L2 := [(6, vI 0), (5, vI (-1)), (0, vR 1 i0), (1, vI a1), (2, vI a2), (3, vR t3 i3), (4, vI a4)]) dX1_limitingPart_4 rfl (by decide) rfl ?_
  exact aw_sub [2, 3, 4, 5, 6, 1, 0] rfl k
set_option maxHeartbeats 4000000 in
set_option maxRecDepth 100000 in
theorem vc_X1_limitingPart_6 {X : WD → State → Prop} {d rb : Nat} {h : Hp} {Qr : Option AV → Hp → Prop} {Qx : String → Hp → Prop} {i0 : Nat} {x1 : Int32} {x2 : Int32} {t3 i3 n3 : Nat} {f3 : List (Nat × Nat)} {x4 : Int32} {x5 : Int32} {x6 : Int32} (ht3 : t3 < oa_nT) (hk3 : oa_kd t3 = (1, n3, f3)) (k : (((h.1 1 i0 0) ≤ x6) → Qr (some (vI x5)) h) ∧ ((¬ (h.1 1 i0 0) ≤ x6) → CL 0 d mX1_needOf [vR 1 i0, vI x2, vI x6] h (oI fun r2 h1 => (((lg_cmp r2.toInt64 0) ≤ 0) → AW X (d + 1) rb mX1_limitingPart 6 [(0, vR 1 i0), (1, vI x1), (2, vI x2), (3, vR t3 i3), (4, vI x4), (5, vI x5), (6, vI (x6 + 1))] [] h1 Qr Qx) ∧ ((¬ (lg_cmp r2.toInt64 0) ≤ 0) → ((x5 = (-1)) → AW X (d + 1) rb mX1_limitingPart 6 [(0, vR 1 i0), (1, vI x1), (2, vI x2), (3, vR t3 i3), (4, vI x4), (5, vI x6), (6, vI (x6 + 1))] [] h1 Qr Qx) ∧ ((¬ x5 = (-1)) → CL 0 d mX1_leftAfter [vR 1 i0, vI x1, vR t3 i3, vI x6, vI x4] h1 (oJ fun r4 h3 => CL 0 d mX1_needOf [vR 1 i0, vI x2, vI x5] h3 (oI fun r6 h5 => CL 0 d mX1_leftAfter [vR 1 i0, vI x1, vR t3 i3, vI x5, vI x4] h5 (oJ fun r8 h7 => ((0 ≤ (lg_cmp (r4 * r6.toInt64) (r8 * r2.toInt64))) → AW X (d + 1) rb mX1_limitingPart 6 [(0, vR 1 i0), (1, vI x1), (2, vI x2), (3, vR t3 i3), (4, vI x4), (5, vI x5), (6, vI (x6 + 1))] [] h7 Qr Qx) ∧ ((¬ 0 ≤ (lg_cmp (r4 * r6.toInt64) (r8 * r2.toInt64))) → AW X (d + 1) rb mX1_limitingPart 6 [(0, vR 1 i0), (1, vI x1), (2, vI x2), (3, vR t3 i3), (4, vI x4), (5, vI x6), (6, vI (x6 + 1))] [] h7 Qr Qx)) Qx) Qx) Qx))) Qx)) : AW X (d + 1) rb mX1_limitingPart 6 [(0, vR 1 i0), (1, vI x1), (2, vI x2), (3, vR t3 i3), (4, vI x4), (5, vI x5), (6, vI x6)] [] h Qr Qx := by
  refine aw_iload (j := 6) (i := 6) dX1_limitingPart_6 rfl rfl ?_
  refine aw_aload_n (j := 0) (i := 0) dX1_limitingPart_8 rfl rfl rfl ?_
  refine aw_geti (k := 0) dX1_limitingPart_9 rfl (by decide) rfl rfl cb_1 (by decide) gw_172 ?_
  refine aw_icmp_ge 84 dX1_limitingPart_12 rfl rfl (fun c => ?_) (fun c => ?_)
  · replace k := k.1 c
    refine aw_iload (j := 5) (i := 5) dX1_limitingPart_84 rfl rfl ?_
    exact aw_iret dX1_limitingPart_86 rfl k
  · replace k := k.2 c
    refine aw_aload_n (j := 0) (i := 0) dX1_limitingPart_15 rfl rfl rfl ?_
    refine aw_iload_n (j := 2) (i := 2) dX1_limitingPart_16 rfl rfl rfl ?_
    refine aw_iload (j := 6) (i := 6) dX1_limitingPart_17 rfl rfl ?_
    refine aw_callV (M' := mX1_needOf) (S := []) (as := [vI x2, vI x6]) (k := 0) dX1_limitingPart_19 rfl (by decide) rfl rfl gw_607 gw_509 gw_510 mb_X1_needOf rfl (Nat.zero_le _) (Nat.le_of_ble_eq_true rfl) rfl (CL.imp k (fun _ h1 k => ?_) (fun _ _ k => k))
    obtain ⟨r2, rfl, k⟩ := oI_of k
    show AW X (d + 1) rb mX1_limitingPart 22 _ [vI r2] h1 Qr Qx
    refine aw_i2l dX1_limitingPart_22 rfl ?_
    refine aw_lstore (i := 7) (L2 := [(7, vJ r2.toInt64), (0, vR 1 i0), (1, vI x1), (2, vI x2), (3, vR t3 i3), (4, vI x4), (5, vI x5), (6, vI x6)]) dX1_limitingPart_23 rfl (by decide) rfl ?_
    refine aw_lload (j := 0) (i := 7) dX1_limitingPart_25 rfl rfl ?_
    refine aw_lconst (v := 0) dX1_limitingPart_27 rfl (by decide) ?_
    refine aw_lcmp dX1_limitingPart_28 rfl ?_
    refine aw_if_le 78 dX1_limitingPart_29 rfl rfl (fun c => ?_) (fun c => ?_)
    · replace k := k.1 c
      refine aw_iinc (i := 6) (j := 7) (v := x6 + 1) (L2 := [(6, vI (x6 + 1)), (7, vJ r2.toInt64), (0, vR 1 i0), (1, vI x1), (2, vI x2), (3, vR t3 i3), (4, vI x4), (5, vI x5)]) dX1_limitingPart_78 rfl (by decide) rfl rfl rfl ?_
      refine aw_goto 6 dX1_limitingPart_81 rfl ?_
      exact aw_sub [2, 3, 4, 5, 6, 7, 0] rfl k
    · replace k := k.2 c
      refine aw_iload (j := 6) (i := 5) dX1_limitingPart_32 rfl rfl ?_
      refine aw_iconst (v := (-1)) dX1_limitingPart_34 rfl (by decide) ?_
      refine aw_icmp_eq 74 dX1_limitingPart_35 rfl rfl (fun c => ?_) (fun c => ?_)
      · replace k := k.1 c
        refine aw_iload (j := 7) (i := 6) dX1_limitingPart_74 rfl rfl ?_
        refine aw_istore (i := 5) (L2 := [(5, vI x6), (7, vJ r2.toInt64), (0, vR 1 i0), (1, vI x1), (2, vI x2), (3, vR t3 i3), (4, vI x4), (6, vI x6)]) dX1_limitingPart_76 rfl (by decide) rfl ?_
        refine aw_iinc (i := 6) (j := 7) (v := x6 + 1) (L2 := [(6, vI (x6 + 1)), (5, vI x6), (7, vJ r2.toInt64), (0, vR 1 i0), (1, vI x1), (2, vI x2), (3, vR t3 i3), (4, vI x4)]) dX1_limitingPart_78 rfl (by decide) rfl rfl rfl ?_
        refine aw_goto 6 dX1_limitingPart_81 rfl ?_
        exact aw_sub [3, 4, 5, 6, 7, 1, 0] rfl k
      · replace k := k.2 c
        refine aw_aload_n (j := 1) (i := 0) dX1_limitingPart_38 rfl rfl rfl ?_
        refine aw_iload_n (j := 2) (i := 1) dX1_limitingPart_39 rfl rfl rfl ?_
        refine aw_aload_n (j := 4) (i := 3) dX1_limitingPart_40 rfl rfl rfl ?_
        refine aw_iload (j := 7) (i := 6) dX1_limitingPart_41 rfl rfl ?_
        refine aw_iload (j := 5) (i := 4) dX1_limitingPart_43 rfl rfl ?_
        refine aw_callV (M' := mX1_leftAfter) (S := []) (as := [vI x1, vR t3 i3, vI x6, vI x4]) (k := 0) dX1_limitingPart_45 rfl (by decide) rfl rfl gw_1213 gw_1215 gw_23 mb_X1_leftAfter rfl (Nat.zero_le _) (Nat.le_of_ble_eq_true rfl) rfl (CL.imp k (fun _ h3 k => ?_) (fun _ _ k => k))
        obtain ⟨r4, rfl, k⟩ := oJ_of k
        show AW X (d + 1) rb mX1_limitingPart 48 _ [vJ r4] h3 Qr Qx
        refine aw_aload_n (j := 1) (i := 0) dX1_limitingPart_48 rfl rfl rfl ?_
        refine aw_iload_n (j := 3) (i := 2) dX1_limitingPart_49 rfl rfl rfl ?_
        refine aw_iload (j := 6) (i := 5) dX1_limitingPart_50 rfl rfl ?_
        refine aw_callV (M' := mX1_needOf) (S := [vJ r4]) (as := [vI x2, vI x5]) (k := 0) dX1_limitingPart_52 rfl (by decide) rfl rfl gw_607 gw_509 gw_510 mb_X1_needOf rfl (Nat.zero_le _) (Nat.le_of_ble_eq_true rfl) rfl (CL.imp k (fun _ h5 k => ?_) (fun _ _ k => k))
        obtain ⟨r6, rfl, k⟩ := oI_of k
        show AW X (d + 1) rb mX1_limitingPart 55 _ [vI r6, vJ r4] h5 Qr Qx
        refine aw_i2l dX1_limitingPart_55 rfl ?_
        refine aw_lmul dX1_limitingPart_56 rfl ?_
        refine aw_aload_n (j := 1) (i := 0) dX1_limitingPart_57 rfl rfl rfl ?_
        refine aw_iload_n (j := 2) (i := 1) dX1_limitingPart_58 rfl rfl rfl ?_
        refine aw_aload_n (j := 4) (i := 3) dX1_limitingPart_59 rfl rfl rfl ?_
        refine aw_iload (j := 6) (i := 5) dX1_limitingPart_60 rfl rfl ?_
        refine aw_iload (j := 5) (i := 4) dX1_limitingPart_62 rfl rfl ?_
        refine aw_callV (M' := mX1_leftAfter) (S := [vJ (r4 * r6.toInt64)]) (as := [vI x1, vR t3 i3, vI x5, vI x4]) (k := 0) dX1_limitingPart_64 rfl (by decide) rfl rfl gw_1213 gw_1215 gw_23 mb_X1_leftAfter rfl (Nat.zero_le _) (Nat.le_of_ble_eq_true rfl) rfl (CL.imp k (fun _ h7 k => ?_) (fun _ _ k => k))
        obtain ⟨r8, rfl, k⟩ := oJ_of k
        show AW X (d + 1) rb mX1_limitingPart 67 _ [vJ r8, vJ (r4 * r6.toInt64)] h7 Qr Qx
        refine aw_lload (j := 0) (i := 7) dX1_limitingPart_67 rfl rfl ?_
        refine aw_lmul dX1_limitingPart_69 rfl ?_
        refine aw_lcmp dX1_limitingPart_70 rfl ?_
        refine aw_if_ge 78 dX1_limitingPart_71 rfl rfl (fun c => ?_) (fun c => ?_)
        · replace k := k.1 c
          refine aw_iinc (i := 6) (j := 7) (v := x6 + 1) (L2 := [(6, vI (x6 + 1)), (7, vJ r2.toInt64), (0, vR 1 i0), (1, vI x1), (2, vI x2), (3, vR t3 i3), (4, vI x4), (5, vI x5)]) dX1_limitingPart_78 rfl (by decide) rfl rfl rfl ?_
          refine aw_goto 6 dX1_limitingPart_81 rfl ?_
          exact aw_sub [2, 3, 4, 5, 6, 7, 0] rfl k
        · replace k := k.2 c
          refine aw_iload (j := 7) (i := 6) dX1_limitingPart_74 rfl rfl ?_
          refine aw_istore (i := 5) (L2 := [(5, vI x6), (7, vJ r2.toInt64), (0, vR 1 i0), (1, vI x1), (2, vI x2), (3, vR t3 i3), (4, vI x4), (6, vI x6)]) dX1_limitingPart_76 rfl (by decide) rfl ?_
          refine aw_iinc (i := 6) (j := 7) (v := x6 + 1) (L2 := [(6, vI (x6 + 1)), (5, vI x6), (7, vJ r2.toInt64), (0, vR 1 i0), (1, vI x1), (2, vI x2), (3, vR t3 i3), (4, vI x4)]) dX1_limitingPart_78 rfl (by decide) rfl rfl rfl ?_
          refine aw_goto 6 dX1_limitingPart_81 rfl ?_
          exact aw_sub [3, 4, 5, 6, 7, 1, 0] rfl k
set_option maxHeartbeats 4000000 in
set_option maxRecDepth 100000 in
theorem vc_X1_leftAfter_0 {X : WD → State → Prop} {d rb : Nat} {h : Hp} {Qr : Option AV → Hp → Prop} {Qx : String → Hp → Prop} {i0 : Nat} {a1 : Int32} {t2 i2 n2 : Nat} {f2 : List (Nat × Nat)} {a3 : Int32} {a4 : Int32} (ht2 : t2 < oa_nT) (hk2 : oa_kd t2 = (1, n2, f2)) (k : CL 0 d mX11_isInside [vI a3, vI (Int32.ofNat n2)] h (oI fun r2 h1 => ((r2 = 0) → Qr (some (vJ 0)) h1) ∧ ((¬ r2 = 0) → (vp_in a3 n2) ∧ CL 0 d mX1_needOf [vR 1 i0, vI a1, vI a3] h1 (oI fun r4 h3 => Qr (some (vJ (((h1.1 t2 i2 a3.toNatClampNeg).toInt64) - (a4.toInt64 * r4.toInt64)))) h3) Qx)) Qx) : AW X (d + 1) rb mX1_leftAfter 0 [(0, vR 1 i0), (1, vI a1), (2, vR t2 i2), (3, vI a3), (4, vI a4)] [] h Qr Qx := by
  refine aw_iload_n (j := 3) (i := 3) dX1_leftAfter_0 rfl rfl rfl ?_
  refine aw_aload_n (j := 2) (i := 2) dX1_leftAfter_1 rfl rfl rfl ?_
  refine aw_alen dX1_leftAfter_2 rfl ht2 hk2 rfl ?_
  refine aw_callSN (M' := mX11_isInside) (S := []) (as := [vI a3, vI (Int32.ofNat n2)]) (k := 0) dX1_leftAfter_3 rfl nw_555 gw_461 mb_X11_isInside rfl (Nat.zero_le _) (Nat.le_of_ble_eq_true rfl) rfl (CL.imp k (fun _ h1 k => ?_) (fun _ _ k => k))
  obtain ⟨r2, rfl, k⟩ := oI_of k
  show AW X (d + 1) rb mX1_leftAfter 6 _ [vI r2] h1 Qr Qx
  refine aw_if_eq 28 dX1_leftAfter_6 rfl rfl (fun c => ?_) (fun c => ?_)
  · replace k := k.1 c
    refine aw_lconst (v := 0) dX1_leftAfter_28 rfl (by decide) ?_
    exact aw_lret dX1_leftAfter_29 rfl k
  · replace k := k.2 c
    refine aw_aload_n (j := 2) (i := 2) dX1_leftAfter_9 rfl rfl rfl ?_
    refine aw_iload_n (j := 3) (i := 3) dX1_leftAfter_10 rfl rfl rfl ?_
    refine aw_iald dX1_leftAfter_11 rfl ht2 hk2 k.1 ?_
    replace k := k.2
    refine aw_i2l dX1_leftAfter_12 rfl ?_
    refine aw_iload (j := 4) (i := 4) dX1_leftAfter_13 rfl rfl ?_
    refine aw_i2l dX1_leftAfter_15 rfl ?_
    refine aw_aload_n (j := 0) (i := 0) dX1_leftAfter_16 rfl rfl rfl ?_
    refine aw_iload_n (j := 1) (i := 1) dX1_leftAfter_17 rfl rfl rfl ?_
    refine aw_iload_n (j := 3) (i := 3) dX1_leftAfter_18 rfl rfl rfl ?_
    refine aw_callV (M' := mX1_needOf) (S := [vJ a4.toInt64, vJ ((h1.1 t2 i2 a3.toNatClampNeg).toInt64)]) (as := [vI a1, vI a3]) (k := 0) dX1_leftAfter_19 rfl (by decide) rfl rfl gw_607 gw_509 gw_510 mb_X1_needOf rfl (Nat.zero_le _) (Nat.le_of_ble_eq_true rfl) rfl (CL.imp k (fun _ h3 k => ?_) (fun _ _ k => k))
    obtain ⟨r4, rfl, k⟩ := oI_of k
    show AW X (d + 1) rb mX1_leftAfter 22 _ [vI r4, vJ a4.toInt64, vJ ((h1.1 t2 i2 a3.toNatClampNeg).toInt64)] h3 Qr Qx
    refine aw_i2l dX1_leftAfter_22 rfl ?_
    refine aw_lmul dX1_leftAfter_23 rfl ?_
    refine aw_lsub dX1_leftAfter_24 rfl ?_
    refine aw_goto 29 dX1_leftAfter_25 rfl ?_
    exact aw_lret dX1_leftAfter_29 rfl k
set_option maxHeartbeats 4000000 in
set_option maxRecDepth 100000 in
theorem vc_X2_begin_0 {X : WD → State → Prop} {d rb : Nat} {h : Hp} {Qr : Option AV → Hp → Prop} {Qx : String → Hp → Prop} {a1 : Int64}  (k : CL 0 d mX2_putName [vR 2 0, vJ a1] (hp_i h 2 0 0 0) (oV fun h1 => Qr none h1) Qx) : AW X (d + 1) rb mX2_begin 0 [(0, vR 2 0), (1, vJ a1)] [] h Qr Qx := by
  refine aw_aload_n (j := 0) (i := 0) dX2_begin_0 rfl rfl rfl ?_
  refine aw_iconst (v := 0) dX2_begin_1 rfl (by decide) ?_
  refine aw_puti (k := 0) dX2_begin_2 rfl (by decide) rfl rfl cb_2 (by decide) rfl rfl gw_407 ?_
  refine aw_aload_n (j := 0) (i := 0) dX2_begin_5 rfl rfl rfl ?_
  refine aw_lload_n (j := 1) (i := 1) dX2_begin_6 rfl rfl rfl ?_
  refine aw_callV (M' := mX2_putName) (S := []) (as := [vJ a1]) (k := 0) dX2_begin_7 rfl (by decide) rfl rfl gw_1518 gw_1519 gw_1520 mb_X2_putName rfl (Nat.zero_le _) (Nat.le_of_ble_eq_true rfl) rfl (CL.imp k (fun _ h1 k => ?_) (fun _ _ k => k))
  obtain ⟨rfl, k⟩ := oV_of k
  show AW X (d + 1) rb mX2_begin 10 _ [] h1 Qr Qx
  exact aw_vret dX2_begin_10 rfl k
set_option maxHeartbeats 4000000 in
set_option maxRecDepth 100000 in
theorem vc_X2_byteAt_0 {X : WD → State → Prop} {d rb : Nat} {h : Hp} {Qr : Option AV → Hp → Prop} {Qx : String → Hp → Prop} {a1 : Int32}  (k : CL 0 d mX11_isInside [vI a1, vI (h.1 2 0 0)] h (oI fun r2 h1 => ((r2 = 0) → Qr (some (vI (-1))) h1) ∧ ((¬ r2 = 0) → ((200 ≤ a1) → Qr (some (vI (-1))) h1) ∧ ((¬ 200 ≤ a1) → (vp_in a1 200) ∧ Qr (some (vI (h1.1 33 0 a1.toNatClampNeg))) h1))) Qx) : AW X (d + 1) rb mX2_byteAt 0 [(0, vR 2 0), (1, vI a1)] [] h Qr Qx := by
  refine aw_iload_n (j := 1) (i := 1) dX2_byteAt_0 rfl rfl rfl ?_
  refine aw_aload_n (j := 0) (i := 0) dX2_byteAt_1 rfl rfl rfl ?_
  refine aw_geti (k := 0) dX2_byteAt_2 rfl (by decide) rfl rfl cb_2 (by decide) gw_407 ?_
  refine aw_callSN (M' := mX11_isInside) (S := []) (as := [vI a1, vI (h.1 2 0 0)]) (k := 0) dX2_byteAt_5 rfl nw_734 gw_461 mb_X11_isInside rfl (Nat.zero_le _) (Nat.le_of_ble_eq_true rfl) rfl (CL.imp k (fun _ h1 k => ?_) (fun _ _ k => k))
  obtain ⟨r2, rfl, k⟩ := oI_of k
  show AW X (d + 1) rb mX2_byteAt 8 _ [vI r2] h1 Qr Qx
  refine aw_if_eq 27 dX2_byteAt_8 rfl rfl (fun c => ?_) (fun c => ?_)
  · replace k := k.1 c
    refine aw_iconst (v := (-1)) dX2_byteAt_27 rfl (by decide) ?_
    exact aw_iret dX2_byteAt_28 rfl k
  · replace k := k.2 c
    refine aw_iload_n (j := 1) (i := 1) dX2_byteAt_11 rfl rfl rfl ?_
    refine aw_sipush (v := 200) dX2_byteAt_12 rfl (by decide) ?_
    refine aw_icmp_ge 27 dX2_byteAt_15 rfl rfl (fun c => ?_) (fun c => ?_)
    · replace k := k.1 c
      refine aw_iconst (v := (-1)) dX2_byteAt_27 rfl (by decide) ?_
      exact aw_iret dX2_byteAt_28 rfl k
    · replace k := k.2 c
      refine aw_aload_n (j := 0) (i := 0) dX2_byteAt_18 rfl rfl rfl ?_
      refine aw_getf (k := 1) (z := 33) dX2_byteAt_19 rfl (by decide) rfl rfl rfl cb_2 (by decide) gw_409 ?_
      refine aw_iload_n (j := 1) (i := 1) dX2_byteAt_22 rfl rfl rfl ?_
      refine aw_bald dX2_byteAt_23 rfl (by decide) rfl k.1 ?_
      replace k := k.2
      refine aw_goto 28 dX2_byteAt_24 rfl ?_
      exact aw_iret dX2_byteAt_28 rfl k
set_option maxHeartbeats 4000000 in
set_option maxRecDepth 100000 in
theorem vc_X2_put_0 {X : WD → State → Prop} {d rb : Nat} {h : Hp} {Qr : Option AV → Hp → Prop} {Qx : String → Hp → Prop} {a1 : Int32}  (k : CL 0 d mX11_isInside [vI (h.1 2 0 0), vI 200] h (oI fun r2 h1 => ((r2 = 0) → Qr none h1) ∧ ((¬ r2 = 0) → (vp_in (h1.1 2 0 0) 200) ∧ Qr none (hp_i (hp_i h1 33 0 ((h1.1 2 0 0).toNatClampNeg) (vp_nar .byte a1.toInt8.toInt32)) 2 0 0 ((h1.1 2 0 0) + 1)))) Qx) : AW X (d + 1) rb mX2_put 0 [(0, vR 2 0), (1, vI a1)] [] h Qr Qx := by
  refine aw_aload_n (j := 0) (i := 0) dX2_put_0 rfl rfl rfl ?_
  refine aw_geti (k := 0) dX2_put_1 rfl (by decide) rfl rfl cb_2 (by decide) gw_407 ?_
  refine aw_sipush (v := 200) dX2_put_4 rfl (by decide) ?_
  refine aw_callSN (M' := mX11_isInside) (S := []) (as := [vI (h.1 2 0 0), vI 200]) (k := 0) dX2_put_7 rfl nw_734 gw_461 mb_X11_isInside rfl (Nat.zero_le _) (Nat.le_of_ble_eq_true rfl) rfl (CL.imp k (fun _ h1 k => ?_) (fun _ _ k => k))
  obtain ⟨r2, rfl, k⟩ := oI_of k
  show AW X (d + 1) rb mX2_put 10 _ [vI r2] h1 Qr Qx
  refine aw_if_eq 34 dX2_put_10 rfl rfl (fun c => ?_) (fun c => ?_)
  · replace k := k.1 c
    exact aw_vret dX2_put_34 rfl k
  · replace k := k.2 c
    refine aw_aload_n (j := 0) (i := 0) dX2_put_13 rfl rfl rfl ?_
    refine aw_getf (k := 1) (z := 33) dX2_put_14 rfl (by decide) rfl rfl rfl cb_2 (by decide) gw_409 ?_
    refine aw_aload_n (j := 0) (i := 0) dX2_put_17 rfl rfl rfl ?_
    refine aw_geti (k := 0) dX2_put_18 rfl (by decide) rfl rfl cb_2 (by decide) gw_407 ?_
    refine aw_iload_n (j := 1) (i := 1) dX2_put_21 rfl rfl rfl ?_
    refine aw_i2b dX2_put_22 rfl ?_
    refine aw_bast dX2_put_23 rfl (by decide) rfl k.1 ?_
    replace k := k.2
    refine aw_aload_n (j := 0) (i := 0) dX2_put_24 rfl rfl rfl ?_
    refine aw_dup dX2_put_25 rfl rfl ?_
    refine aw_geti (k := 0) dX2_put_26 rfl (by decide) rfl rfl cb_2 (by decide) gw_407 ?_
    refine aw_iconst (v := 1) dX2_put_29 rfl (by decide) ?_
    refine aw_iadd dX2_put_30 rfl ?_
    refine aw_puti (k := 0) dX2_put_31 rfl (by decide) rfl rfl cb_2 (by decide) rfl rfl gw_407 ?_
    exact aw_vret dX2_put_34 rfl k
set_option maxHeartbeats 4000000 in
set_option maxRecDepth 100000 in
theorem vc_X2_putName_0 {X : WD → State → Prop} {d rb : Nat} {h : Hp} {Qr : Option AV → Hp → Prop} {Qx : String → Hp → Prop} {a1 : Int64}  (k : AW X (d + 1) rb mX2_putName 3 [(0, vR 2 0), (1, vJ a1), (3, vI 56)] [] h Qr Qx) : AW X (d + 1) rb mX2_putName 0 [(0, vR 2 0), (1, vJ a1)] [] h Qr Qx := by
  refine aw_bipush (v := 56) dX2_putName_0 rfl (by decide) ?_
  refine aw_istore_n (i := 3) (L2 := [(3, vI 56), (0, vR 2 0), (1, vJ a1)]) dX2_putName_2 rfl rfl (by decide) rfl ?_
  exact aw_sub [1, 2, 0] rfl k
set_option maxHeartbeats 4000000 in
set_option maxRecDepth 100000 in
theorem vc_X2_putName_3 {X : WD → State → Prop} {d rb : Nat} {h : Hp} {Qr : Option AV → Hp → Prop} {Qx : String → Hp → Prop} {x1 : Int64} {x3 : Int32}  (k : ((x3 < 0) → Qr none h) ∧ ((¬ x3 < 0) → ((((((x1.toUInt64 >>> (x3.toInt64.toUInt64 &&& Int64.toUInt64 63)).toInt64).toInt32) &&& 255) = 0) → AW X (d + 1) rb mX2_putName 3 [(0, vR 2 0), (1, vJ x1), (3, vI (x3 + (-8)))] [] h Qr Qx) ∧ ((¬ ((((x1.toUInt64 >>> (x3.toInt64.toUInt64 &&& Int64.toUInt64 63)).toInt64).toInt32) &&& 255) = 0) → CL 0 d mX2_put [vR 2 0, vI ((((x1.toUInt64 >>> (x3.toInt64.toUInt64 &&& Int64.toUInt64 63)).toInt64).toInt32) &&& 255)] h (oV fun h1 => AW X (d + 1) rb mX2_putName 3 [(0, vR 2 0), (1, vJ x1), (3, vI (x3 + (-8)))] [] h1 Qr Qx) Qx))) : AW X (d + 1) rb mX2_putName 3 [(0, vR 2 0), (1, vJ x1), (3, vI x3)] [] h Qr Qx := by
  refine aw_iload_n (j := 2) (i := 3) dX2_putName_3 rfl rfl rfl ?_
  refine aw_if_lt 34 dX2_putName_4 rfl rfl (fun c => ?_) (fun c => ?_)
  · replace k := k.1 c
    exact aw_vret dX2_putName_34 rfl k
  · replace k := k.2 c
    refine aw_lload_n (j := 1) (i := 1) dX2_putName_7 rfl rfl rfl ?_
    refine aw_iload_n (j := 2) (i := 3) dX2_putName_8 rfl rfl rfl ?_
    refine aw_lushr dX2_putName_9 rfl ?_
    refine aw_l2i dX2_putName_10 rfl ?_
    refine aw_sipush (v := 255) dX2_putName_11 rfl (by decide) ?_
    refine aw_iand dX2_putName_14 rfl ?_
    refine aw_istore (i := 4) (L2 := [(4, vI ((((x1.toUInt64 >>> (x3.toInt64.toUInt64 &&& Int64.toUInt64 63)).toInt64).toInt32) &&& 255)), (0, vR 2 0), (1, vJ x1), (3, vI x3)]) dX2_putName_15 rfl (by decide) rfl ?_
    refine aw_iload (j := 0) (i := 4) dX2_putName_17 rfl rfl ?_
    refine aw_if_eq 28 dX2_putName_19 rfl rfl (fun c => ?_) (fun c => ?_)
    · replace k := k.1 c
      refine aw_iinc (i := 3) (j := 3) (v := x3 + (-8)) (L2 := [(3, vI (x3 + (-8))), (4, vI ((((x1.toUInt64 >>> (x3.toInt64.toUInt64 &&& Int64.toUInt64 63)).toInt64).toInt32) &&& 255)), (0, vR 2 0), (1, vJ x1)]) dX2_putName_28 rfl (by decide) rfl rfl rfl ?_
      refine aw_goto 3 dX2_putName_31 rfl ?_
      exact aw_sub [2, 3, 0] rfl k
    · replace k := k.2 c
      refine aw_aload_n (j := 1) (i := 0) dX2_putName_22 rfl rfl rfl ?_
      refine aw_iload (j := 0) (i := 4) dX2_putName_23 rfl rfl ?_
      refine aw_callV (M' := mX2_put) (S := []) (as := [vI ((((x1.toUInt64 >>> (x3.toInt64.toUInt64 &&& Int64.toUInt64 63)).toInt64).toInt32) &&& 255)]) (k := 0) dX2_putName_25 rfl (by decide) rfl rfl gw_1522 gw_1524 gw_29 mb_X2_put rfl (Nat.zero_le _) (Nat.le_of_ble_eq_true rfl) rfl (CL.imp k (fun _ h1 k => ?_) (fun _ _ k => k))
      obtain ⟨rfl, k⟩ := oV_of k
      show AW X (d + 1) rb mX2_putName 28 _ [] h1 Qr Qx
      refine aw_iinc (i := 3) (j := 3) (v := x3 + (-8)) (L2 := [(3, vI (x3 + (-8))), (4, vI ((((x1.toUInt64 >>> (x3.toInt64.toUInt64 &&& Int64.toUInt64 63)).toInt64).toInt32) &&& 255)), (0, vR 2 0), (1, vJ x1)]) dX2_putName_28 rfl (by decide) rfl rfl rfl ?_
      refine aw_goto 3 dX2_putName_31 rfl ?_
      exact aw_sub [2, 3, 0] rfl k
set_option maxHeartbeats 4000000 in
set_option maxRecDepth 100000 in
theorem vc_X2_putText_0 {X : WD → State → Prop} {d rb : Nat} {h : Hp} {Qr : Option AV → Hp → Prop} {Qx : String → Hp → Prop} {j1 : Nat} (hj1 : j1 < 36) (k : AW X (d + 1) rb mX2_putText 2 [(0, vR 2 0), (1, vR (1000 + j1) 0), (2, vI 0)] [] h Qr Qx) : AW X (d + 1) rb mX2_putText 0 [(0, vR 2 0), (1, vR (1000 + j1) 0)] [] h Qr Qx := by
  refine aw_iconst (v := 0) dX2_putText_0 rfl (by decide) ?_
  refine aw_istore_n (i := 2) (L2 := [(2, vI 0), (0, vR 2 0), (1, vR (1000 + j1) 0)]) dX2_putText_1 rfl rfl (by decide) rfl ?_
  exact aw_sub [1, 2, 0] rfl k
set_option maxHeartbeats 4000000 in
set_option maxRecDepth 100000 in
theorem vc_X2_putText_2 {X : WD → State → Prop} {d rb : Nat} {h : Hp} {Qr : Option AV → Hp → Prop} {Qx : String → Hp → Prop} {j1 : Nat} {x2 : Int32} (hj1 : j1 < 36) (k : CL 0 d mJ0_length_8abf5 [vR (1000 + j1) 0] h (oI fun r2 h1 => ((r2 ≤ x2) → Qr none h1) ∧ ((¬ r2 ≤ x2) → CL 0 d mJ0_charAt_5068e [vR (1000 + j1) 0, vI x2] h1 (oI fun r4 h3 => CL 0 d mX2_put [vR 2 0, vI r4] h3 (oV fun h5 => AW X (d + 1) rb mX2_putText 2 [(0, vR 2 0), (1, vR (1000 + j1) 0), (2, vI (x2 + 1))] [] h5 Qr Qx) Qx) Qx)) Qx) : AW X (d + 1) rb mX2_putText 2 [(0, vR 2 0), (1, vR (1000 + j1) 0), (2, vI x2)] [] h Qr Qx := by
  refine aw_iload_n (j := 2) (i := 2) dX2_putText_2 rfl rfl rfl ?_
  refine aw_aload_n (j := 1) (i := 1) dX2_putText_3 rfl rfl rfl ?_
  refine aw_callStr (M' := mJ0_length_8abf5) (S := [vI x2]) (as := []) (k := 0) dX2_putText_4 rfl gw_1535 gw_797 gw_798 mb_J0_length_8abf5 rfl (Nat.zero_le _) (Nat.le_of_ble_eq_true rfl) rfl hj1 rfl (CL.imp k (fun _ h1 k => ?_) (fun _ _ k => k))
  obtain ⟨r2, rfl, k⟩ := oI_of k
  show AW X (d + 1) rb mX2_putText 7 _ [vI r2, vI x2] h1 Qr Qx
  refine aw_icmp_ge 25 dX2_putText_7 rfl rfl (fun c => ?_) (fun c => ?_)
  · replace k := k.1 c
    exact aw_vret dX2_putText_25 rfl k
  · replace k := k.2 c
    refine aw_aload_n (j := 0) (i := 0) dX2_putText_10 rfl rfl rfl ?_
    refine aw_aload_n (j := 1) (i := 1) dX2_putText_11 rfl rfl rfl ?_
    refine aw_iload_n (j := 2) (i := 2) dX2_putText_12 rfl rfl rfl ?_
    refine aw_callStr (M' := mJ0_charAt_5068e) (S := [vR 2 0]) (as := [vI x2]) (k := 0) dX2_putText_13 rfl gw_1536 gw_807 gw_808 mb_J0_charAt_5068e rfl (Nat.zero_le _) (Nat.le_of_ble_eq_true rfl) rfl hj1 rfl (CL.imp k (fun _ h3 k => ?_) (fun _ _ k => k))
    obtain ⟨r4, rfl, k⟩ := oI_of k
    show AW X (d + 1) rb mX2_putText 16 _ [vI r4, vR 2 0] h3 Qr Qx
    refine aw_callV (M' := mX2_put) (S := []) (as := [vI r4]) (k := 0) dX2_putText_16 rfl (by decide) rfl rfl gw_1522 gw_1524 gw_29 mb_X2_put rfl (Nat.zero_le _) (Nat.le_of_ble_eq_true rfl) rfl (CL.imp k (fun _ h5 k => ?_) (fun _ _ k => k))
    obtain ⟨rfl, k⟩ := oV_of k
    show AW X (d + 1) rb mX2_putText 19 _ [] h5 Qr Qx
    refine aw_iinc (i := 2) (j := 2) (v := x2 + 1) (L2 := [(2, vI (x2 + 1)), (0, vR 2 0), (1, vR (1000 + j1) 0)]) dX2_putText_19 rfl (by decide) rfl rfl rfl ?_
    refine aw_goto 2 dX2_putText_22 rfl ?_
    exact aw_sub [1, 2, 0] rfl k
set_option maxHeartbeats 4000000 in
set_option maxRecDepth 100000 in
theorem vc_X2_putNumbered_0 {X : WD → State → Prop} {d rb : Nat} {h : Hp} {Qr : Option AV → Hp → Prop} {Qx : String → Hp → Prop} {j1 : Nat} {a2 : Int32} (hj1 : j1 < 36) (k : CL 0 d mX2_putText [vR 2 0, vR (1000 + j1) 0] h (oV fun h1 => AW X (d + 1) rb mX2_putNumbered 11 [(0, vR 2 0), (1, vR (1000 + j1) 0), (2, vI a2), (3, vI 0), (4, vI 1000000000)] [] h1 Qr Qx) Qx) : AW X (d + 1) rb mX2_putNumbered 0 [(0, vR 2 0), (1, vR (1000 + j1) 0), (2, vI a2)] [] h Qr Qx := by
  refine aw_aload_n (j := 0) (i := 0) dX2_putNumbered_0 rfl rfl rfl ?_
  refine aw_aload_n (j := 1) (i := 1) dX2_putNumbered_1 rfl rfl rfl ?_
  refine aw_callV (M' := mX2_putText) (S := []) (as := [vR (1000 + j1) 0]) (k := 0) dX2_putNumbered_2 rfl (by decide) rfl rfl gw_1531 gw_1532 gw_1533 mb_X2_putText rfl (Nat.zero_le _) (Nat.le_of_ble_eq_true rfl) rfl (CL.imp k (fun _ h1 k => ?_) (fun _ _ k => k))
  obtain ⟨rfl, k⟩ := oV_of k
  show AW X (d + 1) rb mX2_putNumbered 5 _ [] h1 Qr Qx
  refine aw_iconst (v := 0) dX2_putNumbered_5 rfl (by decide) ?_
  refine aw_istore_n (i := 3) (L2 := [(3, vI 0), (0, vR 2 0), (1, vR (1000 + j1) 0), (2, vI a2)]) dX2_putNumbered_6 rfl rfl (by decide) rfl ?_
  refine aw_ldcI dX2_putNumbered_7 rfl gw_1537 ?_
  refine aw_istore (i := 4) (L2 := [(4, vI 1000000000), (3, vI 0), (0, vR 2 0), (1, vR (1000 + j1) 0), (2, vI a2)]) dX2_putNumbered_9 rfl (by decide) rfl ?_
  exact aw_sub [2, 3, 4, 1, 0] rfl k
set_option maxHeartbeats 4000000 in
set_option maxRecDepth 100000 in
theorem vc_X2_putNumbered_11 {X : WD → State → Prop} {d rb : Nat} {h : Hp} {Qr : Option AV → Hp → Prop} {Qx : String → Hp → Prop} {j1 : Nat} {x2 : Int32} {x3 : Int32} {x4 : Int32} (hj1 : j1 < 36) (k : ((x4 ≤ 0) → Qr none h) ∧ ((¬ x4 ≤ 0) → (¬ x4 = 0) ∧ (((if ¬ x3 = 0 then (1 : Int32) else (if ¬ ((x2 / x4) - (x2 / x4) / 10 * 10) = 0 then (1 : Int32) else (if ¬ x4 = 1 then (0 : Int32) else 1))) = 0) → AW X (d + 1) rb mX2_putNumbered 11 [(0, vR 2 0), (1, vR (1000 + j1) 0), (2, vI x2), (3, vI (if ¬ x3 = 0 then (1 : Int32) else (if ¬ ((x2 / x4) - (x2 / x4) / 10 * 10) = 0 then (1 : Int32) else (if ¬ x4 = 1 then (0 : Int32) else 1)))), (4, vI (x4 / 10))] [] h Qr Qx) ∧ ((¬ (if ¬ x3 = 0 then (1 : Int32) else (if ¬ ((x2 / x4) - (x2 / x4) / 10 * 10) = 0 then (1 : Int32) else (if ¬ x4 = 1 then (0 : Int32) else 1))) = 0) → CL 0 d mX2_put [vR 2 0, vI (48 + ((x2 / x4) - (x2 / x4) / 10 * 10))] h (oV fun h1 => AW X (d + 1) rb mX2_putNumbered 11 [(0, vR 2 0), (1, vR (1000 + j1) 0), (2, vI x2), (3, vI (if ¬ x3 = 0 then (1 : Int32) else (if ¬ ((x2 / x4) - (x2 / x4) / 10 * 10) = 0 then (1 : Int32) else (if ¬ x4 = 1 then (0 : Int32) else 1)))), (4, vI (x4 / 10))] [] h1 Qr Qx) Qx))) : AW X (d + 1) rb mX2_putNumbered 11 [(0, vR 2 0), (1, vR (1000 + j1) 0), (2, vI x2), (3, vI x3), (4, vI x4)] [] h Qr Qx := by
  refine aw_iload (j := 4) (i := 4) dX2_putNumbered_11 rfl rfl ?_
  refine aw_if_le 69 dX2_putNumbered_13 rfl rfl (fun c => ?_) (fun c => ?_)
  · replace k := k.1 c
    exact aw_vret dX2_putNumbered_69 rfl k
  · replace k := k.2 c
    refine aw_iload_n (j := 2) (i := 2) dX2_putNumbered_16 rfl rfl rfl ?_
    refine aw_iload (j := 4) (i := 4) dX2_putNumbered_17 rfl rfl ?_
    refine aw_idiv dX2_putNumbered_19 rfl k.1 ?_
    replace k := k.2
    refine aw_bipush (v := 10) dX2_putNumbered_20 rfl (by decide) ?_
    refine aw_irem dX2_putNumbered_22 rfl (by decide) ?_
    refine aw_istore (i := 5) (L2 := [(5, vI ((x2 / x4) - (x2 / x4) / 10 * 10)), (0, vR 2 0), (1, vR (1000 + j1) 0), (2, vI x2), (3, vI x3), (4, vI x4)]) dX2_putNumbered_23 rfl (by decide) rfl ?_
    refine aw_iload_n (j := 4) (i := 3) dX2_putNumbered_25 rfl rfl rfl ?_
    have kk : AW X (d + 1) rb mX2_putNumbered 45 [(5, vI ((x2 / x4) - (x2 / x4) / 10 * 10)), (0, vR 2 0), (1, vR (1000 + j1) 0), (2, vI x2), (3, vI x3), (4, vI x4)] [vI (if ¬ x3 = 0 then (1 : Int32) else (if ¬ ((x2 / x4) - (x2 / x4) / 10 * 10) = 0 then (1 : Int32) else (if ¬ x4 = 1 then (0 : Int32) else 1)))] h Qr Qx := by
      refine aw_istore_n (i := 3) (L2 := [(3, vI (if ¬ x3 = 0 then (1 : Int32) else (if ¬ ((x2 / x4) - (x2 / x4) / 10 * 10) = 0 then (1 : Int32) else (if ¬ x4 = 1 then (0 : Int32) else 1)))), (5, vI ((x2 / x4) - (x2 / x4) / 10 * 10)), (0, vR 2 0), (1, vR (1000 + j1) 0), (2, vI x2), (4, vI x4)]) dX2_putNumbered_45 rfl rfl (by decide) rfl ?_
      refine aw_iload_n (j := 0) (i := 3) dX2_putNumbered_46 rfl rfl rfl ?_
      refine aw_if_eq 59 dX2_putNumbered_47 rfl rfl (fun c => ?_) (fun c => ?_)
      · replace k := k.1 c
        refine aw_iload (j := 5) (i := 4) dX2_putNumbered_59 rfl rfl ?_
        refine aw_bipush (v := 10) dX2_putNumbered_61 rfl (by decide) ?_
        refine aw_idiv dX2_putNumbered_63 rfl (by decide) ?_
        refine aw_istore (i := 4) (L2 := [(4, vI (x4 / 10)), (3, vI (if ¬ x3 = 0 then (1 : Int32) else (if ¬ ((x2 / x4) - (x2 / x4) / 10 * 10) = 0 then (1 : Int32) else (if ¬ x4 = 1 then (0 : Int32) else 1)))), (5, vI ((x2 / x4) - (x2 / x4) / 10 * 10)), (0, vR 2 0), (1, vR (1000 + j1) 0), (2, vI x2)]) dX2_putNumbered_64 rfl (by decide) rfl ?_
        refine aw_goto 11 dX2_putNumbered_66 rfl ?_
        exact aw_sub [3, 4, 5, 1, 0] rfl k
      · replace k := k.2 c
        refine aw_aload_n (j := 2) (i := 0) dX2_putNumbered_50 rfl rfl rfl ?_
        refine aw_bipush (v := 48) dX2_putNumbered_51 rfl (by decide) ?_
        refine aw_iload (j := 1) (i := 5) dX2_putNumbered_53 rfl rfl ?_
        refine aw_iadd dX2_putNumbered_55 rfl ?_
        refine aw_callV (M' := mX2_put) (S := []) (as := [vI (48 + ((x2 / x4) - (x2 / x4) / 10 * 10))]) (k := 0) dX2_putNumbered_56 rfl (by decide) rfl rfl gw_1522 gw_1524 gw_29 mb_X2_put rfl (Nat.zero_le _) (Nat.le_of_ble_eq_true rfl) rfl (CL.imp k (fun _ h1 k => ?_) (fun _ _ k => k))
        obtain ⟨rfl, k⟩ := oV_of k
        show AW X (d + 1) rb mX2_putNumbered 59 _ [] h1 Qr Qx
        refine aw_iload (j := 5) (i := 4) dX2_putNumbered_59 rfl rfl ?_
        refine aw_bipush (v := 10) dX2_putNumbered_61 rfl (by decide) ?_
        refine aw_idiv dX2_putNumbered_63 rfl (by decide) ?_
        refine aw_istore (i := 4) (L2 := [(4, vI (x4 / 10)), (3, vI (if ¬ x3 = 0 then (1 : Int32) else (if ¬ ((x2 / x4) - (x2 / x4) / 10 * 10) = 0 then (1 : Int32) else (if ¬ x4 = 1 then (0 : Int32) else 1)))), (5, vI ((x2 / x4) - (x2 / x4) / 10 * 10)), (0, vR 2 0), (1, vR (1000 + j1) 0), (2, vI x2)]) dX2_putNumbered_64 rfl (by decide) rfl ?_
        refine aw_goto 11 dX2_putNumbered_66 rfl ?_
        exact aw_sub [3, 4, 5, 1, 0] rfl k
    refine aw_if_ne 40 dX2_putNumbered_26 rfl rfl (fun (c0 : ¬ x3 = 0) => ?_) (fun (c0 : x3 = 0) => ?_)
    · refine aw_iconst (v := 1) dX2_putNumbered_40 rfl (by decide) ?_
      refine aw_goto 45 dX2_putNumbered_41 rfl ?_
      simp only [if_pos c0] at kk
      exact kk
    · refine aw_iload (j := 0) (i := 5) dX2_putNumbered_29 rfl rfl ?_
      refine aw_if_ne 40 dX2_putNumbered_31 rfl rfl (fun (c1 : ¬ ((x2 / x4) - (x2 / x4) / 10 * 10) = 0) => ?_) (fun (c1 : ((x2 / x4) - (x2 / x4) / 10 * 10) = 0) => ?_)
      · refine aw_iconst (v := 1) dX2_putNumbered_40 rfl (by decide) ?_
        refine aw_goto 45 dX2_putNumbered_41 rfl ?_
        simp only [if_neg (oa_nn c0), if_pos c1] at kk
        exact kk
      · refine aw_iload (j := 5) (i := 4) dX2_putNumbered_34 rfl rfl ?_
        refine aw_iconst (v := 1) dX2_putNumbered_36 rfl (by decide) ?_
        refine aw_icmp_ne 44 dX2_putNumbered_37 rfl rfl (fun (c2 : ¬ x4 = 1) => ?_) (fun (c2 : x4 = 1) => ?_)
        · refine aw_iconst (v := 0) dX2_putNumbered_44 rfl (by decide) ?_
          simp only [if_neg (oa_nn c0), if_neg (oa_nn c1), if_pos c2] at kk
          exact kk
        · refine aw_iconst (v := 1) dX2_putNumbered_40 rfl (by decide) ?_
          refine aw_goto 45 dX2_putNumbered_41 rfl ?_
          simp only [if_neg (oa_nn c0), if_neg (oa_nn c1), if_neg (oa_nn c2)] at kk
          exact kk
set_option maxHeartbeats 4000000 in
set_option maxRecDepth 100000 in
theorem vc_X3_forget_0 {X : WD → State → Prop} {d rb : Nat} {h : Hp} {Qr : Option AV → Hp → Prop} {Qx : String → Hp → Prop}   (k : Qr none (hp_i h 3 0 0 0)) : AW X (d + 1) rb mX3_forget 0 [(0, vR 3 0)] [] h Qr Qx := by
  refine aw_aload_n (j := 0) (i := 0) dX3_forget_0 rfl rfl rfl ?_
  refine aw_iconst (v := 0) dX3_forget_1 rfl (by decide) ?_
  refine aw_puti (k := 0) dX3_forget_2 rfl (by decide) rfl rfl cb_3 (by decide) rfl rfl gw_365 ?_
  exact aw_vret dX3_forget_5 rfl k
set_option maxHeartbeats 4000000 in
set_option maxRecDepth 100000 in
theorem vc_X3_record_0 {X : WD → State → Prop} {d rb : Nat} {h : Hp} {Qr : Option AV → Hp → Prop} {Qx : String → Hp → Prop} {i1 : Nat}  (k : CL 0 d mJ9_floorMod_7cf53 [vI (h.1 3 0 1), vI 12] h (oI fun r2 h1 => (vp_in r2 12) ∧ CL 0 d mX5_copyFrom [vR 5 (2 + r2.toNatClampNeg), vR 5 i1] h1 (oV fun h3 => CL 0 d mJ9_floorMod_7cf53 [vI ((h3.1 3 0 1) + 1), vI 12] h3 (oI fun r5 h4 => Qr none (hp_i (hp_i h4 3 0 1 r5) 3 0 0 (if 12 < (((hp_i h4 3 0 1 r5).1 3 0 0) + 1) then 12 else (((hp_i h4 3 0 1 r5).1 3 0 0) + 1)))) Qx) Qx) Qx) : AW X (d + 1) rb mX3_record 0 [(0, vR 3 0), (1, vR 5 i1)] [] h Qr Qx := by
  refine aw_aload_n (j := 0) (i := 0) dX3_record_0 rfl rfl rfl ?_
  refine aw_getf (k := 2) (z := 34) dX3_record_1 rfl (by decide) rfl rfl rfl cb_3 (by decide) gw_368 ?_
  refine aw_aload_n (j := 0) (i := 0) dX3_record_4 rfl rfl rfl ?_
  refine aw_geti (k := 1) dX3_record_5 rfl (by decide) rfl rfl cb_3 (by decide) gw_367 ?_
  refine aw_bipush (v := 12) dX3_record_8 rfl (by decide) ?_
  refine aw_callS (M' := mJ9_floorMod_7cf53) (S := [vR 34 0]) (as := [vI (h.1 3 0 1), vI 12]) (k := 0) dX3_record_10 rfl gw_624 gw_625 mb_J9_floorMod_7cf53 rfl (Nat.zero_le _) (Nat.le_of_ble_eq_true rfl) rfl (CL.imp k (fun _ h1 k => ?_) (fun _ _ k => k))
  obtain ⟨r2, rfl, k⟩ := oI_of k
  show AW X (d + 1) rb mX3_record 13 _ [vI r2, vR 34 0] h1 Qr Qx
  refine aw_aald5 (o := 2) (u := 5) dX3_record_13 rfl (by decide) rfl (by decide) k.1 ?_
  replace k := k.2
  refine aw_astore_n (i := 2) (L2 := [(2, vR 5 (2 + r2.toNatClampNeg)), (0, vR 3 0), (1, vR 5 i1)]) dX3_record_14 rfl rfl (by decide) rfl ?_
  refine aw_aload_n (j := 0) (i := 2) dX3_record_15 rfl rfl rfl ?_
  refine aw_ifnull dX3_record_16 rfl ?_
  refine aw_aload_n (j := 0) (i := 2) dX3_record_19 rfl rfl rfl ?_
  refine aw_aload_n (j := 2) (i := 1) dX3_record_20 rfl rfl rfl ?_
  refine aw_callV (M' := mX5_copyFrom) (S := []) (as := [vR 5 i1]) (k := 0) dX3_record_21 rfl (by decide) rfl rfl gw_627 gw_628 gw_629 mb_X5_copyFrom rfl (Nat.zero_le _) (Nat.le_of_ble_eq_true rfl) rfl (CL.imp k (fun _ h3 k => ?_) (fun _ _ k => k))
  obtain ⟨rfl, k⟩ := oV_of k
  show AW X (d + 1) rb mX3_record 24 _ [] h3 Qr Qx
  refine aw_aload_n (j := 1) (i := 0) dX3_record_24 rfl rfl rfl ?_
  refine aw_aload_n (j := 1) (i := 0) dX3_record_25 rfl rfl rfl ?_
  refine aw_geti (k := 1) dX3_record_26 rfl (by decide) rfl rfl cb_3 (by decide) gw_367 ?_
  refine aw_iconst (v := 1) dX3_record_29 rfl (by decide) ?_
  refine aw_iadd dX3_record_30 rfl ?_
  refine aw_bipush (v := 12) dX3_record_31 rfl (by decide) ?_
  refine aw_callS (M' := mJ9_floorMod_7cf53) (S := [vR 3 0]) (as := [vI ((h3.1 3 0 1) + 1), vI 12]) (k := 0) dX3_record_33 rfl gw_624 gw_625 mb_J9_floorMod_7cf53 rfl (Nat.zero_le _) (Nat.le_of_ble_eq_true rfl) rfl (CL.imp k (fun _ h4 k => ?_) (fun _ _ k => k))
  obtain ⟨r5, rfl, k⟩ := oI_of k
  show AW X (d + 1) rb mX3_record 36 _ [vI r5, vR 3 0] h4 Qr Qx
  refine aw_puti (k := 1) dX3_record_36 rfl (by decide) rfl rfl cb_3 (by decide) rfl rfl gw_367 ?_
  refine aw_aload_n (j := 1) (i := 0) dX3_record_39 rfl rfl rfl ?_
  refine aw_aload_n (j := 1) (i := 0) dX3_record_40 rfl rfl rfl ?_
  refine aw_geti (k := 0) dX3_record_41 rfl (by decide) rfl rfl cb_3 (by decide) gw_365 ?_
  refine aw_iconst (v := 1) dX3_record_44 rfl (by decide) ?_
  refine aw_iadd dX3_record_45 rfl ?_
  refine aw_bipush (v := 12) dX3_record_46 rfl (by decide) ?_
  refine aw_min dX3_record_48 rfl gw_648 gw_649 gw_104 gw_650 (Nat.le_of_ble_eq_true rfl) ?_
  refine aw_puti (k := 0) dX3_record_51 rfl (by decide) rfl rfl cb_3 (by decide) rfl rfl gw_365 ?_
  exact aw_vret dX3_record_54 rfl k
set_option maxHeartbeats 4000000 in
set_option maxRecDepth 100000 in
theorem vc_X3_takeBack_0 {X : WD → State → Prop} {d rb : Nat} {h : Hp} {Qr : Option AV → Hp → Prop} {Qx : String → Hp → Prop} {i1 : Nat}  (k : CL 0 d mJ9_floorMod_7cf53 [vI ((h.1 3 0 1) - 1), vI 12] h (oI fun r2 h1 => (vp_in r2 12) ∧ (((h1.1 3 0 0) = 0) → Qr (some (vI 0)) h1) ∧ ((¬ (h1.1 3 0 0) = 0) → CL 0 d mX5_copyFrom [vR 5 i1, vR 5 (2 + r2.toNatClampNeg)] h1 (oV fun h3 => Qr (some (vI 1)) (hp_i (hp_i h3 3 0 1 r2) 3 0 0 (((hp_i h3 3 0 1 r2).1 3 0 0) - 1))) Qx)) Qx) : AW X (d + 1) rb mX3_takeBack 0 [(0, vR 3 0), (1, vR 5 i1)] [] h Qr Qx := by
  refine aw_aload_n (j := 0) (i := 0) dX3_takeBack_0 rfl rfl rfl ?_
  refine aw_geti (k := 1) dX3_takeBack_1 rfl (by decide) rfl rfl cb_3 (by decide) gw_367 ?_
  refine aw_iconst (v := 1) dX3_takeBack_4 rfl (by decide) ?_
  refine aw_isub dX3_takeBack_5 rfl ?_
  refine aw_bipush (v := 12) dX3_takeBack_6 rfl (by decide) ?_
  refine aw_callS (M' := mJ9_floorMod_7cf53) (S := []) (as := [vI ((h.1 3 0 1) - 1), vI 12]) (k := 0) dX3_takeBack_8 rfl gw_624 gw_625 mb_J9_floorMod_7cf53 rfl (Nat.zero_le _) (Nat.le_of_ble_eq_true rfl) rfl (CL.imp k (fun _ h1 k => ?_) (fun _ _ k => k))
  obtain ⟨r2, rfl, k⟩ := oI_of k
  show AW X (d + 1) rb mX3_takeBack 11 _ [vI r2] h1 Qr Qx
  refine aw_istore_n (i := 2) (L2 := [(2, vI r2), (0, vR 3 0), (1, vR 5 i1)]) dX3_takeBack_11 rfl rfl (by decide) rfl ?_
  refine aw_aload_n (j := 1) (i := 0) dX3_takeBack_12 rfl rfl rfl ?_
  refine aw_getf (k := 2) (z := 34) dX3_takeBack_13 rfl (by decide) rfl rfl rfl cb_3 (by decide) gw_368 ?_
  refine aw_iload_n (j := 0) (i := 2) dX3_takeBack_16 rfl rfl rfl ?_
  refine aw_aald5 (o := 2) (u := 5) dX3_takeBack_17 rfl (by decide) rfl (by decide) k.1 ?_
  replace k := k.2
  refine aw_astore_n (i := 3) (L2 := [(3, vR 5 (2 + r2.toNatClampNeg)), (2, vI r2), (0, vR 3 0), (1, vR 5 i1)]) dX3_takeBack_18 rfl rfl (by decide) rfl ?_
  refine aw_aload_n (j := 2) (i := 0) dX3_takeBack_19 rfl rfl rfl ?_
  refine aw_geti (k := 0) dX3_takeBack_20 rfl (by decide) rfl rfl cb_3 (by decide) gw_365 ?_
  refine aw_if_eq 30 dX3_takeBack_23 rfl rfl (fun c => ?_) (fun c => ?_)
  · replace k := k.1 c
    refine aw_iconst (v := 0) dX3_takeBack_30 rfl (by decide) ?_
    exact aw_zret dX3_takeBack_31 rfl (by decide) k
  · replace k := k.2 c
    refine aw_aload_n (j := 0) (i := 3) dX3_takeBack_26 rfl rfl rfl ?_
    refine aw_ifnonnull 32 dX3_takeBack_27 rfl ?_
    refine aw_aload_n (j := 3) (i := 1) dX3_takeBack_32 rfl rfl rfl ?_
    refine aw_aload_n (j := 0) (i := 3) dX3_takeBack_33 rfl rfl rfl ?_
    refine aw_callV (M' := mX5_copyFrom) (S := []) (as := [vR 5 (2 + r2.toNatClampNeg)]) (k := 0) dX3_takeBack_34 rfl (by decide) rfl rfl gw_627 gw_628 gw_629 mb_X5_copyFrom rfl (Nat.zero_le _) (Nat.le_of_ble_eq_true rfl) rfl (CL.imp k (fun _ h3 k => ?_) (fun _ _ k => k))
    obtain ⟨rfl, k⟩ := oV_of k
    show AW X (d + 1) rb mX3_takeBack 37 _ [] h3 Qr Qx
    refine aw_aload_n (j := 2) (i := 0) dX3_takeBack_37 rfl rfl rfl ?_
    refine aw_iload_n (j := 1) (i := 2) dX3_takeBack_38 rfl rfl rfl ?_
    refine aw_puti (k := 1) dX3_takeBack_39 rfl (by decide) rfl rfl cb_3 (by decide) rfl rfl gw_367 ?_
    refine aw_aload_n (j := 2) (i := 0) dX3_takeBack_42 rfl rfl rfl ?_
    refine aw_dup dX3_takeBack_43 rfl rfl ?_
    refine aw_geti (k := 0) dX3_takeBack_44 rfl (by decide) rfl rfl cb_3 (by decide) gw_365 ?_
    refine aw_iconst (v := 1) dX3_takeBack_47 rfl (by decide) ?_
    refine aw_isub dX3_takeBack_48 rfl ?_
    refine aw_puti (k := 0) dX3_takeBack_49 rfl (by decide) rfl rfl cb_3 (by decide) rfl rfl gw_365 ?_
    refine aw_iconst (v := 1) dX3_takeBack_52 rfl (by decide) ?_
    exact aw_zret dX3_takeBack_53 rfl (by decide) k
set_option maxHeartbeats 4000000 in
set_option maxRecDepth 100000 in
theorem vc_X4_hasRoomFor_0 {X : WD → State → Prop} {d rb : Nat} {h : Hp} {Qr : Option AV → Hp → Prop} {Qx : String → Hp → Prop} {a1 : Int32}  (k : ((if 900 < ((h.1 4 0 0) + a1) then (0 : Int32) else 1) = 0 ∨ (if 900 < ((h.1 4 0 0) + a1) then (0 : Int32) else 1) = 1) ∧ Qr (some (vI (if 900 < ((h.1 4 0 0) + a1) then (0 : Int32) else 1))) h) : AW X (d + 1) rb mX4_hasRoomFor 0 [(0, vR 4 0), (1, vI a1)] [] h Qr Qx := by
  refine aw_aload_n (j := 0) (i := 0) dX4_hasRoomFor_0 rfl rfl rfl ?_
  refine aw_geti (k := 0) dX4_hasRoomFor_1 rfl (by decide) rfl rfl cb_4 (by decide) gw_138 ?_
  refine aw_iload_n (j := 1) (i := 1) dX4_hasRoomFor_4 rfl rfl rfl ?_
  refine aw_iadd dX4_hasRoomFor_5 rfl ?_
  refine aw_sipush (v := 900) dX4_hasRoomFor_6 rfl (by decide) ?_
  have kk : AW X (d + 1) rb mX4_hasRoomFor 17 [(0, vR 4 0), (1, vI a1)] [vI (if 900 < ((h.1 4 0 0) + a1) then (0 : Int32) else 1)] h Qr Qx := by
    exact aw_zret dX4_hasRoomFor_17 rfl k.1 k.2
  refine aw_icmp_gt 16 dX4_hasRoomFor_9 rfl rfl (fun (c0 : 900 < ((h.1 4 0 0) + a1)) => ?_) (fun (c0 : ¬ 900 < ((h.1 4 0 0) + a1)) => ?_)
  · refine aw_iconst (v := 0) dX4_hasRoomFor_16 rfl (by decide) ?_
    simp only [if_pos c0] at kk
    exact kk
  · refine aw_iconst (v := 1) dX4_hasRoomFor_12 rfl (by decide) ?_
    refine aw_goto 17 dX4_hasRoomFor_13 rfl ?_
    simp only [if_neg c0] at kk
    exact kk
set_option maxHeartbeats 4000000 in
set_option maxRecDepth 100000 in
theorem vc_X4_putWord_0 {X : WD → State → Prop} {d rb : Nat} {h : Hp} {Qr : Option AV → Hp → Prop} {Qx : String → Hp → Prop} {a1 : Int32}  (k : AW X (d + 1) rb mX4_putWord 3 [(0, vR 4 0), (1, vI a1), (2, vI 24)] [] h Qr Qx) : AW X (d + 1) rb mX4_putWord 0 [(0, vR 4 0), (1, vI a1)] [] h Qr Qx := by
  refine aw_bipush (v := 24) dX4_putWord_0 rfl (by decide) ?_
  refine aw_istore_n (i := 2) (L2 := [(2, vI 24), (0, vR 4 0), (1, vI a1)]) dX4_putWord_2 rfl rfl (by decide) rfl ?_
  exact aw_sub [1, 2, 0] rfl k
set_option maxHeartbeats 4000000 in
set_option maxRecDepth 100000 in
theorem vc_X4_putWord_3 {X : WD → State → Prop} {d rb : Nat} {h : Hp} {Qr : Option AV → Hp → Prop} {Qx : String → Hp → Prop} {x1 : Int32} {x2 : Int32}  (k : ((x2 < 0) → Qr none h) ∧ ((¬ x2 < 0) → CL 0 d mX11_isInside [vI (h.1 4 0 0), vI 900] h (oI fun r2 h1 => ((r2 = 0) → AW X (d + 1) rb mX4_putWord 3 [(0, vR 4 0), (1, vI x1), (2, vI (x2 + (-8)))] [] h1 Qr Qx) ∧ ((¬ r2 = 0) → (vp_in (h1.1 4 0 0) 900) ∧ AW X (d + 1) rb mX4_putWord 3 [(0, vR 4 0), (1, vI x1), (2, vI (x2 + (-8)))] [] (hp_i (hp_i h1 35 0 ((h1.1 4 0 0).toNatClampNeg) (vp_nar .byte (((x1.toUInt32 >>> (x2.toUInt32 &&& Int32.toUInt32 31)).toInt32).toInt8.toInt32))) 4 0 0 ((h1.1 4 0 0) + 1)) Qr Qx)) Qx)) : AW X (d + 1) rb mX4_putWord 3 [(0, vR 4 0), (1, vI x1), (2, vI x2)] [] h Qr Qx := by
  refine aw_iload_n (j := 2) (i := 2) dX4_putWord_3 rfl rfl rfl ?_
  refine aw_if_lt 49 dX4_putWord_4 rfl rfl (fun c => ?_) (fun c => ?_)
  · replace k := k.1 c
    exact aw_vret dX4_putWord_49 rfl k
  · replace k := k.2 c
    refine aw_aload_n (j := 0) (i := 0) dX4_putWord_7 rfl rfl rfl ?_
    refine aw_geti (k := 0) dX4_putWord_8 rfl (by decide) rfl rfl cb_4 (by decide) gw_138 ?_
    refine aw_sipush (v := 900) dX4_putWord_11 rfl (by decide) ?_
    refine aw_callSN (M' := mX11_isInside) (S := []) (as := [vI (h.1 4 0 0), vI 900]) (k := 0) dX4_putWord_14 rfl nw_460 gw_461 mb_X11_isInside rfl (Nat.zero_le _) (Nat.le_of_ble_eq_true rfl) rfl (CL.imp k (fun _ h1 k => ?_) (fun _ _ k => k))
    obtain ⟨r2, rfl, k⟩ := oI_of k
    show AW X (d + 1) rb mX4_putWord 17 _ [vI r2] h1 Qr Qx
    refine aw_if_eq 43 dX4_putWord_17 rfl rfl (fun c => ?_) (fun c => ?_)
    · replace k := k.1 c
      refine aw_iinc (i := 2) (j := 2) (v := x2 + (-8)) (L2 := [(2, vI (x2 + (-8))), (0, vR 4 0), (1, vI x1)]) dX4_putWord_43 rfl (by decide) rfl rfl rfl ?_
      refine aw_goto 3 dX4_putWord_46 rfl ?_
      exact aw_sub [1, 2, 0] rfl k
    · replace k := k.2 c
      refine aw_aload_n (j := 0) (i := 0) dX4_putWord_20 rfl rfl rfl ?_
      refine aw_getf (k := 1) (z := 35) dX4_putWord_21 rfl (by decide) rfl rfl rfl cb_4 (by decide) gw_141 ?_
      refine aw_aload_n (j := 0) (i := 0) dX4_putWord_24 rfl rfl rfl ?_
      refine aw_geti (k := 0) dX4_putWord_25 rfl (by decide) rfl rfl cb_4 (by decide) gw_138 ?_
      refine aw_iload_n (j := 1) (i := 1) dX4_putWord_28 rfl rfl rfl ?_
      refine aw_iload_n (j := 2) (i := 2) dX4_putWord_29 rfl rfl rfl ?_
      refine aw_iushr dX4_putWord_30 rfl ?_
      refine aw_i2b dX4_putWord_31 rfl ?_
      refine aw_bast dX4_putWord_32 rfl (by decide) rfl k.1 ?_
      replace k := k.2
      refine aw_aload_n (j := 0) (i := 0) dX4_putWord_33 rfl rfl rfl ?_
      refine aw_dup dX4_putWord_34 rfl rfl ?_
      refine aw_geti (k := 0) dX4_putWord_35 rfl (by decide) rfl rfl cb_4 (by decide) gw_138 ?_
      refine aw_iconst (v := 1) dX4_putWord_38 rfl (by decide) ?_
      refine aw_iadd dX4_putWord_39 rfl ?_
      refine aw_puti (k := 0) dX4_putWord_40 rfl (by decide) rfl rfl cb_4 (by decide) rfl rfl gw_138 ?_
      refine aw_iinc (i := 2) (j := 2) (v := x2 + (-8)) (L2 := [(2, vI (x2 + (-8))), (0, vR 4 0), (1, vI x1)]) dX4_putWord_43 rfl (by decide) rfl rfl rfl ?_
      refine aw_goto 3 dX4_putWord_46 rfl ?_
      exact aw_sub [1, 2, 0] rfl k
set_option maxHeartbeats 4000000 in
set_option maxRecDepth 100000 in
theorem vc_X4_shorten_0 {X : WD → State → Prop} {d rb : Nat} {h : Hp} {Qr : Option AV → Hp → Prop} {Qx : String → Hp → Prop} {a1 : Int32}  (k : ((a1 < 0) → Qr (some (vI 0)) h) ∧ ((¬ a1 < 0) → ((a1 ≤ (h.1 4 0 0)) → Qr (some (vI 1)) (hp_i h 4 0 0 a1)) ∧ ((¬ a1 ≤ (h.1 4 0 0)) → Qr (some (vI 0)) h))) : AW X (d + 1) rb mX4_shorten 0 [(0, vR 4 0), (1, vI a1)] [] h Qr Qx := by
  refine aw_iload_n (j := 1) (i := 1) dX4_shorten_0 rfl rfl rfl ?_
  refine aw_if_lt 12 dX4_shorten_1 rfl rfl (fun c => ?_) (fun c => ?_)
  · replace k := k.1 c
    refine aw_iconst (v := 0) dX4_shorten_12 rfl (by decide) ?_
    exact aw_zret dX4_shorten_13 rfl (by decide) k
  · replace k := k.2 c
    refine aw_iload_n (j := 1) (i := 1) dX4_shorten_4 rfl rfl rfl ?_
    refine aw_aload_n (j := 0) (i := 0) dX4_shorten_5 rfl rfl rfl ?_
    refine aw_geti (k := 0) dX4_shorten_6 rfl (by decide) rfl rfl cb_4 (by decide) gw_138 ?_
    refine aw_icmp_le 14 dX4_shorten_9 rfl rfl (fun c => ?_) (fun c => ?_)
    · replace k := k.1 c
      refine aw_aload_n (j := 0) (i := 0) dX4_shorten_14 rfl rfl rfl ?_
      refine aw_iload_n (j := 1) (i := 1) dX4_shorten_15 rfl rfl rfl ?_
      refine aw_puti (k := 0) dX4_shorten_16 rfl (by decide) rfl rfl cb_4 (by decide) rfl rfl gw_138 ?_
      refine aw_iconst (v := 1) dX4_shorten_19 rfl (by decide) ?_
      exact aw_zret dX4_shorten_20 rfl (by decide) k
    · replace k := k.2 c
      refine aw_iconst (v := 0) dX4_shorten_12 rfl (by decide) ?_
      exact aw_zret dX4_shorten_13 rfl (by decide) k
set_option maxHeartbeats 4000000 in
set_option maxRecDepth 100000 in
theorem vc_X4_signAt_0 {X : WD → State → Prop} {d rb : Nat} {h : Hp} {Qr : Option AV → Hp → Prop} {Qx : String → Hp → Prop} {a1 : Int32}  (k : ((a1 < 0) → Qr (some (vI (-1))) h) ∧ ((¬ a1 < 0) → (((h.1 4 0 0) ≤ a1) → Qr (some (vI (-1))) h) ∧ ((¬ (h.1 4 0 0) ≤ a1) → ((900 ≤ a1) → Qr (some (vI (-1))) h) ∧ ((¬ 900 ≤ a1) → (vp_in a1 900) ∧ Qr (some (vI ((h.1 35 0 a1.toNatClampNeg) &&& 255))) h)))) : AW X (d + 1) rb mX4_signAt 0 [(0, vR 4 0), (1, vI a1)] [] h Qr Qx := by
  refine aw_iload_n (j := 1) (i := 1) dX4_signAt_0 rfl rfl rfl ?_
  refine aw_if_lt 32 dX4_signAt_1 rfl rfl (fun c => ?_) (fun c => ?_)
  · replace k := k.1 c
    refine aw_iconst (v := (-1)) dX4_signAt_32 rfl (by decide) ?_
    exact aw_iret dX4_signAt_33 rfl k
  · replace k := k.2 c
    refine aw_iload_n (j := 1) (i := 1) dX4_signAt_4 rfl rfl rfl ?_
    refine aw_aload_n (j := 0) (i := 0) dX4_signAt_5 rfl rfl rfl ?_
    refine aw_geti (k := 0) dX4_signAt_6 rfl (by decide) rfl rfl cb_4 (by decide) gw_138 ?_
    refine aw_icmp_ge 32 dX4_signAt_9 rfl rfl (fun c => ?_) (fun c => ?_)
    · replace k := k.1 c
      refine aw_iconst (v := (-1)) dX4_signAt_32 rfl (by decide) ?_
      exact aw_iret dX4_signAt_33 rfl k
    · replace k := k.2 c
      refine aw_iload_n (j := 1) (i := 1) dX4_signAt_12 rfl rfl rfl ?_
      refine aw_sipush (v := 900) dX4_signAt_13 rfl (by decide) ?_
      refine aw_icmp_ge 32 dX4_signAt_16 rfl rfl (fun c => ?_) (fun c => ?_)
      · replace k := k.1 c
        refine aw_iconst (v := (-1)) dX4_signAt_32 rfl (by decide) ?_
        exact aw_iret dX4_signAt_33 rfl k
      · replace k := k.2 c
        refine aw_aload_n (j := 0) (i := 0) dX4_signAt_19 rfl rfl rfl ?_
        refine aw_getf (k := 1) (z := 35) dX4_signAt_20 rfl (by decide) rfl rfl rfl cb_4 (by decide) gw_141 ?_
        refine aw_iload_n (j := 1) (i := 1) dX4_signAt_23 rfl rfl rfl ?_
        refine aw_bald dX4_signAt_24 rfl (by decide) rfl k.1 ?_
        replace k := k.2
        refine aw_sipush (v := 255) dX4_signAt_25 rfl (by decide) ?_
        refine aw_iand dX4_signAt_28 rfl ?_
        refine aw_goto 33 dX4_signAt_29 rfl ?_
        exact aw_iret dX4_signAt_33 rfl k
set_option maxHeartbeats 4000000 in
set_option maxRecDepth 100000 in
theorem vc_X5_clear_0 {X : WD → State → Prop} {d rb : Nat} {h : Hp} {Qr : Option AV → Hp → Prop} {Qx : String → Hp → Prop} {i0 : Nat}  (k : CL 0 d mX10_clear [vR 10 i0] h (oV fun h1 => CL 0 d mX8_clear [vR 8 i0] (hp_i h1 6 i0 0 0) (oV fun h2 => Qr none h2) Qx) Qx) : AW X (d + 1) rb mX5_clear 0 [(0, vR 5 i0)] [] h Qr Qx := by
  refine aw_aload_n (j := 0) (i := 0) dX5_clear_0 rfl rfl rfl ?_
  refine aw_getf (k := 0) (z := 10) dX5_clear_1 rfl (by decide) rfl rfl rfl cb_5 (by decide) gw_320 ?_
  refine aw_callV (M' := mX10_clear) (S := []) (as := []) (k := 0) dX5_clear_4 rfl (by decide) rfl rfl gw_755 gw_756 gw_757 mb_X10_clear rfl (Nat.zero_le _) (Nat.le_of_ble_eq_true rfl) rfl (CL.imp k (fun _ h1 k => ?_) (fun _ _ k => k))
  obtain ⟨rfl, k⟩ := oV_of k
  show AW X (d + 1) rb mX5_clear 7 _ [] h1 Qr Qx
  refine aw_aload_n (j := 0) (i := 0) dX5_clear_7 rfl rfl rfl ?_
  refine aw_getf (k := 1) (z := 6) dX5_clear_8 rfl (by decide) rfl rfl rfl cb_5 (by decide) gw_324 ?_
  refine aw_iconst (v := 0) dX5_clear_11 rfl (by decide) ?_
  refine aw_puti (k := 0) dX5_clear_12 rfl (by decide) rfl rfl cb_6 (by decide) rfl rfl gw_269 ?_
  refine aw_aload_n (j := 0) (i := 0) dX5_clear_15 rfl rfl rfl ?_
  refine aw_getf (k := 2) (z := 8) dX5_clear_16 rfl (by decide) rfl rfl rfl cb_5 (by decide) gw_328 ?_
  refine aw_callV (M' := mX8_clear) (S := []) (as := []) (k := 0) dX5_clear_19 rfl (by decide) rfl rfl gw_760 gw_761 gw_762 mb_X8_clear rfl (Nat.zero_le _) (Nat.le_of_ble_eq_true rfl) rfl (CL.imp k (fun _ h2 k => ?_) (fun _ _ k => k))
  obtain ⟨rfl, k⟩ := oV_of k
  show AW X (d + 1) rb mX5_clear 22 _ [] h2 Qr Qx
  exact aw_vret dX5_clear_22 rfl k
set_option maxHeartbeats 4000000 in
set_option maxRecDepth 100000 in
theorem vc_X5_copyFrom_0 {X : WD → State → Prop} {d rb : Nat} {h : Hp} {Qr : Option AV → Hp → Prop} {Qx : String → Hp → Prop} {i0 : Nat} {i1 : Nat}  (k : CL 0 d mX10_copyFrom [vR 10 i0, vR 10 i1] h (oV fun h1 => CL 0 d mX6_copyFrom [vR 6 i0, vR 6 i1] h1 (oV fun h2 => CL 0 d mX8_copyFrom [vR 8 i0, vR 8 i1] h2 (oV fun h3 => Qr none h3) Qx) Qx) Qx) : AW X (d + 1) rb mX5_copyFrom 0 [(0, vR 5 i0), (1, vR 5 i1)] [] h Qr Qx := by
  refine aw_aload_n (j := 0) (i := 0) dX5_copyFrom_0 rfl rfl rfl ?_
  refine aw_getf (k := 0) (z := 10) dX5_copyFrom_1 rfl (by decide) rfl rfl rfl cb_5 (by decide) gw_320 ?_
  refine aw_aload_n (j := 1) (i := 1) dX5_copyFrom_4 rfl rfl rfl ?_
  refine aw_getf (k := 0) (z := 10) dX5_copyFrom_5 rfl (by decide) rfl rfl rfl cb_5 (by decide) gw_320 ?_
  refine aw_callV (M' := mX10_copyFrom) (S := []) (as := [vR 10 i1]) (k := 0) dX5_copyFrom_8 rfl (by decide) rfl rfl gw_631 gw_632 gw_633 mb_X10_copyFrom rfl (Nat.zero_le _) (Nat.le_of_ble_eq_true rfl) rfl (CL.imp k (fun _ h1 k => ?_) (fun _ _ k => k))
  obtain ⟨rfl, k⟩ := oV_of k
  show AW X (d + 1) rb mX5_copyFrom 11 _ [] h1 Qr Qx
  refine aw_aload_n (j := 0) (i := 0) dX5_copyFrom_11 rfl rfl rfl ?_
  refine aw_getf (k := 1) (z := 6) dX5_copyFrom_12 rfl (by decide) rfl rfl rfl cb_5 (by decide) gw_324 ?_
  refine aw_aload_n (j := 1) (i := 1) dX5_copyFrom_15 rfl rfl rfl ?_
  refine aw_getf (k := 1) (z := 6) dX5_copyFrom_16 rfl (by decide) rfl rfl rfl cb_5 (by decide) gw_324 ?_
  refine aw_callV (M' := mX6_copyFrom) (S := []) (as := [vR 6 i1]) (k := 0) dX5_copyFrom_19 rfl (by decide) rfl rfl gw_638 gw_639 gw_640 mb_X6_copyFrom rfl (Nat.zero_le _) (Nat.le_of_ble_eq_true rfl) rfl (CL.imp k (fun _ h2 k => ?_) (fun _ _ k => k))
  obtain ⟨rfl, k⟩ := oV_of k
  show AW X (d + 1) rb mX5_copyFrom 22 _ [] h2 Qr Qx
  refine aw_aload_n (j := 0) (i := 0) dX5_copyFrom_22 rfl rfl rfl ?_
  refine aw_getf (k := 2) (z := 8) dX5_copyFrom_23 rfl (by decide) rfl rfl rfl cb_5 (by decide) gw_328 ?_
  refine aw_aload_n (j := 1) (i := 1) dX5_copyFrom_26 rfl rfl rfl ?_
  refine aw_getf (k := 2) (z := 8) dX5_copyFrom_27 rfl (by decide) rfl rfl rfl cb_5 (by decide) gw_328 ?_
  refine aw_callV (M' := mX8_copyFrom) (S := []) (as := [vR 8 i1]) (k := 0) dX5_copyFrom_30 rfl (by decide) rfl rfl gw_643 gw_644 gw_645 mb_X8_copyFrom rfl (Nat.zero_le _) (Nat.le_of_ble_eq_true rfl) rfl (CL.imp k (fun _ h3 k => ?_) (fun _ _ k => k))
  obtain ⟨rfl, k⟩ := oV_of k
  show AW X (d + 1) rb mX5_copyFrom 33 _ [] h3 Qr Qx
  exact aw_vret dX5_copyFrom_33 rfl k
set_option maxHeartbeats 4000000 in
set_option maxRecDepth 100000 in
theorem vc_X5_openPieces_0 {X : WD → State → Prop} {d rb : Nat} {h : Hp} {Qr : Option AV → Hp → Prop} {Qx : String → Hp → Prop} {i0 : Nat} {i1 : Nat} {a2 : Int32}  (k : AW X (d + 1) rb mX5_openPieces 5 [(0, vR 5 i0), (1, vR 1 i1), (2, vI a2), (3, vI 0), (4, vI 0)] [] h Qr Qx) : AW X (d + 1) rb mX5_openPieces 0 [(0, vR 5 i0), (1, vR 1 i1), (2, vI a2)] [] h Qr Qx := by
  refine aw_iconst (v := 0) dX5_openPieces_0 rfl (by decide) ?_
  refine aw_istore_n (i := 3) (L2 := [(3, vI 0), (0, vR 5 i0), (1, vR 1 i1), (2, vI a2)]) dX5_openPieces_1 rfl rfl (by decide) rfl ?_
  refine aw_iconst (v := 0) dX5_openPieces_2 rfl (by decide) ?_
  refine aw_istore (i := 4) (L2 := [(4, vI 0), (3, vI 0), (0, vR 5 i0), (1, vR 1 i1), (2, vI a2)]) dX5_openPieces_3 rfl (by decide) rfl ?_
  exact aw_sub [2, 3, 4, 1, 0] rfl k
set_option maxHeartbeats 4000000 in
set_option maxRecDepth 100000 in
theorem vc_X5_openPieces_5 {X : WD → State → Prop} {d rb : Nat} {h : Hp} {Qr : Option AV → Hp → Prop} {Qx : String → Hp → Prop} {i0 : Nat} {i1 : Nat} {x2 : Int32} {x3 : Int32} {x4 : Int32}  (k : (((h.1 6 i0 0) ≤ x4) → Qr (some (vI x3)) h) ∧ ((¬ (h.1 6 i0 0) ≤ x4) → CL 0 d mX6_openOf [vR 6 i0, vI x4] h (oI fun r2 h1 => CL 0 d mX6_productOf [vR 6 i0, vI x4] h1 (oI fun r4 h3 => CL 0 d mX1_needOf [vR 1 i1, vI r4, vI x2] h3 (oI fun r6 h5 => AW X (d + 1) rb mX5_openPieces 5 [(0, vR 5 i0), (1, vR 1 i1), (2, vI x2), (3, vI (x3 + (r2 * r6))), (4, vI (x4 + 1))] [] h5 Qr Qx) Qx) Qx) Qx)) : AW X (d + 1) rb mX5_openPieces 5 [(0, vR 5 i0), (1, vR 1 i1), (2, vI x2), (3, vI x3), (4, vI x4)] [] h Qr Qx := by
  refine aw_iload (j := 4) (i := 4) dX5_openPieces_5 rfl rfl ?_
  refine aw_aload_n (j := 0) (i := 0) dX5_openPieces_7 rfl rfl rfl ?_
  refine aw_getf (k := 1) (z := 6) dX5_openPieces_8 rfl (by decide) rfl rfl rfl cb_5 (by decide) gw_324 ?_
  refine aw_geti (k := 0) dX5_openPieces_11 rfl (by decide) rfl rfl cb_6 (by decide) gw_269 ?_
  refine aw_icmp_ge 50 dX5_openPieces_14 rfl rfl (fun c => ?_) (fun c => ?_)
  · replace k := k.1 c
    refine aw_iload_n (j := 3) (i := 3) dX5_openPieces_50 rfl rfl rfl ?_
    exact aw_iret dX5_openPieces_51 rfl k
  · replace k := k.2 c
    refine aw_iload_n (j := 3) (i := 3) dX5_openPieces_17 rfl rfl rfl ?_
    refine aw_aload_n (j := 0) (i := 0) dX5_openPieces_18 rfl rfl rfl ?_
    refine aw_getf (k := 1) (z := 6) dX5_openPieces_19 rfl (by decide) rfl rfl rfl cb_5 (by decide) gw_324 ?_
    refine aw_iload (j := 4) (i := 4) dX5_openPieces_22 rfl rfl ?_
    refine aw_callV (M' := mX6_openOf) (S := [vI x3]) (as := [vI x4]) (k := 0) dX5_openPieces_24 rfl (by decide) rfl rfl gw_499 gw_500 gw_501 mb_X6_openOf rfl (Nat.zero_le _) (Nat.le_of_ble_eq_true rfl) rfl (CL.imp k (fun _ h1 k => ?_) (fun _ _ k => k))
    obtain ⟨r2, rfl, k⟩ := oI_of k
    show AW X (d + 1) rb mX5_openPieces 27 _ [vI r2, vI x3] h1 Qr Qx
    refine aw_aload_n (j := 1) (i := 1) dX5_openPieces_27 rfl rfl rfl ?_
    refine aw_aload_n (j := 0) (i := 0) dX5_openPieces_28 rfl rfl rfl ?_
    refine aw_getf (k := 1) (z := 6) dX5_openPieces_29 rfl (by decide) rfl rfl rfl cb_5 (by decide) gw_324 ?_
    refine aw_iload (j := 4) (i := 4) dX5_openPieces_32 rfl rfl ?_
    refine aw_callV (M' := mX6_productOf) (S := [vR 1 i1, vI r2, vI x3]) (as := [vI x4]) (k := 0) dX5_openPieces_34 rfl (by decide) rfl rfl gw_504 gw_505 gw_506 mb_X6_productOf rfl (Nat.zero_le _) (Nat.le_of_ble_eq_true rfl) rfl (CL.imp k (fun _ h3 k => ?_) (fun _ _ k => k))
    obtain ⟨r4, rfl, k⟩ := oI_of k
    show AW X (d + 1) rb mX5_openPieces 37 _ [vI r4, vR 1 i1, vI r2, vI x3] h3 Qr Qx
    refine aw_iload_n (j := 2) (i := 2) dX5_openPieces_37 rfl rfl rfl ?_
    refine aw_callV (M' := mX1_needOf) (S := [vI r2, vI x3]) (as := [vI r4, vI x2]) (k := 0) dX5_openPieces_38 rfl (by decide) rfl rfl gw_508 gw_509 gw_510 mb_X1_needOf rfl (Nat.zero_le _) (Nat.le_of_ble_eq_true rfl) rfl (CL.imp k (fun _ h5 k => ?_) (fun _ _ k => k))
    obtain ⟨r6, rfl, k⟩ := oI_of k
    show AW X (d + 1) rb mX5_openPieces 41 _ [vI r6, vI r2, vI x3] h5 Qr Qx
    refine aw_imul dX5_openPieces_41 rfl ?_
    refine aw_iadd dX5_openPieces_42 rfl ?_
    refine aw_istore_n (i := 3) (L2 := [(3, vI (x3 + (r2 * r6))), (0, vR 5 i0), (1, vR 1 i1), (2, vI x2), (4, vI x4)]) dX5_openPieces_43 rfl rfl (by decide) rfl ?_
    refine aw_iinc (i := 4) (j := 4) (v := x4 + 1) (L2 := [(4, vI (x4 + 1)), (3, vI (x3 + (r2 * r6))), (0, vR 5 i0), (1, vR 1 i1), (2, vI x2)]) dX5_openPieces_44 rfl (by decide) rfl rfl rfl ?_
    refine aw_goto 5 dX5_openPieces_47 rfl ?_
    exact aw_sub [2, 3, 4, 1, 0] rfl k
set_option maxHeartbeats 4000000 in
set_option maxRecDepth 100000 in
theorem vc_X5_changeReserved_0 {X : WD → State → Prop} {d rb : Nat} {h : Hp} {Qr : Option AV → Hp → Prop} {Qx : String → Hp → Prop} {i0 : Nat} {i1 : Nat} {a2 : Int32} {a3 : Int32}  (k : CL 0 d mX6_productOf [vR 6 i0, vI a2] h (oI fun r2 h1 => CL 0 d mX6_addReserved [vR 6 i0, vI a2, vI a3] h1 (oV fun h3 => AW X (d + 1) rb mX5_changeReserved 22 [(0, vR 5 i0), (1, vR 1 i1), (2, vI a2), (3, vI a3), (4, vI r2), (5, vI 0)] [] h3 Qr Qx) Qx) Qx) : AW X (d + 1) rb mX5_changeReserved 0 [(0, vR 5 i0), (1, vR 1 i1), (2, vI a2), (3, vI a3)] [] h Qr Qx := by
  refine aw_aload_n (j := 0) (i := 0) dX5_changeReserved_0 rfl rfl rfl ?_
  refine aw_getf (k := 1) (z := 6) dX5_changeReserved_1 rfl (by decide) rfl rfl rfl cb_5 (by decide) gw_324 ?_
  refine aw_iload_n (j := 2) (i := 2) dX5_changeReserved_4 rfl rfl rfl ?_
  refine aw_callV (M' := mX6_productOf) (S := []) (as := [vI a2]) (k := 0) dX5_changeReserved_5 rfl (by decide) rfl rfl gw_504 gw_505 gw_506 mb_X6_productOf rfl (Nat.zero_le _) (Nat.le_of_ble_eq_true rfl) rfl (CL.imp k (fun _ h1 k => ?_) (fun _ _ k => k))
  obtain ⟨r2, rfl, k⟩ := oI_of k
  show AW X (d + 1) rb mX5_changeReserved 8 _ [vI r2] h1 Qr Qx
  refine aw_istore (i := 4) (L2 := [(4, vI r2), (0, vR 5 i0), (1, vR 1 i1), (2, vI a2), (3, vI a3)]) dX5_changeReserved_8 rfl (by decide) rfl ?_
  refine aw_aload_n (j := 1) (i := 0) dX5_changeReserved_10 rfl rfl rfl ?_
  refine aw_getf (k := 1) (z := 6) dX5_changeReserved_11 rfl (by decide) rfl rfl rfl cb_5 (by decide) gw_324 ?_
  refine aw_iload_n (j := 3) (i := 2) dX5_changeReserved_14 rfl rfl rfl ?_
  refine aw_iload_n (j := 4) (i := 3) dX5_changeReserved_15 rfl rfl rfl ?_
  refine aw_callV (M' := mX6_addReserved) (S := []) (as := [vI a2, vI a3]) (k := 0) dX5_changeReserved_16 rfl (by decide) rfl rfl gw_687 gw_688 gw_689 mb_X6_addReserved rfl (Nat.zero_le _) (Nat.le_of_ble_eq_true rfl) rfl (CL.imp k (fun _ h3 k => ?_) (fun _ _ k => k))
  obtain ⟨rfl, k⟩ := oV_of k
  show AW X (d + 1) rb mX5_changeReserved 19 _ [] h3 Qr Qx
  refine aw_iconst (v := 0) dX5_changeReserved_19 rfl (by decide) ?_
  refine aw_istore (i := 5) (L2 := [(5, vI 0), (4, vI r2), (0, vR 5 i0), (1, vR 1 i1), (2, vI a2), (3, vI a3)]) dX5_changeReserved_20 rfl (by decide) rfl ?_
  exact aw_sub [2, 3, 4, 5, 1, 0] rfl k
set_option maxHeartbeats 4000000 in
set_option maxRecDepth 100000 in
theorem vc_X5_changeReserved_22 {X : WD → State → Prop} {d rb : Nat} {h : Hp} {Qr : Option AV → Hp → Prop} {Qx : String → Hp → Prop} {i0 : Nat} {i1 : Nat} {x2 : Int32} {x3 : Int32} {x4 : Int32} {x5 : Int32}  (k : (((h.1 1 i1 0) ≤ x5) → Qr none h) ∧ ((¬ (h.1 1 i1 0) ≤ x5) → CL 0 d mX1_needOf [vR 1 i1, vI x4, vI x5] h (oI fun r2 h1 => CL 0 d mX10_addReserved [vR 10 i0, vI x5, vI (x3 * r2)] h1 (oV fun h3 => AW X (d + 1) rb mX5_changeReserved 22 [(0, vR 5 i0), (1, vR 1 i1), (2, vI x2), (3, vI x3), (4, vI x4), (5, vI (x5 + 1))] [] h3 Qr Qx) Qx) Qx)) : AW X (d + 1) rb mX5_changeReserved 22 [(0, vR 5 i0), (1, vR 1 i1), (2, vI x2), (3, vI x3), (4, vI x4), (5, vI x5)] [] h Qr Qx := by
  refine aw_iload (j := 5) (i := 5) dX5_changeReserved_22 rfl rfl ?_
  refine aw_aload_n (j := 1) (i := 1) dX5_changeReserved_24 rfl rfl rfl ?_
  refine aw_geti (k := 0) dX5_changeReserved_25 rfl (by decide) rfl rfl cb_1 (by decide) gw_173 ?_
  refine aw_icmp_ge 56 dX5_changeReserved_28 rfl rfl (fun c => ?_) (fun c => ?_)
  · replace k := k.1 c
    exact aw_vret dX5_changeReserved_56 rfl k
  · replace k := k.2 c
    refine aw_aload_n (j := 0) (i := 0) dX5_changeReserved_31 rfl rfl rfl ?_
    refine aw_getf (k := 0) (z := 10) dX5_changeReserved_32 rfl (by decide) rfl rfl rfl cb_5 (by decide) gw_320 ?_
    refine aw_iload (j := 5) (i := 5) dX5_changeReserved_35 rfl rfl ?_
    refine aw_iload_n (j := 3) (i := 3) dX5_changeReserved_37 rfl rfl rfl ?_
    refine aw_aload_n (j := 1) (i := 1) dX5_changeReserved_38 rfl rfl rfl ?_
    refine aw_iload (j := 4) (i := 4) dX5_changeReserved_39 rfl rfl ?_
    refine aw_iload (j := 5) (i := 5) dX5_changeReserved_41 rfl rfl ?_
    refine aw_callV (M' := mX1_needOf) (S := [vI x3, vI x5, vR 10 i0]) (as := [vI x4, vI x5]) (k := 0) dX5_changeReserved_43 rfl (by decide) rfl rfl gw_508 gw_509 gw_510 mb_X1_needOf rfl (Nat.zero_le _) (Nat.le_of_ble_eq_true rfl) rfl (CL.imp k (fun _ h1 k => ?_) (fun _ _ k => k))
    obtain ⟨r2, rfl, k⟩ := oI_of k
    show AW X (d + 1) rb mX5_changeReserved 46 _ [vI r2, vI x3, vI x5, vR 10 i0] h1 Qr Qx
    refine aw_imul dX5_changeReserved_46 rfl ?_
    refine aw_callV (M' := mX10_addReserved) (S := []) (as := [vI x5, vI (x3 * r2)]) (k := 0) dX5_changeReserved_47 rfl (by decide) rfl rfl gw_691 gw_692 gw_693 mb_X10_addReserved rfl (Nat.zero_le _) (Nat.le_of_ble_eq_true rfl) rfl (CL.imp k (fun _ h3 k => ?_) (fun _ _ k => k))
    obtain ⟨rfl, k⟩ := oV_of k
    show AW X (d + 1) rb mX5_changeReserved 50 _ [] h3 Qr Qx
    refine aw_iinc (i := 5) (j := 5) (v := x5 + 1) (L2 := [(5, vI (x5 + 1)), (0, vR 5 i0), (1, vR 1 i1), (2, vI x2), (3, vI x3), (4, vI x4)]) dX5_changeReserved_50 rfl (by decide) rfl rfl rfl ?_
    refine aw_goto 22 dX5_changeReserved_53 rfl ?_
    exact aw_sub [1, 2, 3, 4, 5, 0] rfl k
set_option maxHeartbeats 4000000 in
set_option maxRecDepth 100000 in
theorem vc_X5_sendReserved_0 {X : WD → State → Prop} {d rb : Nat} {h : Hp} {Qr : Option AV → Hp → Prop} {Qx : String → Hp → Prop} {i0 : Nat} {i1 : Nat} {a2 : Int32}  (k : CL 0 d mX6_productOf [vR 6 i0, vI a2] h (oI fun r2 h1 => CL 0 d mX6_reservedOf [vR 6 i0, vI a2] h1 (oI fun r4 h3 => AW X (d + 1) rb mX5_sendReserved 22 [(0, vR 5 i0), (1, vR 1 i1), (2, vI a2), (3, vI r2), (4, vI r4), (5, vI 0)] [] h3 Qr Qx) Qx) Qx) : AW X (d + 1) rb mX5_sendReserved 0 [(0, vR 5 i0), (1, vR 1 i1), (2, vI a2)] [] h Qr Qx := by
  refine aw_aload_n (j := 0) (i := 0) dX5_sendReserved_0 rfl rfl rfl ?_
  refine aw_getf (k := 1) (z := 6) dX5_sendReserved_1 rfl (by decide) rfl rfl rfl cb_5 (by decide) gw_324 ?_
  refine aw_iload_n (j := 2) (i := 2) dX5_sendReserved_4 rfl rfl rfl ?_
  refine aw_callV (M' := mX6_productOf) (S := []) (as := [vI a2]) (k := 0) dX5_sendReserved_5 rfl (by decide) rfl rfl gw_504 gw_505 gw_506 mb_X6_productOf rfl (Nat.zero_le _) (Nat.le_of_ble_eq_true rfl) rfl (CL.imp k (fun _ h1 k => ?_) (fun _ _ k => k))
  obtain ⟨r2, rfl, k⟩ := oI_of k
  show AW X (d + 1) rb mX5_sendReserved 8 _ [vI r2] h1 Qr Qx
  refine aw_istore_n (i := 3) (L2 := [(3, vI r2), (0, vR 5 i0), (1, vR 1 i1), (2, vI a2)]) dX5_sendReserved_8 rfl rfl (by decide) rfl ?_
  refine aw_aload_n (j := 1) (i := 0) dX5_sendReserved_9 rfl rfl rfl ?_
  refine aw_getf (k := 1) (z := 6) dX5_sendReserved_10 rfl (by decide) rfl rfl rfl cb_5 (by decide) gw_324 ?_
  refine aw_iload_n (j := 3) (i := 2) dX5_sendReserved_13 rfl rfl rfl ?_
  refine aw_callV (M' := mX6_reservedOf) (S := []) (as := [vI a2]) (k := 0) dX5_sendReserved_14 rfl (by decide) rfl rfl gw_1439 gw_1235 gw_1236 mb_X6_reservedOf rfl (Nat.zero_le _) (Nat.le_of_ble_eq_true rfl) rfl (CL.imp k (fun _ h3 k => ?_) (fun _ _ k => k))
  obtain ⟨r4, rfl, k⟩ := oI_of k
  show AW X (d + 1) rb mX5_sendReserved 17 _ [vI r4] h3 Qr Qx
  refine aw_istore (i := 4) (L2 := [(4, vI r4), (3, vI r2), (0, vR 5 i0), (1, vR 1 i1), (2, vI a2)]) dX5_sendReserved_17 rfl (by decide) rfl ?_
  refine aw_iconst (v := 0) dX5_sendReserved_19 rfl (by decide) ?_
  refine aw_istore (i := 5) (L2 := [(5, vI 0), (4, vI r4), (3, vI r2), (0, vR 5 i0), (1, vR 1 i1), (2, vI a2)]) dX5_sendReserved_20 rfl (by decide) rfl ?_
  exact aw_sub [3, 4, 5, 2, 1, 0] rfl k
set_option maxHeartbeats 4000000 in
set_option maxRecDepth 100000 in
theorem vc_X5_sendReserved_22 {X : WD → State → Prop} {d rb : Nat} {h : Hp} {Qr : Option AV → Hp → Prop} {Qx : String → Hp → Prop} {i0 : Nat} {i1 : Nat} {x2 : Int32} {x3 : Int32} {x4 : Int32} {x5 : Int32}  (k : (((h.1 1 i1 0) ≤ x5) → CL 0 d mX5_changeReserved [vR 5 i0, vR 1 i1, vI x2, vI (-x4)] h (oV fun h1 => CL 0 d mX6_addShipped [vR 6 i0, vI x2, vI x4] h1 (oV fun h2 => CL 0 d mX6_dueOf [vR 6 i0, vI x2] h2 (oI fun r4 h3 => CL 0 d mX8_addShipment [vR 8 i0, vI x2, vI x4, vI (h2.1 10 i0 0), vI r4] h3 (oV fun h5 => Qr (some (vI x4)) h5) Qx) Qx) Qx) Qx) ∧ ((¬ (h.1 1 i1 0) ≤ x5) → CL 0 d mX1_needOf [vR 1 i1, vI x3, vI x5] h (oI fun r7 h6 => CL 0 d mX10_stockOf [vR 10 i0, vI x5] h6 (oI fun r9 h8 => CL 0 d mX10_setStock [vR 10 i0, vI x5, vI (r9 - (x4 * r7))] h8 (oV fun h10 => AW X (d + 1) rb mX5_sendReserved 22 [(0, vR 5 i0), (1, vR 1 i1), (2, vI x2), (3, vI x3), (4, vI x4), (5, vI (x5 + 1))] [] h10 Qr Qx) Qx) Qx) Qx)) : AW X (d + 1) rb mX5_sendReserved 22 [(0, vR 5 i0), (1, vR 1 i1), (2, vI x2), (3, vI x3), (4, vI x4), (5, vI x5)] [] h Qr Qx := by
  refine aw_iload (j := 5) (i := 5) dX5_sendReserved_22 rfl rfl ?_
  refine aw_aload_n (j := 1) (i := 1) dX5_sendReserved_24 rfl rfl rfl ?_
  refine aw_geti (k := 0) dX5_sendReserved_25 rfl (by decide) rfl rfl cb_1 (by decide) gw_173 ?_
  refine aw_icmp_ge 70 dX5_sendReserved_28 rfl rfl (fun c => ?_) (fun c => ?_)
  · replace k := k.1 c
    refine aw_aload_n (j := 0) (i := 0) dX5_sendReserved_70 rfl rfl rfl ?_
    refine aw_aload_n (j := 1) (i := 1) dX5_sendReserved_71 rfl rfl rfl ?_
    refine aw_iload_n (j := 2) (i := 2) dX5_sendReserved_72 rfl rfl rfl ?_
    refine aw_iload (j := 4) (i := 4) dX5_sendReserved_73 rfl rfl ?_
    refine aw_ineg dX5_sendReserved_75 rfl ?_
    refine aw_callV (M' := mX5_changeReserved) (S := []) (as := [vR 1 i1, vI x2, vI (-x4)]) (k := 0) dX5_sendReserved_76 rfl (by decide) rfl rfl gw_1442 gw_684 gw_685 mb_X5_changeReserved rfl (Nat.zero_le _) (Nat.le_of_ble_eq_true rfl) rfl (CL.imp k (fun _ h1 k => ?_) (fun _ _ k => k))
    obtain ⟨rfl, k⟩ := oV_of k
    show AW X (d + 1) rb mX5_sendReserved 79 _ [] h1 Qr Qx
    refine aw_aload_n (j := 0) (i := 0) dX5_sendReserved_79 rfl rfl rfl ?_
    refine aw_getf (k := 1) (z := 6) dX5_sendReserved_80 rfl (by decide) rfl rfl rfl cb_5 (by decide) gw_324 ?_
    refine aw_iload_n (j := 2) (i := 2) dX5_sendReserved_83 rfl rfl rfl ?_
    refine aw_iload (j := 4) (i := 4) dX5_sendReserved_84 rfl rfl ?_
    refine aw_callV (M' := mX6_addShipped) (S := []) (as := [vI x2, vI x4]) (k := 0) dX5_sendReserved_86 rfl (by decide) rfl rfl gw_1443 gw_1444 gw_1445 mb_X6_addShipped rfl (Nat.zero_le _) (Nat.le_of_ble_eq_true rfl) rfl (CL.imp k (fun _ h2 k => ?_) (fun _ _ k => k))
    obtain ⟨rfl, k⟩ := oV_of k
    show AW X (d + 1) rb mX5_sendReserved 89 _ [] h2 Qr Qx
    refine aw_aload_n (j := 0) (i := 0) dX5_sendReserved_89 rfl rfl rfl ?_
    refine aw_getf (k := 2) (z := 8) dX5_sendReserved_90 rfl (by decide) rfl rfl rfl cb_5 (by decide) gw_328 ?_
    refine aw_iload_n (j := 2) (i := 2) dX5_sendReserved_93 rfl rfl rfl ?_
    refine aw_iload (j := 4) (i := 4) dX5_sendReserved_94 rfl rfl ?_
    refine aw_aload_n (j := 0) (i := 0) dX5_sendReserved_96 rfl rfl rfl ?_
    refine aw_getf (k := 0) (z := 10) dX5_sendReserved_97 rfl (by decide) rfl rfl rfl cb_5 (by decide) gw_320 ?_
    refine aw_geti (k := 0) dX5_sendReserved_100 rfl (by decide) rfl rfl cb_10 (by decide) gw_238 ?_
    refine aw_aload_n (j := 0) (i := 0) dX5_sendReserved_103 rfl rfl rfl ?_
    refine aw_getf (k := 1) (z := 6) dX5_sendReserved_104 rfl (by decide) rfl rfl rfl cb_5 (by decide) gw_324 ?_
    refine aw_iload_n (j := 2) (i := 2) dX5_sendReserved_107 rfl rfl rfl ?_
    refine aw_callV (M' := mX6_dueOf) (S := [vI (h2.1 10 i0 0), vI x4, vI x2, vR 8 i0]) (as := [vI x2]) (k := 0) dX5_sendReserved_108 rfl (by decide) rfl rfl gw_1447 gw_562 gw_563 mb_X6_dueOf rfl (Nat.zero_le _) (Nat.le_of_ble_eq_true rfl) rfl (CL.imp k (fun _ h3 k => ?_) (fun _ _ k => k))
    obtain ⟨r4, rfl, k⟩ := oI_of k
    show AW X (d + 1) rb mX5_sendReserved 111 _ [vI r4, vI (h2.1 10 i0 0), vI x4, vI x2, vR 8 i0] h3 Qr Qx
    refine aw_callV (M' := mX8_addShipment) (S := []) (as := [vI x2, vI x4, vI (h2.1 10 i0 0), vI r4]) (k := 0) dX5_sendReserved_111 rfl (by decide) rfl rfl gw_1448 gw_1449 gw_1450 mb_X8_addShipment rfl (Nat.zero_le _) (Nat.le_of_ble_eq_true rfl) rfl (CL.imp k (fun _ h5 k => ?_) (fun _ _ k => k))
    obtain ⟨rfl, k⟩ := oV_of k
    show AW X (d + 1) rb mX5_sendReserved 114 _ [] h5 Qr Qx
    refine aw_iload (j := 4) (i := 4) dX5_sendReserved_114 rfl rfl ?_
    exact aw_iret dX5_sendReserved_116 rfl k
  · replace k := k.2 c
    refine aw_iload (j := 4) (i := 4) dX5_sendReserved_31 rfl rfl ?_
    refine aw_aload_n (j := 1) (i := 1) dX5_sendReserved_33 rfl rfl rfl ?_
    refine aw_iload_n (j := 3) (i := 3) dX5_sendReserved_34 rfl rfl rfl ?_
    refine aw_iload (j := 5) (i := 5) dX5_sendReserved_35 rfl rfl ?_
    refine aw_callV (M' := mX1_needOf) (S := [vI x4]) (as := [vI x3, vI x5]) (k := 0) dX5_sendReserved_37 rfl (by decide) rfl rfl gw_508 gw_509 gw_510 mb_X1_needOf rfl (Nat.zero_le _) (Nat.le_of_ble_eq_true rfl) rfl (CL.imp k (fun _ h6 k => ?_) (fun _ _ k => k))
    obtain ⟨r7, rfl, k⟩ := oI_of k
    show AW X (d + 1) rb mX5_sendReserved 40 _ [vI r7, vI x4] h6 Qr Qx
    refine aw_imul dX5_sendReserved_40 rfl ?_
    refine aw_istore (i := 6) (L2 := [(6, vI (x4 * r7)), (0, vR 5 i0), (1, vR 1 i1), (2, vI x2), (3, vI x3), (4, vI x4), (5, vI x5)]) dX5_sendReserved_41 rfl (by decide) rfl ?_
    refine aw_aload_n (j := 1) (i := 0) dX5_sendReserved_43 rfl rfl rfl ?_
    refine aw_getf (k := 0) (z := 10) dX5_sendReserved_44 rfl (by decide) rfl rfl rfl cb_5 (by decide) gw_320 ?_
    refine aw_iload (j := 6) (i := 5) dX5_sendReserved_47 rfl rfl ?_
    refine aw_aload_n (j := 1) (i := 0) dX5_sendReserved_49 rfl rfl rfl ?_
    refine aw_getf (k := 0) (z := 10) dX5_sendReserved_50 rfl (by decide) rfl rfl rfl cb_5 (by decide) gw_320 ?_
    refine aw_iload (j := 6) (i := 5) dX5_sendReserved_53 rfl rfl ?_
    refine aw_callV (M' := mX10_stockOf) (S := [vI x5, vR 10 i0]) (as := [vI x5]) (k := 0) dX5_sendReserved_55 rfl (by decide) rfl rfl gw_1440 gw_517 gw_518 mb_X10_stockOf rfl (Nat.zero_le _) (Nat.le_of_ble_eq_true rfl) rfl (CL.imp k (fun _ h8 k => ?_) (fun _ _ k => k))
    obtain ⟨r9, rfl, k⟩ := oI_of k
    show AW X (d + 1) rb mX5_sendReserved 58 _ [vI r9, vI x5, vR 10 i0] h8 Qr Qx
    refine aw_iload (j := 0) (i := 6) dX5_sendReserved_58 rfl rfl ?_
    refine aw_isub dX5_sendReserved_60 rfl ?_
    refine aw_callV (M' := mX10_setStock) (S := []) (as := [vI x5, vI (r9 - (x4 * r7))]) (k := 0) dX5_sendReserved_61 rfl (by decide) rfl rfl gw_1441 gw_886 gw_887 mb_X10_setStock rfl (Nat.zero_le _) (Nat.le_of_ble_eq_true rfl) rfl (CL.imp k (fun _ h10 k => ?_) (fun _ _ k => k))
    obtain ⟨rfl, k⟩ := oV_of k
    show AW X (d + 1) rb mX5_sendReserved 64 _ [] h10 Qr Qx
    refine aw_iinc (i := 5) (j := 6) (v := x5 + 1) (L2 := [(5, vI (x5 + 1)), (6, vI (x4 * r7)), (0, vR 5 i0), (1, vR 1 i1), (2, vI x2), (3, vI x3), (4, vI x4)]) dX5_sendReserved_64 rfl (by decide) rfl rfl rfl ?_
    refine aw_goto 22 dX5_sendReserved_67 rfl ?_
    exact aw_sub [2, 3, 4, 5, 6, 0] rfl k
set_option maxHeartbeats 4000000 in
set_option maxRecDepth 100000 in
theorem vc_X5_releaseExcess_0 {X : WD → State → Prop} {d rb : Nat} {h : Hp} {Qr : Option AV → Hp → Prop} {Qx : String → Hp → Prop} {i0 : Nat} {i1 : Nat} {a2 : Int32}  (k : AW X (d + 1) rb mX5_releaseExcess 5 [(0, vR 5 i0), (1, vR 1 i1), (2, vI a2), (3, vI 0), (4, vI 0)] [] h Qr Qx) : AW X (d + 1) rb mX5_releaseExcess 0 [(0, vR 5 i0), (1, vR 1 i1), (2, vI a2)] [] h Qr Qx := by
  refine aw_iconst (v := 0) dX5_releaseExcess_0 rfl (by decide) ?_
  refine aw_istore_n (i := 3) (L2 := [(3, vI 0), (0, vR 5 i0), (1, vR 1 i1), (2, vI a2)]) dX5_releaseExcess_1 rfl rfl (by decide) rfl ?_
  refine aw_iconst (v := 0) dX5_releaseExcess_2 rfl (by decide) ?_
  refine aw_istore (i := 4) (L2 := [(4, vI 0), (3, vI 0), (0, vR 5 i0), (1, vR 1 i1), (2, vI a2)]) dX5_releaseExcess_3 rfl (by decide) rfl ?_
  exact aw_sub [2, 3, 4, 1, 0] rfl k
set_option maxHeartbeats 4000000 in
set_option maxRecDepth 100000 in
theorem vc_X5_releaseExcess_5 {X : WD → State → Prop} {d rb : Nat} {h : Hp} {Qr : Option AV → Hp → Prop} {Qx : String → Hp → Prop} {i0 : Nat} {i1 : Nat} {x2 : Int32} {x3 : Int32} {x4 : Int32}  (k : ((1980 ≤ x4) → Qr (some (vI x3)) h) ∧ ((¬ 1980 ≤ x4) → CL 0 d mX10_freeOf [vR 10 i0, vI x2] h (oI fun r2 h1 => ((0 ≤ r2) → Qr (some (vI x3)) h1) ∧ ((¬ 0 ≤ r2) → CL 0 d mX6_firstToLose [vR 6 i0, vR 1 i1, vI x2] h1 (oI fun r4 h3 => ((¬ r4 = (-1)) → CL 0 d mX6_isWhole [vR 6 i0, vI r4] h3 (oI fun r6 h5 => ((r6 = 0) → CL 0 d mX5_changeReserved [vR 5 i0, vR 1 i1, vI r4, vI (-1)] h5 (oV fun h7 => AW X (d + 1) rb mX5_releaseExcess 5 [(0, vR 5 i0), (1, vR 1 i1), (2, vI x2), (3, vI (x3 + 1)), (4, vI (x4 + 1))] [] h7 Qr Qx) Qx) ∧ ((¬ r6 = 0) → CL 0 d mX6_reservedOf [vR 6 i0, vI r4] h5 (oI fun r9 h8 => CL 0 d mX5_changeReserved [vR 5 i0, vR 1 i1, vI r4, vI (-r9)] h8 (oV fun h10 => AW X (d + 1) rb mX5_releaseExcess 5 [(0, vR 5 i0), (1, vR 1 i1), (2, vI x2), (3, vI (x3 + r9)), (4, vI (x4 + 1))] [] h10 Qr Qx) Qx) Qx)) Qx) ∧ ((r4 = (-1)) → Qr (some (vI x3)) h3)) Qx)) Qx)) : AW X (d + 1) rb mX5_releaseExcess 5 [(0, vR 5 i0), (1, vR 1 i1), (2, vI x2), (3, vI x3), (4, vI x4)] [] h Qr Qx := by
  refine aw_iload (j := 4) (i := 4) dX5_releaseExcess_5 rfl rfl ?_
  refine aw_sipush (v := 1980) dX5_releaseExcess_7 rfl (by decide) ?_
  refine aw_icmp_ge 91 dX5_releaseExcess_10 rfl rfl (fun c => ?_) (fun c => ?_)
  · replace k := k.1 c
    refine aw_iload_n (j := 3) (i := 3) dX5_releaseExcess_91 rfl rfl rfl ?_
    exact aw_iret dX5_releaseExcess_92 rfl k
  · replace k := k.2 c
    refine aw_aload_n (j := 0) (i := 0) dX5_releaseExcess_13 rfl rfl rfl ?_
    refine aw_getf (k := 0) (z := 10) dX5_releaseExcess_14 rfl (by decide) rfl rfl rfl cb_5 (by decide) gw_320 ?_
    refine aw_iload_n (j := 2) (i := 2) dX5_releaseExcess_17 rfl rfl rfl ?_
    refine aw_callV (M' := mX10_freeOf) (S := []) (as := [vI x2]) (k := 0) dX5_releaseExcess_18 rfl (by decide) rfl rfl gw_1479 gw_513 gw_514 mb_X10_freeOf rfl (Nat.zero_le _) (Nat.le_of_ble_eq_true rfl) rfl (CL.imp k (fun _ h1 k => ?_) (fun _ _ k => k))
    obtain ⟨r2, rfl, k⟩ := oI_of k
    show AW X (d + 1) rb mX5_releaseExcess 21 _ [vI r2] h1 Qr Qx
    refine aw_if_ge 91 dX5_releaseExcess_21 rfl rfl (fun c => ?_) (fun c => ?_)
    · replace k := k.1 c
      refine aw_iload_n (j := 3) (i := 3) dX5_releaseExcess_91 rfl rfl rfl ?_
      exact aw_iret dX5_releaseExcess_92 rfl k
    · replace k := k.2 c
      refine aw_aload_n (j := 0) (i := 0) dX5_releaseExcess_24 rfl rfl rfl ?_
      refine aw_getf (k := 1) (z := 6) dX5_releaseExcess_25 rfl (by decide) rfl rfl rfl cb_5 (by decide) gw_324 ?_
      refine aw_aload_n (j := 1) (i := 1) dX5_releaseExcess_28 rfl rfl rfl ?_
      refine aw_iload_n (j := 2) (i := 2) dX5_releaseExcess_29 rfl rfl rfl ?_
      refine aw_callV (M' := mX6_firstToLose) (S := []) (as := [vR 1 i1, vI x2]) (k := 0) dX5_releaseExcess_30 rfl (by decide) rfl rfl gw_1480 gw_1481 gw_1482 mb_X6_firstToLose rfl (Nat.zero_le _) (Nat.le_of_ble_eq_true rfl) rfl (CL.imp k (fun _ h3 k => ?_) (fun _ _ k => k))
      obtain ⟨r4, rfl, k⟩ := oI_of k
      show AW X (d + 1) rb mX5_releaseExcess 33 _ [vI r4] h3 Qr Qx
      refine aw_istore (i := 5) (L2 := [(5, vI r4), (0, vR 5 i0), (1, vR 1 i1), (2, vI x2), (3, vI x3), (4, vI x4)]) dX5_releaseExcess_33 rfl (by decide) rfl ?_
      refine aw_iload (j := 0) (i := 5) dX5_releaseExcess_35 rfl rfl ?_
      refine aw_iconst (v := (-1)) dX5_releaseExcess_37 rfl (by decide) ?_
      refine aw_icmp_ne 43 dX5_releaseExcess_38 rfl rfl (fun c => ?_) (fun c => ?_)
      · replace k := k.1 c
        refine aw_aload_n (j := 1) (i := 0) dX5_releaseExcess_43 rfl rfl rfl ?_
        refine aw_getf (k := 1) (z := 6) dX5_releaseExcess_44 rfl (by decide) rfl rfl rfl cb_5 (by decide) gw_324 ?_
        refine aw_iload (j := 0) (i := 5) dX5_releaseExcess_47 rfl rfl ?_
        refine aw_callV (M' := mX6_isWhole) (S := []) (as := [vI r4]) (k := 0) dX5_releaseExcess_49 rfl (by decide) rfl rfl gw_1490 gw_679 gw_680 mb_X6_isWhole rfl (Nat.zero_le _) (Nat.le_of_ble_eq_true rfl) rfl (CL.imp k (fun _ h5 k => ?_) (fun _ _ k => k))
        obtain ⟨r6, rfl, k⟩ := oI_of k
        show AW X (d + 1) rb mX5_releaseExcess 52 _ [vI r6] h5 Qr Qx
        refine aw_if_eq 67 dX5_releaseExcess_52 rfl rfl (fun c => ?_) (fun c => ?_)
        · replace k := k.1 c
          refine aw_iconst (v := 1) dX5_releaseExcess_67 rfl (by decide) ?_
          refine aw_istore (i := 6) (L2 := [(6, vI 1), (5, vI r4), (0, vR 5 i0), (1, vR 1 i1), (2, vI x2), (3, vI x3), (4, vI x4)]) dX5_releaseExcess_68 rfl (by decide) rfl ?_
          refine aw_aload_n (j := 2) (i := 0) dX5_releaseExcess_70 rfl rfl rfl ?_
          refine aw_aload_n (j := 3) (i := 1) dX5_releaseExcess_71 rfl rfl rfl ?_
          refine aw_iload (j := 1) (i := 5) dX5_releaseExcess_72 rfl rfl ?_
          refine aw_iload (j := 0) (i := 6) dX5_releaseExcess_74 rfl rfl ?_
          refine aw_ineg dX5_releaseExcess_76 rfl ?_
          refine aw_callV (M' := mX5_changeReserved) (S := []) (as := [vR 1 i1, vI r4, vI (-1)]) (k := 0) dX5_releaseExcess_77 rfl (by decide) rfl rfl gw_1442 gw_684 gw_685 mb_X5_changeReserved rfl (Nat.zero_le _) (Nat.le_of_ble_eq_true rfl) rfl (CL.imp k (fun _ h7 k => ?_) (fun _ _ k => k))
          obtain ⟨rfl, k⟩ := oV_of k
          show AW X (d + 1) rb mX5_releaseExcess 80 _ [] h7 Qr Qx
          refine aw_iload_n (j := 5) (i := 3) dX5_releaseExcess_80 rfl rfl rfl ?_
          refine aw_iload (j := 0) (i := 6) dX5_releaseExcess_81 rfl rfl ?_
          refine aw_iadd dX5_releaseExcess_83 rfl ?_
          refine aw_istore_n (i := 3) (L2 := [(3, vI (x3 + 1)), (6, vI 1), (5, vI r4), (0, vR 5 i0), (1, vR 1 i1), (2, vI x2), (4, vI x4)]) dX5_releaseExcess_84 rfl rfl (by decide) rfl ?_
          refine aw_iinc (i := 4) (j := 6) (v := x4 + 1) (L2 := [(4, vI (x4 + 1)), (3, vI (x3 + 1)), (6, vI 1), (5, vI r4), (0, vR 5 i0), (1, vR 1 i1), (2, vI x2)]) dX5_releaseExcess_85 rfl (by decide) rfl rfl rfl ?_
          refine aw_goto 5 dX5_releaseExcess_88 rfl ?_
          exact aw_sub [4, 5, 6, 1, 0] rfl k
        · replace k := k.2 c
          refine aw_aload_n (j := 1) (i := 0) dX5_releaseExcess_55 rfl rfl rfl ?_
          refine aw_getf (k := 1) (z := 6) dX5_releaseExcess_56 rfl (by decide) rfl rfl rfl cb_5 (by decide) gw_324 ?_
          refine aw_iload (j := 0) (i := 5) dX5_releaseExcess_59 rfl rfl ?_
          refine aw_callV (M' := mX6_reservedOf) (S := []) (as := [vI r4]) (k := 0) dX5_releaseExcess_61 rfl (by decide) rfl rfl gw_1439 gw_1235 gw_1236 mb_X6_reservedOf rfl (Nat.zero_le _) (Nat.le_of_ble_eq_true rfl) rfl (CL.imp k (fun _ h8 k => ?_) (fun _ _ k => k))
          obtain ⟨r9, rfl, k⟩ := oI_of k
          show AW X (d + 1) rb mX5_releaseExcess 64 _ [vI r9] h8 Qr Qx
          refine aw_goto 68 dX5_releaseExcess_64 rfl ?_
          refine aw_istore (i := 6) (L2 := [(6, vI r9), (5, vI r4), (0, vR 5 i0), (1, vR 1 i1), (2, vI x2), (3, vI x3), (4, vI x4)]) dX5_releaseExcess_68 rfl (by decide) rfl ?_
          refine aw_aload_n (j := 2) (i := 0) dX5_releaseExcess_70 rfl rfl rfl ?_
          refine aw_aload_n (j := 3) (i := 1) dX5_releaseExcess_71 rfl rfl rfl ?_
          refine aw_iload (j := 1) (i := 5) dX5_releaseExcess_72 rfl rfl ?_
          refine aw_iload (j := 0) (i := 6) dX5_releaseExcess_74 rfl rfl ?_
          refine aw_ineg dX5_releaseExcess_76 rfl ?_
          refine aw_callV (M' := mX5_changeReserved) (S := []) (as := [vR 1 i1, vI r4, vI (-r9)]) (k := 0) dX5_releaseExcess_77 rfl (by decide) rfl rfl gw_1442 gw_684 gw_685 mb_X5_changeReserved rfl (Nat.zero_le _) (Nat.le_of_ble_eq_true rfl) rfl (CL.imp k (fun _ h10 k => ?_) (fun _ _ k => k))
          obtain ⟨rfl, k⟩ := oV_of k
          show AW X (d + 1) rb mX5_releaseExcess 80 _ [] h10 Qr Qx
          refine aw_iload_n (j := 5) (i := 3) dX5_releaseExcess_80 rfl rfl rfl ?_
          refine aw_iload (j := 0) (i := 6) dX5_releaseExcess_81 rfl rfl ?_
          refine aw_iadd dX5_releaseExcess_83 rfl ?_
          refine aw_istore_n (i := 3) (L2 := [(3, vI (x3 + r9)), (6, vI r9), (5, vI r4), (0, vR 5 i0), (1, vR 1 i1), (2, vI x2), (4, vI x4)]) dX5_releaseExcess_84 rfl rfl (by decide) rfl ?_
          refine aw_iinc (i := 4) (j := 6) (v := x4 + 1) (L2 := [(4, vI (x4 + 1)), (3, vI (x3 + r9)), (6, vI r9), (5, vI r4), (0, vR 5 i0), (1, vR 1 i1), (2, vI x2)]) dX5_releaseExcess_85 rfl (by decide) rfl rfl rfl ?_
          refine aw_goto 5 dX5_releaseExcess_88 rfl ?_
          exact aw_sub [4, 5, 6, 1, 0] rfl k
      · replace k := k.2 c
        refine aw_iload_n (j := 4) (i := 3) dX5_releaseExcess_41 rfl rfl rfl ?_
        exact aw_iret dX5_releaseExcess_42 rfl k
set_option maxHeartbeats 4000000 in
set_option maxRecDepth 100000 in
theorem vc_X6_copyFrom_0 {X : WD → State → Prop} {d rb : Nat} {h : Hp} {Qr : Option AV → Hp → Prop} {Qx : String → Hp → Prop} {i0 : Nat} {i1 : Nat}  (k : AW X (d + 1) rb mX6_copyFrom 100 [(0, vR 6 i0), (1, vR 6 i1), (2, vI 0)] [] (hp_a (hp_a (hp_a (hp_a (hp_a (hp_a (hp_i h 6 i0 0 (h.1 6 i1 0)) 36 i0 (va_cpy (h.1 36 i1) (h.1 36 i0) 0 0 20)) 37 i0 (va_cpy (h.1 37 i1) (h.1 37 i0) 0 0 20)) 38 i0 (va_cpy (h.1 38 i1) (h.1 38 i0) 0 0 20)) 39 i0 (va_cpy (h.1 39 i1) (h.1 39 i0) 0 0 20)) 42 i0 (va_cpy (h.1 42 i1) (h.1 42 i0) 0 0 20)) 43 i0 (va_cpy (h.1 43 i1) (h.1 43 i0) 0 0 20)) Qr Qx) : AW X (d + 1) rb mX6_copyFrom 0 [(0, vR 6 i0), (1, vR 6 i1)] [] h Qr Qx := by
  refine aw_aload_n (j := 0) (i := 0) dX6_copyFrom_0 rfl rfl rfl ?_
  refine aw_aload_n (j := 1) (i := 1) dX6_copyFrom_1 rfl rfl rfl ?_
  refine aw_geti (k := 0) dX6_copyFrom_2 rfl (by decide) rfl rfl cb_6 (by decide) gw_268 ?_
  refine aw_puti (k := 0) dX6_copyFrom_5 rfl (by decide) rfl rfl cb_6 (by decide) rfl rfl gw_268 ?_
  refine aw_aload_n (j := 1) (i := 1) dX6_copyFrom_8 rfl rfl rfl ?_
  refine aw_getf (k := 1) (z := 36) dX6_copyFrom_9 rfl (by decide) rfl rfl rfl cb_6 (by decide) gw_273 ?_
  refine aw_iconst (v := 0) dX6_copyFrom_12 rfl (by decide) ?_
  refine aw_aload_n (j := 0) (i := 0) dX6_copyFrom_13 rfl rfl rfl ?_
  refine aw_getf (k := 1) (z := 36) dX6_copyFrom_14 rfl (by decide) rfl rfl rfl cb_6 (by decide) gw_273 ?_
  refine aw_iconst (v := 0) dX6_copyFrom_17 rfl (by decide) ?_
  refine aw_bipush (v := 20) dX6_copyFrom_18 rfl (by decide) ?_
  refine aw_copy (kc := 1) dX6_copyFrom_20 rfl gw_642 gw_637 gw_636 gw_111 (by decide) (by decide) (by decide) rfl rfl (by decide) (by decide) (by decide) (Nat.le_of_ble_eq_true rfl) ?_
  refine aw_aload_n (j := 1) (i := 1) dX6_copyFrom_23 rfl rfl rfl ?_
  refine aw_getf (k := 2) (z := 37) dX6_copyFrom_24 rfl (by decide) rfl rfl rfl cb_6 (by decide) gw_274 ?_
  refine aw_iconst (v := 0) dX6_copyFrom_27 rfl (by decide) ?_
  refine aw_aload_n (j := 0) (i := 0) dX6_copyFrom_28 rfl rfl rfl ?_
  refine aw_getf (k := 2) (z := 37) dX6_copyFrom_29 rfl (by decide) rfl rfl rfl cb_6 (by decide) gw_274 ?_
  refine aw_iconst (v := 0) dX6_copyFrom_32 rfl (by decide) ?_
  refine aw_bipush (v := 20) dX6_copyFrom_33 rfl (by decide) ?_
  refine aw_copy (kc := 1) dX6_copyFrom_35 rfl gw_642 gw_637 gw_636 gw_111 (by decide) (by decide) (by decide) rfl rfl (by decide) (by decide) (by decide) (Nat.le_of_ble_eq_true rfl) ?_
  refine aw_aload_n (j := 1) (i := 1) dX6_copyFrom_38 rfl rfl rfl ?_
  refine aw_getf (k := 3) (z := 38) dX6_copyFrom_39 rfl (by decide) rfl rfl rfl cb_6 (by decide) gw_275 ?_
  refine aw_iconst (v := 0) dX6_copyFrom_42 rfl (by decide) ?_
  refine aw_aload_n (j := 0) (i := 0) dX6_copyFrom_43 rfl rfl rfl ?_
  refine aw_getf (k := 3) (z := 38) dX6_copyFrom_44 rfl (by decide) rfl rfl rfl cb_6 (by decide) gw_275 ?_
  refine aw_iconst (v := 0) dX6_copyFrom_47 rfl (by decide) ?_
  refine aw_bipush (v := 20) dX6_copyFrom_48 rfl (by decide) ?_
  refine aw_copy (kc := 1) dX6_copyFrom_50 rfl gw_642 gw_637 gw_636 gw_111 (by decide) (by decide) (by decide) rfl rfl (by decide) (by decide) (by decide) (Nat.le_of_ble_eq_true rfl) ?_
  refine aw_aload_n (j := 1) (i := 1) dX6_copyFrom_53 rfl rfl rfl ?_
  refine aw_getf (k := 4) (z := 39) dX6_copyFrom_54 rfl (by decide) rfl rfl rfl cb_6 (by decide) gw_276 ?_
  refine aw_iconst (v := 0) dX6_copyFrom_57 rfl (by decide) ?_
  refine aw_aload_n (j := 0) (i := 0) dX6_copyFrom_58 rfl rfl rfl ?_
  refine aw_getf (k := 4) (z := 39) dX6_copyFrom_59 rfl (by decide) rfl rfl rfl cb_6 (by decide) gw_276 ?_
  refine aw_iconst (v := 0) dX6_copyFrom_62 rfl (by decide) ?_
  refine aw_bipush (v := 20) dX6_copyFrom_63 rfl (by decide) ?_
  refine aw_copy (kc := 1) dX6_copyFrom_65 rfl gw_642 gw_637 gw_636 gw_111 (by decide) (by decide) (by decide) rfl rfl (by decide) (by decide) (by decide) (Nat.le_of_ble_eq_true rfl) ?_
  refine aw_aload_n (j := 1) (i := 1) dX6_copyFrom_68 rfl rfl rfl ?_
  refine aw_getf (k := 7) (z := 42) dX6_copyFrom_69 rfl (by decide) rfl rfl rfl cb_6 (by decide) gw_279 ?_
  refine aw_iconst (v := 0) dX6_copyFrom_72 rfl (by decide) ?_
  refine aw_aload_n (j := 0) (i := 0) dX6_copyFrom_73 rfl rfl rfl ?_
  refine aw_getf (k := 7) (z := 42) dX6_copyFrom_74 rfl (by decide) rfl rfl rfl cb_6 (by decide) gw_279 ?_
  refine aw_iconst (v := 0) dX6_copyFrom_77 rfl (by decide) ?_
  refine aw_bipush (v := 20) dX6_copyFrom_78 rfl (by decide) ?_
  refine aw_copy (kc := 1) dX6_copyFrom_80 rfl gw_642 gw_637 gw_636 gw_111 (by decide) (by decide) (by decide) rfl rfl (by decide) (by decide) (by decide) (Nat.le_of_ble_eq_true rfl) ?_
  refine aw_aload_n (j := 1) (i := 1) dX6_copyFrom_83 rfl rfl rfl ?_
  refine aw_getf (k := 8) (z := 43) dX6_copyFrom_84 rfl (by decide) rfl rfl rfl cb_6 (by decide) gw_280 ?_
  refine aw_iconst (v := 0) dX6_copyFrom_87 rfl (by decide) ?_
  refine aw_aload_n (j := 0) (i := 0) dX6_copyFrom_88 rfl rfl rfl ?_
  refine aw_getf (k := 8) (z := 43) dX6_copyFrom_89 rfl (by decide) rfl rfl rfl cb_6 (by decide) gw_280 ?_
  refine aw_iconst (v := 0) dX6_copyFrom_92 rfl (by decide) ?_
  refine aw_bipush (v := 20) dX6_copyFrom_93 rfl (by decide) ?_
  refine aw_copy (kc := 1) dX6_copyFrom_95 rfl gw_642 gw_637 gw_636 gw_111 (by decide) (by decide) (by decide) rfl rfl (by decide) (by decide) (by decide) (Nat.le_of_ble_eq_true rfl) ?_
  refine aw_iconst (v := 0) dX6_copyFrom_98 rfl (by decide) ?_
  refine aw_istore_n (i := 2) (L2 := [(2, vI 0), (0, vR 6 i0), (1, vR 6 i1)]) dX6_copyFrom_99 rfl rfl (by decide) rfl ?_
  exact aw_sub [1, 2, 0] rfl k
set_option maxHeartbeats 4000000 in
set_option maxRecDepth 100000 in
theorem vc_X6_copyFrom_100 {X : WD → State → Prop} {d rb : Nat} {h : Hp} {Qr : Option AV → Hp → Prop} {Qx : String → Hp → Prop} {i0 : Nat} {i1 : Nat} {x2 : Int32}  (k : ((20 ≤ x2) → Qr none h) ∧ ((¬ 20 ≤ x2) → (vp_in x2 20) ∧ (vp_in x2 20) ∧ (vp_in x2 20) ∧ (vp_in x2 20) ∧ AW X (d + 1) rb mX6_copyFrom 100 [(0, vR 6 i0), (1, vR 6 i1), (2, vI (x2 + 1))] [] (hp_i (hp_i h 40 i0 x2.toNatClampNeg (h.1 40 i1 x2.toNatClampNeg)) 41 i0 x2.toNatClampNeg (h.1 41 i1 x2.toNatClampNeg)) Qr Qx)) : AW X (d + 1) rb mX6_copyFrom 100 [(0, vR 6 i0), (1, vR 6 i1), (2, vI x2)] [] h Qr Qx := by
  refine aw_iload_n (j := 2) (i := 2) dX6_copyFrom_100 rfl rfl rfl ?_
  refine aw_bipush (v := 20) dX6_copyFrom_101 rfl (by decide) ?_
  refine aw_icmp_ge 136 dX6_copyFrom_103 rfl rfl (fun c => ?_) (fun c => ?_)
  · replace k := k.1 c
    exact aw_vret dX6_copyFrom_136 rfl k
  · replace k := k.2 c
    refine aw_aload_n (j := 0) (i := 0) dX6_copyFrom_106 rfl rfl rfl ?_
    refine aw_getf (k := 5) (z := 40) dX6_copyFrom_107 rfl (by decide) rfl rfl rfl cb_6 (by decide) gw_277 ?_
    refine aw_iload_n (j := 2) (i := 2) dX6_copyFrom_110 rfl rfl rfl ?_
    refine aw_aload_n (j := 1) (i := 1) dX6_copyFrom_111 rfl rfl rfl ?_
    refine aw_getf (k := 5) (z := 40) dX6_copyFrom_112 rfl (by decide) rfl rfl rfl cb_6 (by decide) gw_277 ?_
    refine aw_iload_n (j := 2) (i := 2) dX6_copyFrom_115 rfl rfl rfl ?_
    refine aw_zaldb dX6_copyFrom_116 rfl (by decide) rfl k.1 (fun hz_116 => ?_)
    replace k := k.2
    refine aw_zast dX6_copyFrom_117 rfl (by decide) rfl k.1 hz_116 ?_
    replace k := k.2
    refine aw_aload_n (j := 0) (i := 0) dX6_copyFrom_118 rfl rfl rfl ?_
    refine aw_getf (k := 6) (z := 41) dX6_copyFrom_119 rfl (by decide) rfl rfl rfl cb_6 (by decide) gw_278 ?_
    refine aw_iload_n (j := 2) (i := 2) dX6_copyFrom_122 rfl rfl rfl ?_
    refine aw_aload_n (j := 1) (i := 1) dX6_copyFrom_123 rfl rfl rfl ?_
    refine aw_getf (k := 6) (z := 41) dX6_copyFrom_124 rfl (by decide) rfl rfl rfl cb_6 (by decide) gw_278 ?_
    refine aw_iload_n (j := 2) (i := 2) dX6_copyFrom_127 rfl rfl rfl ?_
    refine aw_zaldb dX6_copyFrom_128 rfl (by decide) rfl k.1 (fun hz_128 => ?_)
    replace k := k.2
    refine aw_zast dX6_copyFrom_129 rfl (by decide) rfl k.1 hz_128 ?_
    replace k := k.2
    refine aw_iinc (i := 2) (j := 2) (v := x2 + 1) (L2 := [(2, vI (x2 + 1)), (0, vR 6 i0), (1, vR 6 i1)]) dX6_copyFrom_130 rfl (by decide) rfl rfl rfl ?_
    refine aw_goto 100 dX6_copyFrom_133 rfl ?_
    exact aw_sub [1, 2, 0] rfl k
set_option maxHeartbeats 4000000 in
set_option maxRecDepth 100000 in
theorem vc_X6_enter_0 {X : WD → State → Prop} {d rb : Nat} {h : Hp} {Qr : Option AV → Hp → Prop} {Qx : String → Hp → Prop} {i0 : Nat} {a1 : Int32} {a2 : Int32} {a3 : Int32} {a4 : Int32} {a5 : Int32}  (k : (((h.1 6 i0 0) < 20) → (vp_in (h.1 6 i0 0) 20) ∧ (vp_in (h.1 6 i0 0) 20) ∧ (vp_in (h.1 6 i0 0) 20) ∧ (vp_in (h.1 6 i0 0) 20) ∧ (vp_in (h.1 6 i0 0) 20) ∧ (a5 = 0 ∨ a5 = 1) ∧ (vp_in (h.1 6 i0 0) 20) ∧ (vp_in (h.1 6 i0 0) 20) ∧ (vp_in (h.1 6 i0 0) 20) ∧ Qr (some (vI (((hp_i (hp_i (hp_i (hp_i (hp_i (hp_i (hp_i (hp_i (hp_i h 36 i0 ((h.1 6 i0 0).toNatClampNeg) a1) 37 i0 ((h.1 6 i0 0).toNatClampNeg) a2) 38 i0 ((h.1 6 i0 0).toNatClampNeg) a3) 39 i0 ((h.1 6 i0 0).toNatClampNeg) a4) 40 i0 ((h.1 6 i0 0).toNatClampNeg) a5) 41 i0 ((h.1 6 i0 0).toNatClampNeg) 0) 42 i0 ((h.1 6 i0 0).toNatClampNeg) 0) 43 i0 ((h.1 6 i0 0).toNatClampNeg) 0) 6 i0 0 ((h.1 6 i0 0) + 1)).1 6 i0 0) - 1))) (hp_i (hp_i (hp_i (hp_i (hp_i (hp_i (hp_i (hp_i (hp_i h 36 i0 ((h.1 6 i0 0).toNatClampNeg) a1) 37 i0 ((h.1 6 i0 0).toNatClampNeg) a2) 38 i0 ((h.1 6 i0 0).toNatClampNeg) a3) 39 i0 ((h.1 6 i0 0).toNatClampNeg) a4) 40 i0 ((h.1 6 i0 0).toNatClampNeg) a5) 41 i0 ((h.1 6 i0 0).toNatClampNeg) 0) 42 i0 ((h.1 6 i0 0).toNatClampNeg) 0) 43 i0 ((h.1 6 i0 0).toNatClampNeg) 0) 6 i0 0 ((h.1 6 i0 0) + 1))) ∧ ((¬ (h.1 6 i0 0) < 20) → Qr (some (vI (-1))) h)) : AW X (d + 1) rb mX6_enter 0 [(0, vR 6 i0), (1, vI a1), (2, vI a2), (3, vI a3), (4, vI a4), (5, vI a5)] [] h Qr Qx := by
  refine aw_aload_n (j := 0) (i := 0) dX6_enter_0 rfl rfl rfl ?_
  refine aw_geti (k := 0) dX6_enter_1 rfl (by decide) rfl rfl cb_6 (by decide) gw_268 ?_
  refine aw_bipush (v := 20) dX6_enter_4 rfl (by decide) ?_
  refine aw_icmp_lt 11 dX6_enter_6 rfl rfl (fun c => ?_) (fun c => ?_)
  · replace k := k.1 c
    refine aw_aload_n (j := 0) (i := 0) dX6_enter_11 rfl rfl rfl ?_
    refine aw_getf (k := 1) (z := 36) dX6_enter_12 rfl (by decide) rfl rfl rfl cb_6 (by decide) gw_273 ?_
    refine aw_aload_n (j := 0) (i := 0) dX6_enter_15 rfl rfl rfl ?_
    refine aw_geti (k := 0) dX6_enter_16 rfl (by decide) rfl rfl cb_6 (by decide) gw_268 ?_
    refine aw_iload_n (j := 1) (i := 1) dX6_enter_19 rfl rfl rfl ?_
    refine aw_iast dX6_enter_20 rfl (by decide) rfl k.1 ?_
    replace k := k.2
    refine aw_aload_n (j := 0) (i := 0) dX6_enter_21 rfl rfl rfl ?_
    refine aw_getf (k := 2) (z := 37) dX6_enter_22 rfl (by decide) rfl rfl rfl cb_6 (by decide) gw_274 ?_
    refine aw_aload_n (j := 0) (i := 0) dX6_enter_25 rfl rfl rfl ?_
    refine aw_geti (k := 0) dX6_enter_26 rfl (by decide) rfl rfl cb_6 (by decide) gw_268 ?_
    refine aw_iload_n (j := 2) (i := 2) dX6_enter_29 rfl rfl rfl ?_
    refine aw_iast dX6_enter_30 rfl (by decide) rfl k.1 ?_
    replace k := k.2
    refine aw_aload_n (j := 0) (i := 0) dX6_enter_31 rfl rfl rfl ?_
    refine aw_getf (k := 3) (z := 38) dX6_enter_32 rfl (by decide) rfl rfl rfl cb_6 (by decide) gw_275 ?_
    refine aw_aload_n (j := 0) (i := 0) dX6_enter_35 rfl rfl rfl ?_
    refine aw_geti (k := 0) dX6_enter_36 rfl (by decide) rfl rfl cb_6 (by decide) gw_268 ?_
    refine aw_iload_n (j := 3) (i := 3) dX6_enter_39 rfl rfl rfl ?_
    refine aw_iast dX6_enter_40 rfl (by decide) rfl k.1 ?_
    replace k := k.2
    refine aw_aload_n (j := 0) (i := 0) dX6_enter_41 rfl rfl rfl ?_
    refine aw_getf (k := 4) (z := 39) dX6_enter_42 rfl (by decide) rfl rfl rfl cb_6 (by decide) gw_276 ?_
    refine aw_aload_n (j := 0) (i := 0) dX6_enter_45 rfl rfl rfl ?_
    refine aw_geti (k := 0) dX6_enter_46 rfl (by decide) rfl rfl cb_6 (by decide) gw_268 ?_
    refine aw_iload (j := 4) (i := 4) dX6_enter_49 rfl rfl ?_
    refine aw_iast dX6_enter_51 rfl (by decide) rfl k.1 ?_
    replace k := k.2
    refine aw_aload_n (j := 0) (i := 0) dX6_enter_52 rfl rfl rfl ?_
    refine aw_getf (k := 5) (z := 40) dX6_enter_53 rfl (by decide) rfl rfl rfl cb_6 (by decide) gw_277 ?_
    refine aw_aload_n (j := 0) (i := 0) dX6_enter_56 rfl rfl rfl ?_
    refine aw_geti (k := 0) dX6_enter_57 rfl (by decide) rfl rfl cb_6 (by decide) gw_268 ?_
    refine aw_iload (j := 5) (i := 5) dX6_enter_60 rfl rfl ?_
    refine aw_zast dX6_enter_62 rfl (by decide) rfl k.1 k.2.1 ?_
    replace k := k.2.2
    refine aw_aload_n (j := 0) (i := 0) dX6_enter_63 rfl rfl rfl ?_
    refine aw_getf (k := 6) (z := 41) dX6_enter_64 rfl (by decide) rfl rfl rfl cb_6 (by decide) gw_278 ?_
    refine aw_aload_n (j := 0) (i := 0) dX6_enter_67 rfl rfl rfl ?_
    refine aw_geti (k := 0) dX6_enter_68 rfl (by decide) rfl rfl cb_6 (by decide) gw_268 ?_
    refine aw_iconst (v := 0) dX6_enter_71 rfl (by decide) ?_
    refine aw_zast dX6_enter_72 rfl (by decide) rfl k.1 (by decide) ?_
    replace k := k.2
    refine aw_aload_n (j := 0) (i := 0) dX6_enter_73 rfl rfl rfl ?_
    refine aw_getf (k := 7) (z := 42) dX6_enter_74 rfl (by decide) rfl rfl rfl cb_6 (by decide) gw_279 ?_
    refine aw_aload_n (j := 0) (i := 0) dX6_enter_77 rfl rfl rfl ?_
    refine aw_geti (k := 0) dX6_enter_78 rfl (by decide) rfl rfl cb_6 (by decide) gw_268 ?_
    refine aw_iconst (v := 0) dX6_enter_81 rfl (by decide) ?_
    refine aw_iast dX6_enter_82 rfl (by decide) rfl k.1 ?_
    replace k := k.2
    refine aw_aload_n (j := 0) (i := 0) dX6_enter_83 rfl rfl rfl ?_
    refine aw_getf (k := 8) (z := 43) dX6_enter_84 rfl (by decide) rfl rfl rfl cb_6 (by decide) gw_280 ?_
    refine aw_aload_n (j := 0) (i := 0) dX6_enter_87 rfl rfl rfl ?_
    refine aw_geti (k := 0) dX6_enter_88 rfl (by decide) rfl rfl cb_6 (by decide) gw_268 ?_
    refine aw_iconst (v := 0) dX6_enter_91 rfl (by decide) ?_
    refine aw_iast dX6_enter_92 rfl (by decide) rfl k.1 ?_
    replace k := k.2
    refine aw_aload_n (j := 0) (i := 0) dX6_enter_93 rfl rfl rfl ?_
    refine aw_dup dX6_enter_94 rfl rfl ?_
    refine aw_geti (k := 0) dX6_enter_95 rfl (by decide) rfl rfl cb_6 (by decide) gw_268 ?_
    refine aw_iconst (v := 1) dX6_enter_98 rfl (by decide) ?_
    refine aw_iadd dX6_enter_99 rfl ?_
    refine aw_puti (k := 0) dX6_enter_100 rfl (by decide) rfl rfl cb_6 (by decide) rfl rfl gw_268 ?_
    refine aw_aload_n (j := 0) (i := 0) dX6_enter_103 rfl rfl rfl ?_
    refine aw_geti (k := 0) dX6_enter_104 rfl (by decide) rfl rfl cb_6 (by decide) gw_268 ?_
    refine aw_iconst (v := 1) dX6_enter_107 rfl (by decide) ?_
    refine aw_isub dX6_enter_108 rfl ?_
    exact aw_iret dX6_enter_109 rfl k
  · replace k := k.2 c
    refine aw_iconst (v := (-1)) dX6_enter_9 rfl (by decide) ?_
    exact aw_iret dX6_enter_10 rfl k
set_option maxHeartbeats 4000000 in
set_option maxRecDepth 100000 in
theorem vc_X6_productOf_0 {X : WD → State → Prop} {d rb : Nat} {h : Hp} {Qr : Option AV → Hp → Prop} {Qx : String → Hp → Prop} {i0 : Nat} {a1 : Int32}  (k : CL 0 d mX11_isInside [vI a1, vI (h.1 6 i0 0)] h (oI fun r2 h1 => ((r2 = 0) → Qr (some (vI (-1))) h1) ∧ ((¬ r2 = 0) → (vp_in a1 20) ∧ Qr (some (vI (h1.1 36 i0 a1.toNatClampNeg))) h1)) Qx) : AW X (d + 1) rb mX6_productOf 0 [(0, vR 6 i0), (1, vI a1)] [] h Qr Qx := by
  refine aw_iload_n (j := 1) (i := 1) dX6_productOf_0 rfl rfl rfl ?_
  refine aw_aload_n (j := 0) (i := 0) dX6_productOf_1 rfl rfl rfl ?_
  refine aw_geti (k := 0) dX6_productOf_2 rfl (by decide) rfl rfl cb_6 (by decide) gw_268 ?_
  refine aw_callSN (M' := mX11_isInside) (S := []) (as := [vI a1, vI (h.1 6 i0 0)]) (k := 0) dX6_productOf_5 rfl nw_503 gw_461 mb_X11_isInside rfl (Nat.zero_le _) (Nat.le_of_ble_eq_true rfl) rfl (CL.imp k (fun _ h1 k => ?_) (fun _ _ k => k))
  obtain ⟨r2, rfl, k⟩ := oI_of k
  show AW X (d + 1) rb mX6_productOf 8 _ [vI r2] h1 Qr Qx
  refine aw_if_eq 20 dX6_productOf_8 rfl rfl (fun c => ?_) (fun c => ?_)
  · replace k := k.1 c
    refine aw_iconst (v := (-1)) dX6_productOf_20 rfl (by decide) ?_
    exact aw_iret dX6_productOf_21 rfl k
  · replace k := k.2 c
    refine aw_aload_n (j := 0) (i := 0) dX6_productOf_11 rfl rfl rfl ?_
    refine aw_getf (k := 1) (z := 36) dX6_productOf_12 rfl (by decide) rfl rfl rfl cb_6 (by decide) gw_273 ?_
    refine aw_iload_n (j := 1) (i := 1) dX6_productOf_15 rfl rfl rfl ?_
    refine aw_iald dX6_productOf_16 rfl (by decide) rfl k.1 ?_
    replace k := k.2
    refine aw_goto 21 dX6_productOf_17 rfl ?_
    exact aw_iret dX6_productOf_21 rfl k
set_option maxHeartbeats 4000000 in
set_option maxRecDepth 100000 in
theorem vc_X6_quantityOf_0 {X : WD → State → Prop} {d rb : Nat} {h : Hp} {Qr : Option AV → Hp → Prop} {Qx : String → Hp → Prop} {i0 : Nat} {a1 : Int32}  (k : CL 0 d mX11_isInside [vI a1, vI (h.1 6 i0 0)] h (oI fun r2 h1 => ((r2 = 0) → Qr (some (vI 0)) h1) ∧ ((¬ r2 = 0) → (vp_in a1 20) ∧ Qr (some (vI (h1.1 37 i0 a1.toNatClampNeg))) h1)) Qx) : AW X (d + 1) rb mX6_quantityOf 0 [(0, vR 6 i0), (1, vI a1)] [] h Qr Qx := by
  refine aw_iload_n (j := 1) (i := 1) dX6_quantityOf_0 rfl rfl rfl ?_
  refine aw_aload_n (j := 0) (i := 0) dX6_quantityOf_1 rfl rfl rfl ?_
  refine aw_geti (k := 0) dX6_quantityOf_2 rfl (by decide) rfl rfl cb_6 (by decide) gw_268 ?_
  refine aw_callSN (M' := mX11_isInside) (S := []) (as := [vI a1, vI (h.1 6 i0 0)]) (k := 0) dX6_quantityOf_5 rfl nw_503 gw_461 mb_X11_isInside rfl (Nat.zero_le _) (Nat.le_of_ble_eq_true rfl) rfl (CL.imp k (fun _ h1 k => ?_) (fun _ _ k => k))
  obtain ⟨r2, rfl, k⟩ := oI_of k
  show AW X (d + 1) rb mX6_quantityOf 8 _ [vI r2] h1 Qr Qx
  refine aw_if_eq 20 dX6_quantityOf_8 rfl rfl (fun c => ?_) (fun c => ?_)
  · replace k := k.1 c
    refine aw_iconst (v := 0) dX6_quantityOf_20 rfl (by decide) ?_
    exact aw_iret dX6_quantityOf_21 rfl k
  · replace k := k.2 c
    refine aw_aload_n (j := 0) (i := 0) dX6_quantityOf_11 rfl rfl rfl ?_
    refine aw_getf (k := 2) (z := 37) dX6_quantityOf_12 rfl (by decide) rfl rfl rfl cb_6 (by decide) gw_274 ?_
    refine aw_iload_n (j := 1) (i := 1) dX6_quantityOf_15 rfl rfl rfl ?_
    refine aw_iald dX6_quantityOf_16 rfl (by decide) rfl k.1 ?_
    replace k := k.2
    refine aw_goto 21 dX6_quantityOf_17 rfl ?_
    exact aw_iret dX6_quantityOf_21 rfl k
set_option maxHeartbeats 4000000 in
set_option maxRecDepth 100000 in
theorem vc_X6_classOf_0 {X : WD → State → Prop} {d rb : Nat} {h : Hp} {Qr : Option AV → Hp → Prop} {Qx : String → Hp → Prop} {i0 : Nat} {a1 : Int32}  (k : CL 0 d mX11_isInside [vI a1, vI (h.1 6 i0 0)] h (oI fun r2 h1 => ((r2 = 0) → Qr (some (vI (-1))) h1) ∧ ((¬ r2 = 0) → (vp_in a1 20) ∧ Qr (some (vI (h1.1 38 i0 a1.toNatClampNeg))) h1)) Qx) : AW X (d + 1) rb mX6_classOf 0 [(0, vR 6 i0), (1, vI a1)] [] h Qr Qx := by
  refine aw_iload_n (j := 1) (i := 1) dX6_classOf_0 rfl rfl rfl ?_
  refine aw_aload_n (j := 0) (i := 0) dX6_classOf_1 rfl rfl rfl ?_
  refine aw_geti (k := 0) dX6_classOf_2 rfl (by decide) rfl rfl cb_6 (by decide) gw_268 ?_
  refine aw_callSN (M' := mX11_isInside) (S := []) (as := [vI a1, vI (h.1 6 i0 0)]) (k := 0) dX6_classOf_5 rfl nw_503 gw_461 mb_X11_isInside rfl (Nat.zero_le _) (Nat.le_of_ble_eq_true rfl) rfl (CL.imp k (fun _ h1 k => ?_) (fun _ _ k => k))
  obtain ⟨r2, rfl, k⟩ := oI_of k
  show AW X (d + 1) rb mX6_classOf 8 _ [vI r2] h1 Qr Qx
  refine aw_if_eq 20 dX6_classOf_8 rfl rfl (fun c => ?_) (fun c => ?_)
  · replace k := k.1 c
    refine aw_iconst (v := (-1)) dX6_classOf_20 rfl (by decide) ?_
    exact aw_iret dX6_classOf_21 rfl k
  · replace k := k.2 c
    refine aw_aload_n (j := 0) (i := 0) dX6_classOf_11 rfl rfl rfl ?_
    refine aw_getf (k := 3) (z := 38) dX6_classOf_12 rfl (by decide) rfl rfl rfl cb_6 (by decide) gw_275 ?_
    refine aw_iload_n (j := 1) (i := 1) dX6_classOf_15 rfl rfl rfl ?_
    refine aw_iald dX6_classOf_16 rfl (by decide) rfl k.1 ?_
    replace k := k.2
    refine aw_goto 21 dX6_classOf_17 rfl ?_
    exact aw_iret dX6_classOf_21 rfl k
set_option maxHeartbeats 4000000 in
set_option maxRecDepth 100000 in
theorem vc_X6_dueOf_0 {X : WD → State → Prop} {d rb : Nat} {h : Hp} {Qr : Option AV → Hp → Prop} {Qx : String → Hp → Prop} {i0 : Nat} {a1 : Int32}  (k : CL 0 d mX11_isInside [vI a1, vI (h.1 6 i0 0)] h (oI fun r2 h1 => ((r2 = 0) → Qr (some (vI 0)) h1) ∧ ((¬ r2 = 0) → (vp_in a1 20) ∧ Qr (some (vI (h1.1 39 i0 a1.toNatClampNeg))) h1)) Qx) : AW X (d + 1) rb mX6_dueOf 0 [(0, vR 6 i0), (1, vI a1)] [] h Qr Qx := by
  refine aw_iload_n (j := 1) (i := 1) dX6_dueOf_0 rfl rfl rfl ?_
  refine aw_aload_n (j := 0) (i := 0) dX6_dueOf_1 rfl rfl rfl ?_
  refine aw_geti (k := 0) dX6_dueOf_2 rfl (by decide) rfl rfl cb_6 (by decide) gw_268 ?_
  refine aw_callSN (M' := mX11_isInside) (S := []) (as := [vI a1, vI (h.1 6 i0 0)]) (k := 0) dX6_dueOf_5 rfl nw_503 gw_461 mb_X11_isInside rfl (Nat.zero_le _) (Nat.le_of_ble_eq_true rfl) rfl (CL.imp k (fun _ h1 k => ?_) (fun _ _ k => k))
  obtain ⟨r2, rfl, k⟩ := oI_of k
  show AW X (d + 1) rb mX6_dueOf 8 _ [vI r2] h1 Qr Qx
  refine aw_if_eq 20 dX6_dueOf_8 rfl rfl (fun c => ?_) (fun c => ?_)
  · replace k := k.1 c
    refine aw_iconst (v := 0) dX6_dueOf_20 rfl (by decide) ?_
    exact aw_iret dX6_dueOf_21 rfl k
  · replace k := k.2 c
    refine aw_aload_n (j := 0) (i := 0) dX6_dueOf_11 rfl rfl rfl ?_
    refine aw_getf (k := 4) (z := 39) dX6_dueOf_12 rfl (by decide) rfl rfl rfl cb_6 (by decide) gw_276 ?_
    refine aw_iload_n (j := 1) (i := 1) dX6_dueOf_15 rfl rfl rfl ?_
    refine aw_iald dX6_dueOf_16 rfl (by decide) rfl k.1 ?_
    replace k := k.2
    refine aw_goto 21 dX6_dueOf_17 rfl ?_
    exact aw_iret dX6_dueOf_21 rfl k
set_option maxHeartbeats 4000000 in
set_option maxRecDepth 100000 in
theorem vc_X6_isWhole_0 {X : WD → State → Prop} {d rb : Nat} {h : Hp} {Qr : Option AV → Hp → Prop} {Qx : String → Hp → Prop} {i0 : Nat} {a1 : Int32}  (k : CL 0 d mX11_isInside [vI a1, vI (h.1 6 i0 0)] h (oI fun r2 h1 => ((r2 = 0) → Qr (some (vI 0)) h1) ∧ ((¬ r2 = 0) → (vp_in a1 20) ∧ ((if (h1.1 40 i0 a1.toNatClampNeg) = 0 then (0 : Int32) else 1) = 0 ∨ (if (h1.1 40 i0 a1.toNatClampNeg) = 0 then (0 : Int32) else 1) = 1) ∧ Qr (some (vI (if (h1.1 40 i0 a1.toNatClampNeg) = 0 then (0 : Int32) else 1))) h1)) Qx) : AW X (d + 1) rb mX6_isWhole 0 [(0, vR 6 i0), (1, vI a1)] [] h Qr Qx := by
  refine aw_iload_n (j := 1) (i := 1) dX6_isWhole_0 rfl rfl rfl ?_
  refine aw_aload_n (j := 0) (i := 0) dX6_isWhole_1 rfl rfl rfl ?_
  refine aw_geti (k := 0) dX6_isWhole_2 rfl (by decide) rfl rfl cb_6 (by decide) gw_268 ?_
  refine aw_callSN (M' := mX11_isInside) (S := []) (as := [vI a1, vI (h.1 6 i0 0)]) (k := 0) dX6_isWhole_5 rfl nw_503 gw_461 mb_X11_isInside rfl (Nat.zero_le _) (Nat.le_of_ble_eq_true rfl) rfl (CL.imp k (fun _ h1 k => ?_) (fun _ _ k => k))
  obtain ⟨r2, rfl, k⟩ := oI_of k
  show AW X (d + 1) rb mX6_isWhole 8 _ [vI r2] h1 Qr Qx
  refine aw_if_eq 24 dX6_isWhole_8 rfl rfl (fun c => ?_) (fun c => ?_)
  · replace k := k.1 c
    refine aw_iconst (v := 0) dX6_isWhole_24 rfl (by decide) ?_
    exact aw_zret dX6_isWhole_25 rfl (by decide) k
  · replace k := k.2 c
    refine aw_aload_n (j := 0) (i := 0) dX6_isWhole_11 rfl rfl rfl ?_
    refine aw_getf (k := 5) (z := 40) dX6_isWhole_12 rfl (by decide) rfl rfl rfl cb_6 (by decide) gw_277 ?_
    refine aw_iload_n (j := 1) (i := 1) dX6_isWhole_15 rfl rfl rfl ?_
    refine aw_zald dX6_isWhole_16 rfl (by decide) rfl k.1 ?_
    replace k := k.2
    have kk : AW X (d + 1) rb mX6_isWhole 25 [(0, vR 6 i0), (1, vI a1)] [vI (if (h1.1 40 i0 a1.toNatClampNeg) = 0 then (0 : Int32) else 1)] h1 Qr Qx := by
      exact aw_zret dX6_isWhole_25 rfl k.1 k.2
    refine aw_if_eq 24 dX6_isWhole_17 rfl rfl (fun (c0 : (h1.1 40 i0 a1.toNatClampNeg) = 0) => ?_) (fun (c0 : ¬ (h1.1 40 i0 a1.toNatClampNeg) = 0) => ?_)
    · refine aw_iconst (v := 0) dX6_isWhole_24 rfl (by decide) ?_
      simp only [if_pos c0] at kk
      exact kk
    · refine aw_iconst (v := 1) dX6_isWhole_20 rfl (by decide) ?_
      refine aw_goto 25 dX6_isWhole_21 rfl ?_
      simp only [if_neg c0] at kk
      exact kk
set_option maxHeartbeats 4000000 in
set_option maxRecDepth 100000 in
theorem vc_X6_reservedOf_0 {X : WD → State → Prop} {d rb : Nat} {h : Hp} {Qr : Option AV → Hp → Prop} {Qx : String → Hp → Prop} {i0 : Nat} {a1 : Int32}  (k : CL 0 d mX11_isInside [vI a1, vI (h.1 6 i0 0)] h (oI fun r2 h1 => ((r2 = 0) → Qr (some (vI 0)) h1) ∧ ((¬ r2 = 0) → (vp_in a1 20) ∧ Qr (some (vI (h1.1 42 i0 a1.toNatClampNeg))) h1)) Qx) : AW X (d + 1) rb mX6_reservedOf 0 [(0, vR 6 i0), (1, vI a1)] [] h Qr Qx := by
  refine aw_iload_n (j := 1) (i := 1) dX6_reservedOf_0 rfl rfl rfl ?_
  refine aw_aload_n (j := 0) (i := 0) dX6_reservedOf_1 rfl rfl rfl ?_
  refine aw_geti (k := 0) dX6_reservedOf_2 rfl (by decide) rfl rfl cb_6 (by decide) gw_268 ?_
  refine aw_callSN (M' := mX11_isInside) (S := []) (as := [vI a1, vI (h.1 6 i0 0)]) (k := 0) dX6_reservedOf_5 rfl nw_503 gw_461 mb_X11_isInside rfl (Nat.zero_le _) (Nat.le_of_ble_eq_true rfl) rfl (CL.imp k (fun _ h1 k => ?_) (fun _ _ k => k))
  obtain ⟨r2, rfl, k⟩ := oI_of k
  show AW X (d + 1) rb mX6_reservedOf 8 _ [vI r2] h1 Qr Qx
  refine aw_if_eq 20 dX6_reservedOf_8 rfl rfl (fun c => ?_) (fun c => ?_)
  · replace k := k.1 c
    refine aw_iconst (v := 0) dX6_reservedOf_20 rfl (by decide) ?_
    exact aw_iret dX6_reservedOf_21 rfl k
  · replace k := k.2 c
    refine aw_aload_n (j := 0) (i := 0) dX6_reservedOf_11 rfl rfl rfl ?_
    refine aw_getf (k := 7) (z := 42) dX6_reservedOf_12 rfl (by decide) rfl rfl rfl cb_6 (by decide) gw_279 ?_
    refine aw_iload_n (j := 1) (i := 1) dX6_reservedOf_15 rfl rfl rfl ?_
    refine aw_iald dX6_reservedOf_16 rfl (by decide) rfl k.1 ?_
    replace k := k.2
    refine aw_goto 21 dX6_reservedOf_17 rfl ?_
    exact aw_iret dX6_reservedOf_21 rfl k
set_option maxHeartbeats 4000000 in
set_option maxRecDepth 100000 in
theorem vc_X6_shippedOf_0 {X : WD → State → Prop} {d rb : Nat} {h : Hp} {Qr : Option AV → Hp → Prop} {Qx : String → Hp → Prop} {i0 : Nat} {a1 : Int32}  (k : CL 0 d mX11_isInside [vI a1, vI (h.1 6 i0 0)] h (oI fun r2 h1 => ((r2 = 0) → Qr (some (vI 0)) h1) ∧ ((¬ r2 = 0) → (vp_in a1 20) ∧ Qr (some (vI (h1.1 43 i0 a1.toNatClampNeg))) h1)) Qx) : AW X (d + 1) rb mX6_shippedOf 0 [(0, vR 6 i0), (1, vI a1)] [] h Qr Qx := by
  refine aw_iload_n (j := 1) (i := 1) dX6_shippedOf_0 rfl rfl rfl ?_
  refine aw_aload_n (j := 0) (i := 0) dX6_shippedOf_1 rfl rfl rfl ?_
  refine aw_geti (k := 0) dX6_shippedOf_2 rfl (by decide) rfl rfl cb_6 (by decide) gw_268 ?_
  refine aw_callSN (M' := mX11_isInside) (S := []) (as := [vI a1, vI (h.1 6 i0 0)]) (k := 0) dX6_shippedOf_5 rfl nw_503 gw_461 mb_X11_isInside rfl (Nat.zero_le _) (Nat.le_of_ble_eq_true rfl) rfl (CL.imp k (fun _ h1 k => ?_) (fun _ _ k => k))
  obtain ⟨r2, rfl, k⟩ := oI_of k
  show AW X (d + 1) rb mX6_shippedOf 8 _ [vI r2] h1 Qr Qx
  refine aw_if_eq 20 dX6_shippedOf_8 rfl rfl (fun c => ?_) (fun c => ?_)
  · replace k := k.1 c
    refine aw_iconst (v := 0) dX6_shippedOf_20 rfl (by decide) ?_
    exact aw_iret dX6_shippedOf_21 rfl k
  · replace k := k.2 c
    refine aw_aload_n (j := 0) (i := 0) dX6_shippedOf_11 rfl rfl rfl ?_
    refine aw_getf (k := 8) (z := 43) dX6_shippedOf_12 rfl (by decide) rfl rfl rfl cb_6 (by decide) gw_280 ?_
    refine aw_iload_n (j := 1) (i := 1) dX6_shippedOf_15 rfl rfl rfl ?_
    refine aw_iald dX6_shippedOf_16 rfl (by decide) rfl k.1 ?_
    replace k := k.2
    refine aw_goto 21 dX6_shippedOf_17 rfl ?_
    exact aw_iret dX6_shippedOf_21 rfl k
set_option maxHeartbeats 4000000 in
set_option maxRecDepth 100000 in
theorem vc_X6_openOf_0 {X : WD → State → Prop} {d rb : Nat} {h : Hp} {Qr : Option AV → Hp → Prop} {Qx : String → Hp → Prop} {i0 : Nat} {a1 : Int32}  (k : CL 0 d mX11_isInside [vI a1, vI (h.1 6 i0 0)] h (oI fun r2 h1 => ((r2 = 0) → Qr (some (vI 0)) h1) ∧ ((¬ r2 = 0) → (vp_in a1 20) ∧ (((h1.1 41 i0 a1.toNatClampNeg) = 0) → (vp_in a1 20) ∧ (vp_in a1 20) ∧ (vp_in a1 20) ∧ Qr (some (vI (((h1.1 37 i0 a1.toNatClampNeg) - (h1.1 42 i0 a1.toNatClampNeg)) - (h1.1 43 i0 a1.toNatClampNeg)))) h1) ∧ ((¬ (h1.1 41 i0 a1.toNatClampNeg) = 0) → Qr (some (vI 0)) h1))) Qx) : AW X (d + 1) rb mX6_openOf 0 [(0, vR 6 i0), (1, vI a1)] [] h Qr Qx := by
  refine aw_iload_n (j := 1) (i := 1) dX6_openOf_0 rfl rfl rfl ?_
  refine aw_aload_n (j := 0) (i := 0) dX6_openOf_1 rfl rfl rfl ?_
  refine aw_geti (k := 0) dX6_openOf_2 rfl (by decide) rfl rfl cb_6 (by decide) gw_268 ?_
  refine aw_callSN (M' := mX11_isInside) (S := []) (as := [vI a1, vI (h.1 6 i0 0)]) (k := 0) dX6_openOf_5 rfl nw_503 gw_461 mb_X11_isInside rfl (Nat.zero_le _) (Nat.le_of_ble_eq_true rfl) rfl (CL.imp k (fun _ h1 k => ?_) (fun _ _ k => k))
  obtain ⟨r2, rfl, k⟩ := oI_of k
  show AW X (d + 1) rb mX6_openOf 8 _ [vI r2] h1 Qr Qx
  refine aw_if_eq 20 dX6_openOf_8 rfl rfl (fun c => ?_) (fun c => ?_)
  · replace k := k.1 c
    refine aw_iconst (v := 0) dX6_openOf_20 rfl (by decide) ?_
    exact aw_iret dX6_openOf_21 rfl k
  · replace k := k.2 c
    refine aw_aload_n (j := 0) (i := 0) dX6_openOf_11 rfl rfl rfl ?_
    refine aw_getf (k := 6) (z := 41) dX6_openOf_12 rfl (by decide) rfl rfl rfl cb_6 (by decide) gw_278 ?_
    refine aw_iload_n (j := 1) (i := 1) dX6_openOf_15 rfl rfl rfl ?_
    refine aw_zald dX6_openOf_16 rfl (by decide) rfl k.1 ?_
    replace k := k.2
    refine aw_if_eq 22 dX6_openOf_17 rfl rfl (fun c => ?_) (fun c => ?_)
    · replace k := k.1 c
      refine aw_aload_n (j := 0) (i := 0) dX6_openOf_22 rfl rfl rfl ?_
      refine aw_getf (k := 2) (z := 37) dX6_openOf_23 rfl (by decide) rfl rfl rfl cb_6 (by decide) gw_274 ?_
      refine aw_iload_n (j := 1) (i := 1) dX6_openOf_26 rfl rfl rfl ?_
      refine aw_iald dX6_openOf_27 rfl (by decide) rfl k.1 ?_
      replace k := k.2
      refine aw_aload_n (j := 0) (i := 0) dX6_openOf_28 rfl rfl rfl ?_
      refine aw_getf (k := 7) (z := 42) dX6_openOf_29 rfl (by decide) rfl rfl rfl cb_6 (by decide) gw_279 ?_
      refine aw_iload_n (j := 1) (i := 1) dX6_openOf_32 rfl rfl rfl ?_
      refine aw_iald dX6_openOf_33 rfl (by decide) rfl k.1 ?_
      replace k := k.2
      refine aw_isub dX6_openOf_34 rfl ?_
      refine aw_aload_n (j := 0) (i := 0) dX6_openOf_35 rfl rfl rfl ?_
      refine aw_getf (k := 8) (z := 43) dX6_openOf_36 rfl (by decide) rfl rfl rfl cb_6 (by decide) gw_280 ?_
      refine aw_iload_n (j := 1) (i := 1) dX6_openOf_39 rfl rfl rfl ?_
      refine aw_iald dX6_openOf_40 rfl (by decide) rfl k.1 ?_
      replace k := k.2
      refine aw_isub dX6_openOf_41 rfl ?_
      exact aw_iret dX6_openOf_42 rfl k
    · replace k := k.2 c
      refine aw_iconst (v := 0) dX6_openOf_20 rfl (by decide) ?_
      exact aw_iret dX6_openOf_21 rfl k
set_option maxHeartbeats 4000000 in
set_option maxRecDepth 100000 in
theorem vc_X6_stateFor_0 {X : WD → State → Prop} {d rb : Nat} {h : Hp} {Qr : Option AV → Hp → Prop} {Qx : String → Hp → Prop} {i0 : Nat} {a1 : Int32}  (k : CL 0 d mX11_isInside [vI a1, vI (h.1 6 i0 0)] h (oI fun r2 h1 => ((r2 = 0) → CL 0 d mX6_openOf [vR 6 i0, vI a1] h1 (oI fun r4 h3 => ((r4 ≤ 0) → CL 0 d mX6_reservedOf [vR 6 i0, vI a1] h3 (oI fun r6 h5 => Qr (some (vI (if r6 ≤ 0 then (2 : Int32) else 1))) h5) Qx) ∧ ((¬ r4 ≤ 0) → Qr (some (vI 0)) h3)) Qx) ∧ ((¬ r2 = 0) → (vp_in a1 20) ∧ (((h1.1 41 i0 a1.toNatClampNeg) = 0) → CL 0 d mX6_openOf [vR 6 i0, vI a1] h1 (oI fun r8 h7 => ((r8 ≤ 0) → CL 0 d mX6_reservedOf [vR 6 i0, vI a1] h7 (oI fun r10 h9 => Qr (some (vI (if r10 ≤ 0 then (2 : Int32) else 1))) h9) Qx) ∧ ((¬ r8 ≤ 0) → Qr (some (vI 0)) h7)) Qx) ∧ ((¬ (h1.1 41 i0 a1.toNatClampNeg) = 0) → Qr (some (vI 3)) h1))) Qx) : AW X (d + 1) rb mX6_stateFor 0 [(0, vR 6 i0), (1, vI a1)] [] h Qr Qx := by
  refine aw_iload_n (j := 1) (i := 1) dX6_stateFor_0 rfl rfl rfl ?_
  refine aw_aload_n (j := 0) (i := 0) dX6_stateFor_1 rfl rfl rfl ?_
  refine aw_geti (k := 0) dX6_stateFor_2 rfl (by decide) rfl rfl cb_6 (by decide) gw_268 ?_
  refine aw_callSN (M' := mX11_isInside) (S := []) (as := [vI a1, vI (h.1 6 i0 0)]) (k := 0) dX6_stateFor_5 rfl nw_503 gw_461 mb_X11_isInside rfl (Nat.zero_le _) (Nat.le_of_ble_eq_true rfl) rfl (CL.imp k (fun _ h1 k => ?_) (fun _ _ k => k))
  obtain ⟨r2, rfl, k⟩ := oI_of k
  show AW X (d + 1) rb mX6_stateFor 8 _ [vI r2] h1 Qr Qx
  refine aw_if_eq 22 dX6_stateFor_8 rfl rfl (fun c => ?_) (fun c => ?_)
  · replace k := k.1 c
    refine aw_aload_n (j := 0) (i := 0) dX6_stateFor_22 rfl rfl rfl ?_
    refine aw_iload_n (j := 1) (i := 1) dX6_stateFor_23 rfl rfl rfl ?_
    refine aw_callV (M' := mX6_openOf) (S := []) (as := [vI a1]) (k := 0) dX6_stateFor_24 rfl (by decide) rfl rfl gw_1233 gw_500 gw_501 mb_X6_openOf rfl (Nat.zero_le _) (Nat.le_of_ble_eq_true rfl) rfl (CL.imp k (fun _ h3 k => ?_) (fun _ _ k => k))
    obtain ⟨r4, rfl, k⟩ := oI_of k
    show AW X (d + 1) rb mX6_stateFor 27 _ [vI r4] h3 Qr Qx
    refine aw_if_le 32 dX6_stateFor_27 rfl rfl (fun c => ?_) (fun c => ?_)
    · replace k := k.1 c
      refine aw_aload_n (j := 0) (i := 0) dX6_stateFor_32 rfl rfl rfl ?_
      refine aw_iload_n (j := 1) (i := 1) dX6_stateFor_33 rfl rfl rfl ?_
      refine aw_callV (M' := mX6_reservedOf) (S := []) (as := [vI a1]) (k := 0) dX6_stateFor_34 rfl (by decide) rfl rfl gw_1234 gw_1235 gw_1236 mb_X6_reservedOf rfl (Nat.zero_le _) (Nat.le_of_ble_eq_true rfl) rfl (CL.imp k (fun _ h5 k => ?_) (fun _ _ k => k))
      obtain ⟨r6, rfl, k⟩ := oI_of k
      show AW X (d + 1) rb mX6_stateFor 37 _ [vI r6] h5 Qr Qx
      have kk : AW X (d + 1) rb mX6_stateFor 45 [(0, vR 6 i0), (1, vI a1)] [vI (if r6 ≤ 0 then (2 : Int32) else 1)] h5 Qr Qx := by
        exact aw_iret dX6_stateFor_45 rfl k
      refine aw_if_le 44 dX6_stateFor_37 rfl rfl (fun (c0 : r6 ≤ 0) => ?_) (fun (c0 : ¬ r6 ≤ 0) => ?_)
      · refine aw_iconst (v := 2) dX6_stateFor_44 rfl (by decide) ?_
        simp only [if_pos c0] at kk
        exact kk
      · refine aw_iconst (v := 1) dX6_stateFor_40 rfl (by decide) ?_
        refine aw_goto 45 dX6_stateFor_41 rfl ?_
        simp only [if_neg c0] at kk
        exact kk
    · replace k := k.2 c
      refine aw_iconst (v := 0) dX6_stateFor_30 rfl (by decide) ?_
      exact aw_iret dX6_stateFor_31 rfl k
  · replace k := k.2 c
    refine aw_aload_n (j := 0) (i := 0) dX6_stateFor_11 rfl rfl rfl ?_
    refine aw_getf (k := 6) (z := 41) dX6_stateFor_12 rfl (by decide) rfl rfl rfl cb_6 (by decide) gw_278 ?_
    refine aw_iload_n (j := 1) (i := 1) dX6_stateFor_15 rfl rfl rfl ?_
    refine aw_zald dX6_stateFor_16 rfl (by decide) rfl k.1 ?_
    replace k := k.2
    refine aw_if_eq 22 dX6_stateFor_17 rfl rfl (fun c => ?_) (fun c => ?_)
    · replace k := k.1 c
      refine aw_aload_n (j := 0) (i := 0) dX6_stateFor_22 rfl rfl rfl ?_
      refine aw_iload_n (j := 1) (i := 1) dX6_stateFor_23 rfl rfl rfl ?_
      refine aw_callV (M' := mX6_openOf) (S := []) (as := [vI a1]) (k := 0) dX6_stateFor_24 rfl (by decide) rfl rfl gw_1233 gw_500 gw_501 mb_X6_openOf rfl (Nat.zero_le _) (Nat.le_of_ble_eq_true rfl) rfl (CL.imp k (fun _ h7 k => ?_) (fun _ _ k => k))
      obtain ⟨r8, rfl, k⟩ := oI_of k
      show AW X (d + 1) rb mX6_stateFor 27 _ [vI r8] h7 Qr Qx
      refine aw_if_le 32 dX6_stateFor_27 rfl rfl (fun c => ?_) (fun c => ?_)
      · replace k := k.1 c
        refine aw_aload_n (j := 0) (i := 0) dX6_stateFor_32 rfl rfl rfl ?_
        refine aw_iload_n (j := 1) (i := 1) dX6_stateFor_33 rfl rfl rfl ?_
        refine aw_callV (M' := mX6_reservedOf) (S := []) (as := [vI a1]) (k := 0) dX6_stateFor_34 rfl (by decide) rfl rfl gw_1234 gw_1235 gw_1236 mb_X6_reservedOf rfl (Nat.zero_le _) (Nat.le_of_ble_eq_true rfl) rfl (CL.imp k (fun _ h9 k => ?_) (fun _ _ k => k))
        obtain ⟨r10, rfl, k⟩ := oI_of k
        show AW X (d + 1) rb mX6_stateFor 37 _ [vI r10] h9 Qr Qx
        have kk : AW X (d + 1) rb mX6_stateFor 45 [(0, vR 6 i0), (1, vI a1)] [vI (if r10 ≤ 0 then (2 : Int32) else 1)] h9 Qr Qx := by
          exact aw_iret dX6_stateFor_45 rfl k
        refine aw_if_le 44 dX6_stateFor_37 rfl rfl (fun (c0 : r10 ≤ 0) => ?_) (fun (c0 : ¬ r10 ≤ 0) => ?_)
        · refine aw_iconst (v := 2) dX6_stateFor_44 rfl (by decide) ?_
          simp only [if_pos c0] at kk
          exact kk
        · refine aw_iconst (v := 1) dX6_stateFor_40 rfl (by decide) ?_
          refine aw_goto 45 dX6_stateFor_41 rfl ?_
          simp only [if_neg c0] at kk
          exact kk
      · replace k := k.2 c
        refine aw_iconst (v := 0) dX6_stateFor_30 rfl (by decide) ?_
        exact aw_iret dX6_stateFor_31 rfl k
    · replace k := k.2 c
      refine aw_iconst (v := 3) dX6_stateFor_20 rfl (by decide) ?_
      exact aw_iret dX6_stateFor_21 rfl k
set_option maxHeartbeats 4000000 in
set_option maxRecDepth 100000 in
theorem vc_X6_mayMove_0 {X : WD → State → Prop} {d rb : Nat} {h : Hp} {Qr : Option AV → Hp → Prop} {Qx : String → Hp → Prop} {i0 : Nat} {a1 : Int32} {a2 : Int32}  (k : CL 0 d mX6_isWhole [vR 6 i0, vI a1] h (oI fun r2 h1 => ((r2 = 0) → Qr (some (vI 1)) h1) ∧ ((¬ r2 = 0) → CL 0 d mX6_quantityOf [vR 6 i0, vI a1] h1 (oI fun r4 h3 => ((if ¬ a2 = r4 then (0 : Int32) else 1) = 0 ∨ (if ¬ a2 = r4 then (0 : Int32) else 1) = 1) ∧ Qr (some (vI (if ¬ a2 = r4 then (0 : Int32) else 1))) h3) Qx)) Qx) : AW X (d + 1) rb mX6_mayMove 0 [(0, vR 6 i0), (1, vI a1), (2, vI a2)] [] h Qr Qx := by
  refine aw_aload_n (j := 0) (i := 0) dX6_mayMove_0 rfl rfl rfl ?_
  refine aw_iload_n (j := 1) (i := 1) dX6_mayMove_1 rfl rfl rfl ?_
  refine aw_callV (M' := mX6_isWhole) (S := []) (as := [vI a1]) (k := 0) dX6_mayMove_2 rfl (by decide) rfl rfl gw_1419 gw_679 gw_680 mb_X6_isWhole rfl (Nat.zero_le _) (Nat.le_of_ble_eq_true rfl) rfl (CL.imp k (fun _ h1 k => ?_) (fun _ _ k => k))
  obtain ⟨r2, rfl, k⟩ := oI_of k
  show AW X (d + 1) rb mX6_mayMove 5 _ [vI r2] h1 Qr Qx
  refine aw_if_eq 17 dX6_mayMove_5 rfl rfl (fun c => ?_) (fun c => ?_)
  · replace k := k.1 c
    refine aw_iconst (v := 1) dX6_mayMove_17 rfl (by decide) ?_
    refine aw_goto 22 dX6_mayMove_18 rfl ?_
    exact aw_zret dX6_mayMove_22 rfl (by decide) k
  · replace k := k.2 c
    refine aw_iload_n (j := 2) (i := 2) dX6_mayMove_8 rfl rfl rfl ?_
    refine aw_aload_n (j := 0) (i := 0) dX6_mayMove_9 rfl rfl rfl ?_
    refine aw_iload_n (j := 1) (i := 1) dX6_mayMove_10 rfl rfl rfl ?_
    refine aw_callV (M' := mX6_quantityOf) (S := [vI a2]) (as := [vI a1]) (k := 0) dX6_mayMove_11 rfl (by decide) rfl rfl gw_1420 gw_1272 gw_1273 mb_X6_quantityOf rfl (Nat.zero_le _) (Nat.le_of_ble_eq_true rfl) rfl (CL.imp k (fun _ h3 k => ?_) (fun _ _ k => k))
    obtain ⟨r4, rfl, k⟩ := oI_of k
    show AW X (d + 1) rb mX6_mayMove 14 _ [vI r4, vI a2] h3 Qr Qx
    have kk : AW X (d + 1) rb mX6_mayMove 22 [(0, vR 6 i0), (1, vI a1), (2, vI a2)] [vI (if ¬ a2 = r4 then (0 : Int32) else 1)] h3 Qr Qx := by
      exact aw_zret dX6_mayMove_22 rfl k.1 k.2
    refine aw_icmp_ne 21 dX6_mayMove_14 rfl rfl (fun (c0 : ¬ a2 = r4) => ?_) (fun (c0 : a2 = r4) => ?_)
    · refine aw_iconst (v := 0) dX6_mayMove_21 rfl (by decide) ?_
      simp only [if_pos c0] at kk
      exact kk
    · refine aw_iconst (v := 1) dX6_mayMove_17 rfl (by decide) ?_
      refine aw_goto 22 dX6_mayMove_18 rfl ?_
      simp only [if_neg (oa_nn c0)] at kk
      exact kk
set_option maxHeartbeats 4000000 in
set_option maxRecDepth 100000 in
theorem vc_X6_addReserved_0 {X : WD → State → Prop} {d rb : Nat} {h : Hp} {Qr : Option AV → Hp → Prop} {Qx : String → Hp → Prop} {i0 : Nat} {a1 : Int32} {a2 : Int32}  (k : CL 0 d mX11_isInside [vI a1, vI (h.1 6 i0 0)] h (oI fun r2 h1 => ((r2 = 0) → Qr none h1) ∧ ((¬ r2 = 0) → (vp_in a1 20) ∧ (vp_in a1 20) ∧ Qr none (hp_i h1 42 i0 a1.toNatClampNeg ((h1.1 42 i0 a1.toNatClampNeg) + a2)))) Qx) : AW X (d + 1) rb mX6_addReserved 0 [(0, vR 6 i0), (1, vI a1), (2, vI a2)] [] h Qr Qx := by
  refine aw_iload_n (j := 1) (i := 1) dX6_addReserved_0 rfl rfl rfl ?_
  refine aw_aload_n (j := 0) (i := 0) dX6_addReserved_1 rfl rfl rfl ?_
  refine aw_geti (k := 0) dX6_addReserved_2 rfl (by decide) rfl rfl cb_6 (by decide) gw_268 ?_
  refine aw_callSN (M' := mX11_isInside) (S := []) (as := [vI a1, vI (h.1 6 i0 0)]) (k := 0) dX6_addReserved_5 rfl nw_503 gw_461 mb_X11_isInside rfl (Nat.zero_le _) (Nat.le_of_ble_eq_true rfl) rfl (CL.imp k (fun _ h1 k => ?_) (fun _ _ k => k))
  obtain ⟨r2, rfl, k⟩ := oI_of k
  show AW X (d + 1) rb mX6_addReserved 8 _ [vI r2] h1 Qr Qx
  refine aw_if_eq 21 dX6_addReserved_8 rfl rfl (fun c => ?_) (fun c => ?_)
  · replace k := k.1 c
    exact aw_vret dX6_addReserved_21 rfl k
  · replace k := k.2 c
    refine aw_aload_n (j := 0) (i := 0) dX6_addReserved_11 rfl rfl rfl ?_
    refine aw_getf (k := 7) (z := 42) dX6_addReserved_12 rfl (by decide) rfl rfl rfl cb_6 (by decide) gw_279 ?_
    refine aw_iload_n (j := 1) (i := 1) dX6_addReserved_15 rfl rfl rfl ?_
    refine aw_dup2 dX6_addReserved_16 rfl rfl rfl ?_
    refine aw_iald dX6_addReserved_17 rfl (by decide) rfl k.1 ?_
    replace k := k.2
    refine aw_iload_n (j := 2) (i := 2) dX6_addReserved_18 rfl rfl rfl ?_
    refine aw_iadd dX6_addReserved_19 rfl ?_
    refine aw_iast dX6_addReserved_20 rfl (by decide) rfl k.1 ?_
    replace k := k.2
    exact aw_vret dX6_addReserved_21 rfl k
set_option maxHeartbeats 4000000 in
set_option maxRecDepth 100000 in
theorem vc_X6_addShipped_0 {X : WD → State → Prop} {d rb : Nat} {h : Hp} {Qr : Option AV → Hp → Prop} {Qx : String → Hp → Prop} {i0 : Nat} {a1 : Int32} {a2 : Int32}  (k : CL 0 d mX11_isInside [vI a1, vI (h.1 6 i0 0)] h (oI fun r2 h1 => ((r2 = 0) → Qr none h1) ∧ ((¬ r2 = 0) → (vp_in a1 20) ∧ (vp_in a1 20) ∧ Qr none (hp_i h1 43 i0 a1.toNatClampNeg ((h1.1 43 i0 a1.toNatClampNeg) + a2)))) Qx) : AW X (d + 1) rb mX6_addShipped 0 [(0, vR 6 i0), (1, vI a1), (2, vI a2)] [] h Qr Qx := by
  refine aw_iload_n (j := 1) (i := 1) dX6_addShipped_0 rfl rfl rfl ?_
  refine aw_aload_n (j := 0) (i := 0) dX6_addShipped_1 rfl rfl rfl ?_
  refine aw_geti (k := 0) dX6_addShipped_2 rfl (by decide) rfl rfl cb_6 (by decide) gw_268 ?_
  refine aw_callSN (M' := mX11_isInside) (S := []) (as := [vI a1, vI (h.1 6 i0 0)]) (k := 0) dX6_addShipped_5 rfl nw_503 gw_461 mb_X11_isInside rfl (Nat.zero_le _) (Nat.le_of_ble_eq_true rfl) rfl (CL.imp k (fun _ h1 k => ?_) (fun _ _ k => k))
  obtain ⟨r2, rfl, k⟩ := oI_of k
  show AW X (d + 1) rb mX6_addShipped 8 _ [vI r2] h1 Qr Qx
  refine aw_if_eq 21 dX6_addShipped_8 rfl rfl (fun c => ?_) (fun c => ?_)
  · replace k := k.1 c
    exact aw_vret dX6_addShipped_21 rfl k
  · replace k := k.2 c
    refine aw_aload_n (j := 0) (i := 0) dX6_addShipped_11 rfl rfl rfl ?_
    refine aw_getf (k := 8) (z := 43) dX6_addShipped_12 rfl (by decide) rfl rfl rfl cb_6 (by decide) gw_280 ?_
    refine aw_iload_n (j := 1) (i := 1) dX6_addShipped_15 rfl rfl rfl ?_
    refine aw_dup2 dX6_addShipped_16 rfl rfl rfl ?_
    refine aw_iald dX6_addShipped_17 rfl (by decide) rfl k.1 ?_
    replace k := k.2
    refine aw_iload_n (j := 2) (i := 2) dX6_addShipped_18 rfl rfl rfl ?_
    refine aw_iadd dX6_addShipped_19 rfl ?_
    refine aw_iast dX6_addShipped_20 rfl (by decide) rfl k.1 ?_
    replace k := k.2
    exact aw_vret dX6_addShipped_21 rfl k
set_option maxHeartbeats 4000000 in
set_option maxRecDepth 100000 in
theorem vc_X6_markCancelled_0 {X : WD → State → Prop} {d rb : Nat} {h : Hp} {Qr : Option AV → Hp → Prop} {Qx : String → Hp → Prop} {i0 : Nat} {a1 : Int32}  (k : CL 0 d mX11_isInside [vI a1, vI (h.1 6 i0 0)] h (oI fun r2 h1 => ((r2 = 0) → Qr none h1) ∧ ((¬ r2 = 0) → (vp_in a1 20) ∧ Qr none (hp_i h1 41 i0 a1.toNatClampNeg 1))) Qx) : AW X (d + 1) rb mX6_markCancelled 0 [(0, vR 6 i0), (1, vI a1)] [] h Qr Qx := by
  refine aw_iload_n (j := 1) (i := 1) dX6_markCancelled_0 rfl rfl rfl ?_
  refine aw_aload_n (j := 0) (i := 0) dX6_markCancelled_1 rfl rfl rfl ?_
  refine aw_geti (k := 0) dX6_markCancelled_2 rfl (by decide) rfl rfl cb_6 (by decide) gw_268 ?_
  refine aw_callSN (M' := mX11_isInside) (S := []) (as := [vI a1, vI (h.1 6 i0 0)]) (k := 0) dX6_markCancelled_5 rfl nw_503 gw_461 mb_X11_isInside rfl (Nat.zero_le _) (Nat.le_of_ble_eq_true rfl) rfl (CL.imp k (fun _ h1 k => ?_) (fun _ _ k => k))
  obtain ⟨r2, rfl, k⟩ := oI_of k
  show AW X (d + 1) rb mX6_markCancelled 8 _ [vI r2] h1 Qr Qx
  refine aw_if_eq 18 dX6_markCancelled_8 rfl rfl (fun c => ?_) (fun c => ?_)
  · replace k := k.1 c
    exact aw_vret dX6_markCancelled_18 rfl k
  · replace k := k.2 c
    refine aw_aload_n (j := 0) (i := 0) dX6_markCancelled_11 rfl rfl rfl ?_
    refine aw_getf (k := 6) (z := 41) dX6_markCancelled_12 rfl (by decide) rfl rfl rfl cb_6 (by decide) gw_278 ?_
    refine aw_iload_n (j := 1) (i := 1) dX6_markCancelled_15 rfl rfl rfl ?_
    refine aw_iconst (v := 1) dX6_markCancelled_16 rfl (by decide) ?_
    refine aw_zast dX6_markCancelled_17 rfl (by decide) rfl k.1 (by decide) ?_
    replace k := k.2
    exact aw_vret dX6_markCancelled_18 rfl k
set_option maxHeartbeats 4000000 in
set_option maxRecDepth 100000 in
theorem vc_X6_fillTurns_0 {X : WD → State → Prop} {d rb : Nat} {h : Hp} {Qr : Option AV → Hp → Prop} {Qx : String → Hp → Prop} {i0 : Nat} {t1 i1 n1 : Nat} {f1 : List (Nat × Nat)} (ht1 : t1 < oa_nT) (hk1 : oa_kd t1 = (1, n1, f1)) (k : AW X (d + 1) rb mX6_fillTurns 2 [(0, vR 6 i0), (1, vR t1 i1), (2, vI 0)] [] h Qr Qx) : AW X (d + 1) rb mX6_fillTurns 0 [(0, vR 6 i0), (1, vR t1 i1)] [] h Qr Qx := by
  refine aw_iconst (v := 0) dX6_fillTurns_0 rfl (by decide) ?_
  refine aw_istore_n (i := 2) (L2 := [(2, vI 0), (0, vR 6 i0), (1, vR t1 i1)]) dX6_fillTurns_1 rfl rfl (by decide) rfl ?_
  exact aw_sub [1, 2, 0] rfl k
set_option maxHeartbeats 4000000 in
set_option maxRecDepth 100000 in
theorem vc_X6_fillTurns_2 {X : WD → State → Prop} {d rb : Nat} {h : Hp} {Qr : Option AV → Hp → Prop} {Qx : String → Hp → Prop} {i0 : Nat} {t1 i1 n1 : Nat} {f1 : List (Nat × Nat)} {x2 : Int32} (ht1 : t1 < oa_nT) (hk1 : oa_kd t1 = (1, n1, f1)) (k : (((h.1 6 i0 0) ≤ x2) → Qr none h) ∧ ((¬ (h.1 6 i0 0) ≤ x2) → (((Int32.ofNat n1) ≤ x2) → Qr none h) ∧ ((¬ (Int32.ofNat n1) ≤ x2) → AW X (d + 1) rb mX6_fillTurns 18 [(0, vR 6 i0), (1, vR t1 i1), (2, vI x2), (3, vI x2)] [] h Qr Qx))) : AW X (d + 1) rb mX6_fillTurns 2 [(0, vR 6 i0), (1, vR t1 i1), (2, vI x2)] [] h Qr Qx := by
  refine aw_iload_n (j := 2) (i := 2) dX6_fillTurns_2 rfl rfl rfl ?_
  refine aw_aload_n (j := 0) (i := 0) dX6_fillTurns_3 rfl rfl rfl ?_
  refine aw_geti (k := 0) dX6_fillTurns_4 rfl (by decide) rfl rfl cb_6 (by decide) gw_268 ?_
  refine aw_icmp_ge 59 dX6_fillTurns_7 rfl rfl (fun c => ?_) (fun c => ?_)
  · replace k := k.1 c
    exact aw_vret dX6_fillTurns_59 rfl k
  · replace k := k.2 c
    refine aw_iload_n (j := 2) (i := 2) dX6_fillTurns_10 rfl rfl rfl ?_
    refine aw_aload_n (j := 1) (i := 1) dX6_fillTurns_11 rfl rfl rfl ?_
    refine aw_alen dX6_fillTurns_12 rfl ht1 hk1 rfl ?_
    refine aw_icmp_ge 59 dX6_fillTurns_13 rfl rfl (fun c => ?_) (fun c => ?_)
    · replace k := k.1 c
      exact aw_vret dX6_fillTurns_59 rfl k
    · replace k := k.2 c
      refine aw_iload_n (j := 2) (i := 2) dX6_fillTurns_16 rfl rfl rfl ?_
      refine aw_istore_n (i := 3) (L2 := [(3, vI x2), (0, vR 6 i0), (1, vR t1 i1), (2, vI x2)]) dX6_fillTurns_17 rfl rfl (by decide) rfl ?_
      exact aw_sub [1, 2, 3, 0] rfl k
set_option maxHeartbeats 4000000 in
set_option maxRecDepth 100000 in
theorem vc_X6_fillTurns_18 {X : WD → State → Prop} {d rb : Nat} {h : Hp} {Qr : Option AV → Hp → Prop} {Qx : String → Hp → Prop} {i0 : Nat} {t1 i1 n1 : Nat} {f1 : List (Nat × Nat)} {x2 : Int32} {x3 : Int32} (ht1 : t1 < oa_nT) (hk1 : oa_kd t1 = (1, n1, f1)) (k : ((x3 ≤ 0) → AW X (d + 1) rb mX6_fillTurns 49 [(0, vR 6 i0), (1, vR t1 i1), (2, vI x2), (3, vI x3)] [] h Qr Qx) ∧ ((¬ x3 ≤ 0) → (vp_in (x3 - 1) n1) ∧ CL 0 d mX6_isServedBefore [vR 6 i0, vI x2, vI (h.1 t1 i1 ((x3 - 1).toNatClampNeg))] h (oI fun r2 h1 => ((r2 = 0) → AW X (d + 1) rb mX6_fillTurns 49 [(0, vR 6 i0), (1, vR t1 i1), (2, vI x2), (3, vI x3)] [] h1 Qr Qx) ∧ ((¬ r2 = 0) → (vp_in (x3 - 1) n1) ∧ (vp_in x3 n1) ∧ AW X (d + 1) rb mX6_fillTurns 18 [(0, vR 6 i0), (1, vR t1 i1), (2, vI x2), (3, vI (x3 + (-1)))] [] (hp_i h1 t1 i1 x3.toNatClampNeg (h1.1 t1 i1 ((x3 - 1).toNatClampNeg))) Qr Qx)) Qx)) : AW X (d + 1) rb mX6_fillTurns 18 [(0, vR 6 i0), (1, vR t1 i1), (2, vI x2), (3, vI x3)] [] h Qr Qx := by
  refine aw_iload_n (j := 3) (i := 3) dX6_fillTurns_18 rfl rfl rfl ?_
  refine aw_if_le 49 dX6_fillTurns_19 rfl rfl (fun c => ?_) (fun c => ?_)
  · replace k := k.1 c
    exact aw_sub [0, 1, 2, 3] rfl k
  · replace k := k.2 c
    refine aw_aload_n (j := 0) (i := 0) dX6_fillTurns_22 rfl rfl rfl ?_
    refine aw_iload_n (j := 2) (i := 2) dX6_fillTurns_23 rfl rfl rfl ?_
    refine aw_aload_n (j := 1) (i := 1) dX6_fillTurns_24 rfl rfl rfl ?_
    refine aw_iload_n (j := 3) (i := 3) dX6_fillTurns_25 rfl rfl rfl ?_
    refine aw_iconst (v := 1) dX6_fillTurns_26 rfl (by decide) ?_
    refine aw_isub dX6_fillTurns_27 rfl ?_
    refine aw_iald dX6_fillTurns_28 rfl ht1 hk1 k.1 ?_
    replace k := k.2
    refine aw_callV (M' := mX6_isServedBefore) (S := []) (as := [vI x2, vI (h.1 t1 i1 ((x3 - 1).toNatClampNeg))]) (k := 0) dX6_fillTurns_29 rfl (by decide) rfl rfl gw_585 gw_587 gw_5 mb_X6_isServedBefore rfl (Nat.zero_le _) (Nat.le_of_ble_eq_true rfl) rfl (CL.imp k (fun _ h1 k => ?_) (fun _ _ k => k))
    obtain ⟨r2, rfl, k⟩ := oI_of k
    show AW X (d + 1) rb mX6_fillTurns 32 _ [vI r2] h1 Qr Qx
    refine aw_if_eq 49 dX6_fillTurns_32 rfl rfl (fun c => ?_) (fun c => ?_)
    · replace k := k.1 c
      exact aw_sub [0, 1, 2, 3] rfl k
    · replace k := k.2 c
      refine aw_aload_n (j := 1) (i := 1) dX6_fillTurns_35 rfl rfl rfl ?_
      refine aw_iload_n (j := 3) (i := 3) dX6_fillTurns_36 rfl rfl rfl ?_
      refine aw_aload_n (j := 1) (i := 1) dX6_fillTurns_37 rfl rfl rfl ?_
      refine aw_iload_n (j := 3) (i := 3) dX6_fillTurns_38 rfl rfl rfl ?_
      refine aw_iconst (v := 1) dX6_fillTurns_39 rfl (by decide) ?_
      refine aw_isub dX6_fillTurns_40 rfl ?_
      refine aw_iald dX6_fillTurns_41 rfl ht1 hk1 k.1 ?_
      replace k := k.2
      refine aw_iast dX6_fillTurns_42 rfl ht1 hk1 k.1 ?_
      replace k := k.2
      refine aw_iinc (i := 3) (j := 3) (v := x3 + (-1)) (L2 := [(3, vI (x3 + (-1))), (0, vR 6 i0), (1, vR t1 i1), (2, vI x2)]) dX6_fillTurns_43 rfl (by decide) rfl rfl rfl ?_
      refine aw_goto 18 dX6_fillTurns_46 rfl ?_
      exact aw_sub [1, 2, 3, 0] rfl k
set_option maxHeartbeats 4000000 in
set_option maxRecDepth 100000 in
theorem vc_X6_fillTurns_49 {X : WD → State → Prop} {d rb : Nat} {h : Hp} {Qr : Option AV → Hp → Prop} {Qx : String → Hp → Prop} {i0 : Nat} {t1 i1 n1 : Nat} {f1 : List (Nat × Nat)} {x2 : Int32} {x3 : Int32} (ht1 : t1 < oa_nT) (hk1 : oa_kd t1 = (1, n1, f1)) (k : (vp_in x3 n1) ∧ AW X (d + 1) rb mX6_fillTurns 2 [(0, vR 6 i0), (1, vR t1 i1), (2, vI (x2 + 1))] [] (hp_i h t1 i1 x3.toNatClampNeg x2) Qr Qx) : AW X (d + 1) rb mX6_fillTurns 49 [(0, vR 6 i0), (1, vR t1 i1), (2, vI x2), (3, vI x3)] [] h Qr Qx := by
  refine aw_aload_n (j := 1) (i := 1) dX6_fillTurns_49 rfl rfl rfl ?_
  refine aw_iload_n (j := 3) (i := 3) dX6_fillTurns_50 rfl rfl rfl ?_
  refine aw_iload_n (j := 2) (i := 2) dX6_fillTurns_51 rfl rfl rfl ?_
  refine aw_iast dX6_fillTurns_52 rfl ht1 hk1 k.1 ?_
  replace k := k.2
  refine aw_iinc (i := 2) (j := 2) (v := x2 + 1) (L2 := [(2, vI (x2 + 1)), (0, vR 6 i0), (1, vR t1 i1), (3, vI x3)]) dX6_fillTurns_53 rfl (by decide) rfl rfl rfl ?_
  refine aw_goto 2 dX6_fillTurns_56 rfl ?_
  exact aw_sub [1, 2, 0] rfl k
set_option maxHeartbeats 4000000 in
set_option maxRecDepth 100000 in
theorem vc_X6_isServedBefore_0 {X : WD → State → Prop} {d rb : Nat} {h : Hp} {Qr : Option AV → Hp → Prop} {Qx : String → Hp → Prop} {i0 : Nat} {a1 : Int32} {a2 : Int32}  (k : CL 0 d mX6_dueOf [vR 6 i0, vI a1] h (oI fun r2 h1 => CL 0 d mX6_dueOf [vR 6 i0, vI a2] h1 (oI fun r4 h3 => ((r2 = r4) → CL 0 d mX6_classOf [vR 6 i0, vI a1] h3 (oI fun r6 h5 => CL 0 d mX6_classOf [vR 6 i0, vI a2] h5 (oI fun r8 h7 => ((if r6 ≤ r8 then (0 : Int32) else 1) = 0 ∨ (if r6 ≤ r8 then (0 : Int32) else 1) = 1) ∧ Qr (some (vI (if r6 ≤ r8 then (0 : Int32) else 1))) h7) Qx) Qx) ∧ ((¬ r2 = r4) → CL 0 d mX6_dueOf [vR 6 i0, vI a1] h3 (oI fun r10 h9 => CL 0 d mX6_dueOf [vR 6 i0, vI a2] h9 (oI fun r12 h11 => ((if r12 ≤ r10 then (0 : Int32) else 1) = 0 ∨ (if r12 ≤ r10 then (0 : Int32) else 1) = 1) ∧ Qr (some (vI (if r12 ≤ r10 then (0 : Int32) else 1))) h11) Qx) Qx)) Qx) Qx) : AW X (d + 1) rb mX6_isServedBefore 0 [(0, vR 6 i0), (1, vI a1), (2, vI a2)] [] h Qr Qx := by
  refine aw_aload_n (j := 0) (i := 0) dX6_isServedBefore_0 rfl rfl rfl ?_
  refine aw_iload_n (j := 1) (i := 1) dX6_isServedBefore_1 rfl rfl rfl ?_
  refine aw_callV (M' := mX6_dueOf) (S := []) (as := [vI a1]) (k := 0) dX6_isServedBefore_2 rfl (by decide) rfl rfl gw_589 gw_562 gw_563 mb_X6_dueOf rfl (Nat.zero_le _) (Nat.le_of_ble_eq_true rfl) rfl (CL.imp k (fun _ h1 k => ?_) (fun _ _ k => k))
  obtain ⟨r2, rfl, k⟩ := oI_of k
  show AW X (d + 1) rb mX6_isServedBefore 5 _ [vI r2] h1 Qr Qx
  refine aw_aload_n (j := 0) (i := 0) dX6_isServedBefore_5 rfl rfl rfl ?_
  refine aw_iload_n (j := 2) (i := 2) dX6_isServedBefore_6 rfl rfl rfl ?_
  refine aw_callV (M' := mX6_dueOf) (S := [vI r2]) (as := [vI a2]) (k := 0) dX6_isServedBefore_7 rfl (by decide) rfl rfl gw_589 gw_562 gw_563 mb_X6_dueOf rfl (Nat.zero_le _) (Nat.le_of_ble_eq_true rfl) rfl (CL.imp k (fun _ h3 k => ?_) (fun _ _ k => k))
  obtain ⟨r4, rfl, k⟩ := oI_of k
  show AW X (d + 1) rb mX6_isServedBefore 10 _ [vI r4, vI r2] h3 Qr Qx
  refine aw_icmp_eq 32 dX6_isServedBefore_10 rfl rfl (fun c => ?_) (fun c => ?_)
  · replace k := k.1 c
    refine aw_aload_n (j := 0) (i := 0) dX6_isServedBefore_32 rfl rfl rfl ?_
    refine aw_iload_n (j := 1) (i := 1) dX6_isServedBefore_33 rfl rfl rfl ?_
    refine aw_callV (M' := mX6_classOf) (S := []) (as := [vI a1]) (k := 0) dX6_isServedBefore_34 rfl (by decide) rfl rfl gw_590 gw_591 gw_592 mb_X6_classOf rfl (Nat.zero_le _) (Nat.le_of_ble_eq_true rfl) rfl (CL.imp k (fun _ h5 k => ?_) (fun _ _ k => k))
    obtain ⟨r6, rfl, k⟩ := oI_of k
    show AW X (d + 1) rb mX6_isServedBefore 37 _ [vI r6] h5 Qr Qx
    refine aw_aload_n (j := 0) (i := 0) dX6_isServedBefore_37 rfl rfl rfl ?_
    refine aw_iload_n (j := 2) (i := 2) dX6_isServedBefore_38 rfl rfl rfl ?_
    refine aw_callV (M' := mX6_classOf) (S := [vI r6]) (as := [vI a2]) (k := 0) dX6_isServedBefore_39 rfl (by decide) rfl rfl gw_590 gw_591 gw_592 mb_X6_classOf rfl (Nat.zero_le _) (Nat.le_of_ble_eq_true rfl) rfl (CL.imp k (fun _ h7 k => ?_) (fun _ _ k => k))
    obtain ⟨r8, rfl, k⟩ := oI_of k
    show AW X (d + 1) rb mX6_isServedBefore 42 _ [vI r8, vI r6] h7 Qr Qx
    have kk : AW X (d + 1) rb mX6_isServedBefore 50 [(0, vR 6 i0), (1, vI a1), (2, vI a2)] [vI (if r6 ≤ r8 then (0 : Int32) else 1)] h7 Qr Qx := by
      exact aw_zret dX6_isServedBefore_50 rfl k.1 k.2
    refine aw_icmp_le 49 dX6_isServedBefore_42 rfl rfl (fun (c0 : r6 ≤ r8) => ?_) (fun (c0 : ¬ r6 ≤ r8) => ?_)
    · refine aw_iconst (v := 0) dX6_isServedBefore_49 rfl (by decide) ?_
      simp only [if_pos c0] at kk
      exact kk
    · refine aw_iconst (v := 1) dX6_isServedBefore_45 rfl (by decide) ?_
      refine aw_goto 50 dX6_isServedBefore_46 rfl ?_
      simp only [if_neg c0] at kk
      exact kk
  · replace k := k.2 c
    refine aw_aload_n (j := 0) (i := 0) dX6_isServedBefore_13 rfl rfl rfl ?_
    refine aw_iload_n (j := 1) (i := 1) dX6_isServedBefore_14 rfl rfl rfl ?_
    refine aw_callV (M' := mX6_dueOf) (S := []) (as := [vI a1]) (k := 0) dX6_isServedBefore_15 rfl (by decide) rfl rfl gw_589 gw_562 gw_563 mb_X6_dueOf rfl (Nat.zero_le _) (Nat.le_of_ble_eq_true rfl) rfl (CL.imp k (fun _ h9 k => ?_) (fun _ _ k => k))
    obtain ⟨r10, rfl, k⟩ := oI_of k
    show AW X (d + 1) rb mX6_isServedBefore 18 _ [vI r10] h9 Qr Qx
    refine aw_aload_n (j := 0) (i := 0) dX6_isServedBefore_18 rfl rfl rfl ?_
    refine aw_iload_n (j := 2) (i := 2) dX6_isServedBefore_19 rfl rfl rfl ?_
    refine aw_callV (M' := mX6_dueOf) (S := [vI r10]) (as := [vI a2]) (k := 0) dX6_isServedBefore_20 rfl (by decide) rfl rfl gw_589 gw_562 gw_563 mb_X6_dueOf rfl (Nat.zero_le _) (Nat.le_of_ble_eq_true rfl) rfl (CL.imp k (fun _ h11 k => ?_) (fun _ _ k => k))
    obtain ⟨r12, rfl, k⟩ := oI_of k
    show AW X (d + 1) rb mX6_isServedBefore 23 _ [vI r12, vI r10] h11 Qr Qx
    have kk : AW X (d + 1) rb mX6_isServedBefore 31 [(0, vR 6 i0), (1, vI a1), (2, vI a2)] [vI (if r12 ≤ r10 then (0 : Int32) else 1)] h11 Qr Qx := by
      exact aw_zret dX6_isServedBefore_31 rfl k.1 k.2
    refine aw_icmp_ge 30 dX6_isServedBefore_23 rfl rfl (fun (c0 : r12 ≤ r10) => ?_) (fun (c0 : ¬ r12 ≤ r10) => ?_)
    · refine aw_iconst (v := 0) dX6_isServedBefore_30 rfl (by decide) ?_
      simp only [if_pos c0] at kk
      exact kk
    · refine aw_iconst (v := 1) dX6_isServedBefore_26 rfl (by decide) ?_
      refine aw_goto 31 dX6_isServedBefore_27 rfl ?_
      simp only [if_neg c0] at kk
      exact kk
set_option maxHeartbeats 4000000 in
set_option maxRecDepth 100000 in
theorem vc_X6_firstToLose_0 {X : WD → State → Prop} {d rb : Nat} {h : Hp} {Qr : Option AV → Hp → Prop} {Qx : String → Hp → Prop} {i0 : Nat} {i1 : Nat} {a2 : Int32}  (k : AW X (d + 1) rb mX6_firstToLose 5 [(0, vR 6 i0), (1, vR 1 i1), (2, vI a2), (3, vI (-1)), (4, vI 0)] [] h Qr Qx) : AW X (d + 1) rb mX6_firstToLose 0 [(0, vR 6 i0), (1, vR 1 i1), (2, vI a2)] [] h Qr Qx := by
  refine aw_iconst (v := (-1)) dX6_firstToLose_0 rfl (by decide) ?_
  refine aw_istore_n (i := 3) (L2 := [(3, vI (-1)), (0, vR 6 i0), (1, vR 1 i1), (2, vI a2)]) dX6_firstToLose_1 rfl rfl (by decide) rfl ?_
  refine aw_iconst (v := 0) dX6_firstToLose_2 rfl (by decide) ?_
  refine aw_istore (i := 4) (L2 := [(4, vI 0), (3, vI (-1)), (0, vR 6 i0), (1, vR 1 i1), (2, vI a2)]) dX6_firstToLose_3 rfl (by decide) rfl ?_
  exact aw_sub [2, 3, 4, 1, 0] rfl k
set_option maxHeartbeats 4000000 in
set_option maxRecDepth 100000 in
theorem vc_X6_firstToLose_5 {X : WD → State → Prop} {d rb : Nat} {h : Hp} {Qr : Option AV → Hp → Prop} {Qx : String → Hp → Prop} {i0 : Nat} {i1 : Nat} {x2 : Int32} {x3 : Int32} {x4 : Int32}  (k : (((h.1 6 i0 0) ≤ x4) → Qr (some (vI x3)) h) ∧ ((¬ (h.1 6 i0 0) ≤ x4) → CL 0 d mX6_reservedOf [vR 6 i0, vI x4] h (oI fun r2 h1 => ((r2 ≤ 0) → AW X (d + 1) rb mX6_firstToLose 5 [(0, vR 6 i0), (1, vR 1 i1), (2, vI x2), (3, vI x3), (4, vI (x4 + 1))] [] h1 Qr Qx) ∧ ((¬ r2 ≤ 0) → CL 0 d mX6_productOf [vR 6 i0, vI x4] h1 (oI fun r4 h3 => CL 0 d mX1_needOf [vR 1 i1, vI r4, vI x2] h3 (oI fun r6 h5 => (((if r6 ≤ 0 then (0 : Int32) else 1) = 0) → AW X (d + 1) rb mX6_firstToLose 5 [(0, vR 6 i0), (1, vR 1 i1), (2, vI x2), (3, vI x3), (4, vI (x4 + 1))] [] h5 Qr Qx) ∧ ((¬ (if r6 ≤ 0 then (0 : Int32) else 1) = 0) → ((x3 = (-1)) → AW X (d + 1) rb mX6_firstToLose 5 [(0, vR 6 i0), (1, vR 1 i1), (2, vI x2), (3, vI x4), (4, vI (x4 + 1))] [] h5 Qr Qx) ∧ ((¬ x3 = (-1)) → CL 0 d mX6_losesBefore [vR 6 i0, vI x4, vI x3] h5 (oI fun r8 h7 => ((r8 = 0) → AW X (d + 1) rb mX6_firstToLose 5 [(0, vR 6 i0), (1, vR 1 i1), (2, vI x2), (3, vI x3), (4, vI (x4 + 1))] [] h7 Qr Qx) ∧ ((¬ r8 = 0) → AW X (d + 1) rb mX6_firstToLose 5 [(0, vR 6 i0), (1, vR 1 i1), (2, vI x2), (3, vI x4), (4, vI (x4 + 1))] [] h7 Qr Qx)) Qx))) Qx) Qx)) Qx)) : AW X (d + 1) rb mX6_firstToLose 5 [(0, vR 6 i0), (1, vR 1 i1), (2, vI x2), (3, vI x3), (4, vI x4)] [] h Qr Qx := by
  refine aw_iload (j := 4) (i := 4) dX6_firstToLose_5 rfl rfl ?_
  refine aw_aload_n (j := 0) (i := 0) dX6_firstToLose_7 rfl rfl rfl ?_
  refine aw_geti (k := 0) dX6_firstToLose_8 rfl (by decide) rfl rfl cb_6 (by decide) gw_268 ?_
  refine aw_icmp_ge 73 dX6_firstToLose_11 rfl rfl (fun c => ?_) (fun c => ?_)
  · replace k := k.1 c
    refine aw_iload_n (j := 3) (i := 3) dX6_firstToLose_73 rfl rfl rfl ?_
    exact aw_iret dX6_firstToLose_74 rfl k
  · replace k := k.2 c
    refine aw_aload_n (j := 0) (i := 0) dX6_firstToLose_14 rfl rfl rfl ?_
    refine aw_iload (j := 4) (i := 4) dX6_firstToLose_15 rfl rfl ?_
    refine aw_callV (M' := mX6_reservedOf) (S := []) (as := [vI x4]) (k := 0) dX6_firstToLose_17 rfl (by decide) rfl rfl gw_1234 gw_1235 gw_1236 mb_X6_reservedOf rfl (Nat.zero_le _) (Nat.le_of_ble_eq_true rfl) rfl (CL.imp k (fun _ h1 k => ?_) (fun _ _ k => k))
    obtain ⟨r2, rfl, k⟩ := oI_of k
    show AW X (d + 1) rb mX6_firstToLose 20 _ [vI r2] h1 Qr Qx
    refine aw_if_le 41 dX6_firstToLose_20 rfl rfl (fun c => ?_) (fun c => ?_)
    · replace k := k.1 c
      refine aw_iconst (v := 0) dX6_firstToLose_41 rfl (by decide) ?_
      refine aw_istore (i := 5) (L2 := [(5, vI 0), (0, vR 6 i0), (1, vR 1 i1), (2, vI x2), (3, vI x3), (4, vI x4)]) dX6_firstToLose_42 rfl (by decide) rfl ?_
      refine aw_iload (j := 0) (i := 5) dX6_firstToLose_44 rfl rfl ?_
      refine aw_if_eq 67 dX6_firstToLose_46 rfl rfl (fun _ => ?_) (fun z => absurd z (by decide))
      refine aw_iinc (i := 4) (j := 5) (v := x4 + 1) (L2 := [(4, vI (x4 + 1)), (5, vI 0), (0, vR 6 i0), (1, vR 1 i1), (2, vI x2), (3, vI x3)]) dX6_firstToLose_67 rfl (by decide) rfl rfl rfl ?_
      refine aw_goto 5 dX6_firstToLose_70 rfl ?_
      exact aw_sub [2, 3, 4, 5, 0] rfl k
    · replace k := k.2 c
      refine aw_aload_n (j := 1) (i := 1) dX6_firstToLose_23 rfl rfl rfl ?_
      refine aw_aload_n (j := 0) (i := 0) dX6_firstToLose_24 rfl rfl rfl ?_
      refine aw_iload (j := 4) (i := 4) dX6_firstToLose_25 rfl rfl ?_
      refine aw_callV (M' := mX6_productOf) (S := [vR 1 i1]) (as := [vI x4]) (k := 0) dX6_firstToLose_27 rfl (by decide) rfl rfl gw_1484 gw_505 gw_506 mb_X6_productOf rfl (Nat.zero_le _) (Nat.le_of_ble_eq_true rfl) rfl (CL.imp k (fun _ h3 k => ?_) (fun _ _ k => k))
      obtain ⟨r4, rfl, k⟩ := oI_of k
      show AW X (d + 1) rb mX6_firstToLose 30 _ [vI r4, vR 1 i1] h3 Qr Qx
      refine aw_iload_n (j := 2) (i := 2) dX6_firstToLose_30 rfl rfl rfl ?_
      refine aw_callV (M' := mX1_needOf) (S := []) (as := [vI r4, vI x2]) (k := 0) dX6_firstToLose_31 rfl (by decide) rfl rfl gw_1485 gw_509 gw_510 mb_X1_needOf rfl (Nat.zero_le _) (Nat.le_of_ble_eq_true rfl) rfl (CL.imp k (fun _ h5 k => ?_) (fun _ _ k => k))
      obtain ⟨r6, rfl, k⟩ := oI_of k
      show AW X (d + 1) rb mX6_firstToLose 34 _ [vI r6] h5 Qr Qx
      have kk : AW X (d + 1) rb mX6_firstToLose 42 [(0, vR 6 i0), (1, vR 1 i1), (2, vI x2), (3, vI x3), (4, vI x4)] [vI (if r6 ≤ 0 then (0 : Int32) else 1)] h5 Qr Qx := by
        refine aw_istore (i := 5) (L2 := [(5, vI (if r6 ≤ 0 then (0 : Int32) else 1)), (0, vR 6 i0), (1, vR 1 i1), (2, vI x2), (3, vI x3), (4, vI x4)]) dX6_firstToLose_42 rfl (by decide) rfl ?_
        refine aw_iload (j := 0) (i := 5) dX6_firstToLose_44 rfl rfl ?_
        refine aw_if_eq 67 dX6_firstToLose_46 rfl rfl (fun c => ?_) (fun c => ?_)
        · replace k := k.1 c
          refine aw_iinc (i := 4) (j := 5) (v := x4 + 1) (L2 := [(4, vI (x4 + 1)), (5, vI (if r6 ≤ 0 then (0 : Int32) else 1)), (0, vR 6 i0), (1, vR 1 i1), (2, vI x2), (3, vI x3)]) dX6_firstToLose_67 rfl (by decide) rfl rfl rfl ?_
          refine aw_goto 5 dX6_firstToLose_70 rfl ?_
          exact aw_sub [2, 3, 4, 5, 0] rfl k
        · replace k := k.2 c
          refine aw_iload_n (j := 4) (i := 3) dX6_firstToLose_49 rfl rfl rfl ?_
          refine aw_iconst (v := (-1)) dX6_firstToLose_50 rfl (by decide) ?_
          refine aw_icmp_eq 64 dX6_firstToLose_51 rfl rfl (fun c => ?_) (fun c => ?_)
          · replace k := k.1 c
            refine aw_iload (j := 5) (i := 4) dX6_firstToLose_64 rfl rfl ?_
            refine aw_istore_n (i := 3) (L2 := [(3, vI x4), (5, vI (if r6 ≤ 0 then (0 : Int32) else 1)), (0, vR 6 i0), (1, vR 1 i1), (2, vI x2), (4, vI x4)]) dX6_firstToLose_66 rfl rfl (by decide) rfl ?_
            refine aw_iinc (i := 4) (j := 5) (v := x4 + 1) (L2 := [(4, vI (x4 + 1)), (3, vI x4), (5, vI (if r6 ≤ 0 then (0 : Int32) else 1)), (0, vR 6 i0), (1, vR 1 i1), (2, vI x2)]) dX6_firstToLose_67 rfl (by decide) rfl rfl rfl ?_
            refine aw_goto 5 dX6_firstToLose_70 rfl ?_
            exact aw_sub [3, 4, 5, 1, 0] rfl k
          · replace k := k.2 c
            refine aw_aload_n (j := 1) (i := 0) dX6_firstToLose_54 rfl rfl rfl ?_
            refine aw_iload (j := 5) (i := 4) dX6_firstToLose_55 rfl rfl ?_
            refine aw_iload_n (j := 4) (i := 3) dX6_firstToLose_57 rfl rfl rfl ?_
            refine aw_callV (M' := mX6_losesBefore) (S := []) (as := [vI x4, vI x3]) (k := 0) dX6_firstToLose_58 rfl (by decide) rfl rfl gw_1486 gw_1488 gw_28 mb_X6_losesBefore rfl (Nat.zero_le _) (Nat.le_of_ble_eq_true rfl) rfl (CL.imp k (fun _ h7 k => ?_) (fun _ _ k => k))
            obtain ⟨r8, rfl, k⟩ := oI_of k
            show AW X (d + 1) rb mX6_firstToLose 61 _ [vI r8] h7 Qr Qx
            refine aw_if_eq 67 dX6_firstToLose_61 rfl rfl (fun c => ?_) (fun c => ?_)
            · replace k := k.1 c
              refine aw_iinc (i := 4) (j := 5) (v := x4 + 1) (L2 := [(4, vI (x4 + 1)), (5, vI (if r6 ≤ 0 then (0 : Int32) else 1)), (0, vR 6 i0), (1, vR 1 i1), (2, vI x2), (3, vI x3)]) dX6_firstToLose_67 rfl (by decide) rfl rfl rfl ?_
              refine aw_goto 5 dX6_firstToLose_70 rfl ?_
              exact aw_sub [2, 3, 4, 5, 0] rfl k
            · replace k := k.2 c
              refine aw_iload (j := 5) (i := 4) dX6_firstToLose_64 rfl rfl ?_
              refine aw_istore_n (i := 3) (L2 := [(3, vI x4), (5, vI (if r6 ≤ 0 then (0 : Int32) else 1)), (0, vR 6 i0), (1, vR 1 i1), (2, vI x2), (4, vI x4)]) dX6_firstToLose_66 rfl rfl (by decide) rfl ?_
              refine aw_iinc (i := 4) (j := 5) (v := x4 + 1) (L2 := [(4, vI (x4 + 1)), (3, vI x4), (5, vI (if r6 ≤ 0 then (0 : Int32) else 1)), (0, vR 6 i0), (1, vR 1 i1), (2, vI x2)]) dX6_firstToLose_67 rfl (by decide) rfl rfl rfl ?_
              refine aw_goto 5 dX6_firstToLose_70 rfl ?_
              exact aw_sub [3, 4, 5, 1, 0] rfl k
      refine aw_if_le 41 dX6_firstToLose_34 rfl rfl (fun (c0 : r6 ≤ 0) => ?_) (fun (c0 : ¬ r6 ≤ 0) => ?_)
      · refine aw_iconst (v := 0) dX6_firstToLose_41 rfl (by decide) ?_
        simp only [if_pos c0] at kk
        exact kk
      · refine aw_iconst (v := 1) dX6_firstToLose_37 rfl (by decide) ?_
        refine aw_goto 42 dX6_firstToLose_38 rfl ?_
        simp only [if_neg c0] at kk
        exact kk
set_option maxHeartbeats 4000000 in
set_option maxRecDepth 100000 in
theorem vc_X6_losesBefore_0 {X : WD → State → Prop} {d rb : Nat} {h : Hp} {Qr : Option AV → Hp → Prop} {Qx : String → Hp → Prop} {i0 : Nat} {a1 : Int32} {a2 : Int32}  (k : CL 0 d mX6_classOf [vR 6 i0, vI a1] h (oI fun r2 h1 => CL 0 d mX6_classOf [vR 6 i0, vI a2] h1 (oI fun r4 h3 => ((r2 = r4) → CL 0 d mX6_dueOf [vR 6 i0, vI a1] h3 (oI fun r6 h5 => CL 0 d mX6_dueOf [vR 6 i0, vI a2] h5 (oI fun r8 h7 => ((if r6 < r8 then (0 : Int32) else 1) = 0 ∨ (if r6 < r8 then (0 : Int32) else 1) = 1) ∧ Qr (some (vI (if r6 < r8 then (0 : Int32) else 1))) h7) Qx) Qx) ∧ ((¬ r2 = r4) → CL 0 d mX6_classOf [vR 6 i0, vI a1] h3 (oI fun r10 h9 => CL 0 d mX6_classOf [vR 6 i0, vI a2] h9 (oI fun r12 h11 => ((if r12 ≤ r10 then (0 : Int32) else 1) = 0 ∨ (if r12 ≤ r10 then (0 : Int32) else 1) = 1) ∧ Qr (some (vI (if r12 ≤ r10 then (0 : Int32) else 1))) h11) Qx) Qx)) Qx) Qx) : AW X (d + 1) rb mX6_losesBefore 0 [(0, vR 6 i0), (1, vI a1), (2, vI a2)] [] h Qr Qx := by
  refine aw_aload_n (j := 0) (i := 0) dX6_losesBefore_0 rfl rfl rfl ?_
  refine aw_iload_n (j := 1) (i := 1) dX6_losesBefore_1 rfl rfl rfl ?_
  refine aw_callV (M' := mX6_classOf) (S := []) (as := [vI a1]) (k := 0) dX6_losesBefore_2 rfl (by decide) rfl rfl gw_590 gw_591 gw_592 mb_X6_classOf rfl (Nat.zero_le _) (Nat.le_of_ble_eq_true rfl) rfl (CL.imp k (fun _ h1 k => ?_) (fun _ _ k => k))
  obtain ⟨r2, rfl, k⟩ := oI_of k
  show AW X (d + 1) rb mX6_losesBefore 5 _ [vI r2] h1 Qr Qx
  refine aw_aload_n (j := 0) (i := 0) dX6_losesBefore_5 rfl rfl rfl ?_
  refine aw_iload_n (j := 2) (i := 2) dX6_losesBefore_6 rfl rfl rfl ?_
  refine aw_callV (M' := mX6_classOf) (S := [vI r2]) (as := [vI a2]) (k := 0) dX6_losesBefore_7 rfl (by decide) rfl rfl gw_590 gw_591 gw_592 mb_X6_classOf rfl (Nat.zero_le _) (Nat.le_of_ble_eq_true rfl) rfl (CL.imp k (fun _ h3 k => ?_) (fun _ _ k => k))
  obtain ⟨r4, rfl, k⟩ := oI_of k
  show AW X (d + 1) rb mX6_losesBefore 10 _ [vI r4, vI r2] h3 Qr Qx
  refine aw_icmp_eq 32 dX6_losesBefore_10 rfl rfl (fun c => ?_) (fun c => ?_)
  · replace k := k.1 c
    refine aw_aload_n (j := 0) (i := 0) dX6_losesBefore_32 rfl rfl rfl ?_
    refine aw_iload_n (j := 1) (i := 1) dX6_losesBefore_33 rfl rfl rfl ?_
    refine aw_callV (M' := mX6_dueOf) (S := []) (as := [vI a1]) (k := 0) dX6_losesBefore_34 rfl (by decide) rfl rfl gw_589 gw_562 gw_563 mb_X6_dueOf rfl (Nat.zero_le _) (Nat.le_of_ble_eq_true rfl) rfl (CL.imp k (fun _ h5 k => ?_) (fun _ _ k => k))
    obtain ⟨r6, rfl, k⟩ := oI_of k
    show AW X (d + 1) rb mX6_losesBefore 37 _ [vI r6] h5 Qr Qx
    refine aw_aload_n (j := 0) (i := 0) dX6_losesBefore_37 rfl rfl rfl ?_
    refine aw_iload_n (j := 2) (i := 2) dX6_losesBefore_38 rfl rfl rfl ?_
    refine aw_callV (M' := mX6_dueOf) (S := [vI r6]) (as := [vI a2]) (k := 0) dX6_losesBefore_39 rfl (by decide) rfl rfl gw_589 gw_562 gw_563 mb_X6_dueOf rfl (Nat.zero_le _) (Nat.le_of_ble_eq_true rfl) rfl (CL.imp k (fun _ h7 k => ?_) (fun _ _ k => k))
    obtain ⟨r8, rfl, k⟩ := oI_of k
    show AW X (d + 1) rb mX6_losesBefore 42 _ [vI r8, vI r6] h7 Qr Qx
    have kk : AW X (d + 1) rb mX6_losesBefore 50 [(0, vR 6 i0), (1, vI a1), (2, vI a2)] [vI (if r6 < r8 then (0 : Int32) else 1)] h7 Qr Qx := by
      exact aw_zret dX6_losesBefore_50 rfl k.1 k.2
    refine aw_icmp_lt 49 dX6_losesBefore_42 rfl rfl (fun (c0 : r6 < r8) => ?_) (fun (c0 : ¬ r6 < r8) => ?_)
    · refine aw_iconst (v := 0) dX6_losesBefore_49 rfl (by decide) ?_
      simp only [if_pos c0] at kk
      exact kk
    · refine aw_iconst (v := 1) dX6_losesBefore_45 rfl (by decide) ?_
      refine aw_goto 50 dX6_losesBefore_46 rfl ?_
      simp only [if_neg c0] at kk
      exact kk
  · replace k := k.2 c
    refine aw_aload_n (j := 0) (i := 0) dX6_losesBefore_13 rfl rfl rfl ?_
    refine aw_iload_n (j := 1) (i := 1) dX6_losesBefore_14 rfl rfl rfl ?_
    refine aw_callV (M' := mX6_classOf) (S := []) (as := [vI a1]) (k := 0) dX6_losesBefore_15 rfl (by decide) rfl rfl gw_590 gw_591 gw_592 mb_X6_classOf rfl (Nat.zero_le _) (Nat.le_of_ble_eq_true rfl) rfl (CL.imp k (fun _ h9 k => ?_) (fun _ _ k => k))
    obtain ⟨r10, rfl, k⟩ := oI_of k
    show AW X (d + 1) rb mX6_losesBefore 18 _ [vI r10] h9 Qr Qx
    refine aw_aload_n (j := 0) (i := 0) dX6_losesBefore_18 rfl rfl rfl ?_
    refine aw_iload_n (j := 2) (i := 2) dX6_losesBefore_19 rfl rfl rfl ?_
    refine aw_callV (M' := mX6_classOf) (S := [vI r10]) (as := [vI a2]) (k := 0) dX6_losesBefore_20 rfl (by decide) rfl rfl gw_590 gw_591 gw_592 mb_X6_classOf rfl (Nat.zero_le _) (Nat.le_of_ble_eq_true rfl) rfl (CL.imp k (fun _ h11 k => ?_) (fun _ _ k => k))
    obtain ⟨r12, rfl, k⟩ := oI_of k
    show AW X (d + 1) rb mX6_losesBefore 23 _ [vI r12, vI r10] h11 Qr Qx
    have kk : AW X (d + 1) rb mX6_losesBefore 31 [(0, vR 6 i0), (1, vI a1), (2, vI a2)] [vI (if r12 ≤ r10 then (0 : Int32) else 1)] h11 Qr Qx := by
      exact aw_zret dX6_losesBefore_31 rfl k.1 k.2
    refine aw_icmp_ge 30 dX6_losesBefore_23 rfl rfl (fun (c0 : r12 ≤ r10) => ?_) (fun (c0 : ¬ r12 ≤ r10) => ?_)
    · refine aw_iconst (v := 0) dX6_losesBefore_30 rfl (by decide) ?_
      simp only [if_pos c0] at kk
      exact kk
    · refine aw_iconst (v := 1) dX6_losesBefore_26 rfl (by decide) ?_
      refine aw_goto 31 dX6_losesBefore_27 rfl ?_
      simp only [if_neg c0] at kk
      exact kk
set_option maxHeartbeats 4000000 in
set_option maxRecDepth 100000 in
theorem vc_X7_begin_0 {X : WD → State → Prop} {d rb : Nat} {h : Hp} {Qr : Option AV → Hp → Prop} {Qx : String → Hp → Prop}   (k : CL 0 d mX1_clear [vR 1 (h.2.2 7 0 3)] h (oV fun h1 => CL 0 d mX5_clear [vR 5 (h1.2.2 7 0 4)] h1 (oV fun h2 => CL 0 d mX9_restart [vR 9 0] (hp_i (hp_i h2 7 0 0 (-1)) 7 0 1 0) (oV fun h3 => Qr none h3) Qx) Qx) Qx) : AW X (d + 1) rb mX7_begin 0 [(0, vR 7 0)] [] h Qr Qx := by
  refine aw_aload_n (j := 0) (i := 0) dX7_begin_0 rfl rfl rfl ?_
  refine aw_getm (k := 3) (z := 1) dX7_begin_1 rfl (by decide) rfl rfl cb_7 (by decide) gw_343 ?_
  refine aw_callV (M' := mX1_clear) (S := []) (as := []) (k := 0) dX7_begin_4 rfl (by decide) rfl rfl gw_747 gw_748 gw_749 mb_X1_clear rfl (Nat.zero_le _) (Nat.le_of_ble_eq_true rfl) rfl (CL.imp k (fun _ h1 k => ?_) (fun _ _ k => k))
  obtain ⟨rfl, k⟩ := oV_of k
  show AW X (d + 1) rb mX7_begin 7 _ [] h1 Qr Qx
  refine aw_aload_n (j := 0) (i := 0) dX7_begin_7 rfl rfl rfl ?_
  refine aw_getm (k := 4) (z := 5) dX7_begin_8 rfl (by decide) rfl rfl cb_7 (by decide) gw_344 ?_
  refine aw_callV (M' := mX5_clear) (S := []) (as := []) (k := 0) dX7_begin_11 rfl (by decide) rfl rfl gw_751 gw_752 gw_753 mb_X5_clear rfl (Nat.zero_le _) (Nat.le_of_ble_eq_true rfl) rfl (CL.imp k (fun _ h2 k => ?_) (fun _ _ k => k))
  obtain ⟨rfl, k⟩ := oV_of k
  show AW X (d + 1) rb mX7_begin 14 _ [] h2 Qr Qx
  refine aw_aload_n (j := 0) (i := 0) dX7_begin_14 rfl rfl rfl ?_
  refine aw_iconst (v := (-1)) dX7_begin_15 rfl (by decide) ?_
  refine aw_puti (k := 0) dX7_begin_16 rfl (by decide) rfl rfl cb_7 (by decide) rfl rfl gw_337 ?_
  refine aw_aload_n (j := 0) (i := 0) dX7_begin_19 rfl rfl rfl ?_
  refine aw_iconst (v := 0) dX7_begin_20 rfl (by decide) ?_
  refine aw_puti (k := 1) dX7_begin_21 rfl (by decide) rfl rfl cb_7 (by decide) rfl rfl gw_339 ?_
  refine aw_aload_n (j := 0) (i := 0) dX7_begin_24 rfl rfl rfl ?_
  refine aw_getf (k := 2) (z := 9) dX7_begin_25 rfl (by decide) rfl rfl rfl cb_7 (by decide) gw_341 ?_
  refine aw_callV (M' := mX9_restart) (S := []) (as := []) (k := 0) dX7_begin_28 rfl (by decide) rfl rfl gw_765 gw_766 gw_767 mb_X9_restart rfl (Nat.zero_le _) (Nat.le_of_ble_eq_true rfl) rfl (CL.imp k (fun _ h3 k => ?_) (fun _ _ k => k))
  obtain ⟨rfl, k⟩ := oV_of k
  show AW X (d + 1) rb mX7_begin 31 _ [] h3 Qr Qx
  exact aw_vret dX7_begin_31 rfl k
set_option maxHeartbeats 4000000 in
set_option maxRecDepth 100000 in
theorem vc_X7_hasLine_0 {X : WD → State → Prop} {d rb : Nat} {h : Hp} {Qr : Option AV → Hp → Prop} {Qx : String → Hp → Prop}   (k : ((if (h.1 9 0 0) = 0 then (0 : Int32) else 1) = 0 ∨ (if (h.1 9 0 0) = 0 then (0 : Int32) else 1) = 1) ∧ Qr (some (vI (if (h.1 9 0 0) = 0 then (0 : Int32) else 1))) h) : AW X (d + 1) rb mX7_hasLine 0 [(0, vR 7 0)] [] h Qr Qx := by
  refine aw_aload_n (j := 0) (i := 0) dX7_hasLine_0 rfl rfl rfl ?_
  refine aw_getf (k := 2) (z := 9) dX7_hasLine_1 rfl (by decide) rfl rfl rfl cb_7 (by decide) gw_341 ?_
  refine aw_geti (k := 0) dX7_hasLine_4 rfl (by decide) rfl rfl cb_9 (by decide) gw_148 ?_
  have kk : AW X (d + 1) rb mX7_hasLine 15 [(0, vR 7 0)] [vI (if (h.1 9 0 0) = 0 then (0 : Int32) else 1)] h Qr Qx := by
    exact aw_zret dX7_hasLine_15 rfl k.1 k.2
  refine aw_if_eq 14 dX7_hasLine_7 rfl rfl (fun (c0 : (h.1 9 0 0) = 0) => ?_) (fun (c0 : ¬ (h.1 9 0 0) = 0) => ?_)
  · refine aw_iconst (v := 0) dX7_hasLine_14 rfl (by decide) ?_
    simp only [if_pos c0] at kk
    exact kk
  · refine aw_iconst (v := 1) dX7_hasLine_10 rfl (by decide) ?_
    refine aw_goto 15 dX7_hasLine_11 rfl ?_
    simp only [if_neg c0] at kk
    exact kk
set_option maxHeartbeats 4000000 in
set_option maxRecDepth 100000 in
theorem vc_X7_swapCatalog_0 {X : WD → State → Prop} {d rb : Nat} {h : Hp} {Qr : Option AV → Hp → Prop} {Qx : String → Hp → Prop} {i1 : Nat}  (k : ((¬ (h.1 1 (h.2.2 7 0 3) 2) = 0) → Qr (some (vR 1 (h.2.2 7 0 3))) (hp_r h 7 0 3 i1)) ∧ (((h.1 1 (h.2.2 7 0 3) 2) = 0) → CL 0 d mX1_addRung [vR 1 (h.2.2 7 0 3), vI 0, vI 9, vI 100] h (oV fun h1 => Qr (some (vR 1 (h.2.2 7 0 3))) (hp_r h1 7 0 3 i1)) Qx)) : AW X (d + 1) rb mX7_swapCatalog 0 [(0, vR 7 0), (1, vR 1 i1)] [] h Qr Qx := by
  refine aw_aload_n (j := 0) (i := 0) dX7_swapCatalog_0 rfl rfl rfl ?_
  refine aw_getm (k := 3) (z := 1) dX7_swapCatalog_1 rfl (by decide) rfl rfl cb_7 (by decide) gw_343 ?_
  refine aw_astore_n (i := 2) (L2 := [(2, vR 1 (h.2.2 7 0 3)), (0, vR 7 0), (1, vR 1 i1)]) dX7_swapCatalog_4 rfl rfl (by decide) rfl ?_
  refine aw_aload_n (j := 0) (i := 2) dX7_swapCatalog_5 rfl rfl rfl ?_
  refine aw_geti (k := 2) dX7_swapCatalog_6 rfl (by decide) rfl rfl cb_1 (by decide) gw_181 ?_
  refine aw_if_ne 21 dX7_swapCatalog_9 rfl rfl (fun c => ?_) (fun c => ?_)
  · replace k := k.1 c
    refine aw_aload_n (j := 1) (i := 0) dX7_swapCatalog_21 rfl rfl rfl ?_
    refine aw_aload_n (j := 2) (i := 1) dX7_swapCatalog_22 rfl rfl rfl ?_
    refine aw_putm (k := 3) (z := 1) dX7_swapCatalog_23 rfl (by decide) rfl rfl cb_7 (by decide) rfl rfl gw_343 ?_
    refine aw_aload_n (j := 0) (i := 2) dX7_swapCatalog_26 rfl rfl rfl ?_
    exact aw_aret dX7_swapCatalog_27 rfl k
  · replace k := k.2 c
    refine aw_aload_n (j := 0) (i := 2) dX7_swapCatalog_12 rfl rfl rfl ?_
    refine aw_iconst (v := 0) dX7_swapCatalog_13 rfl (by decide) ?_
    refine aw_bipush (v := 9) dX7_swapCatalog_14 rfl (by decide) ?_
    refine aw_bipush (v := 100) dX7_swapCatalog_16 rfl (by decide) ?_
    refine aw_callV (M' := mX1_addRung) (S := []) (as := [vI 0, vI 9, vI 100]) (k := 0) dX7_swapCatalog_18 rfl (by decide) rfl rfl gw_950 gw_420 gw_421 mb_X1_addRung rfl (Nat.zero_le _) (Nat.le_of_ble_eq_true rfl) rfl (CL.imp k (fun _ h1 k => ?_) (fun _ _ k => k))
    obtain ⟨rfl, k⟩ := oV_of k
    show AW X (d + 1) rb mX7_swapCatalog 21 _ [] h1 Qr Qx
    refine aw_aload_n (j := 1) (i := 0) dX7_swapCatalog_21 rfl rfl rfl ?_
    refine aw_aload_n (j := 2) (i := 1) dX7_swapCatalog_22 rfl rfl rfl ?_
    refine aw_putm (k := 3) (z := 1) dX7_swapCatalog_23 rfl (by decide) rfl rfl cb_7 (by decide) rfl rfl gw_343 ?_
    refine aw_aload_n (j := 0) (i := 2) dX7_swapCatalog_26 rfl rfl rfl ?_
    exact aw_aret dX7_swapCatalog_27 rfl k
set_option maxHeartbeats 4000000 in
set_option maxRecDepth 100000 in
theorem vc_X7_swapLedger_0 {X : WD → State → Prop} {d rb : Nat} {h : Hp} {Qr : Option AV → Hp → Prop} {Qx : String → Hp → Prop} {i1 : Nat}  (k : Qr (some (vR 5 (h.2.2 7 0 4))) (hp_r h 7 0 4 i1)) : AW X (d + 1) rb mX7_swapLedger 0 [(0, vR 7 0), (1, vR 5 i1)] [] h Qr Qx := by
  refine aw_aload_n (j := 0) (i := 0) dX7_swapLedger_0 rfl rfl rfl ?_
  refine aw_getm (k := 4) (z := 5) dX7_swapLedger_1 rfl (by decide) rfl rfl cb_7 (by decide) gw_344 ?_
  refine aw_astore_n (i := 2) (L2 := [(2, vR 5 (h.2.2 7 0 4)), (0, vR 7 0), (1, vR 5 i1)]) dX7_swapLedger_4 rfl rfl (by decide) rfl ?_
  refine aw_aload_n (j := 1) (i := 0) dX7_swapLedger_5 rfl rfl rfl ?_
  refine aw_aload_n (j := 2) (i := 1) dX7_swapLedger_6 rfl rfl rfl ?_
  refine aw_putm (k := 4) (z := 5) dX7_swapLedger_7 rfl (by decide) rfl rfl cb_7 (by decide) rfl rfl gw_344 ?_
  refine aw_aload_n (j := 0) (i := 2) dX7_swapLedger_10 rfl rfl rfl ?_
  exact aw_aret dX7_swapLedger_11 rfl k
set_option maxHeartbeats 4000000 in
set_option maxRecDepth 100000 in
theorem vc_X7_readLine_0 {X : WD → State → Prop} {d rb : Nat} {h : Hp} {Qr : Option AV → Hp → Prop} {Qx : String → Hp → Prop}   (k : CL 0 d mX9_isWord [vR 9 0, vR 1000 0] h (oI fun r2 h1 => ((r2 = 0) → CL 0 d mX9_isWord [vR 9 0, vR 1001 0] h1 (oI fun r4 h3 => ((r4 = 0) → CL 0 d mX9_isWord [vR 9 0, vR 1002 0] h3 (oI fun r6 h5 => ((r6 = 0) → CL 0 d mX9_isWord [vR 9 0, vR 1003 0] h5 (oI fun r8 h7 => ((r8 = 0) → CL 0 d mX7_fail [vR 7 0, vI 1] h7 (oI fun r10 h9 => (r10 = 0 ∨ r10 = 1) ∧ Qr (some (vI r10)) h9) Qx) ∧ ((¬ r8 = 0) → ((20 ≤ (h7.1 6 (h7.2.2 7 0 4) 0)) → CL 0 d mX7_fail [vR 7 0, vI 4] h7 (oI fun r12 h11 => (r12 = 0 ∨ r12 = 1) ∧ Qr (some (vI r12)) h11) Qx) ∧ ((¬ 20 ≤ (h7.1 6 (h7.2.2 7 0 4) 0)) → CL 0 d mX7_readOrder [vR 7 0] h7 (oI fun r14 h13 => (r14 = 0 ∨ r14 = 1) ∧ Qr (some (vI r14)) h13) Qx))) Qx) ∧ ((¬ r6 = 0) → ((6 ≤ (h5.1 1 (h5.2.2 7 0 3) 2)) → CL 0 d mX7_fail [vR 7 0, vI 4] h5 (oI fun r16 h15 => (r16 = 0 ∨ r16 = 1) ∧ Qr (some (vI r16)) h15) Qx) ∧ ((¬ 6 ≤ (h5.1 1 (h5.2.2 7 0 3) 2)) → CL 0 d mX7_readRung [vR 7 0] h5 (oI fun r18 h17 => (r18 = 0 ∨ r18 = 1) ∧ Qr (some (vI r18)) h17) Qx))) Qx) ∧ ((¬ r4 = 0) → ((8 ≤ (h3.1 1 (h3.2.2 7 0 3) 1)) → CL 0 d mX7_fail [vR 7 0, vI 4] h3 (oI fun r20 h19 => (r20 = 0 ∨ r20 = 1) ∧ Qr (some (vI r20)) h19) Qx) ∧ ((¬ 8 ≤ (h3.1 1 (h3.2.2 7 0 3) 1)) → CL 0 d mX7_readProduct [vR 7 0] h3 (oI fun r22 h21 => (r22 = 0 ∨ r22 = 1) ∧ Qr (some (vI r22)) h21) Qx))) Qx) ∧ ((¬ r2 = 0) → ((12 ≤ (h1.1 1 (h1.2.2 7 0 3) 0)) → CL 0 d mX7_fail [vR 7 0, vI 4] h1 (oI fun r24 h23 => (r24 = 0 ∨ r24 = 1) ∧ Qr (some (vI r24)) h23) Qx) ∧ ((¬ 12 ≤ (h1.1 1 (h1.2.2 7 0 3) 0)) → CL 0 d mX7_readPart [vR 7 0] h1 (oI fun r26 h25 => (r26 = 0 ∨ r26 = 1) ∧ Qr (some (vI r26)) h25) Qx))) Qx) : AW X (d + 1) rb mX7_readLine 0 [(0, vR 7 0)] [] h Qr Qx := by
  refine aw_aload_n (j := 0) (i := 0) dX7_readLine_0 rfl rfl rfl ?_
  refine aw_getf (k := 2) (z := 9) dX7_readLine_1 rfl (by decide) rfl rfl rfl cb_7 (by decide) gw_341 ?_
  refine aw_ldcS (j := 0) dX7_readLine_4 rfl rfl ?_
  refine aw_callV (M' := mX9_isWord) (S := []) (as := [vR 1000 0]) (k := 0) dX7_readLine_6 rfl (by decide) rfl rfl gw_792 gw_793 gw_794 mb_X9_isWord rfl (Nat.zero_le _) (Nat.le_of_ble_eq_true rfl) rfl (CL.imp k (fun _ h1 k => ?_) (fun _ _ k => k))
  obtain ⟨r2, rfl, k⟩ := oI_of k
  show AW X (d + 1) rb mX7_readLine 9 _ [vI r2] h1 Qr Qx
  refine aw_if_eq 37 dX7_readLine_9 rfl rfl (fun c => ?_) (fun c => ?_)
  · replace k := k.1 c
    refine aw_aload_n (j := 0) (i := 0) dX7_readLine_37 rfl rfl rfl ?_
    refine aw_getf (k := 2) (z := 9) dX7_readLine_38 rfl (by decide) rfl rfl rfl cb_7 (by decide) gw_341 ?_
    refine aw_ldcS (j := 1) dX7_readLine_41 rfl rfl ?_
    refine aw_callV (M' := mX9_isWord) (S := []) (as := [vR 1001 0]) (k := 0) dX7_readLine_43 rfl (by decide) rfl rfl gw_792 gw_793 gw_794 mb_X9_isWord rfl (Nat.zero_le _) (Nat.le_of_ble_eq_true rfl) rfl (CL.imp k (fun _ h3 k => ?_) (fun _ _ k => k))
    obtain ⟨r4, rfl, k⟩ := oI_of k
    show AW X (d + 1) rb mX7_readLine 46 _ [vI r4] h3 Qr Qx
    refine aw_if_eq 74 dX7_readLine_46 rfl rfl (fun c => ?_) (fun c => ?_)
    · replace k := k.1 c
      refine aw_aload_n (j := 0) (i := 0) dX7_readLine_74 rfl rfl rfl ?_
      refine aw_getf (k := 2) (z := 9) dX7_readLine_75 rfl (by decide) rfl rfl rfl cb_7 (by decide) gw_341 ?_
      refine aw_ldcS (j := 2) dX7_readLine_78 rfl rfl ?_
      refine aw_callV (M' := mX9_isWord) (S := []) (as := [vR 1002 0]) (k := 0) dX7_readLine_80 rfl (by decide) rfl rfl gw_792 gw_793 gw_794 mb_X9_isWord rfl (Nat.zero_le _) (Nat.le_of_ble_eq_true rfl) rfl (CL.imp k (fun _ h5 k => ?_) (fun _ _ k => k))
      obtain ⟨r6, rfl, k⟩ := oI_of k
      show AW X (d + 1) rb mX7_readLine 83 _ [vI r6] h5 Qr Qx
      refine aw_if_eq 111 dX7_readLine_83 rfl rfl (fun c => ?_) (fun c => ?_)
      · replace k := k.1 c
        refine aw_aload_n (j := 0) (i := 0) dX7_readLine_111 rfl rfl rfl ?_
        refine aw_getf (k := 2) (z := 9) dX7_readLine_112 rfl (by decide) rfl rfl rfl cb_7 (by decide) gw_341 ?_
        refine aw_ldcS (j := 3) dX7_readLine_115 rfl rfl ?_
        refine aw_callV (M' := mX9_isWord) (S := []) (as := [vR 1003 0]) (k := 0) dX7_readLine_117 rfl (by decide) rfl rfl gw_792 gw_793 gw_794 mb_X9_isWord rfl (Nat.zero_le _) (Nat.le_of_ble_eq_true rfl) rfl (CL.imp k (fun _ h7 k => ?_) (fun _ _ k => k))
        obtain ⟨r8, rfl, k⟩ := oI_of k
        show AW X (d + 1) rb mX7_readLine 120 _ [vI r8] h7 Qr Qx
        refine aw_if_eq 151 dX7_readLine_120 rfl rfl (fun c => ?_) (fun c => ?_)
        · replace k := k.1 c
          refine aw_aload_n (j := 0) (i := 0) dX7_readLine_151 rfl rfl rfl ?_
          refine aw_iconst (v := 1) dX7_readLine_152 rfl (by decide) ?_
          refine aw_callV (M' := mX7_fail) (S := []) (as := [vI 1]) (k := 0) dX7_readLine_153 rfl (by decide) rfl rfl gw_857 gw_859 gw_10 mb_X7_fail rfl (Nat.zero_le _) (Nat.le_of_ble_eq_true rfl) rfl (CL.imp k (fun _ h9 k => ?_) (fun _ _ k => k))
          obtain ⟨r10, rfl, k⟩ := oI_of k
          show AW X (d + 1) rb mX7_readLine 156 _ [vI r10] h9 Qr Qx
          exact aw_zret dX7_readLine_156 rfl k.1 k.2
        · replace k := k.2 c
          refine aw_aload_n (j := 0) (i := 0) dX7_readLine_123 rfl rfl rfl ?_
          refine aw_getm (k := 4) (z := 5) dX7_readLine_124 rfl (by decide) rfl rfl cb_7 (by decide) gw_344 ?_
          refine aw_getf (k := 1) (z := 6) dX7_readLine_127 rfl (by decide) rfl rfl rfl cb_5 (by decide) gw_326 ?_
          refine aw_geti (k := 0) dX7_readLine_130 rfl (by decide) rfl rfl cb_6 (by decide) gw_271 ?_
          refine aw_bipush (v := 20) dX7_readLine_133 rfl (by decide) ?_
          refine aw_icmp_ge 145 dX7_readLine_135 rfl rfl (fun c => ?_) (fun c => ?_)
          · replace k := k.1 c
            refine aw_aload_n (j := 0) (i := 0) dX7_readLine_145 rfl rfl rfl ?_
            refine aw_iconst (v := 4) dX7_readLine_146 rfl (by decide) ?_
            refine aw_callV (M' := mX7_fail) (S := []) (as := [vI 4]) (k := 0) dX7_readLine_147 rfl (by decide) rfl rfl gw_857 gw_859 gw_10 mb_X7_fail rfl (Nat.zero_le _) (Nat.le_of_ble_eq_true rfl) rfl (CL.imp k (fun _ h11 k => ?_) (fun _ _ k => k))
            obtain ⟨r12, rfl, k⟩ := oI_of k
            show AW X (d + 1) rb mX7_readLine 150 _ [vI r12] h11 Qr Qx
            exact aw_zret dX7_readLine_150 rfl k.1 k.2
          · replace k := k.2 c
            refine aw_aload_n (j := 0) (i := 0) dX7_readLine_138 rfl rfl rfl ?_
            refine aw_callV (M' := mX7_readOrder) (S := []) (as := []) (k := 0) dX7_readLine_139 rfl (by decide) rfl rfl gw_952 gw_954 gw_17 mb_X7_readOrder rfl (Nat.zero_le _) (Nat.le_of_ble_eq_true rfl) rfl (CL.imp k (fun _ h13 k => ?_) (fun _ _ k => k))
            obtain ⟨r14, rfl, k⟩ := oI_of k
            show AW X (d + 1) rb mX7_readLine 142 _ [vI r14] h13 Qr Qx
            refine aw_goto 150 dX7_readLine_142 rfl ?_
            exact aw_zret dX7_readLine_150 rfl k.1 k.2
      · replace k := k.2 c
        refine aw_aload_n (j := 0) (i := 0) dX7_readLine_86 rfl rfl rfl ?_
        refine aw_getm (k := 3) (z := 1) dX7_readLine_87 rfl (by decide) rfl rfl cb_7 (by decide) gw_343 ?_
        refine aw_geti (k := 2) dX7_readLine_90 rfl (by decide) rfl rfl cb_1 (by decide) gw_181 ?_
        refine aw_bipush (v := 6) dX7_readLine_93 rfl (by decide) ?_
        refine aw_icmp_ge 105 dX7_readLine_95 rfl rfl (fun c => ?_) (fun c => ?_)
        · replace k := k.1 c
          refine aw_aload_n (j := 0) (i := 0) dX7_readLine_105 rfl rfl rfl ?_
          refine aw_iconst (v := 4) dX7_readLine_106 rfl (by decide) ?_
          refine aw_callV (M' := mX7_fail) (S := []) (as := [vI 4]) (k := 0) dX7_readLine_107 rfl (by decide) rfl rfl gw_857 gw_859 gw_10 mb_X7_fail rfl (Nat.zero_le _) (Nat.le_of_ble_eq_true rfl) rfl (CL.imp k (fun _ h15 k => ?_) (fun _ _ k => k))
          obtain ⟨r16, rfl, k⟩ := oI_of k
          show AW X (d + 1) rb mX7_readLine 110 _ [vI r16] h15 Qr Qx
          exact aw_zret dX7_readLine_110 rfl k.1 k.2
        · replace k := k.2 c
          refine aw_aload_n (j := 0) (i := 0) dX7_readLine_98 rfl rfl rfl ?_
          refine aw_callV (M' := mX7_readRung) (S := []) (as := []) (k := 0) dX7_readLine_99 rfl (by decide) rfl rfl gw_946 gw_948 gw_16 mb_X7_readRung rfl (Nat.zero_le _) (Nat.le_of_ble_eq_true rfl) rfl (CL.imp k (fun _ h17 k => ?_) (fun _ _ k => k))
          obtain ⟨r18, rfl, k⟩ := oI_of k
          show AW X (d + 1) rb mX7_readLine 102 _ [vI r18] h17 Qr Qx
          refine aw_goto 110 dX7_readLine_102 rfl ?_
          exact aw_zret dX7_readLine_110 rfl k.1 k.2
    · replace k := k.2 c
      refine aw_aload_n (j := 0) (i := 0) dX7_readLine_49 rfl rfl rfl ?_
      refine aw_getm (k := 3) (z := 1) dX7_readLine_50 rfl (by decide) rfl rfl cb_7 (by decide) gw_343 ?_
      refine aw_geti (k := 1) dX7_readLine_53 rfl (by decide) rfl rfl cb_1 (by decide) gw_178 ?_
      refine aw_bipush (v := 8) dX7_readLine_56 rfl (by decide) ?_
      refine aw_icmp_ge 68 dX7_readLine_58 rfl rfl (fun c => ?_) (fun c => ?_)
      · replace k := k.1 c
        refine aw_aload_n (j := 0) (i := 0) dX7_readLine_68 rfl rfl rfl ?_
        refine aw_iconst (v := 4) dX7_readLine_69 rfl (by decide) ?_
        refine aw_callV (M' := mX7_fail) (S := []) (as := [vI 4]) (k := 0) dX7_readLine_70 rfl (by decide) rfl rfl gw_857 gw_859 gw_10 mb_X7_fail rfl (Nat.zero_le _) (Nat.le_of_ble_eq_true rfl) rfl (CL.imp k (fun _ h19 k => ?_) (fun _ _ k => k))
        obtain ⟨r20, rfl, k⟩ := oI_of k
        show AW X (d + 1) rb mX7_readLine 73 _ [vI r20] h19 Qr Qx
        exact aw_zret dX7_readLine_73 rfl k.1 k.2
      · replace k := k.2 c
        refine aw_aload_n (j := 0) (i := 0) dX7_readLine_61 rfl rfl rfl ?_
        refine aw_callV (M' := mX7_readProduct) (S := []) (as := []) (k := 0) dX7_readLine_62 rfl (by decide) rfl rfl gw_902 gw_904 gw_13 mb_X7_readProduct rfl (Nat.zero_le _) (Nat.le_of_ble_eq_true rfl) rfl (CL.imp k (fun _ h21 k => ?_) (fun _ _ k => k))
        obtain ⟨r22, rfl, k⟩ := oI_of k
        show AW X (d + 1) rb mX7_readLine 65 _ [vI r22] h21 Qr Qx
        refine aw_goto 73 dX7_readLine_65 rfl ?_
        exact aw_zret dX7_readLine_73 rfl k.1 k.2
  · replace k := k.2 c
    refine aw_aload_n (j := 0) (i := 0) dX7_readLine_12 rfl rfl rfl ?_
    refine aw_getm (k := 3) (z := 1) dX7_readLine_13 rfl (by decide) rfl rfl cb_7 (by decide) gw_343 ?_
    refine aw_geti (k := 0) dX7_readLine_16 rfl (by decide) rfl rfl cb_1 (by decide) gw_174 ?_
    refine aw_bipush (v := 12) dX7_readLine_19 rfl (by decide) ?_
    refine aw_icmp_ge 31 dX7_readLine_21 rfl rfl (fun c => ?_) (fun c => ?_)
    · replace k := k.1 c
      refine aw_aload_n (j := 0) (i := 0) dX7_readLine_31 rfl rfl rfl ?_
      refine aw_iconst (v := 4) dX7_readLine_32 rfl (by decide) ?_
      refine aw_callV (M' := mX7_fail) (S := []) (as := [vI 4]) (k := 0) dX7_readLine_33 rfl (by decide) rfl rfl gw_857 gw_859 gw_10 mb_X7_fail rfl (Nat.zero_le _) (Nat.le_of_ble_eq_true rfl) rfl (CL.imp k (fun _ h23 k => ?_) (fun _ _ k => k))
      obtain ⟨r24, rfl, k⟩ := oI_of k
      show AW X (d + 1) rb mX7_readLine 36 _ [vI r24] h23 Qr Qx
      exact aw_zret dX7_readLine_36 rfl k.1 k.2
    · replace k := k.2 c
      refine aw_aload_n (j := 0) (i := 0) dX7_readLine_24 rfl rfl rfl ?_
      refine aw_callV (M' := mX7_readPart) (S := []) (as := []) (k := 0) dX7_readLine_25 rfl (by decide) rfl rfl gw_844 gw_846 gw_8 mb_X7_readPart rfl (Nat.zero_le _) (Nat.le_of_ble_eq_true rfl) rfl (CL.imp k (fun _ h25 k => ?_) (fun _ _ k => k))
      obtain ⟨r26, rfl, k⟩ := oI_of k
      show AW X (d + 1) rb mX7_readLine 28 _ [vI r26] h25 Qr Qx
      refine aw_goto 36 dX7_readLine_28 rfl ?_
      exact aw_zret dX7_readLine_36 rfl k.1 k.2
set_option maxHeartbeats 4000000 in
set_option maxRecDepth 100000 in
theorem vc_X7_fail_0 {X : WD → State → Prop} {d rb : Nat} {h : Hp} {Qr : Option AV → Hp → Prop} {Qx : String → Hp → Prop} {a1 : Int32}  (k : Qr (some (vI 0)) (hp_i (hp_i h 7 0 0 (h.1 9 0 1)) 7 0 1 a1)) : AW X (d + 1) rb mX7_fail 0 [(0, vR 7 0), (1, vI a1)] [] h Qr Qx := by
  refine aw_aload_n (j := 0) (i := 0) dX7_fail_0 rfl rfl rfl ?_
  refine aw_aload_n (j := 0) (i := 0) dX7_fail_1 rfl rfl rfl ?_
  refine aw_getf (k := 2) (z := 9) dX7_fail_2 rfl (by decide) rfl rfl rfl cb_7 (by decide) gw_341 ?_
  refine aw_geti (k := 1) dX7_fail_5 rfl (by decide) rfl rfl cb_9 (by decide) gw_151 ?_
  refine aw_puti (k := 0) dX7_fail_8 rfl (by decide) rfl rfl cb_7 (by decide) rfl rfl gw_337 ?_
  refine aw_aload_n (j := 0) (i := 0) dX7_fail_11 rfl rfl rfl ?_
  refine aw_iload_n (j := 1) (i := 1) dX7_fail_12 rfl rfl rfl ?_
  refine aw_puti (k := 1) dX7_fail_13 rfl (by decide) rfl rfl cb_7 (by decide) rfl rfl gw_339 ?_
  refine aw_iconst (v := 0) dX7_fail_16 rfl (by decide) ?_
  exact aw_zret dX7_fail_17 rfl (by decide) k
set_option maxHeartbeats 4000000 in
set_option maxRecDepth 100000 in
theorem vc_X7_readSemicolon_0 {X : WD → State → Prop} {d rb : Nat} {h : Hp} {Qr : Option AV → Hp → Prop} {Qx : String → Hp → Prop}   (k : CL 0 d mX9_isSemicolon [vR 9 0] h (oI fun r2 h1 => ((¬ r2 = 0) → CL 0 d mX9_step [vR 9 0] h1 (oV fun h3 => Qr (some (vI 1)) h3) Qx) ∧ ((r2 = 0) → CL 0 d mX7_fail [vR 7 0, vI 1] h1 (oI fun r5 h4 => (r5 = 0 ∨ r5 = 1) ∧ Qr (some (vI r5)) h4) Qx)) Qx) : AW X (d + 1) rb mX7_readSemicolon 0 [(0, vR 7 0)] [] h Qr Qx := by
  refine aw_aload_n (j := 0) (i := 0) dX7_readSemicolon_0 rfl rfl rfl ?_
  refine aw_getf (k := 2) (z := 9) dX7_readSemicolon_1 rfl (by decide) rfl rfl rfl cb_7 (by decide) gw_341 ?_
  refine aw_callV (M' := mX9_isSemicolon) (S := []) (as := []) (k := 0) dX7_readSemicolon_4 rfl (by decide) rfl rfl gw_897 gw_898 gw_899 mb_X9_isSemicolon rfl (Nat.zero_le _) (Nat.le_of_ble_eq_true rfl) rfl (CL.imp k (fun _ h1 k => ?_) (fun _ _ k => k))
  obtain ⟨r2, rfl, k⟩ := oI_of k
  show AW X (d + 1) rb mX7_readSemicolon 7 _ [vI r2] h1 Qr Qx
  refine aw_if_ne 16 dX7_readSemicolon_7 rfl rfl (fun c => ?_) (fun c => ?_)
  · replace k := k.1 c
    refine aw_aload_n (j := 0) (i := 0) dX7_readSemicolon_16 rfl rfl rfl ?_
    refine aw_getf (k := 2) (z := 9) dX7_readSemicolon_17 rfl (by decide) rfl rfl rfl cb_7 (by decide) gw_341 ?_
    refine aw_callV (M' := mX9_step) (S := []) (as := []) (k := 0) dX7_readSemicolon_20 rfl (by decide) rfl rfl gw_848 gw_770 gw_771 mb_X9_step rfl (Nat.zero_le _) (Nat.le_of_ble_eq_true rfl) rfl (CL.imp k (fun _ h3 k => ?_) (fun _ _ k => k))
    obtain ⟨rfl, k⟩ := oV_of k
    show AW X (d + 1) rb mX7_readSemicolon 23 _ [] h3 Qr Qx
    refine aw_iconst (v := 1) dX7_readSemicolon_23 rfl (by decide) ?_
    exact aw_zret dX7_readSemicolon_24 rfl (by decide) k
  · replace k := k.2 c
    refine aw_aload_n (j := 0) (i := 0) dX7_readSemicolon_10 rfl rfl rfl ?_
    refine aw_iconst (v := 1) dX7_readSemicolon_11 rfl (by decide) ?_
    refine aw_callV (M' := mX7_fail) (S := []) (as := [vI 1]) (k := 0) dX7_readSemicolon_12 rfl (by decide) rfl rfl gw_857 gw_859 gw_10 mb_X7_fail rfl (Nat.zero_le _) (Nat.le_of_ble_eq_true rfl) rfl (CL.imp k (fun _ h4 k => ?_) (fun _ _ k => k))
    obtain ⟨r5, rfl, k⟩ := oI_of k
    show AW X (d + 1) rb mX7_readSemicolon 15 _ [vI r5] h4 Qr Qx
    exact aw_zret dX7_readSemicolon_15 rfl k.1 k.2
set_option maxHeartbeats 4000000 in
set_option maxRecDepth 100000 in
theorem vc_X7_readPart_0 {X : WD → State → Prop} {d rb : Nat} {h : Hp} {Qr : Option AV → Hp → Prop} {Qx : String → Hp → Prop}   (k : CL 0 d mX9_step [vR 9 0] h (oV fun h1 => CL 0 d mX7_isNewName [vR 7 0] h1 (oI fun r3 h2 => ((¬ r3 = 0) → CL 0 d mX9_name [vR 9 0] h2 (oJ fun r5 h4 => CL 0 d mX9_step [vR 9 0] h4 (oV fun h6 => CL 0 d mX7_readNumber [vR 7 0, vI 0, vI 9999] h6 (oI fun r8 h7 => ((¬ r8 = (-1)) → CL 0 d mX7_readNumber [vR 7 0, vI 1, vI 60] h7 (oI fun r10 h9 => ((¬ r10 = (-1)) → CL 0 d mX10_setStock [vR 10 (h9.2.2 7 0 4), vI (h9.1 1 (h9.2.2 7 0 3) 0), vI r8] h9 (oV fun h11 => CL 0 d mX1_addPart [vR 1 (h11.2.2 7 0 3), vJ r5, vI r10] h11 (oV fun h12 => CL 0 d mX7_readSemicolon [vR 7 0] h12 (oI fun r14 h13 => (r14 = 0 ∨ r14 = 1) ∧ Qr (some (vI r14)) h13) Qx) Qx) Qx) ∧ ((r10 = (-1)) → Qr (some (vI 0)) h9)) Qx) ∧ ((r8 = (-1)) → Qr (some (vI 0)) h7)) Qx) Qx) Qx) ∧ ((r3 = 0) → Qr (some (vI 0)) h2)) Qx) Qx) : AW X (d + 1) rb mX7_readPart 0 [(0, vR 7 0)] [] h Qr Qx := by
  refine aw_aload_n (j := 0) (i := 0) dX7_readPart_0 rfl rfl rfl ?_
  refine aw_getf (k := 2) (z := 9) dX7_readPart_1 rfl (by decide) rfl rfl rfl cb_7 (by decide) gw_341 ?_
  refine aw_callV (M' := mX9_step) (S := []) (as := []) (k := 0) dX7_readPart_4 rfl (by decide) rfl rfl gw_848 gw_770 gw_771 mb_X9_step rfl (Nat.zero_le _) (Nat.le_of_ble_eq_true rfl) rfl (CL.imp k (fun _ h1 k => ?_) (fun _ _ k => k))
  obtain ⟨rfl, k⟩ := oV_of k
  show AW X (d + 1) rb mX7_readPart 7 _ [] h1 Qr Qx
  refine aw_aload_n (j := 0) (i := 0) dX7_readPart_7 rfl rfl rfl ?_
  refine aw_callV (M' := mX7_isNewName) (S := []) (as := []) (k := 0) dX7_readPart_8 rfl (by decide) rfl rfl gw_849 gw_851 gw_9 mb_X7_isNewName rfl (Nat.zero_le _) (Nat.le_of_ble_eq_true rfl) rfl (CL.imp k (fun _ h2 k => ?_) (fun _ _ k => k))
  obtain ⟨r3, rfl, k⟩ := oI_of k
  show AW X (d + 1) rb mX7_readPart 11 _ [vI r3] h2 Qr Qx
  refine aw_if_ne 16 dX7_readPart_11 rfl rfl (fun c => ?_) (fun c => ?_)
  · replace k := k.1 c
    refine aw_aload_n (j := 0) (i := 0) dX7_readPart_16 rfl rfl rfl ?_
    refine aw_getf (k := 2) (z := 9) dX7_readPart_17 rfl (by decide) rfl rfl rfl cb_7 (by decide) gw_341 ?_
    refine aw_callV (M' := mX9_name) (S := []) (as := []) (k := 0) dX7_readPart_20 rfl (by decide) rfl rfl gw_861 gw_862 gw_863 mb_X9_name rfl (Nat.zero_le _) (Nat.le_of_ble_eq_true rfl) rfl (CL.imp k (fun _ h4 k => ?_) (fun _ _ k => k))
    obtain ⟨r5, rfl, k⟩ := oJ_of k
    show AW X (d + 1) rb mX7_readPart 23 _ [vJ r5] h4 Qr Qx
    refine aw_lstore_n (i := 1) (L2 := [(1, vJ r5), (0, vR 7 0)]) dX7_readPart_23 rfl rfl (by decide) rfl ?_
    refine aw_aload_n (j := 1) (i := 0) dX7_readPart_24 rfl rfl rfl ?_
    refine aw_getf (k := 2) (z := 9) dX7_readPart_25 rfl (by decide) rfl rfl rfl cb_7 (by decide) gw_341 ?_
    refine aw_callV (M' := mX9_step) (S := []) (as := []) (k := 0) dX7_readPart_28 rfl (by decide) rfl rfl gw_848 gw_770 gw_771 mb_X9_step rfl (Nat.zero_le _) (Nat.le_of_ble_eq_true rfl) rfl (CL.imp k (fun _ h6 k => ?_) (fun _ _ k => k))
    obtain ⟨rfl, k⟩ := oV_of k
    show AW X (d + 1) rb mX7_readPart 31 _ [] h6 Qr Qx
    refine aw_aload_n (j := 1) (i := 0) dX7_readPart_31 rfl rfl rfl ?_
    refine aw_iconst (v := 0) dX7_readPart_32 rfl (by decide) ?_
    refine aw_sipush (v := 9999) dX7_readPart_33 rfl (by decide) ?_
    refine aw_callV (M' := mX7_readNumber) (S := []) (as := [vI 0, vI 9999]) (k := 0) dX7_readPart_36 rfl (by decide) rfl rfl gw_877 gw_879 gw_11 mb_X7_readNumber rfl (Nat.zero_le _) (Nat.le_of_ble_eq_true rfl) rfl (CL.imp k (fun _ h7 k => ?_) (fun _ _ k => k))
    obtain ⟨r8, rfl, k⟩ := oI_of k
    show AW X (d + 1) rb mX7_readPart 39 _ [vI r8] h7 Qr Qx
    refine aw_istore_n (i := 3) (L2 := [(3, vI r8), (1, vJ r5), (0, vR 7 0)]) dX7_readPart_39 rfl rfl (by decide) rfl ?_
    refine aw_iload_n (j := 0) (i := 3) dX7_readPart_40 rfl rfl rfl ?_
    refine aw_iconst (v := (-1)) dX7_readPart_41 rfl (by decide) ?_
    refine aw_icmp_ne 47 dX7_readPart_42 rfl rfl (fun c => ?_) (fun c => ?_)
    · replace k := k.1 c
      refine aw_aload_n (j := 2) (i := 0) dX7_readPart_47 rfl rfl rfl ?_
      refine aw_iconst (v := 1) dX7_readPart_48 rfl (by decide) ?_
      refine aw_bipush (v := 60) dX7_readPart_49 rfl (by decide) ?_
      refine aw_callV (M' := mX7_readNumber) (S := []) (as := [vI 1, vI 60]) (k := 0) dX7_readPart_51 rfl (by decide) rfl rfl gw_877 gw_879 gw_11 mb_X7_readNumber rfl (Nat.zero_le _) (Nat.le_of_ble_eq_true rfl) rfl (CL.imp k (fun _ h9 k => ?_) (fun _ _ k => k))
      obtain ⟨r10, rfl, k⟩ := oI_of k
      show AW X (d + 1) rb mX7_readPart 54 _ [vI r10] h9 Qr Qx
      refine aw_istore (i := 4) (L2 := [(4, vI r10), (3, vI r8), (1, vJ r5), (0, vR 7 0)]) dX7_readPart_54 rfl (by decide) rfl ?_
      refine aw_iload (j := 0) (i := 4) dX7_readPart_56 rfl rfl ?_
      refine aw_iconst (v := (-1)) dX7_readPart_58 rfl (by decide) ?_
      refine aw_icmp_ne 64 dX7_readPart_59 rfl rfl (fun c => ?_) (fun c => ?_)
      · replace k := k.1 c
        refine aw_aload_n (j := 3) (i := 0) dX7_readPart_64 rfl rfl rfl ?_
        refine aw_getm (k := 4) (z := 5) dX7_readPart_65 rfl (by decide) rfl rfl cb_7 (by decide) gw_344 ?_
        refine aw_getf (k := 0) (z := 10) dX7_readPart_68 rfl (by decide) rfl rfl rfl cb_5 (by decide) gw_323 ?_
        refine aw_aload_n (j := 3) (i := 0) dX7_readPart_71 rfl rfl rfl ?_
        refine aw_getm (k := 3) (z := 1) dX7_readPart_72 rfl (by decide) rfl rfl cb_7 (by decide) gw_343 ?_
        refine aw_geti (k := 0) dX7_readPart_75 rfl (by decide) rfl rfl cb_1 (by decide) gw_174 ?_
        refine aw_iload_n (j := 1) (i := 3) dX7_readPart_78 rfl rfl rfl ?_
        refine aw_callV (M' := mX10_setStock) (S := []) (as := [vI (h9.1 1 (h9.2.2 7 0 3) 0), vI r8]) (k := 0) dX7_readPart_79 rfl (by decide) rfl rfl gw_885 gw_886 gw_887 mb_X10_setStock rfl (Nat.zero_le _) (Nat.le_of_ble_eq_true rfl) rfl (CL.imp k (fun _ h11 k => ?_) (fun _ _ k => k))
        obtain ⟨rfl, k⟩ := oV_of k
        show AW X (d + 1) rb mX7_readPart 82 _ [] h11 Qr Qx
        refine aw_aload_n (j := 3) (i := 0) dX7_readPart_82 rfl rfl rfl ?_
        refine aw_getm (k := 3) (z := 1) dX7_readPart_83 rfl (by decide) rfl rfl cb_7 (by decide) gw_343 ?_
        refine aw_lload_n (j := 2) (i := 1) dX7_readPart_86 rfl rfl rfl ?_
        refine aw_iload (j := 0) (i := 4) dX7_readPart_87 rfl rfl ?_
        refine aw_callV (M' := mX1_addPart) (S := []) (as := [vJ r5, vI r10]) (k := 0) dX7_readPart_89 rfl (by decide) rfl rfl gw_889 gw_890 gw_891 mb_X1_addPart rfl (Nat.zero_le _) (Nat.le_of_ble_eq_true rfl) rfl (CL.imp k (fun _ h12 k => ?_) (fun _ _ k => k))
        obtain ⟨rfl, k⟩ := oV_of k
        show AW X (d + 1) rb mX7_readPart 92 _ [] h12 Qr Qx
        refine aw_aload_n (j := 3) (i := 0) dX7_readPart_92 rfl rfl rfl ?_
        refine aw_callV (M' := mX7_readSemicolon) (S := []) (as := []) (k := 0) dX7_readPart_93 rfl (by decide) rfl rfl gw_893 gw_895 gw_12 mb_X7_readSemicolon rfl (Nat.zero_le _) (Nat.le_of_ble_eq_true rfl) rfl (CL.imp k (fun _ h13 k => ?_) (fun _ _ k => k))
        obtain ⟨r14, rfl, k⟩ := oI_of k
        show AW X (d + 1) rb mX7_readPart 96 _ [vI r14] h13 Qr Qx
        exact aw_zret dX7_readPart_96 rfl k.1 k.2
      · replace k := k.2 c
        refine aw_iconst (v := 0) dX7_readPart_62 rfl (by decide) ?_
        exact aw_zret dX7_readPart_63 rfl (by decide) k
    · replace k := k.2 c
      refine aw_iconst (v := 0) dX7_readPart_45 rfl (by decide) ?_
      exact aw_zret dX7_readPart_46 rfl (by decide) k
  · replace k := k.2 c
    refine aw_iconst (v := 0) dX7_readPart_14 rfl (by decide) ?_
    exact aw_zret dX7_readPart_15 rfl (by decide) k
set_option maxHeartbeats 4000000 in
set_option maxRecDepth 100000 in
theorem vc_X7_readProduct_0 {X : WD → State → Prop} {d rb : Nat} {h : Hp} {Qr : Option AV → Hp → Prop} {Qx : String → Hp → Prop}   (k : CL 0 d mX9_step [vR 9 0] h (oV fun h1 => CL 0 d mX7_isNewName [vR 7 0] h1 (oI fun r3 h2 => ((¬ r3 = 0) → CL 0 d mX9_name [vR 9 0] h2 (oJ fun r5 h4 => CL 0 d mX1_beginProduct [vR 1 (h2.2.2 7 0 3), vJ r5] h4 (oV fun h6 => CL 0 d mX9_step [vR 9 0] h6 (oV fun h7 => CL 0 d mX7_readBillLine [vR 7 0] h7 (oI fun r9 h8 => AW X (d + 1) rb mX7_readProduct 44 [(0, vR 7 0), (1, vI r9), (2, vI 1)] [] h8 Qr Qx) Qx) Qx) Qx) Qx) ∧ ((r3 = 0) → Qr (some (vI 0)) h2)) Qx) Qx) : AW X (d + 1) rb mX7_readProduct 0 [(0, vR 7 0)] [] h Qr Qx := by
  refine aw_aload_n (j := 0) (i := 0) dX7_readProduct_0 rfl rfl rfl ?_
  refine aw_getf (k := 2) (z := 9) dX7_readProduct_1 rfl (by decide) rfl rfl rfl cb_7 (by decide) gw_341 ?_
  refine aw_callV (M' := mX9_step) (S := []) (as := []) (k := 0) dX7_readProduct_4 rfl (by decide) rfl rfl gw_848 gw_770 gw_771 mb_X9_step rfl (Nat.zero_le _) (Nat.le_of_ble_eq_true rfl) rfl (CL.imp k (fun _ h1 k => ?_) (fun _ _ k => k))
  obtain ⟨rfl, k⟩ := oV_of k
  show AW X (d + 1) rb mX7_readProduct 7 _ [] h1 Qr Qx
  refine aw_aload_n (j := 0) (i := 0) dX7_readProduct_7 rfl rfl rfl ?_
  refine aw_callV (M' := mX7_isNewName) (S := []) (as := []) (k := 0) dX7_readProduct_8 rfl (by decide) rfl rfl gw_849 gw_851 gw_9 mb_X7_isNewName rfl (Nat.zero_le _) (Nat.le_of_ble_eq_true rfl) rfl (CL.imp k (fun _ h2 k => ?_) (fun _ _ k => k))
  obtain ⟨r3, rfl, k⟩ := oI_of k
  show AW X (d + 1) rb mX7_readProduct 11 _ [vI r3] h2 Qr Qx
  refine aw_if_ne 16 dX7_readProduct_11 rfl rfl (fun c => ?_) (fun c => ?_)
  · replace k := k.1 c
    refine aw_aload_n (j := 0) (i := 0) dX7_readProduct_16 rfl rfl rfl ?_
    refine aw_getm (k := 3) (z := 1) dX7_readProduct_17 rfl (by decide) rfl rfl cb_7 (by decide) gw_343 ?_
    refine aw_aload_n (j := 0) (i := 0) dX7_readProduct_20 rfl rfl rfl ?_
    refine aw_getf (k := 2) (z := 9) dX7_readProduct_21 rfl (by decide) rfl rfl rfl cb_7 (by decide) gw_341 ?_
    refine aw_callV (M' := mX9_name) (S := [vR 1 (h2.2.2 7 0 3)]) (as := []) (k := 0) dX7_readProduct_24 rfl (by decide) rfl rfl gw_861 gw_862 gw_863 mb_X9_name rfl (Nat.zero_le _) (Nat.le_of_ble_eq_true rfl) rfl (CL.imp k (fun _ h4 k => ?_) (fun _ _ k => k))
    obtain ⟨r5, rfl, k⟩ := oJ_of k
    show AW X (d + 1) rb mX7_readProduct 27 _ [vJ r5, vR 1 (h2.2.2 7 0 3)] h4 Qr Qx
    refine aw_callV (M' := mX1_beginProduct) (S := []) (as := [vJ r5]) (k := 0) dX7_readProduct_27 rfl (by decide) rfl rfl gw_906 gw_907 gw_908 mb_X1_beginProduct rfl (Nat.zero_le _) (Nat.le_of_ble_eq_true rfl) rfl (CL.imp k (fun _ h6 k => ?_) (fun _ _ k => k))
    obtain ⟨rfl, k⟩ := oV_of k
    show AW X (d + 1) rb mX7_readProduct 30 _ [] h6 Qr Qx
    refine aw_aload_n (j := 0) (i := 0) dX7_readProduct_30 rfl rfl rfl ?_
    refine aw_getf (k := 2) (z := 9) dX7_readProduct_31 rfl (by decide) rfl rfl rfl cb_7 (by decide) gw_341 ?_
    refine aw_callV (M' := mX9_step) (S := []) (as := []) (k := 0) dX7_readProduct_34 rfl (by decide) rfl rfl gw_848 gw_770 gw_771 mb_X9_step rfl (Nat.zero_le _) (Nat.le_of_ble_eq_true rfl) rfl (CL.imp k (fun _ h7 k => ?_) (fun _ _ k => k))
    obtain ⟨rfl, k⟩ := oV_of k
    show AW X (d + 1) rb mX7_readProduct 37 _ [] h7 Qr Qx
    refine aw_aload_n (j := 0) (i := 0) dX7_readProduct_37 rfl rfl rfl ?_
    refine aw_callV (M' := mX7_readBillLine) (S := []) (as := []) (k := 0) dX7_readProduct_38 rfl (by decide) rfl rfl gw_911 gw_913 gw_14 mb_X7_readBillLine rfl (Nat.zero_le _) (Nat.le_of_ble_eq_true rfl) rfl (CL.imp k (fun _ h8 k => ?_) (fun _ _ k => k))
    obtain ⟨r9, rfl, k⟩ := oI_of k
    show AW X (d + 1) rb mX7_readProduct 41 _ [vI r9] h8 Qr Qx
    refine aw_istore_n (i := 1) (L2 := [(1, vI r9), (0, vR 7 0)]) dX7_readProduct_41 rfl rfl (by decide) rfl ?_
    refine aw_iconst (v := 1) dX7_readProduct_42 rfl (by decide) ?_
    refine aw_istore_n (i := 2) (L2 := [(2, vI 1), (1, vI r9), (0, vR 7 0)]) dX7_readProduct_43 rfl rfl (by decide) rfl ?_
    exact aw_sub [2, 1, 0] rfl k
  · replace k := k.2 c
    refine aw_iconst (v := 0) dX7_readProduct_14 rfl (by decide) ?_
    exact aw_zret dX7_readProduct_15 rfl (by decide) k
set_option maxHeartbeats 4000000 in
set_option maxRecDepth 100000 in
theorem vc_X7_readProduct_44 {X : WD → State → Prop} {d rb : Nat} {h : Hp} {Qr : Option AV → Hp → Prop} {Qx : String → Hp → Prop} {x1 : Int32} {x2 : Int32}  (k : ((6 < x2) → ((¬ x1 = 0) → CL 0 d mX1_endProduct [vR 1 (h.2.2 7 0 3)] h (oV fun h1 => CL 0 d mX7_readSemicolon [vR 7 0] h1 (oI fun r3 h2 => (r3 = 0 ∨ r3 = 1) ∧ Qr (some (vI r3)) h2) Qx) Qx) ∧ ((x1 = 0) → Qr (some (vI 0)) h)) ∧ ((¬ 6 < x2) → ((x1 = 0) → ((¬ x1 = 0) → CL 0 d mX1_endProduct [vR 1 (h.2.2 7 0 3)] h (oV fun h4 => CL 0 d mX7_readSemicolon [vR 7 0] h4 (oI fun r6 h5 => (r6 = 0 ∨ r6 = 1) ∧ Qr (some (vI r6)) h5) Qx) Qx) ∧ ((x1 = 0) → Qr (some (vI 0)) h)) ∧ ((¬ x1 = 0) → ((¬ (h.1 9 0 0) = 2) → ((¬ x1 = 0) → CL 0 d mX1_endProduct [vR 1 (h.2.2 7 0 3)] h (oV fun h7 => CL 0 d mX7_readSemicolon [vR 7 0] h7 (oI fun r9 h8 => (r9 = 0 ∨ r9 = 1) ∧ Qr (some (vI r9)) h8) Qx) Qx) ∧ ((x1 = 0) → Qr (some (vI 0)) h)) ∧ (((h.1 9 0 0) = 2) → CL 0 d mX7_readBillLine [vR 7 0] h (oI fun r11 h10 => AW X (d + 1) rb mX7_readProduct 44 [(0, vR 7 0), (1, vI r11), (2, vI (x2 + 1))] [] h10 Qr Qx) Qx)))) : AW X (d + 1) rb mX7_readProduct 44 [(0, vR 7 0), (1, vI x1), (2, vI x2)] [] h Qr Qx := by
  refine aw_iload_n (j := 2) (i := 2) dX7_readProduct_44 rfl rfl rfl ?_
  refine aw_bipush (v := 6) dX7_readProduct_45 rfl (by decide) ?_
  refine aw_icmp_gt 76 dX7_readProduct_47 rfl rfl (fun c => ?_) (fun c => ?_)
  · replace k := k.1 c
    refine aw_iload_n (j := 1) (i := 1) dX7_readProduct_76 rfl rfl rfl ?_
    refine aw_if_ne 82 dX7_readProduct_77 rfl rfl (fun c => ?_) (fun c => ?_)
    · replace k := k.1 c
      refine aw_aload_n (j := 0) (i := 0) dX7_readProduct_82 rfl rfl rfl ?_
      refine aw_getm (k := 3) (z := 1) dX7_readProduct_83 rfl (by decide) rfl rfl cb_7 (by decide) gw_343 ?_
      refine aw_callV (M' := mX1_endProduct) (S := []) (as := []) (k := 0) dX7_readProduct_86 rfl (by decide) rfl rfl gw_941 gw_942 gw_943 mb_X1_endProduct rfl (Nat.zero_le _) (Nat.le_of_ble_eq_true rfl) rfl (CL.imp k (fun _ h1 k => ?_) (fun _ _ k => k))
      obtain ⟨rfl, k⟩ := oV_of k
      show AW X (d + 1) rb mX7_readProduct 89 _ [] h1 Qr Qx
      refine aw_aload_n (j := 0) (i := 0) dX7_readProduct_89 rfl rfl rfl ?_
      refine aw_callV (M' := mX7_readSemicolon) (S := []) (as := []) (k := 0) dX7_readProduct_90 rfl (by decide) rfl rfl gw_893 gw_895 gw_12 mb_X7_readSemicolon rfl (Nat.zero_le _) (Nat.le_of_ble_eq_true rfl) rfl (CL.imp k (fun _ h2 k => ?_) (fun _ _ k => k))
      obtain ⟨r3, rfl, k⟩ := oI_of k
      show AW X (d + 1) rb mX7_readProduct 93 _ [vI r3] h2 Qr Qx
      exact aw_zret dX7_readProduct_93 rfl k.1 k.2
    · replace k := k.2 c
      refine aw_iconst (v := 0) dX7_readProduct_80 rfl (by decide) ?_
      exact aw_zret dX7_readProduct_81 rfl (by decide) k
  · replace k := k.2 c
    refine aw_iload_n (j := 1) (i := 1) dX7_readProduct_50 rfl rfl rfl ?_
    refine aw_if_eq 76 dX7_readProduct_51 rfl rfl (fun c => ?_) (fun c => ?_)
    · replace k := k.1 c
      refine aw_iload_n (j := 1) (i := 1) dX7_readProduct_76 rfl rfl rfl ?_
      refine aw_if_ne 82 dX7_readProduct_77 rfl rfl (fun c => ?_) (fun c => ?_)
      · replace k := k.1 c
        refine aw_aload_n (j := 0) (i := 0) dX7_readProduct_82 rfl rfl rfl ?_
        refine aw_getm (k := 3) (z := 1) dX7_readProduct_83 rfl (by decide) rfl rfl cb_7 (by decide) gw_343 ?_
        refine aw_callV (M' := mX1_endProduct) (S := []) (as := []) (k := 0) dX7_readProduct_86 rfl (by decide) rfl rfl gw_941 gw_942 gw_943 mb_X1_endProduct rfl (Nat.zero_le _) (Nat.le_of_ble_eq_true rfl) rfl (CL.imp k (fun _ h4 k => ?_) (fun _ _ k => k))
        obtain ⟨rfl, k⟩ := oV_of k
        show AW X (d + 1) rb mX7_readProduct 89 _ [] h4 Qr Qx
        refine aw_aload_n (j := 0) (i := 0) dX7_readProduct_89 rfl rfl rfl ?_
        refine aw_callV (M' := mX7_readSemicolon) (S := []) (as := []) (k := 0) dX7_readProduct_90 rfl (by decide) rfl rfl gw_893 gw_895 gw_12 mb_X7_readSemicolon rfl (Nat.zero_le _) (Nat.le_of_ble_eq_true rfl) rfl (CL.imp k (fun _ h5 k => ?_) (fun _ _ k => k))
        obtain ⟨r6, rfl, k⟩ := oI_of k
        show AW X (d + 1) rb mX7_readProduct 93 _ [vI r6] h5 Qr Qx
        exact aw_zret dX7_readProduct_93 rfl k.1 k.2
      · replace k := k.2 c
        refine aw_iconst (v := 0) dX7_readProduct_80 rfl (by decide) ?_
        exact aw_zret dX7_readProduct_81 rfl (by decide) k
    · replace k := k.2 c
      refine aw_aload_n (j := 0) (i := 0) dX7_readProduct_54 rfl rfl rfl ?_
      refine aw_getf (k := 2) (z := 9) dX7_readProduct_55 rfl (by decide) rfl rfl rfl cb_7 (by decide) gw_341 ?_
      refine aw_geti (k := 0) dX7_readProduct_58 rfl (by decide) rfl rfl cb_9 (by decide) gw_148 ?_
      refine aw_iconst (v := 2) dX7_readProduct_61 rfl (by decide) ?_
      refine aw_icmp_ne 76 dX7_readProduct_62 rfl rfl (fun c => ?_) (fun c => ?_)
      · replace k := k.1 c
        refine aw_iload_n (j := 1) (i := 1) dX7_readProduct_76 rfl rfl rfl ?_
        refine aw_if_ne 82 dX7_readProduct_77 rfl rfl (fun c => ?_) (fun c => ?_)
        · replace k := k.1 c
          refine aw_aload_n (j := 0) (i := 0) dX7_readProduct_82 rfl rfl rfl ?_
          refine aw_getm (k := 3) (z := 1) dX7_readProduct_83 rfl (by decide) rfl rfl cb_7 (by decide) gw_343 ?_
          refine aw_callV (M' := mX1_endProduct) (S := []) (as := []) (k := 0) dX7_readProduct_86 rfl (by decide) rfl rfl gw_941 gw_942 gw_943 mb_X1_endProduct rfl (Nat.zero_le _) (Nat.le_of_ble_eq_true rfl) rfl (CL.imp k (fun _ h7 k => ?_) (fun _ _ k => k))
          obtain ⟨rfl, k⟩ := oV_of k
          show AW X (d + 1) rb mX7_readProduct 89 _ [] h7 Qr Qx
          refine aw_aload_n (j := 0) (i := 0) dX7_readProduct_89 rfl rfl rfl ?_
          refine aw_callV (M' := mX7_readSemicolon) (S := []) (as := []) (k := 0) dX7_readProduct_90 rfl (by decide) rfl rfl gw_893 gw_895 gw_12 mb_X7_readSemicolon rfl (Nat.zero_le _) (Nat.le_of_ble_eq_true rfl) rfl (CL.imp k (fun _ h8 k => ?_) (fun _ _ k => k))
          obtain ⟨r9, rfl, k⟩ := oI_of k
          show AW X (d + 1) rb mX7_readProduct 93 _ [vI r9] h8 Qr Qx
          exact aw_zret dX7_readProduct_93 rfl k.1 k.2
        · replace k := k.2 c
          refine aw_iconst (v := 0) dX7_readProduct_80 rfl (by decide) ?_
          exact aw_zret dX7_readProduct_81 rfl (by decide) k
      · replace k := k.2 c
        refine aw_aload_n (j := 0) (i := 0) dX7_readProduct_65 rfl rfl rfl ?_
        refine aw_callV (M' := mX7_readBillLine) (S := []) (as := []) (k := 0) dX7_readProduct_66 rfl (by decide) rfl rfl gw_911 gw_913 gw_14 mb_X7_readBillLine rfl (Nat.zero_le _) (Nat.le_of_ble_eq_true rfl) rfl (CL.imp k (fun _ h10 k => ?_) (fun _ _ k => k))
        obtain ⟨r11, rfl, k⟩ := oI_of k
        show AW X (d + 1) rb mX7_readProduct 69 _ [vI r11] h10 Qr Qx
        refine aw_istore_n (i := 1) (L2 := [(1, vI r11), (0, vR 7 0), (2, vI x2)]) dX7_readProduct_69 rfl rfl (by decide) rfl ?_
        refine aw_iinc (i := 2) (j := 2) (v := x2 + 1) (L2 := [(2, vI (x2 + 1)), (1, vI r11), (0, vR 7 0)]) dX7_readProduct_70 rfl (by decide) rfl rfl rfl ?_
        refine aw_goto 44 dX7_readProduct_73 rfl ?_
        exact aw_sub [2, 1, 0] rfl k
set_option maxHeartbeats 4000000 in
set_option maxRecDepth 100000 in
theorem vc_X7_readBillLine_0 {X : WD → State → Prop} {d rb : Nat} {h : Hp} {Qr : Option AV → Hp → Prop} {Qx : String → Hp → Prop}   (k : ((¬ (h.1 9 0 0) = 2) → CL 0 d mX7_readNumber [vR 7 0, vI 1, vI 20] h (oI fun r2 h1 => ((¬ r2 = (-1)) → CL 0 d mX9_isName [vR 9 0] h1 (oI fun r4 h3 => ((¬ r4 = 0) → CL 0 d mX9_name [vR 9 0] h3 (oJ fun r6 h5 => CL 0 d mX1_itemNamed [vR 1 (h3.2.2 7 0 3), vJ r6] h5 (oI fun r8 h7 => ((r8 = (-1)) → CL 0 d mX7_fail [vR 7 0, vI 3] h7 (oI fun r10 h9 => (r10 = 0 ∨ r10 = 1) ∧ Qr (some (vI r10)) h9) Qx) ∧ ((¬ r8 = (-1)) → CL 0 d mX1_begunHas [vR 1 (h7.2.2 7 0 3), vI r8] h7 (oI fun r12 h11 => ((r12 = 0) → CL 0 d mX1_begunCanHold [vR 1 (h11.2.2 7 0 3), vI r8, vI r2] h11 (oI fun r14 h13 => ((¬ r14 = 0) → CL 0 d mX1_addLine [vR 1 (h13.2.2 7 0 3), vI r8, vI r2] h13 (oV fun h15 => CL 0 d mX9_step [vR 9 0] h15 (oV fun h16 => Qr (some (vI 1)) h16) Qx) Qx) ∧ ((r14 = 0) → CL 0 d mX7_fail [vR 7 0, vI 5] h13 (oI fun r18 h17 => (r18 = 0 ∨ r18 = 1) ∧ Qr (some (vI r18)) h17) Qx)) Qx) ∧ ((¬ r12 = 0) → CL 0 d mX7_fail [vR 7 0, vI 3] h11 (oI fun r20 h19 => (r20 = 0 ∨ r20 = 1) ∧ Qr (some (vI r20)) h19) Qx)) Qx)) Qx) Qx) ∧ ((r4 = 0) → CL 0 d mX7_fail [vR 7 0, vI 1] h3 (oI fun r22 h21 => (r22 = 0 ∨ r22 = 1) ∧ Qr (some (vI r22)) h21) Qx)) Qx) ∧ ((r2 = (-1)) → Qr (some (vI 0)) h1)) Qx) ∧ (((h.1 9 0 0) = 2) → CL 0 d mX1_linesOfBegun [vR 1 (h.2.2 7 0 3)] h (oI fun r24 h23 => ((r24 < 6) → CL 0 d mX7_readNumber [vR 7 0, vI 1, vI 20] h23 (oI fun r26 h25 => ((¬ r26 = (-1)) → CL 0 d mX9_isName [vR 9 0] h25 (oI fun r28 h27 => ((¬ r28 = 0) → CL 0 d mX9_name [vR 9 0] h27 (oJ fun r30 h29 => CL 0 d mX1_itemNamed [vR 1 (h27.2.2 7 0 3), vJ r30] h29 (oI fun r32 h31 => ((r32 = (-1)) → CL 0 d mX7_fail [vR 7 0, vI 3] h31 (oI fun r34 h33 => (r34 = 0 ∨ r34 = 1) ∧ Qr (some (vI r34)) h33) Qx) ∧ ((¬ r32 = (-1)) → CL 0 d mX1_begunHas [vR 1 (h31.2.2 7 0 3), vI r32] h31 (oI fun r36 h35 => ((r36 = 0) → CL 0 d mX1_begunCanHold [vR 1 (h35.2.2 7 0 3), vI r32, vI r26] h35 (oI fun r38 h37 => ((¬ r38 = 0) → CL 0 d mX1_addLine [vR 1 (h37.2.2 7 0 3), vI r32, vI r26] h37 (oV fun h39 => CL 0 d mX9_step [vR 9 0] h39 (oV fun h40 => Qr (some (vI 1)) h40) Qx) Qx) ∧ ((r38 = 0) → CL 0 d mX7_fail [vR 7 0, vI 5] h37 (oI fun r42 h41 => (r42 = 0 ∨ r42 = 1) ∧ Qr (some (vI r42)) h41) Qx)) Qx) ∧ ((¬ r36 = 0) → CL 0 d mX7_fail [vR 7 0, vI 3] h35 (oI fun r44 h43 => (r44 = 0 ∨ r44 = 1) ∧ Qr (some (vI r44)) h43) Qx)) Qx)) Qx) Qx) ∧ ((r28 = 0) → CL 0 d mX7_fail [vR 7 0, vI 1] h27 (oI fun r46 h45 => (r46 = 0 ∨ r46 = 1) ∧ Qr (some (vI r46)) h45) Qx)) Qx) ∧ ((r26 = (-1)) → Qr (some (vI 0)) h25)) Qx) ∧ ((¬ r24 < 6) → CL 0 d mX7_fail [vR 7 0, vI 4] h23 (oI fun r48 h47 => (r48 = 0 ∨ r48 = 1) ∧ Qr (some (vI r48)) h47) Qx)) Qx)) : AW X (d + 1) rb mX7_readBillLine 0 [(0, vR 7 0)] [] h Qr Qx := by
  refine aw_aload_n (j := 0) (i := 0) dX7_readBillLine_0 rfl rfl rfl ?_
  refine aw_getf (k := 2) (z := 9) dX7_readBillLine_1 rfl (by decide) rfl rfl rfl cb_7 (by decide) gw_341 ?_
  refine aw_geti (k := 0) dX7_readBillLine_4 rfl (by decide) rfl rfl cb_9 (by decide) gw_148 ?_
  refine aw_iconst (v := 2) dX7_readBillLine_7 rfl (by decide) ?_
  refine aw_icmp_ne 29 dX7_readBillLine_8 rfl rfl (fun c => ?_) (fun c => ?_)
  · replace k := k.1 c
    refine aw_aload_n (j := 0) (i := 0) dX7_readBillLine_29 rfl rfl rfl ?_
    refine aw_iconst (v := 1) dX7_readBillLine_30 rfl (by decide) ?_
    refine aw_bipush (v := 20) dX7_readBillLine_31 rfl (by decide) ?_
    refine aw_callV (M' := mX7_readNumber) (S := []) (as := [vI 1, vI 20]) (k := 0) dX7_readBillLine_33 rfl (by decide) rfl rfl gw_877 gw_879 gw_11 mb_X7_readNumber rfl (Nat.zero_le _) (Nat.le_of_ble_eq_true rfl) rfl (CL.imp k (fun _ h1 k => ?_) (fun _ _ k => k))
    obtain ⟨r2, rfl, k⟩ := oI_of k
    show AW X (d + 1) rb mX7_readBillLine 36 _ [vI r2] h1 Qr Qx
    refine aw_istore_n (i := 1) (L2 := [(1, vI r2), (0, vR 7 0)]) dX7_readBillLine_36 rfl rfl (by decide) rfl ?_
    refine aw_iload_n (j := 0) (i := 1) dX7_readBillLine_37 rfl rfl rfl ?_
    refine aw_iconst (v := (-1)) dX7_readBillLine_38 rfl (by decide) ?_
    refine aw_icmp_ne 44 dX7_readBillLine_39 rfl rfl (fun c => ?_) (fun c => ?_)
    · replace k := k.1 c
      refine aw_aload_n (j := 1) (i := 0) dX7_readBillLine_44 rfl rfl rfl ?_
      refine aw_getf (k := 2) (z := 9) dX7_readBillLine_45 rfl (by decide) rfl rfl rfl cb_7 (by decide) gw_341 ?_
      refine aw_callV (M' := mX9_isName) (S := []) (as := []) (k := 0) dX7_readBillLine_48 rfl (by decide) rfl rfl gw_853 gw_854 gw_855 mb_X9_isName rfl (Nat.zero_le _) (Nat.le_of_ble_eq_true rfl) rfl (CL.imp k (fun _ h3 k => ?_) (fun _ _ k => k))
      obtain ⟨r4, rfl, k⟩ := oI_of k
      show AW X (d + 1) rb mX7_readBillLine 51 _ [vI r4] h3 Qr Qx
      refine aw_if_ne 60 dX7_readBillLine_51 rfl rfl (fun c => ?_) (fun c => ?_)
      · replace k := k.1 c
        refine aw_aload_n (j := 1) (i := 0) dX7_readBillLine_60 rfl rfl rfl ?_
        refine aw_getm (k := 3) (z := 1) dX7_readBillLine_61 rfl (by decide) rfl rfl cb_7 (by decide) gw_343 ?_
        refine aw_aload_n (j := 1) (i := 0) dX7_readBillLine_64 rfl rfl rfl ?_
        refine aw_getf (k := 2) (z := 9) dX7_readBillLine_65 rfl (by decide) rfl rfl rfl cb_7 (by decide) gw_341 ?_
        refine aw_callV (M' := mX9_name) (S := [vR 1 (h3.2.2 7 0 3)]) (as := []) (k := 0) dX7_readBillLine_68 rfl (by decide) rfl rfl gw_861 gw_862 gw_863 mb_X9_name rfl (Nat.zero_le _) (Nat.le_of_ble_eq_true rfl) rfl (CL.imp k (fun _ h5 k => ?_) (fun _ _ k => k))
        obtain ⟨r6, rfl, k⟩ := oJ_of k
        show AW X (d + 1) rb mX7_readBillLine 71 _ [vJ r6, vR 1 (h3.2.2 7 0 3)] h5 Qr Qx
        refine aw_callV (M' := mX1_itemNamed) (S := []) (as := [vJ r6]) (k := 0) dX7_readBillLine_71 rfl (by decide) rfl rfl gw_865 gw_866 gw_867 mb_X1_itemNamed rfl (Nat.zero_le _) (Nat.le_of_ble_eq_true rfl) rfl (CL.imp k (fun _ h7 k => ?_) (fun _ _ k => k))
        obtain ⟨r8, rfl, k⟩ := oI_of k
        show AW X (d + 1) rb mX7_readBillLine 74 _ [vI r8] h7 Qr Qx
        refine aw_istore_n (i := 2) (L2 := [(2, vI r8), (1, vI r2), (0, vR 7 0)]) dX7_readBillLine_74 rfl rfl (by decide) rfl ?_
        refine aw_iload_n (j := 0) (i := 2) dX7_readBillLine_75 rfl rfl rfl ?_
        refine aw_iconst (v := (-1)) dX7_readBillLine_76 rfl (by decide) ?_
        refine aw_icmp_eq 91 dX7_readBillLine_77 rfl rfl (fun c => ?_) (fun c => ?_)
        · replace k := k.1 c
          refine aw_aload_n (j := 2) (i := 0) dX7_readBillLine_91 rfl rfl rfl ?_
          refine aw_iconst (v := 3) dX7_readBillLine_92 rfl (by decide) ?_
          refine aw_callV (M' := mX7_fail) (S := []) (as := [vI 3]) (k := 0) dX7_readBillLine_93 rfl (by decide) rfl rfl gw_857 gw_859 gw_10 mb_X7_fail rfl (Nat.zero_le _) (Nat.le_of_ble_eq_true rfl) rfl (CL.imp k (fun _ h9 k => ?_) (fun _ _ k => k))
          obtain ⟨r10, rfl, k⟩ := oI_of k
          show AW X (d + 1) rb mX7_readBillLine 96 _ [vI r10] h9 Qr Qx
          exact aw_zret dX7_readBillLine_96 rfl k.1 k.2
        · replace k := k.2 c
          refine aw_aload_n (j := 2) (i := 0) dX7_readBillLine_80 rfl rfl rfl ?_
          refine aw_getm (k := 3) (z := 1) dX7_readBillLine_81 rfl (by decide) rfl rfl cb_7 (by decide) gw_343 ?_
          refine aw_iload_n (j := 0) (i := 2) dX7_readBillLine_84 rfl rfl rfl ?_
          refine aw_callV (M' := mX1_begunHas) (S := []) (as := [vI r8]) (k := 0) dX7_readBillLine_85 rfl (by decide) rfl rfl gw_919 gw_920 gw_921 mb_X1_begunHas rfl (Nat.zero_le _) (Nat.le_of_ble_eq_true rfl) rfl (CL.imp k (fun _ h11 k => ?_) (fun _ _ k => k))
          obtain ⟨r12, rfl, k⟩ := oI_of k
          show AW X (d + 1) rb mX7_readBillLine 88 _ [vI r12] h11 Qr Qx
          refine aw_if_eq 97 dX7_readBillLine_88 rfl rfl (fun c => ?_) (fun c => ?_)
          · replace k := k.1 c
            refine aw_aload_n (j := 2) (i := 0) dX7_readBillLine_97 rfl rfl rfl ?_
            refine aw_getm (k := 3) (z := 1) dX7_readBillLine_98 rfl (by decide) rfl rfl cb_7 (by decide) gw_343 ?_
            refine aw_iload_n (j := 0) (i := 2) dX7_readBillLine_101 rfl rfl rfl ?_
            refine aw_iload_n (j := 1) (i := 1) dX7_readBillLine_102 rfl rfl rfl ?_
            refine aw_callV (M' := mX1_begunCanHold) (S := []) (as := [vI r8, vI r2]) (k := 0) dX7_readBillLine_103 rfl (by decide) rfl rfl gw_924 gw_925 gw_926 mb_X1_begunCanHold rfl (Nat.zero_le _) (Nat.le_of_ble_eq_true rfl) rfl (CL.imp k (fun _ h13 k => ?_) (fun _ _ k => k))
            obtain ⟨r14, rfl, k⟩ := oI_of k
            show AW X (d + 1) rb mX7_readBillLine 106 _ [vI r14] h13 Qr Qx
            refine aw_if_ne 115 dX7_readBillLine_106 rfl rfl (fun c => ?_) (fun c => ?_)
            · replace k := k.1 c
              refine aw_aload_n (j := 2) (i := 0) dX7_readBillLine_115 rfl rfl rfl ?_
              refine aw_getm (k := 3) (z := 1) dX7_readBillLine_116 rfl (by decide) rfl rfl cb_7 (by decide) gw_343 ?_
              refine aw_iload_n (j := 0) (i := 2) dX7_readBillLine_119 rfl rfl rfl ?_
              refine aw_iload_n (j := 1) (i := 1) dX7_readBillLine_120 rfl rfl rfl ?_
              refine aw_callV (M' := mX1_addLine) (S := []) (as := [vI r8, vI r2]) (k := 0) dX7_readBillLine_121 rfl (by decide) rfl rfl gw_932 gw_933 gw_934 mb_X1_addLine rfl (Nat.zero_le _) (Nat.le_of_ble_eq_true rfl) rfl (CL.imp k (fun _ h15 k => ?_) (fun _ _ k => k))
              obtain ⟨rfl, k⟩ := oV_of k
              show AW X (d + 1) rb mX7_readBillLine 124 _ [] h15 Qr Qx
              refine aw_aload_n (j := 2) (i := 0) dX7_readBillLine_124 rfl rfl rfl ?_
              refine aw_getf (k := 2) (z := 9) dX7_readBillLine_125 rfl (by decide) rfl rfl rfl cb_7 (by decide) gw_341 ?_
              refine aw_callV (M' := mX9_step) (S := []) (as := []) (k := 0) dX7_readBillLine_128 rfl (by decide) rfl rfl gw_848 gw_770 gw_771 mb_X9_step rfl (Nat.zero_le _) (Nat.le_of_ble_eq_true rfl) rfl (CL.imp k (fun _ h16 k => ?_) (fun _ _ k => k))
              obtain ⟨rfl, k⟩ := oV_of k
              show AW X (d + 1) rb mX7_readBillLine 131 _ [] h16 Qr Qx
              refine aw_iconst (v := 1) dX7_readBillLine_131 rfl (by decide) ?_
              exact aw_zret dX7_readBillLine_132 rfl (by decide) k
            · replace k := k.2 c
              refine aw_aload_n (j := 2) (i := 0) dX7_readBillLine_109 rfl rfl rfl ?_
              refine aw_iconst (v := 5) dX7_readBillLine_110 rfl (by decide) ?_
              refine aw_callV (M' := mX7_fail) (S := []) (as := [vI 5]) (k := 0) dX7_readBillLine_111 rfl (by decide) rfl rfl gw_857 gw_859 gw_10 mb_X7_fail rfl (Nat.zero_le _) (Nat.le_of_ble_eq_true rfl) rfl (CL.imp k (fun _ h17 k => ?_) (fun _ _ k => k))
              obtain ⟨r18, rfl, k⟩ := oI_of k
              show AW X (d + 1) rb mX7_readBillLine 114 _ [vI r18] h17 Qr Qx
              exact aw_zret dX7_readBillLine_114 rfl k.1 k.2
          · replace k := k.2 c
            refine aw_aload_n (j := 2) (i := 0) dX7_readBillLine_91 rfl rfl rfl ?_
            refine aw_iconst (v := 3) dX7_readBillLine_92 rfl (by decide) ?_
            refine aw_callV (M' := mX7_fail) (S := []) (as := [vI 3]) (k := 0) dX7_readBillLine_93 rfl (by decide) rfl rfl gw_857 gw_859 gw_10 mb_X7_fail rfl (Nat.zero_le _) (Nat.le_of_ble_eq_true rfl) rfl (CL.imp k (fun _ h19 k => ?_) (fun _ _ k => k))
            obtain ⟨r20, rfl, k⟩ := oI_of k
            show AW X (d + 1) rb mX7_readBillLine 96 _ [vI r20] h19 Qr Qx
            exact aw_zret dX7_readBillLine_96 rfl k.1 k.2
      · replace k := k.2 c
        refine aw_aload_n (j := 1) (i := 0) dX7_readBillLine_54 rfl rfl rfl ?_
        refine aw_iconst (v := 1) dX7_readBillLine_55 rfl (by decide) ?_
        refine aw_callV (M' := mX7_fail) (S := []) (as := [vI 1]) (k := 0) dX7_readBillLine_56 rfl (by decide) rfl rfl gw_857 gw_859 gw_10 mb_X7_fail rfl (Nat.zero_le _) (Nat.le_of_ble_eq_true rfl) rfl (CL.imp k (fun _ h21 k => ?_) (fun _ _ k => k))
        obtain ⟨r22, rfl, k⟩ := oI_of k
        show AW X (d + 1) rb mX7_readBillLine 59 _ [vI r22] h21 Qr Qx
        exact aw_zret dX7_readBillLine_59 rfl k.1 k.2
    · replace k := k.2 c
      refine aw_iconst (v := 0) dX7_readBillLine_42 rfl (by decide) ?_
      exact aw_zret dX7_readBillLine_43 rfl (by decide) k
  · replace k := k.2 c
    refine aw_aload_n (j := 0) (i := 0) dX7_readBillLine_11 rfl rfl rfl ?_
    refine aw_getm (k := 3) (z := 1) dX7_readBillLine_12 rfl (by decide) rfl rfl cb_7 (by decide) gw_343 ?_
    refine aw_callV (M' := mX1_linesOfBegun) (S := []) (as := []) (k := 0) dX7_readBillLine_15 rfl (by decide) rfl rfl gw_915 gw_916 gw_917 mb_X1_linesOfBegun rfl (Nat.zero_le _) (Nat.le_of_ble_eq_true rfl) rfl (CL.imp k (fun _ h23 k => ?_) (fun _ _ k => k))
    obtain ⟨r24, rfl, k⟩ := oI_of k
    show AW X (d + 1) rb mX7_readBillLine 18 _ [vI r24] h23 Qr Qx
    refine aw_bipush (v := 6) dX7_readBillLine_18 rfl (by decide) ?_
    refine aw_icmp_lt 29 dX7_readBillLine_20 rfl rfl (fun c => ?_) (fun c => ?_)
    · replace k := k.1 c
      refine aw_aload_n (j := 0) (i := 0) dX7_readBillLine_29 rfl rfl rfl ?_
      refine aw_iconst (v := 1) dX7_readBillLine_30 rfl (by decide) ?_
      refine aw_bipush (v := 20) dX7_readBillLine_31 rfl (by decide) ?_
      refine aw_callV (M' := mX7_readNumber) (S := []) (as := [vI 1, vI 20]) (k := 0) dX7_readBillLine_33 rfl (by decide) rfl rfl gw_877 gw_879 gw_11 mb_X7_readNumber rfl (Nat.zero_le _) (Nat.le_of_ble_eq_true rfl) rfl (CL.imp k (fun _ h25 k => ?_) (fun _ _ k => k))
      obtain ⟨r26, rfl, k⟩ := oI_of k
      show AW X (d + 1) rb mX7_readBillLine 36 _ [vI r26] h25 Qr Qx
      refine aw_istore_n (i := 1) (L2 := [(1, vI r26), (0, vR 7 0)]) dX7_readBillLine_36 rfl rfl (by decide) rfl ?_
      refine aw_iload_n (j := 0) (i := 1) dX7_readBillLine_37 rfl rfl rfl ?_
      refine aw_iconst (v := (-1)) dX7_readBillLine_38 rfl (by decide) ?_
      refine aw_icmp_ne 44 dX7_readBillLine_39 rfl rfl (fun c => ?_) (fun c => ?_)
      · replace k := k.1 c
        refine aw_aload_n (j := 1) (i := 0) dX7_readBillLine_44 rfl rfl rfl ?_
        refine aw_getf (k := 2) (z := 9) dX7_readBillLine_45 rfl (by decide) rfl rfl rfl cb_7 (by decide) gw_341 ?_
        refine aw_callV (M' := mX9_isName) (S := []) (as := []) (k := 0) dX7_readBillLine_48 rfl (by decide) rfl rfl gw_853 gw_854 gw_855 mb_X9_isName rfl (Nat.zero_le _) (Nat.le_of_ble_eq_true rfl) rfl (CL.imp k (fun _ h27 k => ?_) (fun _ _ k => k))
        obtain ⟨r28, rfl, k⟩ := oI_of k
        show AW X (d + 1) rb mX7_readBillLine 51 _ [vI r28] h27 Qr Qx
        refine aw_if_ne 60 dX7_readBillLine_51 rfl rfl (fun c => ?_) (fun c => ?_)
        · replace k := k.1 c
          refine aw_aload_n (j := 1) (i := 0) dX7_readBillLine_60 rfl rfl rfl ?_
          refine aw_getm (k := 3) (z := 1) dX7_readBillLine_61 rfl (by decide) rfl rfl cb_7 (by decide) gw_343 ?_
          refine aw_aload_n (j := 1) (i := 0) dX7_readBillLine_64 rfl rfl rfl ?_
          refine aw_getf (k := 2) (z := 9) dX7_readBillLine_65 rfl (by decide) rfl rfl rfl cb_7 (by decide) gw_341 ?_
          refine aw_callV (M' := mX9_name) (S := [vR 1 (h27.2.2 7 0 3)]) (as := []) (k := 0) dX7_readBillLine_68 rfl (by decide) rfl rfl gw_861 gw_862 gw_863 mb_X9_name rfl (Nat.zero_le _) (Nat.le_of_ble_eq_true rfl) rfl (CL.imp k (fun _ h29 k => ?_) (fun _ _ k => k))
          obtain ⟨r30, rfl, k⟩ := oJ_of k
          show AW X (d + 1) rb mX7_readBillLine 71 _ [vJ r30, vR 1 (h27.2.2 7 0 3)] h29 Qr Qx
          refine aw_callV (M' := mX1_itemNamed) (S := []) (as := [vJ r30]) (k := 0) dX7_readBillLine_71 rfl (by decide) rfl rfl gw_865 gw_866 gw_867 mb_X1_itemNamed rfl (Nat.zero_le _) (Nat.le_of_ble_eq_true rfl) rfl (CL.imp k (fun _ h31 k => ?_) (fun _ _ k => k))
          obtain ⟨r32, rfl, k⟩ := oI_of k
          show AW X (d + 1) rb mX7_readBillLine 74 _ [vI r32] h31 Qr Qx
          refine aw_istore_n (i := 2) (L2 := [(2, vI r32), (1, vI r26), (0, vR 7 0)]) dX7_readBillLine_74 rfl rfl (by decide) rfl ?_
          refine aw_iload_n (j := 0) (i := 2) dX7_readBillLine_75 rfl rfl rfl ?_
          refine aw_iconst (v := (-1)) dX7_readBillLine_76 rfl (by decide) ?_
          refine aw_icmp_eq 91 dX7_readBillLine_77 rfl rfl (fun c => ?_) (fun c => ?_)
          · replace k := k.1 c
            refine aw_aload_n (j := 2) (i := 0) dX7_readBillLine_91 rfl rfl rfl ?_
            refine aw_iconst (v := 3) dX7_readBillLine_92 rfl (by decide) ?_
            refine aw_callV (M' := mX7_fail) (S := []) (as := [vI 3]) (k := 0) dX7_readBillLine_93 rfl (by decide) rfl rfl gw_857 gw_859 gw_10 mb_X7_fail rfl (Nat.zero_le _) (Nat.le_of_ble_eq_true rfl) rfl (CL.imp k (fun _ h33 k => ?_) (fun _ _ k => k))
            obtain ⟨r34, rfl, k⟩ := oI_of k
            show AW X (d + 1) rb mX7_readBillLine 96 _ [vI r34] h33 Qr Qx
            exact aw_zret dX7_readBillLine_96 rfl k.1 k.2
          · replace k := k.2 c
            refine aw_aload_n (j := 2) (i := 0) dX7_readBillLine_80 rfl rfl rfl ?_
            refine aw_getm (k := 3) (z := 1) dX7_readBillLine_81 rfl (by decide) rfl rfl cb_7 (by decide) gw_343 ?_
            refine aw_iload_n (j := 0) (i := 2) dX7_readBillLine_84 rfl rfl rfl ?_
            refine aw_callV (M' := mX1_begunHas) (S := []) (as := [vI r32]) (k := 0) dX7_readBillLine_85 rfl (by decide) rfl rfl gw_919 gw_920 gw_921 mb_X1_begunHas rfl (Nat.zero_le _) (Nat.le_of_ble_eq_true rfl) rfl (CL.imp k (fun _ h35 k => ?_) (fun _ _ k => k))
            obtain ⟨r36, rfl, k⟩ := oI_of k
            show AW X (d + 1) rb mX7_readBillLine 88 _ [vI r36] h35 Qr Qx
            refine aw_if_eq 97 dX7_readBillLine_88 rfl rfl (fun c => ?_) (fun c => ?_)
            · replace k := k.1 c
              refine aw_aload_n (j := 2) (i := 0) dX7_readBillLine_97 rfl rfl rfl ?_
              refine aw_getm (k := 3) (z := 1) dX7_readBillLine_98 rfl (by decide) rfl rfl cb_7 (by decide) gw_343 ?_
              refine aw_iload_n (j := 0) (i := 2) dX7_readBillLine_101 rfl rfl rfl ?_
              refine aw_iload_n (j := 1) (i := 1) dX7_readBillLine_102 rfl rfl rfl ?_
              refine aw_callV (M' := mX1_begunCanHold) (S := []) (as := [vI r32, vI r26]) (k := 0) dX7_readBillLine_103 rfl (by decide) rfl rfl gw_924 gw_925 gw_926 mb_X1_begunCanHold rfl (Nat.zero_le _) (Nat.le_of_ble_eq_true rfl) rfl (CL.imp k (fun _ h37 k => ?_) (fun _ _ k => k))
              obtain ⟨r38, rfl, k⟩ := oI_of k
              show AW X (d + 1) rb mX7_readBillLine 106 _ [vI r38] h37 Qr Qx
              refine aw_if_ne 115 dX7_readBillLine_106 rfl rfl (fun c => ?_) (fun c => ?_)
              · replace k := k.1 c
                refine aw_aload_n (j := 2) (i := 0) dX7_readBillLine_115 rfl rfl rfl ?_
                refine aw_getm (k := 3) (z := 1) dX7_readBillLine_116 rfl (by decide) rfl rfl cb_7 (by decide) gw_343 ?_
                refine aw_iload_n (j := 0) (i := 2) dX7_readBillLine_119 rfl rfl rfl ?_
                refine aw_iload_n (j := 1) (i := 1) dX7_readBillLine_120 rfl rfl rfl ?_
                refine aw_callV (M' := mX1_addLine) (S := []) (as := [vI r32, vI r26]) (k := 0) dX7_readBillLine_121 rfl (by decide) rfl rfl gw_932 gw_933 gw_934 mb_X1_addLine rfl (Nat.zero_le _) (Nat.le_of_ble_eq_true rfl) rfl (CL.imp k (fun _ h39 k => ?_) (fun _ _ k => k))
                obtain ⟨rfl, k⟩ := oV_of k
                show AW X (d + 1) rb mX7_readBillLine 124 _ [] h39 Qr Qx
                refine aw_aload_n (j := 2) (i := 0) dX7_readBillLine_124 rfl rfl rfl ?_
                refine aw_getf (k := 2) (z := 9) dX7_readBillLine_125 rfl (by decide) rfl rfl rfl cb_7 (by decide) gw_341 ?_
                refine aw_callV (M' := mX9_step) (S := []) (as := []) (k := 0) dX7_readBillLine_128 rfl (by decide) rfl rfl gw_848 gw_770 gw_771 mb_X9_step rfl (Nat.zero_le _) (Nat.le_of_ble_eq_true rfl) rfl (CL.imp k (fun _ h40 k => ?_) (fun _ _ k => k))
                obtain ⟨rfl, k⟩ := oV_of k
                show AW X (d + 1) rb mX7_readBillLine 131 _ [] h40 Qr Qx
                refine aw_iconst (v := 1) dX7_readBillLine_131 rfl (by decide) ?_
                exact aw_zret dX7_readBillLine_132 rfl (by decide) k
              · replace k := k.2 c
                refine aw_aload_n (j := 2) (i := 0) dX7_readBillLine_109 rfl rfl rfl ?_
                refine aw_iconst (v := 5) dX7_readBillLine_110 rfl (by decide) ?_
                refine aw_callV (M' := mX7_fail) (S := []) (as := [vI 5]) (k := 0) dX7_readBillLine_111 rfl (by decide) rfl rfl gw_857 gw_859 gw_10 mb_X7_fail rfl (Nat.zero_le _) (Nat.le_of_ble_eq_true rfl) rfl (CL.imp k (fun _ h41 k => ?_) (fun _ _ k => k))
                obtain ⟨r42, rfl, k⟩ := oI_of k
                show AW X (d + 1) rb mX7_readBillLine 114 _ [vI r42] h41 Qr Qx
                exact aw_zret dX7_readBillLine_114 rfl k.1 k.2
            · replace k := k.2 c
              refine aw_aload_n (j := 2) (i := 0) dX7_readBillLine_91 rfl rfl rfl ?_
              refine aw_iconst (v := 3) dX7_readBillLine_92 rfl (by decide) ?_
              refine aw_callV (M' := mX7_fail) (S := []) (as := [vI 3]) (k := 0) dX7_readBillLine_93 rfl (by decide) rfl rfl gw_857 gw_859 gw_10 mb_X7_fail rfl (Nat.zero_le _) (Nat.le_of_ble_eq_true rfl) rfl (CL.imp k (fun _ h43 k => ?_) (fun _ _ k => k))
              obtain ⟨r44, rfl, k⟩ := oI_of k
              show AW X (d + 1) rb mX7_readBillLine 96 _ [vI r44] h43 Qr Qx
              exact aw_zret dX7_readBillLine_96 rfl k.1 k.2
        · replace k := k.2 c
          refine aw_aload_n (j := 1) (i := 0) dX7_readBillLine_54 rfl rfl rfl ?_
          refine aw_iconst (v := 1) dX7_readBillLine_55 rfl (by decide) ?_
          refine aw_callV (M' := mX7_fail) (S := []) (as := [vI 1]) (k := 0) dX7_readBillLine_56 rfl (by decide) rfl rfl gw_857 gw_859 gw_10 mb_X7_fail rfl (Nat.zero_le _) (Nat.le_of_ble_eq_true rfl) rfl (CL.imp k (fun _ h45 k => ?_) (fun _ _ k => k))
          obtain ⟨r46, rfl, k⟩ := oI_of k
          show AW X (d + 1) rb mX7_readBillLine 59 _ [vI r46] h45 Qr Qx
          exact aw_zret dX7_readBillLine_59 rfl k.1 k.2
      · replace k := k.2 c
        refine aw_iconst (v := 0) dX7_readBillLine_42 rfl (by decide) ?_
        exact aw_zret dX7_readBillLine_43 rfl (by decide) k
    · replace k := k.2 c
      refine aw_aload_n (j := 0) (i := 0) dX7_readBillLine_23 rfl rfl rfl ?_
      refine aw_iconst (v := 4) dX7_readBillLine_24 rfl (by decide) ?_
      refine aw_callV (M' := mX7_fail) (S := []) (as := [vI 4]) (k := 0) dX7_readBillLine_25 rfl (by decide) rfl rfl gw_857 gw_859 gw_10 mb_X7_fail rfl (Nat.zero_le _) (Nat.le_of_ble_eq_true rfl) rfl (CL.imp k (fun _ h47 k => ?_) (fun _ _ k => k))
      obtain ⟨r48, rfl, k⟩ := oI_of k
      show AW X (d + 1) rb mX7_readBillLine 28 _ [vI r48] h47 Qr Qx
      exact aw_zret dX7_readBillLine_28 rfl k.1 k.2
set_option maxHeartbeats 4000000 in
set_option maxRecDepth 100000 in
theorem vc_X7_readRung_0 {X : WD → State → Prop} {d rb : Nat} {h : Hp} {Qr : Option AV → Hp → Prop} {Qx : String → Hp → Prop}   (k : CL 0 d mX9_step [vR 9 0] h (oV fun h1 => CL 0 d mX7_readNumber [vR 7 0, vI 0, vI 9] h1 (oI fun r3 h2 => ((¬ r3 = (-1)) → CL 0 d mX7_readNumber [vR 7 0, vI r3, vI 9] h2 (oI fun r5 h4 => ((¬ r5 = (-1)) → CL 0 d mX7_readNumber [vR 7 0, vI 1, vI 100] h4 (oI fun r7 h6 => ((¬ r7 = (-1)) → CL 0 d mX1_addRung [vR 1 (h6.2.2 7 0 3), vI r3, vI r5, vI r7] h6 (oV fun h8 => CL 0 d mX7_readSemicolon [vR 7 0] h8 (oI fun r10 h9 => (r10 = 0 ∨ r10 = 1) ∧ Qr (some (vI r10)) h9) Qx) Qx) ∧ ((r7 = (-1)) → Qr (some (vI 0)) h6)) Qx) ∧ ((r5 = (-1)) → Qr (some (vI 0)) h4)) Qx) ∧ ((r3 = (-1)) → Qr (some (vI 0)) h2)) Qx) Qx) : AW X (d + 1) rb mX7_readRung 0 [(0, vR 7 0)] [] h Qr Qx := by
  refine aw_aload_n (j := 0) (i := 0) dX7_readRung_0 rfl rfl rfl ?_
  refine aw_getf (k := 2) (z := 9) dX7_readRung_1 rfl (by decide) rfl rfl rfl cb_7 (by decide) gw_341 ?_
  refine aw_callV (M' := mX9_step) (S := []) (as := []) (k := 0) dX7_readRung_4 rfl (by decide) rfl rfl gw_848 gw_770 gw_771 mb_X9_step rfl (Nat.zero_le _) (Nat.le_of_ble_eq_true rfl) rfl (CL.imp k (fun _ h1 k => ?_) (fun _ _ k => k))
  obtain ⟨rfl, k⟩ := oV_of k
  show AW X (d + 1) rb mX7_readRung 7 _ [] h1 Qr Qx
  refine aw_aload_n (j := 0) (i := 0) dX7_readRung_7 rfl rfl rfl ?_
  refine aw_iconst (v := 0) dX7_readRung_8 rfl (by decide) ?_
  refine aw_bipush (v := 9) dX7_readRung_9 rfl (by decide) ?_
  refine aw_callV (M' := mX7_readNumber) (S := []) (as := [vI 0, vI 9]) (k := 0) dX7_readRung_11 rfl (by decide) rfl rfl gw_877 gw_879 gw_11 mb_X7_readNumber rfl (Nat.zero_le _) (Nat.le_of_ble_eq_true rfl) rfl (CL.imp k (fun _ h2 k => ?_) (fun _ _ k => k))
  obtain ⟨r3, rfl, k⟩ := oI_of k
  show AW X (d + 1) rb mX7_readRung 14 _ [vI r3] h2 Qr Qx
  refine aw_istore_n (i := 1) (L2 := [(1, vI r3), (0, vR 7 0)]) dX7_readRung_14 rfl rfl (by decide) rfl ?_
  refine aw_iload_n (j := 0) (i := 1) dX7_readRung_15 rfl rfl rfl ?_
  refine aw_iconst (v := (-1)) dX7_readRung_16 rfl (by decide) ?_
  refine aw_icmp_ne 22 dX7_readRung_17 rfl rfl (fun c => ?_) (fun c => ?_)
  · replace k := k.1 c
    refine aw_aload_n (j := 1) (i := 0) dX7_readRung_22 rfl rfl rfl ?_
    refine aw_iload_n (j := 0) (i := 1) dX7_readRung_23 rfl rfl rfl ?_
    refine aw_bipush (v := 9) dX7_readRung_24 rfl (by decide) ?_
    refine aw_callV (M' := mX7_readNumber) (S := []) (as := [vI r3, vI 9]) (k := 0) dX7_readRung_26 rfl (by decide) rfl rfl gw_877 gw_879 gw_11 mb_X7_readNumber rfl (Nat.zero_le _) (Nat.le_of_ble_eq_true rfl) rfl (CL.imp k (fun _ h4 k => ?_) (fun _ _ k => k))
    obtain ⟨r5, rfl, k⟩ := oI_of k
    show AW X (d + 1) rb mX7_readRung 29 _ [vI r5] h4 Qr Qx
    refine aw_istore_n (i := 2) (L2 := [(2, vI r5), (1, vI r3), (0, vR 7 0)]) dX7_readRung_29 rfl rfl (by decide) rfl ?_
    refine aw_iload_n (j := 0) (i := 2) dX7_readRung_30 rfl rfl rfl ?_
    refine aw_iconst (v := (-1)) dX7_readRung_31 rfl (by decide) ?_
    refine aw_icmp_ne 37 dX7_readRung_32 rfl rfl (fun c => ?_) (fun c => ?_)
    · replace k := k.1 c
      refine aw_aload_n (j := 2) (i := 0) dX7_readRung_37 rfl rfl rfl ?_
      refine aw_iconst (v := 1) dX7_readRung_38 rfl (by decide) ?_
      refine aw_bipush (v := 100) dX7_readRung_39 rfl (by decide) ?_
      refine aw_callV (M' := mX7_readNumber) (S := []) (as := [vI 1, vI 100]) (k := 0) dX7_readRung_41 rfl (by decide) rfl rfl gw_877 gw_879 gw_11 mb_X7_readNumber rfl (Nat.zero_le _) (Nat.le_of_ble_eq_true rfl) rfl (CL.imp k (fun _ h6 k => ?_) (fun _ _ k => k))
      obtain ⟨r7, rfl, k⟩ := oI_of k
      show AW X (d + 1) rb mX7_readRung 44 _ [vI r7] h6 Qr Qx
      refine aw_istore_n (i := 3) (L2 := [(3, vI r7), (2, vI r5), (1, vI r3), (0, vR 7 0)]) dX7_readRung_44 rfl rfl (by decide) rfl ?_
      refine aw_iload_n (j := 0) (i := 3) dX7_readRung_45 rfl rfl rfl ?_
      refine aw_iconst (v := (-1)) dX7_readRung_46 rfl (by decide) ?_
      refine aw_icmp_ne 52 dX7_readRung_47 rfl rfl (fun c => ?_) (fun c => ?_)
      · replace k := k.1 c
        refine aw_aload_n (j := 3) (i := 0) dX7_readRung_52 rfl rfl rfl ?_
        refine aw_getm (k := 3) (z := 1) dX7_readRung_53 rfl (by decide) rfl rfl cb_7 (by decide) gw_343 ?_
        refine aw_iload_n (j := 2) (i := 1) dX7_readRung_56 rfl rfl rfl ?_
        refine aw_iload_n (j := 1) (i := 2) dX7_readRung_57 rfl rfl rfl ?_
        refine aw_iload_n (j := 0) (i := 3) dX7_readRung_58 rfl rfl rfl ?_
        refine aw_callV (M' := mX1_addRung) (S := []) (as := [vI r3, vI r5, vI r7]) (k := 0) dX7_readRung_59 rfl (by decide) rfl rfl gw_950 gw_420 gw_421 mb_X1_addRung rfl (Nat.zero_le _) (Nat.le_of_ble_eq_true rfl) rfl (CL.imp k (fun _ h8 k => ?_) (fun _ _ k => k))
        obtain ⟨rfl, k⟩ := oV_of k
        show AW X (d + 1) rb mX7_readRung 62 _ [] h8 Qr Qx
        refine aw_aload_n (j := 3) (i := 0) dX7_readRung_62 rfl rfl rfl ?_
        refine aw_callV (M' := mX7_readSemicolon) (S := []) (as := []) (k := 0) dX7_readRung_63 rfl (by decide) rfl rfl gw_893 gw_895 gw_12 mb_X7_readSemicolon rfl (Nat.zero_le _) (Nat.le_of_ble_eq_true rfl) rfl (CL.imp k (fun _ h9 k => ?_) (fun _ _ k => k))
        obtain ⟨r10, rfl, k⟩ := oI_of k
        show AW X (d + 1) rb mX7_readRung 66 _ [vI r10] h9 Qr Qx
        exact aw_zret dX7_readRung_66 rfl k.1 k.2
      · replace k := k.2 c
        refine aw_iconst (v := 0) dX7_readRung_50 rfl (by decide) ?_
        exact aw_zret dX7_readRung_51 rfl (by decide) k
    · replace k := k.2 c
      refine aw_iconst (v := 0) dX7_readRung_35 rfl (by decide) ?_
      exact aw_zret dX7_readRung_36 rfl (by decide) k
  · replace k := k.2 c
    refine aw_iconst (v := 0) dX7_readRung_20 rfl (by decide) ?_
    exact aw_zret dX7_readRung_21 rfl (by decide) k
set_option maxHeartbeats 4000000 in
set_option maxRecDepth 100000 in
theorem vc_X7_readOrder_0 {X : WD → State → Prop} {d rb : Nat} {h : Hp} {Qr : Option AV → Hp → Prop} {Qx : String → Hp → Prop}   (k : CL 0 d mX9_step [vR 9 0] h (oV fun h1 => CL 0 d mX9_isName [vR 9 0] h1 (oI fun r3 h2 => ((¬ r3 = 0) → CL 0 d mX9_name [vR 9 0] h2 (oJ fun r5 h4 => CL 0 d mX1_productNamed [vR 1 (h2.2.2 7 0 3), vJ r5] h4 (oI fun r7 h6 => ((¬ r7 = (-1)) → CL 0 d mX9_step [vR 9 0] h6 (oV fun h8 => CL 0 d mX7_readNumber [vR 7 0, vI 1, vI 99] h8 (oI fun r10 h9 => ((¬ r10 = (-1)) → CL 0 d mX7_readNumber [vR 7 0, vI 0, vI 9] h9 (oI fun r12 h11 => ((¬ r12 = (-1)) → CL 0 d mX7_readNumber [vR 7 0, vI 0, vI 999] h11 (oI fun r14 h13 => ((¬ r14 = (-1)) → CL 0 d mX9_isWord [vR 9 0, vR 1004 0] h13 (oI fun r16 h15 => ((r16 = 0) → CL 0 d mX6_enter [vR 6 (h15.2.2 7 0 4), vI r7, vI r10, vI r12, vI r14, vI r16] h15 (oI fun r18 h17 => CL 0 d mX7_readSemicolon [vR 7 0] h17 (oI fun r20 h19 => (r20 = 0 ∨ r20 = 1) ∧ Qr (some (vI r20)) h19) Qx) Qx) ∧ ((¬ r16 = 0) → CL 0 d mX9_step [vR 9 0] h15 (oV fun h21 => CL 0 d mX6_enter [vR 6 (h21.2.2 7 0 4), vI r7, vI r10, vI r12, vI r14, vI r16] h21 (oI fun r23 h22 => CL 0 d mX7_readSemicolon [vR 7 0] h22 (oI fun r25 h24 => (r25 = 0 ∨ r25 = 1) ∧ Qr (some (vI r25)) h24) Qx) Qx) Qx)) Qx) ∧ ((r14 = (-1)) → Qr (some (vI 0)) h13)) Qx) ∧ ((r12 = (-1)) → Qr (some (vI 0)) h11)) Qx) ∧ ((r10 = (-1)) → Qr (some (vI 0)) h9)) Qx) Qx) ∧ ((r7 = (-1)) → CL 0 d mX7_fail [vR 7 0, vI 3] h6 (oI fun r27 h26 => (r27 = 0 ∨ r27 = 1) ∧ Qr (some (vI r27)) h26) Qx)) Qx) Qx) ∧ ((r3 = 0) → CL 0 d mX7_fail [vR 7 0, vI 1] h2 (oI fun r29 h28 => (r29 = 0 ∨ r29 = 1) ∧ Qr (some (vI r29)) h28) Qx)) Qx) Qx) : AW X (d + 1) rb mX7_readOrder 0 [(0, vR 7 0)] [] h Qr Qx := by
  refine aw_aload_n (j := 0) (i := 0) dX7_readOrder_0 rfl rfl rfl ?_
  refine aw_getf (k := 2) (z := 9) dX7_readOrder_1 rfl (by decide) rfl rfl rfl cb_7 (by decide) gw_341 ?_
  refine aw_callV (M' := mX9_step) (S := []) (as := []) (k := 0) dX7_readOrder_4 rfl (by decide) rfl rfl gw_848 gw_770 gw_771 mb_X9_step rfl (Nat.zero_le _) (Nat.le_of_ble_eq_true rfl) rfl (CL.imp k (fun _ h1 k => ?_) (fun _ _ k => k))
  obtain ⟨rfl, k⟩ := oV_of k
  show AW X (d + 1) rb mX7_readOrder 7 _ [] h1 Qr Qx
  refine aw_aload_n (j := 0) (i := 0) dX7_readOrder_7 rfl rfl rfl ?_
  refine aw_getf (k := 2) (z := 9) dX7_readOrder_8 rfl (by decide) rfl rfl rfl cb_7 (by decide) gw_341 ?_
  refine aw_callV (M' := mX9_isName) (S := []) (as := []) (k := 0) dX7_readOrder_11 rfl (by decide) rfl rfl gw_853 gw_854 gw_855 mb_X9_isName rfl (Nat.zero_le _) (Nat.le_of_ble_eq_true rfl) rfl (CL.imp k (fun _ h2 k => ?_) (fun _ _ k => k))
  obtain ⟨r3, rfl, k⟩ := oI_of k
  show AW X (d + 1) rb mX7_readOrder 14 _ [vI r3] h2 Qr Qx
  refine aw_if_ne 23 dX7_readOrder_14 rfl rfl (fun c => ?_) (fun c => ?_)
  · replace k := k.1 c
    refine aw_aload_n (j := 0) (i := 0) dX7_readOrder_23 rfl rfl rfl ?_
    refine aw_getm (k := 3) (z := 1) dX7_readOrder_24 rfl (by decide) rfl rfl cb_7 (by decide) gw_343 ?_
    refine aw_aload_n (j := 0) (i := 0) dX7_readOrder_27 rfl rfl rfl ?_
    refine aw_getf (k := 2) (z := 9) dX7_readOrder_28 rfl (by decide) rfl rfl rfl cb_7 (by decide) gw_341 ?_
    refine aw_callV (M' := mX9_name) (S := [vR 1 (h2.2.2 7 0 3)]) (as := []) (k := 0) dX7_readOrder_31 rfl (by decide) rfl rfl gw_861 gw_862 gw_863 mb_X9_name rfl (Nat.zero_le _) (Nat.le_of_ble_eq_true rfl) rfl (CL.imp k (fun _ h4 k => ?_) (fun _ _ k => k))
    obtain ⟨r5, rfl, k⟩ := oJ_of k
    show AW X (d + 1) rb mX7_readOrder 34 _ [vJ r5, vR 1 (h2.2.2 7 0 3)] h4 Qr Qx
    refine aw_callV (M' := mX1_productNamed) (S := []) (as := [vJ r5]) (k := 0) dX7_readOrder_34 rfl (by decide) rfl rfl gw_956 gw_870 gw_871 mb_X1_productNamed rfl (Nat.zero_le _) (Nat.le_of_ble_eq_true rfl) rfl (CL.imp k (fun _ h6 k => ?_) (fun _ _ k => k))
    obtain ⟨r7, rfl, k⟩ := oI_of k
    show AW X (d + 1) rb mX7_readOrder 37 _ [vI r7] h6 Qr Qx
    refine aw_istore_n (i := 1) (L2 := [(1, vI r7), (0, vR 7 0)]) dX7_readOrder_37 rfl rfl (by decide) rfl ?_
    refine aw_iload_n (j := 0) (i := 1) dX7_readOrder_38 rfl rfl rfl ?_
    refine aw_iconst (v := (-1)) dX7_readOrder_39 rfl (by decide) ?_
    refine aw_icmp_ne 49 dX7_readOrder_40 rfl rfl (fun c => ?_) (fun c => ?_)
    · replace k := k.1 c
      refine aw_aload_n (j := 1) (i := 0) dX7_readOrder_49 rfl rfl rfl ?_
      refine aw_getf (k := 2) (z := 9) dX7_readOrder_50 rfl (by decide) rfl rfl rfl cb_7 (by decide) gw_341 ?_
      refine aw_callV (M' := mX9_step) (S := []) (as := []) (k := 0) dX7_readOrder_53 rfl (by decide) rfl rfl gw_848 gw_770 gw_771 mb_X9_step rfl (Nat.zero_le _) (Nat.le_of_ble_eq_true rfl) rfl (CL.imp k (fun _ h8 k => ?_) (fun _ _ k => k))
      obtain ⟨rfl, k⟩ := oV_of k
      show AW X (d + 1) rb mX7_readOrder 56 _ [] h8 Qr Qx
      refine aw_aload_n (j := 1) (i := 0) dX7_readOrder_56 rfl rfl rfl ?_
      refine aw_iconst (v := 1) dX7_readOrder_57 rfl (by decide) ?_
      refine aw_bipush (v := 99) dX7_readOrder_58 rfl (by decide) ?_
      refine aw_callV (M' := mX7_readNumber) (S := []) (as := [vI 1, vI 99]) (k := 0) dX7_readOrder_60 rfl (by decide) rfl rfl gw_877 gw_879 gw_11 mb_X7_readNumber rfl (Nat.zero_le _) (Nat.le_of_ble_eq_true rfl) rfl (CL.imp k (fun _ h9 k => ?_) (fun _ _ k => k))
      obtain ⟨r10, rfl, k⟩ := oI_of k
      show AW X (d + 1) rb mX7_readOrder 63 _ [vI r10] h9 Qr Qx
      refine aw_istore_n (i := 2) (L2 := [(2, vI r10), (1, vI r7), (0, vR 7 0)]) dX7_readOrder_63 rfl rfl (by decide) rfl ?_
      refine aw_iload_n (j := 0) (i := 2) dX7_readOrder_64 rfl rfl rfl ?_
      refine aw_iconst (v := (-1)) dX7_readOrder_65 rfl (by decide) ?_
      refine aw_icmp_ne 71 dX7_readOrder_66 rfl rfl (fun c => ?_) (fun c => ?_)
      · replace k := k.1 c
        refine aw_aload_n (j := 2) (i := 0) dX7_readOrder_71 rfl rfl rfl ?_
        refine aw_iconst (v := 0) dX7_readOrder_72 rfl (by decide) ?_
        refine aw_bipush (v := 9) dX7_readOrder_73 rfl (by decide) ?_
        refine aw_callV (M' := mX7_readNumber) (S := []) (as := [vI 0, vI 9]) (k := 0) dX7_readOrder_75 rfl (by decide) rfl rfl gw_877 gw_879 gw_11 mb_X7_readNumber rfl (Nat.zero_le _) (Nat.le_of_ble_eq_true rfl) rfl (CL.imp k (fun _ h11 k => ?_) (fun _ _ k => k))
        obtain ⟨r12, rfl, k⟩ := oI_of k
        show AW X (d + 1) rb mX7_readOrder 78 _ [vI r12] h11 Qr Qx
        refine aw_istore_n (i := 3) (L2 := [(3, vI r12), (2, vI r10), (1, vI r7), (0, vR 7 0)]) dX7_readOrder_78 rfl rfl (by decide) rfl ?_
        refine aw_iload_n (j := 0) (i := 3) dX7_readOrder_79 rfl rfl rfl ?_
        refine aw_iconst (v := (-1)) dX7_readOrder_80 rfl (by decide) ?_
        refine aw_icmp_ne 86 dX7_readOrder_81 rfl rfl (fun c => ?_) (fun c => ?_)
        · replace k := k.1 c
          refine aw_aload_n (j := 3) (i := 0) dX7_readOrder_86 rfl rfl rfl ?_
          refine aw_iconst (v := 0) dX7_readOrder_87 rfl (by decide) ?_
          refine aw_sipush (v := 999) dX7_readOrder_88 rfl (by decide) ?_
          refine aw_callV (M' := mX7_readNumber) (S := []) (as := [vI 0, vI 999]) (k := 0) dX7_readOrder_91 rfl (by decide) rfl rfl gw_877 gw_879 gw_11 mb_X7_readNumber rfl (Nat.zero_le _) (Nat.le_of_ble_eq_true rfl) rfl (CL.imp k (fun _ h13 k => ?_) (fun _ _ k => k))
          obtain ⟨r14, rfl, k⟩ := oI_of k
          show AW X (d + 1) rb mX7_readOrder 94 _ [vI r14] h13 Qr Qx
          refine aw_istore (i := 4) (L2 := [(4, vI r14), (3, vI r12), (2, vI r10), (1, vI r7), (0, vR 7 0)]) dX7_readOrder_94 rfl (by decide) rfl ?_
          refine aw_iload (j := 0) (i := 4) dX7_readOrder_96 rfl rfl ?_
          refine aw_iconst (v := (-1)) dX7_readOrder_98 rfl (by decide) ?_
          refine aw_icmp_ne 104 dX7_readOrder_99 rfl rfl (fun c => ?_) (fun c => ?_)
          · replace k := k.1 c
            refine aw_aload_n (j := 4) (i := 0) dX7_readOrder_104 rfl rfl rfl ?_
            refine aw_getf (k := 2) (z := 9) dX7_readOrder_105 rfl (by decide) rfl rfl rfl cb_7 (by decide) gw_341 ?_
            refine aw_ldcS (j := 4) dX7_readOrder_108 rfl rfl ?_
            refine aw_callV (M' := mX9_isWord) (S := []) (as := [vR 1004 0]) (k := 0) dX7_readOrder_110 rfl (by decide) rfl rfl gw_792 gw_793 gw_794 mb_X9_isWord rfl (Nat.zero_le _) (Nat.le_of_ble_eq_true rfl) rfl (CL.imp k (fun _ h15 k => ?_) (fun _ _ k => k))
            obtain ⟨r16, rfl, k⟩ := oI_of k
            show AW X (d + 1) rb mX7_readOrder 113 _ [vI r16] h15 Qr Qx
            refine aw_istore (i := 5) (L2 := [(5, vI r16), (4, vI r14), (3, vI r12), (2, vI r10), (1, vI r7), (0, vR 7 0)]) dX7_readOrder_113 rfl (by decide) rfl ?_
            refine aw_iload (j := 0) (i := 5) dX7_readOrder_115 rfl rfl ?_
            refine aw_if_eq 127 dX7_readOrder_117 rfl rfl (fun c => ?_) (fun c => ?_)
            · replace k := k.1 c
              refine aw_aload_n (j := 5) (i := 0) dX7_readOrder_127 rfl rfl rfl ?_
              refine aw_getm (k := 4) (z := 5) dX7_readOrder_128 rfl (by decide) rfl rfl cb_7 (by decide) gw_344 ?_
              refine aw_getf (k := 1) (z := 6) dX7_readOrder_131 rfl (by decide) rfl rfl rfl cb_5 (by decide) gw_326 ?_
              refine aw_iload_n (j := 4) (i := 1) dX7_readOrder_134 rfl rfl rfl ?_
              refine aw_iload_n (j := 3) (i := 2) dX7_readOrder_135 rfl rfl rfl ?_
              refine aw_iload_n (j := 2) (i := 3) dX7_readOrder_136 rfl rfl rfl ?_
              refine aw_iload (j := 1) (i := 4) dX7_readOrder_137 rfl rfl ?_
              refine aw_iload (j := 0) (i := 5) dX7_readOrder_139 rfl rfl ?_
              refine aw_callV (M' := mX6_enter) (S := []) (as := [vI r7, vI r10, vI r12, vI r14, vI r16]) (k := 0) dX7_readOrder_141 rfl (by decide) rfl rfl gw_958 gw_959 gw_960 mb_X6_enter rfl (Nat.zero_le _) (Nat.le_of_ble_eq_true rfl) rfl (CL.imp k (fun _ h17 k => ?_) (fun _ _ k => k))
              obtain ⟨r18, rfl, k⟩ := oI_of k
              show AW X (d + 1) rb mX7_readOrder 144 _ [vI r18] h17 Qr Qx
              refine aw_pop dX7_readOrder_144 rfl rfl ?_
              refine aw_aload_n (j := 5) (i := 0) dX7_readOrder_145 rfl rfl rfl ?_
              refine aw_callV (M' := mX7_readSemicolon) (S := []) (as := []) (k := 0) dX7_readOrder_146 rfl (by decide) rfl rfl gw_893 gw_895 gw_12 mb_X7_readSemicolon rfl (Nat.zero_le _) (Nat.le_of_ble_eq_true rfl) rfl (CL.imp k (fun _ h19 k => ?_) (fun _ _ k => k))
              obtain ⟨r20, rfl, k⟩ := oI_of k
              show AW X (d + 1) rb mX7_readOrder 149 _ [vI r20] h19 Qr Qx
              exact aw_zret dX7_readOrder_149 rfl k.1 k.2
            · replace k := k.2 c
              refine aw_aload_n (j := 5) (i := 0) dX7_readOrder_120 rfl rfl rfl ?_
              refine aw_getf (k := 2) (z := 9) dX7_readOrder_121 rfl (by decide) rfl rfl rfl cb_7 (by decide) gw_341 ?_
              refine aw_callV (M' := mX9_step) (S := []) (as := []) (k := 0) dX7_readOrder_124 rfl (by decide) rfl rfl gw_848 gw_770 gw_771 mb_X9_step rfl (Nat.zero_le _) (Nat.le_of_ble_eq_true rfl) rfl (CL.imp k (fun _ h21 k => ?_) (fun _ _ k => k))
              obtain ⟨rfl, k⟩ := oV_of k
              show AW X (d + 1) rb mX7_readOrder 127 _ [] h21 Qr Qx
              refine aw_aload_n (j := 5) (i := 0) dX7_readOrder_127 rfl rfl rfl ?_
              refine aw_getm (k := 4) (z := 5) dX7_readOrder_128 rfl (by decide) rfl rfl cb_7 (by decide) gw_344 ?_
              refine aw_getf (k := 1) (z := 6) dX7_readOrder_131 rfl (by decide) rfl rfl rfl cb_5 (by decide) gw_326 ?_
              refine aw_iload_n (j := 4) (i := 1) dX7_readOrder_134 rfl rfl rfl ?_
              refine aw_iload_n (j := 3) (i := 2) dX7_readOrder_135 rfl rfl rfl ?_
              refine aw_iload_n (j := 2) (i := 3) dX7_readOrder_136 rfl rfl rfl ?_
              refine aw_iload (j := 1) (i := 4) dX7_readOrder_137 rfl rfl ?_
              refine aw_iload (j := 0) (i := 5) dX7_readOrder_139 rfl rfl ?_
              refine aw_callV (M' := mX6_enter) (S := []) (as := [vI r7, vI r10, vI r12, vI r14, vI r16]) (k := 0) dX7_readOrder_141 rfl (by decide) rfl rfl gw_958 gw_959 gw_960 mb_X6_enter rfl (Nat.zero_le _) (Nat.le_of_ble_eq_true rfl) rfl (CL.imp k (fun _ h22 k => ?_) (fun _ _ k => k))
              obtain ⟨r23, rfl, k⟩ := oI_of k
              show AW X (d + 1) rb mX7_readOrder 144 _ [vI r23] h22 Qr Qx
              refine aw_pop dX7_readOrder_144 rfl rfl ?_
              refine aw_aload_n (j := 5) (i := 0) dX7_readOrder_145 rfl rfl rfl ?_
              refine aw_callV (M' := mX7_readSemicolon) (S := []) (as := []) (k := 0) dX7_readOrder_146 rfl (by decide) rfl rfl gw_893 gw_895 gw_12 mb_X7_readSemicolon rfl (Nat.zero_le _) (Nat.le_of_ble_eq_true rfl) rfl (CL.imp k (fun _ h24 k => ?_) (fun _ _ k => k))
              obtain ⟨r25, rfl, k⟩ := oI_of k
              show AW X (d + 1) rb mX7_readOrder 149 _ [vI r25] h24 Qr Qx
              exact aw_zret dX7_readOrder_149 rfl k.1 k.2
          · replace k := k.2 c
            refine aw_iconst (v := 0) dX7_readOrder_102 rfl (by decide) ?_
            exact aw_zret dX7_readOrder_103 rfl (by decide) k
        · replace k := k.2 c
          refine aw_iconst (v := 0) dX7_readOrder_84 rfl (by decide) ?_
          exact aw_zret dX7_readOrder_85 rfl (by decide) k
      · replace k := k.2 c
        refine aw_iconst (v := 0) dX7_readOrder_69 rfl (by decide) ?_
        exact aw_zret dX7_readOrder_70 rfl (by decide) k
    · replace k := k.2 c
      refine aw_aload_n (j := 1) (i := 0) dX7_readOrder_43 rfl rfl rfl ?_
      refine aw_iconst (v := 3) dX7_readOrder_44 rfl (by decide) ?_
      refine aw_callV (M' := mX7_fail) (S := []) (as := [vI 3]) (k := 0) dX7_readOrder_45 rfl (by decide) rfl rfl gw_857 gw_859 gw_10 mb_X7_fail rfl (Nat.zero_le _) (Nat.le_of_ble_eq_true rfl) rfl (CL.imp k (fun _ h26 k => ?_) (fun _ _ k => k))
      obtain ⟨r27, rfl, k⟩ := oI_of k
      show AW X (d + 1) rb mX7_readOrder 48 _ [vI r27] h26 Qr Qx
      exact aw_zret dX7_readOrder_48 rfl k.1 k.2
  · replace k := k.2 c
    refine aw_aload_n (j := 0) (i := 0) dX7_readOrder_17 rfl rfl rfl ?_
    refine aw_iconst (v := 1) dX7_readOrder_18 rfl (by decide) ?_
    refine aw_callV (M' := mX7_fail) (S := []) (as := [vI 1]) (k := 0) dX7_readOrder_19 rfl (by decide) rfl rfl gw_857 gw_859 gw_10 mb_X7_fail rfl (Nat.zero_le _) (Nat.le_of_ble_eq_true rfl) rfl (CL.imp k (fun _ h28 k => ?_) (fun _ _ k => k))
    obtain ⟨r29, rfl, k⟩ := oI_of k
    show AW X (d + 1) rb mX7_readOrder 22 _ [vI r29] h28 Qr Qx
    exact aw_zret dX7_readOrder_22 rfl k.1 k.2
set_option maxHeartbeats 4000000 in
set_option maxRecDepth 100000 in
theorem vc_X7_isNewName_0 {X : WD → State → Prop} {d rb : Nat} {h : Hp} {Qr : Option AV → Hp → Prop} {Qx : String → Hp → Prop}   (k : CL 0 d mX9_isName [vR 9 0] h (oI fun r2 h1 => ((¬ r2 = 0) → CL 0 d mX9_name [vR 9 0] h1 (oJ fun r4 h3 => CL 0 d mX1_itemNamed [vR 1 (h1.2.2 7 0 3), vJ r4] h3 (oI fun r6 h5 => ((r6 = (-1)) → Qr (some (vI 1)) h5) ∧ ((¬ r6 = (-1)) → CL 0 d mX7_fail [vR 7 0, vI 3] h5 (oI fun r8 h7 => ((if r8 = 0 then (0 : Int32) else 1) = 0 ∨ (if r8 = 0 then (0 : Int32) else 1) = 1) ∧ Qr (some (vI (if r8 = 0 then (0 : Int32) else 1))) h7) Qx)) Qx) Qx) ∧ ((r2 = 0) → CL 0 d mX7_fail [vR 7 0, vI 1] h1 (oI fun r10 h9 => (r10 = 0 ∨ r10 = 1) ∧ Qr (some (vI r10)) h9) Qx)) Qx) : AW X (d + 1) rb mX7_isNewName 0 [(0, vR 7 0)] [] h Qr Qx := by
  refine aw_aload_n (j := 0) (i := 0) dX7_isNewName_0 rfl rfl rfl ?_
  refine aw_getf (k := 2) (z := 9) dX7_isNewName_1 rfl (by decide) rfl rfl rfl cb_7 (by decide) gw_341 ?_
  refine aw_callV (M' := mX9_isName) (S := []) (as := []) (k := 0) dX7_isNewName_4 rfl (by decide) rfl rfl gw_853 gw_854 gw_855 mb_X9_isName rfl (Nat.zero_le _) (Nat.le_of_ble_eq_true rfl) rfl (CL.imp k (fun _ h1 k => ?_) (fun _ _ k => k))
  obtain ⟨r2, rfl, k⟩ := oI_of k
  show AW X (d + 1) rb mX7_isNewName 7 _ [vI r2] h1 Qr Qx
  refine aw_if_ne 16 dX7_isNewName_7 rfl rfl (fun c => ?_) (fun c => ?_)
  · replace k := k.1 c
    refine aw_aload_n (j := 0) (i := 0) dX7_isNewName_16 rfl rfl rfl ?_
    refine aw_getm (k := 3) (z := 1) dX7_isNewName_17 rfl (by decide) rfl rfl cb_7 (by decide) gw_343 ?_
    refine aw_aload_n (j := 0) (i := 0) dX7_isNewName_20 rfl rfl rfl ?_
    refine aw_getf (k := 2) (z := 9) dX7_isNewName_21 rfl (by decide) rfl rfl rfl cb_7 (by decide) gw_341 ?_
    refine aw_callV (M' := mX9_name) (S := [vR 1 (h1.2.2 7 0 3)]) (as := []) (k := 0) dX7_isNewName_24 rfl (by decide) rfl rfl gw_861 gw_862 gw_863 mb_X9_name rfl (Nat.zero_le _) (Nat.le_of_ble_eq_true rfl) rfl (CL.imp k (fun _ h3 k => ?_) (fun _ _ k => k))
    obtain ⟨r4, rfl, k⟩ := oJ_of k
    show AW X (d + 1) rb mX7_isNewName 27 _ [vJ r4, vR 1 (h1.2.2 7 0 3)] h3 Qr Qx
    refine aw_callV (M' := mX1_itemNamed) (S := []) (as := [vJ r4]) (k := 0) dX7_isNewName_27 rfl (by decide) rfl rfl gw_865 gw_866 gw_867 mb_X1_itemNamed rfl (Nat.zero_le _) (Nat.le_of_ble_eq_true rfl) rfl (CL.imp k (fun _ h5 k => ?_) (fun _ _ k => k))
    obtain ⟨r6, rfl, k⟩ := oI_of k
    show AW X (d + 1) rb mX7_isNewName 30 _ [vI r6] h5 Qr Qx
    refine aw_iconst (v := (-1)) dX7_isNewName_30 rfl (by decide) ?_
    refine aw_icmp_eq 42 dX7_isNewName_31 rfl rfl (fun c => ?_) (fun c => ?_)
    · replace k := k.1 c
      refine aw_iconst (v := 1) dX7_isNewName_42 rfl (by decide) ?_
      refine aw_goto 47 dX7_isNewName_43 rfl ?_
      exact aw_zret dX7_isNewName_47 rfl (by decide) k
    · replace k := k.2 c
      refine aw_aload_n (j := 0) (i := 0) dX7_isNewName_34 rfl rfl rfl ?_
      refine aw_iconst (v := 3) dX7_isNewName_35 rfl (by decide) ?_
      refine aw_callV (M' := mX7_fail) (S := []) (as := [vI 3]) (k := 0) dX7_isNewName_36 rfl (by decide) rfl rfl gw_857 gw_859 gw_10 mb_X7_fail rfl (Nat.zero_le _) (Nat.le_of_ble_eq_true rfl) rfl (CL.imp k (fun _ h7 k => ?_) (fun _ _ k => k))
      obtain ⟨r8, rfl, k⟩ := oI_of k
      show AW X (d + 1) rb mX7_isNewName 39 _ [vI r8] h7 Qr Qx
      have kk : AW X (d + 1) rb mX7_isNewName 47 [(0, vR 7 0)] [vI (if r8 = 0 then (0 : Int32) else 1)] h7 Qr Qx := by
        exact aw_zret dX7_isNewName_47 rfl k.1 k.2
      refine aw_if_eq 46 dX7_isNewName_39 rfl rfl (fun (c0 : r8 = 0) => ?_) (fun (c0 : ¬ r8 = 0) => ?_)
      · refine aw_iconst (v := 0) dX7_isNewName_46 rfl (by decide) ?_
        simp only [if_pos c0] at kk
        exact kk
      · refine aw_iconst (v := 1) dX7_isNewName_42 rfl (by decide) ?_
        refine aw_goto 47 dX7_isNewName_43 rfl ?_
        simp only [if_neg c0] at kk
        exact kk
  · replace k := k.2 c
    refine aw_aload_n (j := 0) (i := 0) dX7_isNewName_10 rfl rfl rfl ?_
    refine aw_iconst (v := 1) dX7_isNewName_11 rfl (by decide) ?_
    refine aw_callV (M' := mX7_fail) (S := []) (as := [vI 1]) (k := 0) dX7_isNewName_12 rfl (by decide) rfl rfl gw_857 gw_859 gw_10 mb_X7_fail rfl (Nat.zero_le _) (Nat.le_of_ble_eq_true rfl) rfl (CL.imp k (fun _ h9 k => ?_) (fun _ _ k => k))
    obtain ⟨r10, rfl, k⟩ := oI_of k
    show AW X (d + 1) rb mX7_isNewName 15 _ [vI r10] h9 Qr Qx
    exact aw_zret dX7_isNewName_15 rfl k.1 k.2
set_option maxHeartbeats 4000000 in
set_option maxRecDepth 100000 in
theorem vc_X7_readNumber_0 {X : WD → State → Prop} {d rb : Nat} {h : Hp} {Qr : Option AV → Hp → Prop} {Qx : String → Hp → Prop} {a1 : Int32} {a2 : Int32}  (k : (((h.1 9 0 0) = 2) → CL 0 d mX9_value [vR 9 0] h (oI fun r2 h1 => ((r2 < a1) → CL 0 d mX7_fail [vR 7 0, vI 2] h1 (oI fun r4 h3 => Qr (some (vI (-1))) h3) Qx) ∧ ((¬ r2 < a1) → ((r2 ≤ a2) → CL 0 d mX9_step [vR 9 0] h1 (oV fun h5 => Qr (some (vI r2)) h5) Qx) ∧ ((¬ r2 ≤ a2) → CL 0 d mX7_fail [vR 7 0, vI 2] h1 (oI fun r7 h6 => Qr (some (vI (-1))) h6) Qx))) Qx) ∧ ((¬ (h.1 9 0 0) = 2) → CL 0 d mX7_fail [vR 7 0, vI 1] h (oI fun r9 h8 => Qr (some (vI (-1))) h8) Qx)) : AW X (d + 1) rb mX7_readNumber 0 [(0, vR 7 0), (1, vI a1), (2, vI a2)] [] h Qr Qx := by
  refine aw_aload_n (j := 0) (i := 0) dX7_readNumber_0 rfl rfl rfl ?_
  refine aw_getf (k := 2) (z := 9) dX7_readNumber_1 rfl (by decide) rfl rfl rfl cb_7 (by decide) gw_341 ?_
  refine aw_geti (k := 0) dX7_readNumber_4 rfl (by decide) rfl rfl cb_9 (by decide) gw_148 ?_
  refine aw_iconst (v := 2) dX7_readNumber_7 rfl (by decide) ?_
  refine aw_icmp_eq 19 dX7_readNumber_8 rfl rfl (fun c => ?_) (fun c => ?_)
  · replace k := k.1 c
    refine aw_aload_n (j := 0) (i := 0) dX7_readNumber_19 rfl rfl rfl ?_
    refine aw_getf (k := 2) (z := 9) dX7_readNumber_20 rfl (by decide) rfl rfl rfl cb_7 (by decide) gw_341 ?_
    refine aw_callV (M' := mX9_value) (S := []) (as := []) (k := 0) dX7_readNumber_23 rfl (by decide) rfl rfl gw_881 gw_882 gw_883 mb_X9_value rfl (Nat.zero_le _) (Nat.le_of_ble_eq_true rfl) rfl (CL.imp k (fun _ h1 k => ?_) (fun _ _ k => k))
    obtain ⟨r2, rfl, k⟩ := oI_of k
    show AW X (d + 1) rb mX7_readNumber 26 _ [vI r2] h1 Qr Qx
    refine aw_istore_n (i := 3) (L2 := [(3, vI r2), (0, vR 7 0), (1, vI a1), (2, vI a2)]) dX7_readNumber_26 rfl rfl (by decide) rfl ?_
    refine aw_iload_n (j := 0) (i := 3) dX7_readNumber_27 rfl rfl rfl ?_
    refine aw_iload_n (j := 2) (i := 1) dX7_readNumber_28 rfl rfl rfl ?_
    refine aw_icmp_lt 37 dX7_readNumber_29 rfl rfl (fun c => ?_) (fun c => ?_)
    · replace k := k.1 c
      refine aw_aload_n (j := 1) (i := 0) dX7_readNumber_37 rfl rfl rfl ?_
      refine aw_iconst (v := 2) dX7_readNumber_38 rfl (by decide) ?_
      refine aw_callV (M' := mX7_fail) (S := []) (as := [vI 2]) (k := 0) dX7_readNumber_39 rfl (by decide) rfl rfl gw_857 gw_859 gw_10 mb_X7_fail rfl (Nat.zero_le _) (Nat.le_of_ble_eq_true rfl) rfl (CL.imp k (fun _ h3 k => ?_) (fun _ _ k => k))
      obtain ⟨r4, rfl, k⟩ := oI_of k
      show AW X (d + 1) rb mX7_readNumber 42 _ [vI r4] h3 Qr Qx
      refine aw_pop dX7_readNumber_42 rfl rfl ?_
      refine aw_iconst (v := (-1)) dX7_readNumber_43 rfl (by decide) ?_
      exact aw_iret dX7_readNumber_44 rfl k
    · replace k := k.2 c
      refine aw_iload_n (j := 0) (i := 3) dX7_readNumber_32 rfl rfl rfl ?_
      refine aw_iload_n (j := 3) (i := 2) dX7_readNumber_33 rfl rfl rfl ?_
      refine aw_icmp_le 45 dX7_readNumber_34 rfl rfl (fun c => ?_) (fun c => ?_)
      · replace k := k.1 c
        refine aw_aload_n (j := 1) (i := 0) dX7_readNumber_45 rfl rfl rfl ?_
        refine aw_getf (k := 2) (z := 9) dX7_readNumber_46 rfl (by decide) rfl rfl rfl cb_7 (by decide) gw_341 ?_
        refine aw_callV (M' := mX9_step) (S := []) (as := []) (k := 0) dX7_readNumber_49 rfl (by decide) rfl rfl gw_848 gw_770 gw_771 mb_X9_step rfl (Nat.zero_le _) (Nat.le_of_ble_eq_true rfl) rfl (CL.imp k (fun _ h5 k => ?_) (fun _ _ k => k))
        obtain ⟨rfl, k⟩ := oV_of k
        show AW X (d + 1) rb mX7_readNumber 52 _ [] h5 Qr Qx
        refine aw_iload_n (j := 0) (i := 3) dX7_readNumber_52 rfl rfl rfl ?_
        exact aw_iret dX7_readNumber_53 rfl k
      · replace k := k.2 c
        refine aw_aload_n (j := 1) (i := 0) dX7_readNumber_37 rfl rfl rfl ?_
        refine aw_iconst (v := 2) dX7_readNumber_38 rfl (by decide) ?_
        refine aw_callV (M' := mX7_fail) (S := []) (as := [vI 2]) (k := 0) dX7_readNumber_39 rfl (by decide) rfl rfl gw_857 gw_859 gw_10 mb_X7_fail rfl (Nat.zero_le _) (Nat.le_of_ble_eq_true rfl) rfl (CL.imp k (fun _ h6 k => ?_) (fun _ _ k => k))
        obtain ⟨r7, rfl, k⟩ := oI_of k
        show AW X (d + 1) rb mX7_readNumber 42 _ [vI r7] h6 Qr Qx
        refine aw_pop dX7_readNumber_42 rfl rfl ?_
        refine aw_iconst (v := (-1)) dX7_readNumber_43 rfl (by decide) ?_
        exact aw_iret dX7_readNumber_44 rfl k
  · replace k := k.2 c
    refine aw_aload_n (j := 0) (i := 0) dX7_readNumber_11 rfl rfl rfl ?_
    refine aw_iconst (v := 1) dX7_readNumber_12 rfl (by decide) ?_
    refine aw_callV (M' := mX7_fail) (S := []) (as := [vI 1]) (k := 0) dX7_readNumber_13 rfl (by decide) rfl rfl gw_857 gw_859 gw_10 mb_X7_fail rfl (Nat.zero_le _) (Nat.le_of_ble_eq_true rfl) rfl (CL.imp k (fun _ h8 k => ?_) (fun _ _ k => k))
    obtain ⟨r9, rfl, k⟩ := oI_of k
    show AW X (d + 1) rb mX7_readNumber 16 _ [vI r9] h8 Qr Qx
    refine aw_pop dX7_readNumber_16 rfl rfl ?_
    refine aw_iconst (v := (-1)) dX7_readNumber_17 rfl (by decide) ?_
    exact aw_iret dX7_readNumber_18 rfl k
set_option maxHeartbeats 4000000 in
set_option maxRecDepth 100000 in
theorem vc_X8_clear_0 {X : WD → State → Prop} {d rb : Nat} {h : Hp} {Qr : Option AV → Hp → Prop} {Qx : String → Hp → Prop} {i0 : Nat}  (k : CL 0 d mJ7_fill_53178 [vR 44 i0, vI 0] h (oV fun h1 => Qr none h1) Qx) : AW X (d + 1) rb mX8_clear 0 [(0, vR 8 i0)] [] h Qr Qx := by
  refine aw_aload_n (j := 0) (i := 0) dX8_clear_0 rfl rfl rfl ?_
  refine aw_getf (k := 0) (z := 44) dX8_clear_1 rfl (by decide) rfl rfl rfl cb_8 (by decide) gw_307 ?_
  refine aw_iconst (v := 0) dX8_clear_4 rfl (by decide) ?_
  refine aw_callS (M' := mJ7_fill_53178) (S := []) (as := [vR 44 i0, vI 0]) (k := 0) dX8_clear_5 rfl gw_764 gw_595 mb_J7_fill_53178 rfl (Nat.zero_le _) (Nat.le_of_ble_eq_true rfl) rfl (CL.imp k (fun _ h1 k => ?_) (fun _ _ k => k))
  obtain ⟨rfl, k⟩ := oV_of k
  show AW X (d + 1) rb mX8_clear 8 _ [] h1 Qr Qx
  exact aw_vret dX8_clear_8 rfl k
set_option maxHeartbeats 4000000 in
set_option maxRecDepth 100000 in
theorem vc_X8_copyFrom_0 {X : WD → State → Prop} {d rb : Nat} {h : Hp} {Qr : Option AV → Hp → Prop} {Qx : String → Hp → Prop} {i0 : Nat} {i1 : Nat}  (k : Qr none (hp_a (hp_a (hp_a (hp_a h 44 i0 (va_cpy (h.1 44 i1) (h.1 44 i0) 0 0 5)) 45 i0 (va_cpy (h.1 45 i1) (h.1 45 i0) 0 0 16)) 46 i0 (va_cpy (h.1 46 i1) (h.1 46 i0) 0 0 16)) 47 i0 (va_cpy (h.1 47 i1) (h.1 47 i0) 0 0 16))) : AW X (d + 1) rb mX8_copyFrom 0 [(0, vR 8 i0), (1, vR 8 i1)] [] h Qr Qx := by
  refine aw_aload_n (j := 1) (i := 1) dX8_copyFrom_0 rfl rfl rfl ?_
  refine aw_getf (k := 0) (z := 44) dX8_copyFrom_1 rfl (by decide) rfl rfl rfl cb_8 (by decide) gw_307 ?_
  refine aw_iconst (v := 0) dX8_copyFrom_4 rfl (by decide) ?_
  refine aw_aload_n (j := 0) (i := 0) dX8_copyFrom_5 rfl rfl rfl ?_
  refine aw_getf (k := 0) (z := 44) dX8_copyFrom_6 rfl (by decide) rfl rfl rfl cb_8 (by decide) gw_307 ?_
  refine aw_iconst (v := 0) dX8_copyFrom_9 rfl (by decide) ?_
  refine aw_iconst (v := 5) dX8_copyFrom_10 rfl (by decide) ?_
  refine aw_copy (kc := 1) dX8_copyFrom_11 rfl gw_647 gw_637 gw_636 gw_111 (by decide) (by decide) (by decide) rfl rfl (by decide) (by decide) (by decide) (Nat.le_of_ble_eq_true rfl) ?_
  refine aw_aload_n (j := 1) (i := 1) dX8_copyFrom_14 rfl rfl rfl ?_
  refine aw_getf (k := 1) (z := 45) dX8_copyFrom_15 rfl (by decide) rfl rfl rfl cb_8 (by decide) gw_308 ?_
  refine aw_iconst (v := 0) dX8_copyFrom_18 rfl (by decide) ?_
  refine aw_aload_n (j := 0) (i := 0) dX8_copyFrom_19 rfl rfl rfl ?_
  refine aw_getf (k := 1) (z := 45) dX8_copyFrom_20 rfl (by decide) rfl rfl rfl cb_8 (by decide) gw_308 ?_
  refine aw_iconst (v := 0) dX8_copyFrom_23 rfl (by decide) ?_
  refine aw_bipush (v := 16) dX8_copyFrom_24 rfl (by decide) ?_
  refine aw_copy (kc := 1) dX8_copyFrom_26 rfl gw_647 gw_637 gw_636 gw_111 (by decide) (by decide) (by decide) rfl rfl (by decide) (by decide) (by decide) (Nat.le_of_ble_eq_true rfl) ?_
  refine aw_aload_n (j := 1) (i := 1) dX8_copyFrom_29 rfl rfl rfl ?_
  refine aw_getf (k := 2) (z := 46) dX8_copyFrom_30 rfl (by decide) rfl rfl rfl cb_8 (by decide) gw_309 ?_
  refine aw_iconst (v := 0) dX8_copyFrom_33 rfl (by decide) ?_
  refine aw_aload_n (j := 0) (i := 0) dX8_copyFrom_34 rfl rfl rfl ?_
  refine aw_getf (k := 2) (z := 46) dX8_copyFrom_35 rfl (by decide) rfl rfl rfl cb_8 (by decide) gw_309 ?_
  refine aw_iconst (v := 0) dX8_copyFrom_38 rfl (by decide) ?_
  refine aw_bipush (v := 16) dX8_copyFrom_39 rfl (by decide) ?_
  refine aw_copy (kc := 1) dX8_copyFrom_41 rfl gw_647 gw_637 gw_636 gw_111 (by decide) (by decide) (by decide) rfl rfl (by decide) (by decide) (by decide) (Nat.le_of_ble_eq_true rfl) ?_
  refine aw_aload_n (j := 1) (i := 1) dX8_copyFrom_44 rfl rfl rfl ?_
  refine aw_getf (k := 3) (z := 47) dX8_copyFrom_45 rfl (by decide) rfl rfl rfl cb_8 (by decide) gw_310 ?_
  refine aw_iconst (v := 0) dX8_copyFrom_48 rfl (by decide) ?_
  refine aw_aload_n (j := 0) (i := 0) dX8_copyFrom_49 rfl rfl rfl ?_
  refine aw_getf (k := 3) (z := 47) dX8_copyFrom_50 rfl (by decide) rfl rfl rfl cb_8 (by decide) gw_310 ?_
  refine aw_iconst (v := 0) dX8_copyFrom_53 rfl (by decide) ?_
  refine aw_bipush (v := 16) dX8_copyFrom_54 rfl (by decide) ?_
  refine aw_copy (kc := 1) dX8_copyFrom_56 rfl gw_647 gw_637 gw_636 gw_111 (by decide) (by decide) (by decide) rfl rfl (by decide) (by decide) (by decide) (Nat.le_of_ble_eq_true rfl) ?_
  exact aw_vret dX8_copyFrom_59 rfl k
set_option maxHeartbeats 4000000 in
set_option maxRecDepth 100000 in
theorem vc_X8_addShipment_0 {X : WD → State → Prop} {d rb : Nat} {h : Hp} {Qr : Option AV → Hp → Prop} {Qx : String → Hp → Prop} {i0 : Nat} {a1 : Int32} {a2 : Int32} {a3 : Int32} {a4 : Int32}  (k : CL 0 d mJ9_floorMod_7cf53 [vI (h.1 44 i0 0), vI 16] h (oI fun r2 h1 => (vp_in r2 16) ∧ (vp_in r2 16) ∧ (vp_in r2 16) ∧ ((a3 ≤ a4) → Qr none (hp_i (hp_i (hp_i (hp_i (hp_i h1 45 i0 r2.toNatClampNeg a1) 46 i0 r2.toNatClampNeg a2) 47 i0 r2.toNatClampNeg a3) 44 i0 0 ((h1.1 44 i0 0) + 1)) 44 i0 1 (((hp_i (hp_i (hp_i (hp_i h1 45 i0 r2.toNatClampNeg a1) 46 i0 r2.toNatClampNeg a2) 47 i0 r2.toNatClampNeg a3) 44 i0 0 ((h1.1 44 i0 0) + 1)).1 44 i0 1) + a2))) ∧ ((¬ a3 ≤ a4) → Qr none (hp_i (hp_i (hp_i (hp_i (hp_i (hp_i (hp_i h1 45 i0 r2.toNatClampNeg a1) 46 i0 r2.toNatClampNeg a2) 47 i0 r2.toNatClampNeg a3) 44 i0 0 ((h1.1 44 i0 0) + 1)) 44 i0 1 (((hp_i (hp_i (hp_i (hp_i h1 45 i0 r2.toNatClampNeg a1) 46 i0 r2.toNatClampNeg a2) 47 i0 r2.toNatClampNeg a3) 44 i0 0 ((h1.1 44 i0 0) + 1)).1 44 i0 1) + a2)) 44 i0 2 (((hp_i (hp_i (hp_i (hp_i (hp_i h1 45 i0 r2.toNatClampNeg a1) 46 i0 r2.toNatClampNeg a2) 47 i0 r2.toNatClampNeg a3) 44 i0 0 ((h1.1 44 i0 0) + 1)) 44 i0 1 (((hp_i (hp_i (hp_i (hp_i h1 45 i0 r2.toNatClampNeg a1) 46 i0 r2.toNatClampNeg a2) 47 i0 r2.toNatClampNeg a3) 44 i0 0 ((h1.1 44 i0 0) + 1)).1 44 i0 1) + a2)).1 44 i0 2) + a2)) 44 i0 3 (((hp_i (hp_i (hp_i (hp_i (hp_i (hp_i h1 45 i0 r2.toNatClampNeg a1) 46 i0 r2.toNatClampNeg a2) 47 i0 r2.toNatClampNeg a3) 44 i0 0 ((h1.1 44 i0 0) + 1)) 44 i0 1 (((hp_i (hp_i (hp_i (hp_i h1 45 i0 r2.toNatClampNeg a1) 46 i0 r2.toNatClampNeg a2) 47 i0 r2.toNatClampNeg a3) 44 i0 0 ((h1.1 44 i0 0) + 1)).1 44 i0 1) + a2)) 44 i0 2 (((hp_i (hp_i (hp_i (hp_i (hp_i h1 45 i0 r2.toNatClampNeg a1) 46 i0 r2.toNatClampNeg a2) 47 i0 r2.toNatClampNeg a3) 44 i0 0 ((h1.1 44 i0 0) + 1)) 44 i0 1 (((hp_i (hp_i (hp_i (hp_i h1 45 i0 r2.toNatClampNeg a1) 46 i0 r2.toNatClampNeg a2) 47 i0 r2.toNatClampNeg a3) 44 i0 0 ((h1.1 44 i0 0) + 1)).1 44 i0 1) + a2)).1 44 i0 2) + a2)).1 44 i0 3) + (a2 * (a3 - a4)))))) Qx) : AW X (d + 1) rb mX8_addShipment 0 [(0, vR 8 i0), (1, vI a1), (2, vI a2), (3, vI a3), (4, vI a4)] [] h Qr Qx := by
  refine aw_aload_n (j := 0) (i := 0) dX8_addShipment_0 rfl rfl rfl ?_
  refine aw_getf (k := 0) (z := 44) dX8_addShipment_1 rfl (by decide) rfl rfl rfl cb_8 (by decide) gw_307 ?_
  refine aw_iconst (v := 0) dX8_addShipment_4 rfl (by decide) ?_
  refine aw_iald dX8_addShipment_5 rfl (by decide) rfl (by unfold vp_in; decide) ?_
  refine aw_bipush (v := 16) dX8_addShipment_6 rfl (by decide) ?_
  refine aw_callS (M' := mJ9_floorMod_7cf53) (S := []) (as := [vI (h.1 44 i0 0), vI 16]) (k := 0) dX8_addShipment_8 rfl gw_725 gw_625 mb_J9_floorMod_7cf53 rfl (Nat.zero_le _) (Nat.le_of_ble_eq_true rfl) rfl (CL.imp k (fun _ h1 k => ?_) (fun _ _ k => k))
  obtain ⟨r2, rfl, k⟩ := oI_of k
  show AW X (d + 1) rb mX8_addShipment 11 _ [vI r2] h1 Qr Qx
  refine aw_istore (i := 5) (L2 := [(5, vI r2), (0, vR 8 i0), (1, vI a1), (2, vI a2), (3, vI a3), (4, vI a4)]) dX8_addShipment_11 rfl (by decide) rfl ?_
  refine aw_aload_n (j := 1) (i := 0) dX8_addShipment_13 rfl rfl rfl ?_
  refine aw_getf (k := 1) (z := 45) dX8_addShipment_14 rfl (by decide) rfl rfl rfl cb_8 (by decide) gw_308 ?_
  refine aw_iload (j := 0) (i := 5) dX8_addShipment_17 rfl rfl ?_
  refine aw_iload_n (j := 2) (i := 1) dX8_addShipment_19 rfl rfl rfl ?_
  refine aw_iast dX8_addShipment_20 rfl (by decide) rfl k.1 ?_
  replace k := k.2
  refine aw_aload_n (j := 1) (i := 0) dX8_addShipment_21 rfl rfl rfl ?_
  refine aw_getf (k := 2) (z := 46) dX8_addShipment_22 rfl (by decide) rfl rfl rfl cb_8 (by decide) gw_309 ?_
  refine aw_iload (j := 0) (i := 5) dX8_addShipment_25 rfl rfl ?_
  refine aw_iload_n (j := 3) (i := 2) dX8_addShipment_27 rfl rfl rfl ?_
  refine aw_iast dX8_addShipment_28 rfl (by decide) rfl k.1 ?_
  replace k := k.2
  refine aw_aload_n (j := 1) (i := 0) dX8_addShipment_29 rfl rfl rfl ?_
  refine aw_getf (k := 3) (z := 47) dX8_addShipment_30 rfl (by decide) rfl rfl rfl cb_8 (by decide) gw_310 ?_
  refine aw_iload (j := 0) (i := 5) dX8_addShipment_33 rfl rfl ?_
  refine aw_iload_n (j := 4) (i := 3) dX8_addShipment_35 rfl rfl rfl ?_
  refine aw_iast dX8_addShipment_36 rfl (by decide) rfl k.1 ?_
  replace k := k.2
  refine aw_aload_n (j := 1) (i := 0) dX8_addShipment_37 rfl rfl rfl ?_
  refine aw_getf (k := 0) (z := 44) dX8_addShipment_38 rfl (by decide) rfl rfl rfl cb_8 (by decide) gw_307 ?_
  refine aw_iconst (v := 0) dX8_addShipment_41 rfl (by decide) ?_
  refine aw_dup2 dX8_addShipment_42 rfl rfl rfl ?_
  refine aw_iald dX8_addShipment_43 rfl (by decide) rfl (by unfold vp_in; decide) ?_
  refine aw_iconst (v := 1) dX8_addShipment_44 rfl (by decide) ?_
  refine aw_iadd dX8_addShipment_45 rfl ?_
  refine aw_iast dX8_addShipment_46 rfl (by decide) rfl (by unfold vp_in; decide) ?_
  refine aw_aload_n (j := 1) (i := 0) dX8_addShipment_47 rfl rfl rfl ?_
  refine aw_getf (k := 0) (z := 44) dX8_addShipment_48 rfl (by decide) rfl rfl rfl cb_8 (by decide) gw_307 ?_
  refine aw_iconst (v := 1) dX8_addShipment_51 rfl (by decide) ?_
  refine aw_dup2 dX8_addShipment_52 rfl rfl rfl ?_
  refine aw_iald dX8_addShipment_53 rfl (by decide) rfl (by unfold vp_in; decide) ?_
  refine aw_iload_n (j := 3) (i := 2) dX8_addShipment_54 rfl rfl rfl ?_
  refine aw_iadd dX8_addShipment_55 rfl ?_
  refine aw_iast dX8_addShipment_56 rfl (by decide) rfl (by unfold vp_in; decide) ?_
  refine aw_iload_n (j := 4) (i := 3) dX8_addShipment_57 rfl rfl rfl ?_
  refine aw_iload (j := 5) (i := 4) dX8_addShipment_58 rfl rfl ?_
  refine aw_icmp_le 88 dX8_addShipment_60 rfl rfl (fun c => ?_) (fun c => ?_)
  · replace k := k.1 c
    exact aw_vret dX8_addShipment_88 rfl k
  · replace k := k.2 c
    refine aw_aload_n (j := 1) (i := 0) dX8_addShipment_63 rfl rfl rfl ?_
    refine aw_getf (k := 0) (z := 44) dX8_addShipment_64 rfl (by decide) rfl rfl rfl cb_8 (by decide) gw_307 ?_
    refine aw_iconst (v := 2) dX8_addShipment_67 rfl (by decide) ?_
    refine aw_dup2 dX8_addShipment_68 rfl rfl rfl ?_
    refine aw_iald dX8_addShipment_69 rfl (by decide) rfl (by unfold vp_in; decide) ?_
    refine aw_iload_n (j := 3) (i := 2) dX8_addShipment_70 rfl rfl rfl ?_
    refine aw_iadd dX8_addShipment_71 rfl ?_
    refine aw_iast dX8_addShipment_72 rfl (by decide) rfl (by unfold vp_in; decide) ?_
    refine aw_aload_n (j := 1) (i := 0) dX8_addShipment_73 rfl rfl rfl ?_
    refine aw_getf (k := 0) (z := 44) dX8_addShipment_74 rfl (by decide) rfl rfl rfl cb_8 (by decide) gw_307 ?_
    refine aw_iconst (v := 3) dX8_addShipment_77 rfl (by decide) ?_
    refine aw_dup2 dX8_addShipment_78 rfl rfl rfl ?_
    refine aw_iald dX8_addShipment_79 rfl (by decide) rfl (by unfold vp_in; decide) ?_
    refine aw_iload_n (j := 3) (i := 2) dX8_addShipment_80 rfl rfl rfl ?_
    refine aw_iload_n (j := 4) (i := 3) dX8_addShipment_81 rfl rfl rfl ?_
    refine aw_iload (j := 5) (i := 4) dX8_addShipment_82 rfl rfl ?_
    refine aw_isub dX8_addShipment_84 rfl ?_
    refine aw_imul dX8_addShipment_85 rfl ?_
    refine aw_iadd dX8_addShipment_86 rfl ?_
    refine aw_iast dX8_addShipment_87 rfl (by decide) rfl (by unfold vp_in; decide) ?_
    exact aw_vret dX8_addShipment_88 rfl k
set_option maxHeartbeats 4000000 in
set_option maxRecDepth 100000 in
theorem vc_X8_addBought_0 {X : WD → State → Prop} {d rb : Nat} {h : Hp} {Qr : Option AV → Hp → Prop} {Qx : String → Hp → Prop} {i0 : Nat} {a1 : Int32}  (k : Qr none (hp_i h 44 i0 4 ((h.1 44 i0 4) + a1))) : AW X (d + 1) rb mX8_addBought 0 [(0, vR 8 i0), (1, vI a1)] [] h Qr Qx := by
  refine aw_aload_n (j := 0) (i := 0) dX8_addBought_0 rfl rfl rfl ?_
  refine aw_getf (k := 0) (z := 44) dX8_addBought_1 rfl (by decide) rfl rfl rfl cb_8 (by decide) gw_307 ?_
  refine aw_iconst (v := 4) dX8_addBought_4 rfl (by decide) ?_
  refine aw_dup2 dX8_addBought_5 rfl rfl rfl ?_
  refine aw_iald dX8_addBought_6 rfl (by decide) rfl (by unfold vp_in; decide) ?_
  refine aw_iload_n (j := 1) (i := 1) dX8_addBought_7 rfl rfl rfl ?_
  refine aw_iadd dX8_addBought_8 rfl ?_
  refine aw_iast dX8_addBought_9 rfl (by decide) rfl (by unfold vp_in; decide) ?_
  exact aw_vret dX8_addBought_10 rfl k
set_option maxHeartbeats 4000000 in
set_option maxRecDepth 100000 in
theorem vc_X8_totalOf_0 {X : WD → State → Prop} {d rb : Nat} {h : Hp} {Qr : Option AV → Hp → Prop} {Qx : String → Hp → Prop} {i0 : Nat} {a1 : Int32}  (k : CL 0 d mX11_isInside [vI a1, vI 5] h (oI fun r2 h1 => ((r2 = 0) → Qr (some (vI (-1))) h1) ∧ ((¬ r2 = 0) → (vp_in a1 5) ∧ Qr (some (vI (h1.1 44 i0 a1.toNatClampNeg))) h1)) Qx) : AW X (d + 1) rb mX8_totalOf 0 [(0, vR 8 i0), (1, vI a1)] [] h Qr Qx := by
  refine aw_iload_n (j := 1) (i := 1) dX8_totalOf_0 rfl rfl rfl ?_
  refine aw_iconst (v := 5) dX8_totalOf_1 rfl (by decide) ?_
  refine aw_callSN (M' := mX11_isInside) (S := []) (as := [vI a1, vI 5]) (k := 0) dX8_totalOf_2 rfl nw_715 gw_461 mb_X11_isInside rfl (Nat.zero_le _) (Nat.le_of_ble_eq_true rfl) rfl (CL.imp k (fun _ h1 k => ?_) (fun _ _ k => k))
  obtain ⟨r2, rfl, k⟩ := oI_of k
  show AW X (d + 1) rb mX8_totalOf 5 _ [vI r2] h1 Qr Qx
  refine aw_if_eq 17 dX8_totalOf_5 rfl rfl (fun c => ?_) (fun c => ?_)
  · replace k := k.1 c
    refine aw_iconst (v := (-1)) dX8_totalOf_17 rfl (by decide) ?_
    exact aw_iret dX8_totalOf_18 rfl k
  · replace k := k.2 c
    refine aw_aload_n (j := 0) (i := 0) dX8_totalOf_8 rfl rfl rfl ?_
    refine aw_getf (k := 0) (z := 44) dX8_totalOf_9 rfl (by decide) rfl rfl rfl cb_8 (by decide) gw_307 ?_
    refine aw_iload_n (j := 1) (i := 1) dX8_totalOf_12 rfl rfl rfl ?_
    refine aw_iald dX8_totalOf_13 rfl (by decide) rfl k.1 ?_
    replace k := k.2
    refine aw_goto 18 dX8_totalOf_14 rfl ?_
    exact aw_iret dX8_totalOf_18 rfl k
set_option maxHeartbeats 4000000 in
set_option maxRecDepth 100000 in
theorem vc_X8_entry_0 {X : WD → State → Prop} {d rb : Nat} {h : Hp} {Qr : Option AV → Hp → Prop} {Qx : String → Hp → Prop} {i0 : Nat} {a1 : Int32} {a2 : Int32}  (k : CL 0 d mX11_isInside [vI a1, vI (if 16 < (h.1 44 i0 0) then 16 else (h.1 44 i0 0))] h (oI fun r2 h1 => ((¬ r2 = 0) → CL 0 d mJ9_floorMod_7cf53 [vI (((h1.1 44 i0 0) - 1) - a1), vI 16] h1 (oI fun r4 h3 => ((a2 < 0 ∨ 2 < a2) → Qr (some (vI (-1))) h3) ∧ ((a2 = 0) → (vp_in r4 16) ∧ Qr (some (vI (h3.1 45 i0 r4.toNatClampNeg))) h3) ∧ ((a2 = 1) → (vp_in r4 16) ∧ Qr (some (vI (h3.1 46 i0 r4.toNatClampNeg))) h3) ∧ ((a2 = 2) → (vp_in r4 16) ∧ Qr (some (vI (h3.1 47 i0 r4.toNatClampNeg))) h3)) Qx) ∧ ((r2 = 0) → Qr (some (vI (-1))) h1)) Qx) : AW X (d + 1) rb mX8_entry 0 [(0, vR 8 i0), (1, vI a1), (2, vI a2)] [] h Qr Qx := by
  refine aw_iload_n (j := 1) (i := 1) dX8_entry_0 rfl rfl rfl ?_
  refine aw_aload_n (j := 0) (i := 0) dX8_entry_1 rfl rfl rfl ?_
  refine aw_getf (k := 0) (z := 44) dX8_entry_2 rfl (by decide) rfl rfl rfl cb_8 (by decide) gw_307 ?_
  refine aw_iconst (v := 0) dX8_entry_5 rfl (by decide) ?_
  refine aw_iald dX8_entry_6 rfl (by decide) rfl (by unfold vp_in; decide) ?_
  refine aw_bipush (v := 16) dX8_entry_7 rfl (by decide) ?_
  refine aw_min dX8_entry_9 rfl gw_724 gw_649 gw_104 gw_650 (Nat.le_of_ble_eq_true rfl) ?_
  refine aw_callSN (M' := mX11_isInside) (S := []) (as := [vI a1, vI (if 16 < (h.1 44 i0 0) then 16 else (h.1 44 i0 0))]) (k := 0) dX8_entry_12 rfl nw_715 gw_461 mb_X11_isInside rfl (Nat.zero_le _) (Nat.le_of_ble_eq_true rfl) rfl (CL.imp k (fun _ h1 k => ?_) (fun _ _ k => k))
  obtain ⟨r2, rfl, k⟩ := oI_of k
  show AW X (d + 1) rb mX8_entry 15 _ [vI r2] h1 Qr Qx
  refine aw_if_ne 20 dX8_entry_15 rfl rfl (fun c => ?_) (fun c => ?_)
  · replace k := k.1 c
    refine aw_aload_n (j := 0) (i := 0) dX8_entry_20 rfl rfl rfl ?_
    refine aw_getf (k := 0) (z := 44) dX8_entry_21 rfl (by decide) rfl rfl rfl cb_8 (by decide) gw_307 ?_
    refine aw_iconst (v := 0) dX8_entry_24 rfl (by decide) ?_
    refine aw_iald dX8_entry_25 rfl (by decide) rfl (by unfold vp_in; decide) ?_
    refine aw_iconst (v := 1) dX8_entry_26 rfl (by decide) ?_
    refine aw_isub dX8_entry_27 rfl ?_
    refine aw_iload_n (j := 1) (i := 1) dX8_entry_28 rfl rfl rfl ?_
    refine aw_isub dX8_entry_29 rfl ?_
    refine aw_bipush (v := 16) dX8_entry_30 rfl (by decide) ?_
    refine aw_callS (M' := mJ9_floorMod_7cf53) (S := []) (as := [vI (((h1.1 44 i0 0) - 1) - a1), vI 16]) (k := 0) dX8_entry_32 rfl gw_725 gw_625 mb_J9_floorMod_7cf53 rfl (Nat.zero_le _) (Nat.le_of_ble_eq_true rfl) rfl (CL.imp k (fun _ h3 k => ?_) (fun _ _ k => k))
    obtain ⟨r4, rfl, k⟩ := oI_of k
    show AW X (d + 1) rb mX8_entry 35 _ [vI r4] h3 Qr Qx
    refine aw_istore_n (i := 3) (L2 := [(3, vI r4), (0, vR 8 i0), (1, vI a1), (2, vI a2)]) dX8_entry_35 rfl rfl (by decide) rfl ?_
    refine aw_iload_n (j := 3) (i := 2) dX8_entry_36 rfl rfl rfl ?_
    rcases oa_sw 2 (by decide) a2 with hz | ⟨jj, hj, hz⟩
    · replace k := k.1 hz
      refine aw_tabOut 85 dX8_entry_37 (oa_swo rfl hz) rfl ?_
      refine aw_iconst (v := (-1)) dX8_entry_85 rfl (by decide) ?_
      exact aw_iret dX8_entry_86 rfl k
    · replace k := k.2
      rcases (show jj = 0 ∨ jj = 1 ∨ jj = 2 by omega) with rfl | rfl | rfl
      · replace hz : a2 = 0 := hz
        replace k := k.1 hz
        refine aw_tabIn (z := 27) 64 dX8_entry_37 (by rw [hz]; decide) (by rw [hz]; decide) (by rw [hz]; rfl) rfl ?_
        refine aw_aload_n (j := 1) (i := 0) dX8_entry_64 rfl rfl rfl ?_
        refine aw_getf (k := 1) (z := 45) dX8_entry_65 rfl (by decide) rfl rfl rfl cb_8 (by decide) gw_308 ?_
        refine aw_iload_n (j := 0) (i := 3) dX8_entry_68 rfl rfl rfl ?_
        refine aw_iald dX8_entry_69 rfl (by decide) rfl k.1 ?_
        replace k := k.2
        exact aw_iret dX8_entry_70 rfl k
      · replace hz : a2 = 1 := hz
        replace k := k.2.1 hz
        refine aw_tabIn (z := 34) 71 dX8_entry_37 (by rw [hz]; decide) (by rw [hz]; decide) (by rw [hz]; rfl) rfl ?_
        refine aw_aload_n (j := 1) (i := 0) dX8_entry_71 rfl rfl rfl ?_
        refine aw_getf (k := 2) (z := 46) dX8_entry_72 rfl (by decide) rfl rfl rfl cb_8 (by decide) gw_309 ?_
        refine aw_iload_n (j := 0) (i := 3) dX8_entry_75 rfl rfl rfl ?_
        refine aw_iald dX8_entry_76 rfl (by decide) rfl k.1 ?_
        replace k := k.2
        exact aw_iret dX8_entry_77 rfl k
      · replace hz : a2 = 2 := hz
        replace k := k.2.2 hz
        refine aw_tabIn (z := 41) 78 dX8_entry_37 (by rw [hz]; decide) (by rw [hz]; decide) (by rw [hz]; rfl) rfl ?_
        refine aw_aload_n (j := 1) (i := 0) dX8_entry_78 rfl rfl rfl ?_
        refine aw_getf (k := 3) (z := 47) dX8_entry_79 rfl (by decide) rfl rfl rfl cb_8 (by decide) gw_310 ?_
        refine aw_iload_n (j := 0) (i := 3) dX8_entry_82 rfl rfl rfl ?_
        refine aw_iald dX8_entry_83 rfl (by decide) rfl k.1 ?_
        replace k := k.2
        exact aw_iret dX8_entry_84 rfl k
  · replace k := k.2 c
    refine aw_iconst (v := (-1)) dX8_entry_18 rfl (by decide) ?_
    exact aw_iret dX8_entry_19 rfl k
set_option maxHeartbeats 4000000 in
set_option maxRecDepth 100000 in
theorem vc_X9_restart_0 {X : WD → State → Prop} {d rb : Nat} {h : Hp} {Qr : Option AV → Hp → Prop} {Qx : String → Hp → Prop}   (k : CL 0 d mX9_step [vR 9 0] (hp_i h 9 0 3 0) (oV fun h1 => Qr none h1) Qx) : AW X (d + 1) rb mX9_restart 0 [(0, vR 9 0)] [] h Qr Qx := by
  refine aw_aload_n (j := 0) (i := 0) dX9_restart_0 rfl rfl rfl ?_
  refine aw_iconst (v := 0) dX9_restart_1 rfl (by decide) ?_
  refine aw_puti (k := 3) dX9_restart_2 rfl (by decide) rfl rfl cb_9 (by decide) rfl rfl gw_154 ?_
  refine aw_aload_n (j := 0) (i := 0) dX9_restart_5 rfl rfl rfl ?_
  refine aw_callV (M' := mX9_step) (S := []) (as := []) (k := 0) dX9_restart_6 rfl (by decide) rfl rfl gw_769 gw_770 gw_771 mb_X9_step rfl (Nat.zero_le _) (Nat.le_of_ble_eq_true rfl) rfl (CL.imp k (fun _ h1 k => ?_) (fun _ _ k => k))
  obtain ⟨rfl, k⟩ := oV_of k
  show AW X (d + 1) rb mX9_restart 9 _ [] h1 Qr Qx
  exact aw_vret dX9_restart_9 rfl k
set_option maxHeartbeats 4000000 in
set_option maxRecDepth 100000 in
theorem vc_X9_step_0 {X : WD → State → Prop} {d rb : Nat} {h : Hp} {Qr : Option AV → Hp → Prop} {Qx : String → Hp → Prop}   (k : AW X (d + 1) rb mX9_step 8 [(0, vR 9 0)] [] (hp_i h 9 0 1 (h.1 9 0 3)) Qr Qx) : AW X (d + 1) rb mX9_step 0 [(0, vR 9 0)] [] h Qr Qx := by
  refine aw_aload_n (j := 0) (i := 0) dX9_step_0 rfl rfl rfl ?_
  refine aw_aload_n (j := 0) (i := 0) dX9_step_1 rfl rfl rfl ?_
  refine aw_geti (k := 3) dX9_step_2 rfl (by decide) rfl rfl cb_9 (by decide) gw_154 ?_
  refine aw_puti (k := 1) dX9_step_5 rfl (by decide) rfl rfl cb_9 (by decide) rfl rfl gw_150 ?_
  exact aw_sub [0] rfl k
set_option maxHeartbeats 4000000 in
set_option maxRecDepth 100000 in
theorem vc_X9_step_8 {X : WD → State → Prop} {d rb : Nat} {h : Hp} {Qr : Option AV → Hp → Prop} {Qx : String → Hp → Prop}   (k : (((h.1 4 0 0) ≤ (h.1 9 0 1)) → CL 0 d mX4_signAt [vR 4 0, vI (h.1 9 0 1)] h (oI fun r2 h1 => CL 0 d mX9_kindOf [vI r2] h1 (oI fun r4 h3 => AW X (d + 1) rb mX9_step 100 [(0, vR 9 0), (1, vI (if ((hp_i (hp_i h3 9 0 0 r4) 9 0 3 ((hp_i h3 9 0 0 r4).1 9 0 1)).1 9 0 0) = 1 then (1 : Int32) else (if ¬ ((hp_i (hp_i h3 9 0 0 r4) 9 0 3 ((hp_i h3 9 0 0 r4).1 9 0 1)).1 9 0 0) = 2 then (0 : Int32) else 1)))] [] (hp_i (hp_i h3 9 0 0 r4) 9 0 3 ((hp_i h3 9 0 0 r4).1 9 0 1)) Qr Qx) Qx) Qx) ∧ ((¬ (h.1 4 0 0) ≤ (h.1 9 0 1)) → CL 0 d mX4_signAt [vR 4 0, vI (h.1 9 0 1)] h (oI fun r6 h5 => CL 0 d mX9_isSpace [vI r6] h5 (oI fun r8 h7 => ((r8 = 0) → CL 0 d mX4_signAt [vR 4 0, vI (h7.1 9 0 1)] h7 (oI fun r10 h9 => CL 0 d mX9_kindOf [vI r10] h9 (oI fun r12 h11 => AW X (d + 1) rb mX9_step 100 [(0, vR 9 0), (1, vI (if ((hp_i (hp_i h11 9 0 0 r12) 9 0 3 ((hp_i h11 9 0 0 r12).1 9 0 1)).1 9 0 0) = 1 then (1 : Int32) else (if ¬ ((hp_i (hp_i h11 9 0 0 r12) 9 0 3 ((hp_i h11 9 0 0 r12).1 9 0 1)).1 9 0 0) = 2 then (0 : Int32) else 1)))] [] (hp_i (hp_i h11 9 0 0 r12) 9 0 3 ((hp_i h11 9 0 0 r12).1 9 0 1)) Qr Qx) Qx) Qx) ∧ ((¬ r8 = 0) → AW X (d + 1) rb mX9_step 8 [(0, vR 9 0)] [] (hp_i h7 9 0 1 ((h7.1 9 0 1) + 1)) Qr Qx)) Qx) Qx)) : AW X (d + 1) rb mX9_step 8 [(0, vR 9 0)] [] h Qr Qx := by
  refine aw_aload_n (j := 0) (i := 0) dX9_step_8 rfl rfl rfl ?_
  refine aw_geti (k := 1) dX9_step_9 rfl (by decide) rfl rfl cb_9 (by decide) gw_150 ?_
  refine aw_aload_n (j := 0) (i := 0) dX9_step_12 rfl rfl rfl ?_
  refine aw_getf (k := 2) (z := 4) dX9_step_13 rfl (by decide) rfl rfl rfl cb_9 (by decide) gw_152 ?_
  refine aw_geti (k := 0) dX9_step_16 rfl (by decide) rfl rfl cb_4 (by decide) gw_140 ?_
  refine aw_icmp_ge 52 dX9_step_19 rfl rfl (fun c => ?_) (fun c => ?_)
  · replace k := k.1 c
    refine aw_aload_n (j := 0) (i := 0) dX9_step_52 rfl rfl rfl ?_
    refine aw_aload_n (j := 0) (i := 0) dX9_step_53 rfl rfl rfl ?_
    refine aw_getf (k := 2) (z := 4) dX9_step_54 rfl (by decide) rfl rfl rfl cb_9 (by decide) gw_152 ?_
    refine aw_aload_n (j := 0) (i := 0) dX9_step_57 rfl rfl rfl ?_
    refine aw_geti (k := 1) dX9_step_58 rfl (by decide) rfl rfl cb_9 (by decide) gw_150 ?_
    refine aw_callV (M' := mX4_signAt) (S := [vR 9 0]) (as := [vI (h.1 9 0 1)]) (k := 0) dX9_step_61 rfl (by decide) rfl rfl gw_773 gw_774 gw_775 mb_X4_signAt rfl (Nat.zero_le _) (Nat.le_of_ble_eq_true rfl) rfl (CL.imp k (fun _ h1 k => ?_) (fun _ _ k => k))
    obtain ⟨r2, rfl, k⟩ := oI_of k
    show AW X (d + 1) rb mX9_step 64 _ [vI r2, vR 9 0] h1 Qr Qx
    refine aw_callS (M' := mX9_kindOf) (S := [vR 9 0]) (as := [vI r2]) (k := 0) dX9_step_64 rfl gw_780 gw_781 mb_X9_kindOf rfl (Nat.zero_le _) (Nat.le_of_ble_eq_true rfl) rfl (CL.imp k (fun _ h3 k => ?_) (fun _ _ k => k))
    obtain ⟨r4, rfl, k⟩ := oI_of k
    show AW X (d + 1) rb mX9_step 67 _ [vI r4, vR 9 0] h3 Qr Qx
    refine aw_puti (k := 0) dX9_step_67 rfl (by decide) rfl rfl cb_9 (by decide) rfl rfl gw_149 ?_
    refine aw_aload_n (j := 0) (i := 0) dX9_step_70 rfl rfl rfl ?_
    refine aw_aload_n (j := 0) (i := 0) dX9_step_71 rfl rfl rfl ?_
    refine aw_geti (k := 1) dX9_step_72 rfl (by decide) rfl rfl cb_9 (by decide) gw_150 ?_
    refine aw_puti (k := 3) dX9_step_75 rfl (by decide) rfl rfl cb_9 (by decide) rfl rfl gw_154 ?_
    refine aw_aload_n (j := 0) (i := 0) dX9_step_78 rfl rfl rfl ?_
    refine aw_geti (k := 0) dX9_step_79 rfl (by decide) rfl rfl cb_9 (by decide) gw_149 ?_
    refine aw_iconst (v := 1) dX9_step_82 rfl (by decide) ?_
    have kk : AW X (d + 1) rb mX9_step 99 [(0, vR 9 0)] [vI (if ((hp_i (hp_i h3 9 0 0 r4) 9 0 3 ((hp_i h3 9 0 0 r4).1 9 0 1)).1 9 0 0) = 1 then (1 : Int32) else (if ¬ ((hp_i (hp_i h3 9 0 0 r4) 9 0 3 ((hp_i h3 9 0 0 r4).1 9 0 1)).1 9 0 0) = 2 then (0 : Int32) else 1))] (hp_i (hp_i h3 9 0 0 r4) 9 0 3 ((hp_i h3 9 0 0 r4).1 9 0 1)) Qr Qx := by
      refine aw_istore_n (i := 1) (L2 := [(1, vI (if ((hp_i (hp_i h3 9 0 0 r4) 9 0 3 ((hp_i h3 9 0 0 r4).1 9 0 1)).1 9 0 0) = 1 then (1 : Int32) else (if ¬ ((hp_i (hp_i h3 9 0 0 r4) 9 0 3 ((hp_i h3 9 0 0 r4).1 9 0 1)).1 9 0 0) = 2 then (0 : Int32) else 1))), (0, vR 9 0)]) dX9_step_99 rfl rfl (by decide) rfl ?_
      exact aw_sub [1, 0] rfl k
    refine aw_icmp_eq 94 dX9_step_83 rfl rfl (fun (c0 : ((hp_i (hp_i h3 9 0 0 r4) 9 0 3 ((hp_i h3 9 0 0 r4).1 9 0 1)).1 9 0 0) = 1) => ?_) (fun (c0 : ¬ ((hp_i (hp_i h3 9 0 0 r4) 9 0 3 ((hp_i h3 9 0 0 r4).1 9 0 1)).1 9 0 0) = 1) => ?_)
    · refine aw_iconst (v := 1) dX9_step_94 rfl (by decide) ?_
      refine aw_goto 99 dX9_step_95 rfl ?_
      simp only [if_pos c0] at kk
      exact kk
    · refine aw_aload_n (j := 0) (i := 0) dX9_step_86 rfl rfl rfl ?_
      refine aw_geti (k := 0) dX9_step_87 rfl (by decide) rfl rfl cb_9 (by decide) gw_149 ?_
      refine aw_iconst (v := 2) dX9_step_90 rfl (by decide) ?_
      refine aw_icmp_ne 98 dX9_step_91 rfl rfl (fun (c1 : ¬ ((hp_i (hp_i h3 9 0 0 r4) 9 0 3 ((hp_i h3 9 0 0 r4).1 9 0 1)).1 9 0 0) = 2) => ?_) (fun (c1 : ((hp_i (hp_i h3 9 0 0 r4) 9 0 3 ((hp_i h3 9 0 0 r4).1 9 0 1)).1 9 0 0) = 2) => ?_)
      · refine aw_iconst (v := 0) dX9_step_98 rfl (by decide) ?_
        simp only [if_neg c0, if_pos c1] at kk
        exact kk
      · refine aw_iconst (v := 1) dX9_step_94 rfl (by decide) ?_
        refine aw_goto 99 dX9_step_95 rfl ?_
        simp only [if_neg c0, if_neg (oa_nn c1)] at kk
        exact kk
  · replace k := k.2 c
    refine aw_aload_n (j := 0) (i := 0) dX9_step_22 rfl rfl rfl ?_
    refine aw_getf (k := 2) (z := 4) dX9_step_23 rfl (by decide) rfl rfl rfl cb_9 (by decide) gw_152 ?_
    refine aw_aload_n (j := 0) (i := 0) dX9_step_26 rfl rfl rfl ?_
    refine aw_geti (k := 1) dX9_step_27 rfl (by decide) rfl rfl cb_9 (by decide) gw_150 ?_
    refine aw_callV (M' := mX4_signAt) (S := []) (as := [vI (h.1 9 0 1)]) (k := 0) dX9_step_30 rfl (by decide) rfl rfl gw_773 gw_774 gw_775 mb_X4_signAt rfl (Nat.zero_le _) (Nat.le_of_ble_eq_true rfl) rfl (CL.imp k (fun _ h5 k => ?_) (fun _ _ k => k))
    obtain ⟨r6, rfl, k⟩ := oI_of k
    show AW X (d + 1) rb mX9_step 33 _ [vI r6] h5 Qr Qx
    refine aw_callS (M' := mX9_isSpace) (S := []) (as := [vI r6]) (k := 0) dX9_step_33 rfl gw_777 gw_778 mb_X9_isSpace rfl (Nat.zero_le _) (Nat.le_of_ble_eq_true rfl) rfl (CL.imp k (fun _ h7 k => ?_) (fun _ _ k => k))
    obtain ⟨r8, rfl, k⟩ := oI_of k
    show AW X (d + 1) rb mX9_step 36 _ [vI r8] h7 Qr Qx
    refine aw_if_eq 52 dX9_step_36 rfl rfl (fun c => ?_) (fun c => ?_)
    · replace k := k.1 c
      refine aw_aload_n (j := 0) (i := 0) dX9_step_52 rfl rfl rfl ?_
      refine aw_aload_n (j := 0) (i := 0) dX9_step_53 rfl rfl rfl ?_
      refine aw_getf (k := 2) (z := 4) dX9_step_54 rfl (by decide) rfl rfl rfl cb_9 (by decide) gw_152 ?_
      refine aw_aload_n (j := 0) (i := 0) dX9_step_57 rfl rfl rfl ?_
      refine aw_geti (k := 1) dX9_step_58 rfl (by decide) rfl rfl cb_9 (by decide) gw_150 ?_
      refine aw_callV (M' := mX4_signAt) (S := [vR 9 0]) (as := [vI (h7.1 9 0 1)]) (k := 0) dX9_step_61 rfl (by decide) rfl rfl gw_773 gw_774 gw_775 mb_X4_signAt rfl (Nat.zero_le _) (Nat.le_of_ble_eq_true rfl) rfl (CL.imp k (fun _ h9 k => ?_) (fun _ _ k => k))
      obtain ⟨r10, rfl, k⟩ := oI_of k
      show AW X (d + 1) rb mX9_step 64 _ [vI r10, vR 9 0] h9 Qr Qx
      refine aw_callS (M' := mX9_kindOf) (S := [vR 9 0]) (as := [vI r10]) (k := 0) dX9_step_64 rfl gw_780 gw_781 mb_X9_kindOf rfl (Nat.zero_le _) (Nat.le_of_ble_eq_true rfl) rfl (CL.imp k (fun _ h11 k => ?_) (fun _ _ k => k))
      obtain ⟨r12, rfl, k⟩ := oI_of k
      show AW X (d + 1) rb mX9_step 67 _ [vI r12, vR 9 0] h11 Qr Qx
      refine aw_puti (k := 0) dX9_step_67 rfl (by decide) rfl rfl cb_9 (by decide) rfl rfl gw_149 ?_
      refine aw_aload_n (j := 0) (i := 0) dX9_step_70 rfl rfl rfl ?_
      refine aw_aload_n (j := 0) (i := 0) dX9_step_71 rfl rfl rfl ?_
      refine aw_geti (k := 1) dX9_step_72 rfl (by decide) rfl rfl cb_9 (by decide) gw_150 ?_
      refine aw_puti (k := 3) dX9_step_75 rfl (by decide) rfl rfl cb_9 (by decide) rfl rfl gw_154 ?_
      refine aw_aload_n (j := 0) (i := 0) dX9_step_78 rfl rfl rfl ?_
      refine aw_geti (k := 0) dX9_step_79 rfl (by decide) rfl rfl cb_9 (by decide) gw_149 ?_
      refine aw_iconst (v := 1) dX9_step_82 rfl (by decide) ?_
      have kk : AW X (d + 1) rb mX9_step 99 [(0, vR 9 0)] [vI (if ((hp_i (hp_i h11 9 0 0 r12) 9 0 3 ((hp_i h11 9 0 0 r12).1 9 0 1)).1 9 0 0) = 1 then (1 : Int32) else (if ¬ ((hp_i (hp_i h11 9 0 0 r12) 9 0 3 ((hp_i h11 9 0 0 r12).1 9 0 1)).1 9 0 0) = 2 then (0 : Int32) else 1))] (hp_i (hp_i h11 9 0 0 r12) 9 0 3 ((hp_i h11 9 0 0 r12).1 9 0 1)) Qr Qx := by
        refine aw_istore_n (i := 1) (L2 := [(1, vI (if ((hp_i (hp_i h11 9 0 0 r12) 9 0 3 ((hp_i h11 9 0 0 r12).1 9 0 1)).1 9 0 0) = 1 then (1 : Int32) else (if ¬ ((hp_i (hp_i h11 9 0 0 r12) 9 0 3 ((hp_i h11 9 0 0 r12).1 9 0 1)).1 9 0 0) = 2 then (0 : Int32) else 1))), (0, vR 9 0)]) dX9_step_99 rfl rfl (by decide) rfl ?_
        exact aw_sub [1, 0] rfl k
      refine aw_icmp_eq 94 dX9_step_83 rfl rfl (fun (c0 : ((hp_i (hp_i h11 9 0 0 r12) 9 0 3 ((hp_i h11 9 0 0 r12).1 9 0 1)).1 9 0 0) = 1) => ?_) (fun (c0 : ¬ ((hp_i (hp_i h11 9 0 0 r12) 9 0 3 ((hp_i h11 9 0 0 r12).1 9 0 1)).1 9 0 0) = 1) => ?_)
      · refine aw_iconst (v := 1) dX9_step_94 rfl (by decide) ?_
        refine aw_goto 99 dX9_step_95 rfl ?_
        simp only [if_pos c0] at kk
        exact kk
      · refine aw_aload_n (j := 0) (i := 0) dX9_step_86 rfl rfl rfl ?_
        refine aw_geti (k := 0) dX9_step_87 rfl (by decide) rfl rfl cb_9 (by decide) gw_149 ?_
        refine aw_iconst (v := 2) dX9_step_90 rfl (by decide) ?_
        refine aw_icmp_ne 98 dX9_step_91 rfl rfl (fun (c1 : ¬ ((hp_i (hp_i h11 9 0 0 r12) 9 0 3 ((hp_i h11 9 0 0 r12).1 9 0 1)).1 9 0 0) = 2) => ?_) (fun (c1 : ((hp_i (hp_i h11 9 0 0 r12) 9 0 3 ((hp_i h11 9 0 0 r12).1 9 0 1)).1 9 0 0) = 2) => ?_)
        · refine aw_iconst (v := 0) dX9_step_98 rfl (by decide) ?_
          simp only [if_neg c0, if_pos c1] at kk
          exact kk
        · refine aw_iconst (v := 1) dX9_step_94 rfl (by decide) ?_
          refine aw_goto 99 dX9_step_95 rfl ?_
          simp only [if_neg c0, if_neg (oa_nn c1)] at kk
          exact kk
    · replace k := k.2 c
      refine aw_aload_n (j := 0) (i := 0) dX9_step_39 rfl rfl rfl ?_
      refine aw_dup dX9_step_40 rfl rfl ?_
      refine aw_geti (k := 1) dX9_step_41 rfl (by decide) rfl rfl cb_9 (by decide) gw_150 ?_
      refine aw_iconst (v := 1) dX9_step_44 rfl (by decide) ?_
      refine aw_iadd dX9_step_45 rfl ?_
      refine aw_puti (k := 1) dX9_step_46 rfl (by decide) rfl rfl cb_9 (by decide) rfl rfl gw_150 ?_
      refine aw_goto 8 dX9_step_49 rfl ?_
      exact aw_sub [0] rfl k
set_option maxHeartbeats 4000000 in
set_option maxRecDepth 100000 in
theorem vc_X9_step_100 {X : WD → State → Prop} {d rb : Nat} {h : Hp} {Qr : Option AV → Hp → Prop} {Qx : String → Hp → Prop} {x1 : Int32}  (k : ((x1 = 0) → ((¬ (h.1 9 0 0) = 3) → Qr none h) ∧ (((h.1 9 0 0) = 3) → Qr none (hp_i h 9 0 3 ((h.1 9 0 1) + 1)))) ∧ ((¬ x1 = 0) → (((h.1 4 0 0) ≤ (h.1 9 0 3)) → ((¬ (h.1 9 0 0) = 3) → Qr none h) ∧ (((h.1 9 0 0) = 3) → Qr none (hp_i h 9 0 3 ((h.1 9 0 1) + 1)))) ∧ ((¬ (h.1 4 0 0) ≤ (h.1 9 0 3)) → CL 0 d mX4_signAt [vR 4 0, vI (h.1 9 0 3)] h (oI fun r2 h1 => CL 0 d mX9_kindOf [vI r2] h1 (oI fun r4 h3 => ((¬ r4 = (h3.1 9 0 0)) → ((¬ (h3.1 9 0 0) = 3) → Qr none h3) ∧ (((h3.1 9 0 0) = 3) → Qr none (hp_i h3 9 0 3 ((h3.1 9 0 1) + 1)))) ∧ ((r4 = (h3.1 9 0 0)) → AW X (d + 1) rb mX9_step 100 [(0, vR 9 0), (1, vI x1)] [] (hp_i h3 9 0 3 ((h3.1 9 0 3) + 1)) Qr Qx)) Qx) Qx))) : AW X (d + 1) rb mX9_step 100 [(0, vR 9 0), (1, vI x1)] [] h Qr Qx := by
  refine aw_iload_n (j := 1) (i := 1) dX9_step_100 rfl rfl rfl ?_
  refine aw_if_eq 152 dX9_step_101 rfl rfl (fun c => ?_) (fun c => ?_)
  · replace k := k.1 c
    refine aw_aload_n (j := 0) (i := 0) dX9_step_152 rfl rfl rfl ?_
    refine aw_geti (k := 0) dX9_step_153 rfl (by decide) rfl rfl cb_9 (by decide) gw_149 ?_
    refine aw_iconst (v := 3) dX9_step_156 rfl (by decide) ?_
    refine aw_icmp_ne 170 dX9_step_157 rfl rfl (fun c => ?_) (fun c => ?_)
    · replace k := k.1 c
      exact aw_vret dX9_step_170 rfl k
    · replace k := k.2 c
      refine aw_aload_n (j := 0) (i := 0) dX9_step_160 rfl rfl rfl ?_
      refine aw_aload_n (j := 0) (i := 0) dX9_step_161 rfl rfl rfl ?_
      refine aw_geti (k := 1) dX9_step_162 rfl (by decide) rfl rfl cb_9 (by decide) gw_150 ?_
      refine aw_iconst (v := 1) dX9_step_165 rfl (by decide) ?_
      refine aw_iadd dX9_step_166 rfl ?_
      refine aw_puti (k := 3) dX9_step_167 rfl (by decide) rfl rfl cb_9 (by decide) rfl rfl gw_154 ?_
      exact aw_vret dX9_step_170 rfl k
  · replace k := k.2 c
    refine aw_aload_n (j := 0) (i := 0) dX9_step_104 rfl rfl rfl ?_
    refine aw_geti (k := 3) dX9_step_105 rfl (by decide) rfl rfl cb_9 (by decide) gw_154 ?_
    refine aw_aload_n (j := 0) (i := 0) dX9_step_108 rfl rfl rfl ?_
    refine aw_getf (k := 2) (z := 4) dX9_step_109 rfl (by decide) rfl rfl rfl cb_9 (by decide) gw_152 ?_
    refine aw_geti (k := 0) dX9_step_112 rfl (by decide) rfl rfl cb_4 (by decide) gw_140 ?_
    refine aw_icmp_ge 152 dX9_step_115 rfl rfl (fun c => ?_) (fun c => ?_)
    · replace k := k.1 c
      refine aw_aload_n (j := 0) (i := 0) dX9_step_152 rfl rfl rfl ?_
      refine aw_geti (k := 0) dX9_step_153 rfl (by decide) rfl rfl cb_9 (by decide) gw_149 ?_
      refine aw_iconst (v := 3) dX9_step_156 rfl (by decide) ?_
      refine aw_icmp_ne 170 dX9_step_157 rfl rfl (fun c => ?_) (fun c => ?_)
      · replace k := k.1 c
        exact aw_vret dX9_step_170 rfl k
      · replace k := k.2 c
        refine aw_aload_n (j := 0) (i := 0) dX9_step_160 rfl rfl rfl ?_
        refine aw_aload_n (j := 0) (i := 0) dX9_step_161 rfl rfl rfl ?_
        refine aw_geti (k := 1) dX9_step_162 rfl (by decide) rfl rfl cb_9 (by decide) gw_150 ?_
        refine aw_iconst (v := 1) dX9_step_165 rfl (by decide) ?_
        refine aw_iadd dX9_step_166 rfl ?_
        refine aw_puti (k := 3) dX9_step_167 rfl (by decide) rfl rfl cb_9 (by decide) rfl rfl gw_154 ?_
        exact aw_vret dX9_step_170 rfl k
    · replace k := k.2 c
      refine aw_aload_n (j := 0) (i := 0) dX9_step_118 rfl rfl rfl ?_
      refine aw_getf (k := 2) (z := 4) dX9_step_119 rfl (by decide) rfl rfl rfl cb_9 (by decide) gw_152 ?_
      refine aw_aload_n (j := 0) (i := 0) dX9_step_122 rfl rfl rfl ?_
      refine aw_geti (k := 3) dX9_step_123 rfl (by decide) rfl rfl cb_9 (by decide) gw_154 ?_
      refine aw_callV (M' := mX4_signAt) (S := []) (as := [vI (h.1 9 0 3)]) (k := 0) dX9_step_126 rfl (by decide) rfl rfl gw_773 gw_774 gw_775 mb_X4_signAt rfl (Nat.zero_le _) (Nat.le_of_ble_eq_true rfl) rfl (CL.imp k (fun _ h1 k => ?_) (fun _ _ k => k))
      obtain ⟨r2, rfl, k⟩ := oI_of k
      show AW X (d + 1) rb mX9_step 129 _ [vI r2] h1 Qr Qx
      refine aw_callS (M' := mX9_kindOf) (S := []) (as := [vI r2]) (k := 0) dX9_step_129 rfl gw_780 gw_781 mb_X9_kindOf rfl (Nat.zero_le _) (Nat.le_of_ble_eq_true rfl) rfl (CL.imp k (fun _ h3 k => ?_) (fun _ _ k => k))
      obtain ⟨r4, rfl, k⟩ := oI_of k
      show AW X (d + 1) rb mX9_step 132 _ [vI r4] h3 Qr Qx
      refine aw_aload_n (j := 0) (i := 0) dX9_step_132 rfl rfl rfl ?_
      refine aw_geti (k := 0) dX9_step_133 rfl (by decide) rfl rfl cb_9 (by decide) gw_149 ?_
      refine aw_icmp_ne 152 dX9_step_136 rfl rfl (fun c => ?_) (fun c => ?_)
      · replace k := k.1 c
        refine aw_aload_n (j := 0) (i := 0) dX9_step_152 rfl rfl rfl ?_
        refine aw_geti (k := 0) dX9_step_153 rfl (by decide) rfl rfl cb_9 (by decide) gw_149 ?_
        refine aw_iconst (v := 3) dX9_step_156 rfl (by decide) ?_
        refine aw_icmp_ne 170 dX9_step_157 rfl rfl (fun c => ?_) (fun c => ?_)
        · replace k := k.1 c
          exact aw_vret dX9_step_170 rfl k
        · replace k := k.2 c
          refine aw_aload_n (j := 0) (i := 0) dX9_step_160 rfl rfl rfl ?_
          refine aw_aload_n (j := 0) (i := 0) dX9_step_161 rfl rfl rfl ?_
          refine aw_geti (k := 1) dX9_step_162 rfl (by decide) rfl rfl cb_9 (by decide) gw_150 ?_
          refine aw_iconst (v := 1) dX9_step_165 rfl (by decide) ?_
          refine aw_iadd dX9_step_166 rfl ?_
          refine aw_puti (k := 3) dX9_step_167 rfl (by decide) rfl rfl cb_9 (by decide) rfl rfl gw_154 ?_
          exact aw_vret dX9_step_170 rfl k
      · replace k := k.2 c
        refine aw_aload_n (j := 0) (i := 0) dX9_step_139 rfl rfl rfl ?_
        refine aw_dup dX9_step_140 rfl rfl ?_
        refine aw_geti (k := 3) dX9_step_141 rfl (by decide) rfl rfl cb_9 (by decide) gw_154 ?_
        refine aw_iconst (v := 1) dX9_step_144 rfl (by decide) ?_
        refine aw_iadd dX9_step_145 rfl ?_
        refine aw_puti (k := 3) dX9_step_146 rfl (by decide) rfl rfl cb_9 (by decide) rfl rfl gw_154 ?_
        refine aw_goto 100 dX9_step_149 rfl ?_
        exact aw_sub [0, 1] rfl k
set_option maxHeartbeats 4000000 in
set_option maxRecDepth 100000 in
theorem vc_X9_isSpace_0 {X : WD → State → Prop} {d rb : Nat} {h : Hp} {Qr : Option AV → Hp → Prop} {Qx : String → Hp → Prop} {a0 : Int32}  (k : ((if a0 = 32 then (1 : Int32) else (if a0 = 9 then (1 : Int32) else (if ¬ a0 = 10 then (0 : Int32) else 1))) = 0 ∨ (if a0 = 32 then (1 : Int32) else (if a0 = 9 then (1 : Int32) else (if ¬ a0 = 10 then (0 : Int32) else 1))) = 1) ∧ Qr (some (vI (if a0 = 32 then (1 : Int32) else (if a0 = 9 then (1 : Int32) else (if ¬ a0 = 10 then (0 : Int32) else 1))))) h) : AW X (d + 1) rb mX9_isSpace 0 [(0, vI a0)] [] h Qr Qx := by
  refine aw_iload_n (j := 0) (i := 0) dX9_isSpace_0 rfl rfl rfl ?_
  refine aw_bipush (v := 32) dX9_isSpace_1 rfl (by decide) ?_
  have kk : AW X (d + 1) rb mX9_isSpace 23 [(0, vI a0)] [vI (if a0 = 32 then (1 : Int32) else (if a0 = 9 then (1 : Int32) else (if ¬ a0 = 10 then (0 : Int32) else 1)))] h Qr Qx := by
    exact aw_zret dX9_isSpace_23 rfl k.1 k.2
  refine aw_icmp_eq 18 dX9_isSpace_3 rfl rfl (fun (c0 : a0 = 32) => ?_) (fun (c0 : ¬ a0 = 32) => ?_)
  · refine aw_iconst (v := 1) dX9_isSpace_18 rfl (by decide) ?_
    refine aw_goto 23 dX9_isSpace_19 rfl ?_
    simp only [if_pos c0] at kk
    exact kk
  · refine aw_iload_n (j := 0) (i := 0) dX9_isSpace_6 rfl rfl rfl ?_
    refine aw_bipush (v := 9) dX9_isSpace_7 rfl (by decide) ?_
    refine aw_icmp_eq 18 dX9_isSpace_9 rfl rfl (fun (c1 : a0 = 9) => ?_) (fun (c1 : ¬ a0 = 9) => ?_)
    · refine aw_iconst (v := 1) dX9_isSpace_18 rfl (by decide) ?_
      refine aw_goto 23 dX9_isSpace_19 rfl ?_
      simp only [if_neg c0, if_pos c1] at kk
      exact kk
    · refine aw_iload_n (j := 0) (i := 0) dX9_isSpace_12 rfl rfl rfl ?_
      refine aw_bipush (v := 10) dX9_isSpace_13 rfl (by decide) ?_
      refine aw_icmp_ne 22 dX9_isSpace_15 rfl rfl (fun (c2 : ¬ a0 = 10) => ?_) (fun (c2 : a0 = 10) => ?_)
      · refine aw_iconst (v := 0) dX9_isSpace_22 rfl (by decide) ?_
        simp only [if_neg c0, if_neg c1, if_pos c2] at kk
        exact kk
      · refine aw_iconst (v := 1) dX9_isSpace_18 rfl (by decide) ?_
        refine aw_goto 23 dX9_isSpace_19 rfl ?_
        simp only [if_neg c0, if_neg c1, if_neg (oa_nn c2)] at kk
        exact kk
set_option maxHeartbeats 4000000 in
set_option maxRecDepth 100000 in
theorem vc_X9_kindOf_0 {X : WD → State → Prop} {d rb : Nat} {h : Hp} {Qr : Option AV → Hp → Prop} {Qx : String → Hp → Prop} {a0 : Int32}  (k : ((¬ a0 = (-1)) → ((a0 < 97) → Qr (some (vI (if a0 < 48 then (3 : Int32) else (if 57 < a0 then (3 : Int32) else 2)))) h) ∧ ((¬ a0 < 97) → ((122 < a0) → Qr (some (vI (if a0 < 48 then (3 : Int32) else (if 57 < a0 then (3 : Int32) else 2)))) h) ∧ ((¬ 122 < a0) → Qr (some (vI 1)) h))) ∧ ((a0 = (-1)) → Qr (some (vI 0)) h)) : AW X (d + 1) rb mX9_kindOf 0 [(0, vI a0)] [] h Qr Qx := by
  refine aw_iload_n (j := 0) (i := 0) dX9_kindOf_0 rfl rfl rfl ?_
  refine aw_iconst (v := (-1)) dX9_kindOf_1 rfl (by decide) ?_
  refine aw_icmp_ne 7 dX9_kindOf_2 rfl rfl (fun c => ?_) (fun c => ?_)
  · replace k := k.1 c
    refine aw_iload_n (j := 0) (i := 0) dX9_kindOf_7 rfl rfl rfl ?_
    refine aw_bipush (v := 97) dX9_kindOf_8 rfl (by decide) ?_
    refine aw_icmp_lt 21 dX9_kindOf_10 rfl rfl (fun c => ?_) (fun c => ?_)
    · replace k := k.1 c
      refine aw_iload_n (j := 0) (i := 0) dX9_kindOf_21 rfl rfl rfl ?_
      refine aw_bipush (v := 48) dX9_kindOf_22 rfl (by decide) ?_
      have kk : AW X (d + 1) rb mX9_kindOf 38 [(0, vI a0)] [vI (if a0 < 48 then (3 : Int32) else (if 57 < a0 then (3 : Int32) else 2))] h Qr Qx := by
        exact aw_iret dX9_kindOf_38 rfl k
      refine aw_icmp_lt 37 dX9_kindOf_24 rfl rfl (fun (c0 : a0 < 48) => ?_) (fun (c0 : ¬ a0 < 48) => ?_)
      · refine aw_iconst (v := 3) dX9_kindOf_37 rfl (by decide) ?_
        simp only [if_pos c0] at kk
        exact kk
      · refine aw_iload_n (j := 0) (i := 0) dX9_kindOf_27 rfl rfl rfl ?_
        refine aw_bipush (v := 57) dX9_kindOf_28 rfl (by decide) ?_
        refine aw_icmp_gt 37 dX9_kindOf_30 rfl rfl (fun (c1 : 57 < a0) => ?_) (fun (c1 : ¬ 57 < a0) => ?_)
        · refine aw_iconst (v := 3) dX9_kindOf_37 rfl (by decide) ?_
          simp only [if_neg c0, if_pos c1] at kk
          exact kk
        · refine aw_iconst (v := 2) dX9_kindOf_33 rfl (by decide) ?_
          refine aw_goto 38 dX9_kindOf_34 rfl ?_
          simp only [if_neg c0, if_neg c1] at kk
          exact kk
    · replace k := k.2 c
      refine aw_iload_n (j := 0) (i := 0) dX9_kindOf_13 rfl rfl rfl ?_
      refine aw_bipush (v := 122) dX9_kindOf_14 rfl (by decide) ?_
      refine aw_icmp_gt 21 dX9_kindOf_16 rfl rfl (fun c => ?_) (fun c => ?_)
      · replace k := k.1 c
        refine aw_iload_n (j := 0) (i := 0) dX9_kindOf_21 rfl rfl rfl ?_
        refine aw_bipush (v := 48) dX9_kindOf_22 rfl (by decide) ?_
        have kk : AW X (d + 1) rb mX9_kindOf 38 [(0, vI a0)] [vI (if a0 < 48 then (3 : Int32) else (if 57 < a0 then (3 : Int32) else 2))] h Qr Qx := by
          exact aw_iret dX9_kindOf_38 rfl k
        refine aw_icmp_lt 37 dX9_kindOf_24 rfl rfl (fun (c0 : a0 < 48) => ?_) (fun (c0 : ¬ a0 < 48) => ?_)
        · refine aw_iconst (v := 3) dX9_kindOf_37 rfl (by decide) ?_
          simp only [if_pos c0] at kk
          exact kk
        · refine aw_iload_n (j := 0) (i := 0) dX9_kindOf_27 rfl rfl rfl ?_
          refine aw_bipush (v := 57) dX9_kindOf_28 rfl (by decide) ?_
          refine aw_icmp_gt 37 dX9_kindOf_30 rfl rfl (fun (c1 : 57 < a0) => ?_) (fun (c1 : ¬ 57 < a0) => ?_)
          · refine aw_iconst (v := 3) dX9_kindOf_37 rfl (by decide) ?_
            simp only [if_neg c0, if_pos c1] at kk
            exact kk
          · refine aw_iconst (v := 2) dX9_kindOf_33 rfl (by decide) ?_
            refine aw_goto 38 dX9_kindOf_34 rfl ?_
            simp only [if_neg c0, if_neg c1] at kk
            exact kk
      · replace k := k.2 c
        refine aw_iconst (v := 1) dX9_kindOf_19 rfl (by decide) ?_
        exact aw_iret dX9_kindOf_20 rfl k
  · replace k := k.2 c
    refine aw_iconst (v := 0) dX9_kindOf_5 rfl (by decide) ?_
    exact aw_iret dX9_kindOf_6 rfl k
set_option maxHeartbeats 4000000 in
set_option maxRecDepth 100000 in
theorem vc_X9_isWord_0 {X : WD → State → Prop} {d rb : Nat} {h : Hp} {Qr : Option AV → Hp → Prop} {Qx : String → Hp → Prop} {j1 : Nat} (hj1 : j1 < 36) (k : ((¬ (h.1 9 0 0) = 1) → Qr (some (vI 0)) h) ∧ (((h.1 9 0 0) = 1) → CL 0 d mJ0_length_8abf5 [vR (1000 + j1) 0] h (oI fun r2 h1 => ((((h.1 9 0 3) - (h.1 9 0 1)) = r2) → AW X (d + 1) rb mX9_isWord 28 [(0, vR 9 0), (1, vR (1000 + j1) 0), (2, vI 0)] [] h1 Qr Qx) ∧ ((¬ ((h.1 9 0 3) - (h.1 9 0 1)) = r2) → Qr (some (vI 0)) h1)) Qx)) : AW X (d + 1) rb mX9_isWord 0 [(0, vR 9 0), (1, vR (1000 + j1) 0)] [] h Qr Qx := by
  refine aw_aload_n (j := 0) (i := 0) dX9_isWord_0 rfl rfl rfl ?_
  refine aw_geti (k := 0) dX9_isWord_1 rfl (by decide) rfl rfl cb_9 (by decide) gw_149 ?_
  refine aw_iconst (v := 1) dX9_isWord_4 rfl (by decide) ?_
  refine aw_icmp_ne 24 dX9_isWord_5 rfl rfl (fun c => ?_) (fun c => ?_)
  · replace k := k.1 c
    refine aw_iconst (v := 0) dX9_isWord_24 rfl (by decide) ?_
    exact aw_zret dX9_isWord_25 rfl (by decide) k
  · replace k := k.2 c
    refine aw_aload_n (j := 0) (i := 0) dX9_isWord_8 rfl rfl rfl ?_
    refine aw_geti (k := 3) dX9_isWord_9 rfl (by decide) rfl rfl cb_9 (by decide) gw_154 ?_
    refine aw_aload_n (j := 0) (i := 0) dX9_isWord_12 rfl rfl rfl ?_
    refine aw_geti (k := 1) dX9_isWord_13 rfl (by decide) rfl rfl cb_9 (by decide) gw_150 ?_
    refine aw_isub dX9_isWord_16 rfl ?_
    refine aw_aload_n (j := 1) (i := 1) dX9_isWord_17 rfl rfl rfl ?_
    refine aw_callStr (M' := mJ0_length_8abf5) (S := [vI ((h.1 9 0 3) - (h.1 9 0 1))]) (as := []) (k := 0) dX9_isWord_18 rfl gw_796 gw_797 gw_798 mb_J0_length_8abf5 rfl (Nat.zero_le _) (Nat.le_of_ble_eq_true rfl) rfl hj1 rfl (CL.imp k (fun _ h1 k => ?_) (fun _ _ k => k))
    obtain ⟨r2, rfl, k⟩ := oI_of k
    show AW X (d + 1) rb mX9_isWord 21 _ [vI r2, vI ((h.1 9 0 3) - (h.1 9 0 1))] h1 Qr Qx
    refine aw_icmp_eq 26 dX9_isWord_21 rfl rfl (fun c => ?_) (fun c => ?_)
    · replace k := k.1 c
      refine aw_iconst (v := 0) dX9_isWord_26 rfl (by decide) ?_
      refine aw_istore_n (i := 2) (L2 := [(2, vI 0), (0, vR 9 0), (1, vR (1000 + j1) 0)]) dX9_isWord_27 rfl rfl (by decide) rfl ?_
      exact aw_sub [1, 2, 0] rfl k
    · replace k := k.2 c
      refine aw_iconst (v := 0) dX9_isWord_24 rfl (by decide) ?_
      exact aw_zret dX9_isWord_25 rfl (by decide) k
set_option maxHeartbeats 4000000 in
set_option maxRecDepth 100000 in
theorem vc_X9_isWord_28 {X : WD → State → Prop} {d rb : Nat} {h : Hp} {Qr : Option AV → Hp → Prop} {Qx : String → Hp → Prop} {j1 : Nat} {x2 : Int32} (hj1 : j1 < 36) (k : CL 0 d mJ0_length_8abf5 [vR (1000 + j1) 0] h (oI fun r2 h1 => ((r2 ≤ x2) → Qr (some (vI 1)) h1) ∧ ((¬ r2 ≤ x2) → CL 0 d mX4_signAt [vR 4 0, vI ((h1.1 9 0 1) + x2)] h1 (oI fun r4 h3 => CL 0 d mJ0_charAt_5068e [vR (1000 + j1) 0, vI x2] h3 (oI fun r6 h5 => ((r4 = r6) → AW X (d + 1) rb mX9_isWord 28 [(0, vR 9 0), (1, vR (1000 + j1) 0), (2, vI (x2 + 1))] [] h5 Qr Qx) ∧ ((¬ r4 = r6) → Qr (some (vI 0)) h5)) Qx) Qx)) Qx) : AW X (d + 1) rb mX9_isWord 28 [(0, vR 9 0), (1, vR (1000 + j1) 0), (2, vI x2)] [] h Qr Qx := by
  refine aw_iload_n (j := 2) (i := 2) dX9_isWord_28 rfl rfl rfl ?_
  refine aw_aload_n (j := 1) (i := 1) dX9_isWord_29 rfl rfl rfl ?_
  refine aw_callStr (M' := mJ0_length_8abf5) (S := [vI x2]) (as := []) (k := 0) dX9_isWord_30 rfl gw_796 gw_797 gw_798 mb_J0_length_8abf5 rfl (Nat.zero_le _) (Nat.le_of_ble_eq_true rfl) rfl hj1 rfl (CL.imp k (fun _ h1 k => ?_) (fun _ _ k => k))
  obtain ⟨r2, rfl, k⟩ := oI_of k
  show AW X (d + 1) rb mX9_isWord 33 _ [vI r2, vI x2] h1 Qr Qx
  refine aw_icmp_ge 65 dX9_isWord_33 rfl rfl (fun c => ?_) (fun c => ?_)
  · replace k := k.1 c
    refine aw_iconst (v := 1) dX9_isWord_65 rfl (by decide) ?_
    exact aw_zret dX9_isWord_66 rfl (by decide) k
  · replace k := k.2 c
    refine aw_aload_n (j := 0) (i := 0) dX9_isWord_36 rfl rfl rfl ?_
    refine aw_getf (k := 2) (z := 4) dX9_isWord_37 rfl (by decide) rfl rfl rfl cb_9 (by decide) gw_152 ?_
    refine aw_aload_n (j := 0) (i := 0) dX9_isWord_40 rfl rfl rfl ?_
    refine aw_geti (k := 1) dX9_isWord_41 rfl (by decide) rfl rfl cb_9 (by decide) gw_150 ?_
    refine aw_iload_n (j := 2) (i := 2) dX9_isWord_44 rfl rfl rfl ?_
    refine aw_iadd dX9_isWord_45 rfl ?_
    refine aw_callV (M' := mX4_signAt) (S := []) (as := [vI ((h1.1 9 0 1) + x2)]) (k := 0) dX9_isWord_46 rfl (by decide) rfl rfl gw_773 gw_774 gw_775 mb_X4_signAt rfl (Nat.zero_le _) (Nat.le_of_ble_eq_true rfl) rfl (CL.imp k (fun _ h3 k => ?_) (fun _ _ k => k))
    obtain ⟨r4, rfl, k⟩ := oI_of k
    show AW X (d + 1) rb mX9_isWord 49 _ [vI r4] h3 Qr Qx
    refine aw_aload_n (j := 1) (i := 1) dX9_isWord_49 rfl rfl rfl ?_
    refine aw_iload_n (j := 2) (i := 2) dX9_isWord_50 rfl rfl rfl ?_
    refine aw_callStr (M' := mJ0_charAt_5068e) (S := [vI r4]) (as := [vI x2]) (k := 0) dX9_isWord_51 rfl gw_806 gw_807 gw_808 mb_J0_charAt_5068e rfl (Nat.zero_le _) (Nat.le_of_ble_eq_true rfl) rfl hj1 rfl (CL.imp k (fun _ h5 k => ?_) (fun _ _ k => k))
    obtain ⟨r6, rfl, k⟩ := oI_of k
    show AW X (d + 1) rb mX9_isWord 54 _ [vI r6, vI r4] h5 Qr Qx
    refine aw_icmp_eq 59 dX9_isWord_54 rfl rfl (fun c => ?_) (fun c => ?_)
    · replace k := k.1 c
      refine aw_iinc (i := 2) (j := 2) (v := x2 + 1) (L2 := [(2, vI (x2 + 1)), (0, vR 9 0), (1, vR (1000 + j1) 0)]) dX9_isWord_59 rfl (by decide) rfl rfl rfl ?_
      refine aw_goto 28 dX9_isWord_62 rfl ?_
      exact aw_sub [1, 2, 0] rfl k
    · replace k := k.2 c
      refine aw_iconst (v := 0) dX9_isWord_57 rfl (by decide) ?_
      exact aw_zret dX9_isWord_58 rfl (by decide) k
set_option maxHeartbeats 4000000 in
set_option maxRecDepth 100000 in
theorem vc_X9_isSemicolon_0 {X : WD → State → Prop} {d rb : Nat} {h : Hp} {Qr : Option AV → Hp → Prop} {Qx : String → Hp → Prop}   (k : ((¬ (h.1 9 0 0) = 3) → Qr (some (vI 0)) h) ∧ (((h.1 9 0 0) = 3) → CL 0 d mX4_signAt [vR 4 0, vI (h.1 9 0 1)] h (oI fun r2 h1 => ((if ¬ r2 = 59 then (0 : Int32) else 1) = 0 ∨ (if ¬ r2 = 59 then (0 : Int32) else 1) = 1) ∧ Qr (some (vI (if ¬ r2 = 59 then (0 : Int32) else 1))) h1) Qx)) : AW X (d + 1) rb mX9_isSemicolon 0 [(0, vR 9 0)] [] h Qr Qx := by
  refine aw_aload_n (j := 0) (i := 0) dX9_isSemicolon_0 rfl rfl rfl ?_
  refine aw_geti (k := 0) dX9_isSemicolon_1 rfl (by decide) rfl rfl cb_9 (by decide) gw_149 ?_
  refine aw_iconst (v := 3) dX9_isSemicolon_4 rfl (by decide) ?_
  refine aw_icmp_ne 28 dX9_isSemicolon_5 rfl rfl (fun c => ?_) (fun c => ?_)
  · replace k := k.1 c
    refine aw_iconst (v := 0) dX9_isSemicolon_28 rfl (by decide) ?_
    exact aw_zret dX9_isSemicolon_29 rfl (by decide) k
  · replace k := k.2 c
    refine aw_aload_n (j := 0) (i := 0) dX9_isSemicolon_8 rfl rfl rfl ?_
    refine aw_getf (k := 2) (z := 4) dX9_isSemicolon_9 rfl (by decide) rfl rfl rfl cb_9 (by decide) gw_152 ?_
    refine aw_aload_n (j := 0) (i := 0) dX9_isSemicolon_12 rfl rfl rfl ?_
    refine aw_geti (k := 1) dX9_isSemicolon_13 rfl (by decide) rfl rfl cb_9 (by decide) gw_150 ?_
    refine aw_callV (M' := mX4_signAt) (S := []) (as := [vI (h.1 9 0 1)]) (k := 0) dX9_isSemicolon_16 rfl (by decide) rfl rfl gw_773 gw_774 gw_775 mb_X4_signAt rfl (Nat.zero_le _) (Nat.le_of_ble_eq_true rfl) rfl (CL.imp k (fun _ h1 k => ?_) (fun _ _ k => k))
    obtain ⟨r2, rfl, k⟩ := oI_of k
    show AW X (d + 1) rb mX9_isSemicolon 19 _ [vI r2] h1 Qr Qx
    refine aw_bipush (v := 59) dX9_isSemicolon_19 rfl (by decide) ?_
    have kk : AW X (d + 1) rb mX9_isSemicolon 29 [(0, vR 9 0)] [vI (if ¬ r2 = 59 then (0 : Int32) else 1)] h1 Qr Qx := by
      exact aw_zret dX9_isSemicolon_29 rfl k.1 k.2
    refine aw_icmp_ne 28 dX9_isSemicolon_21 rfl rfl (fun (c0 : ¬ r2 = 59) => ?_) (fun (c0 : r2 = 59) => ?_)
    · refine aw_iconst (v := 0) dX9_isSemicolon_28 rfl (by decide) ?_
      simp only [if_pos c0] at kk
      exact kk
    · refine aw_iconst (v := 1) dX9_isSemicolon_24 rfl (by decide) ?_
      refine aw_goto 29 dX9_isSemicolon_25 rfl ?_
      simp only [if_neg (oa_nn c0)] at kk
      exact kk
set_option maxHeartbeats 4000000 in
set_option maxRecDepth 100000 in
theorem vc_X9_isName_0 {X : WD → State → Prop} {d rb : Nat} {h : Hp} {Qr : Option AV → Hp → Prop} {Qx : String → Hp → Prop}   (k : ((if ¬ (h.1 9 0 0) = 1 then (0 : Int32) else (if 8 < ((h.1 9 0 3) - (h.1 9 0 1)) then (0 : Int32) else 1)) = 0 ∨ (if ¬ (h.1 9 0 0) = 1 then (0 : Int32) else (if 8 < ((h.1 9 0 3) - (h.1 9 0 1)) then (0 : Int32) else 1)) = 1) ∧ Qr (some (vI (if ¬ (h.1 9 0 0) = 1 then (0 : Int32) else (if 8 < ((h.1 9 0 3) - (h.1 9 0 1)) then (0 : Int32) else 1)))) h) : AW X (d + 1) rb mX9_isName 0 [(0, vR 9 0)] [] h Qr Qx := by
  refine aw_aload_n (j := 0) (i := 0) dX9_isName_0 rfl rfl rfl ?_
  refine aw_geti (k := 0) dX9_isName_1 rfl (by decide) rfl rfl cb_9 (by decide) gw_149 ?_
  refine aw_iconst (v := 1) dX9_isName_4 rfl (by decide) ?_
  have kk : AW X (d + 1) rb mX9_isName 27 [(0, vR 9 0)] [vI (if ¬ (h.1 9 0 0) = 1 then (0 : Int32) else (if 8 < ((h.1 9 0 3) - (h.1 9 0 1)) then (0 : Int32) else 1))] h Qr Qx := by
    exact aw_zret dX9_isName_27 rfl k.1 k.2
  refine aw_icmp_ne 26 dX9_isName_5 rfl rfl (fun (c0 : ¬ (h.1 9 0 0) = 1) => ?_) (fun (c0 : (h.1 9 0 0) = 1) => ?_)
  · refine aw_iconst (v := 0) dX9_isName_26 rfl (by decide) ?_
    simp only [if_pos c0] at kk
    exact kk
  · refine aw_aload_n (j := 0) (i := 0) dX9_isName_8 rfl rfl rfl ?_
    refine aw_geti (k := 3) dX9_isName_9 rfl (by decide) rfl rfl cb_9 (by decide) gw_154 ?_
    refine aw_aload_n (j := 0) (i := 0) dX9_isName_12 rfl rfl rfl ?_
    refine aw_geti (k := 1) dX9_isName_13 rfl (by decide) rfl rfl cb_9 (by decide) gw_150 ?_
    refine aw_isub dX9_isName_16 rfl ?_
    refine aw_bipush (v := 8) dX9_isName_17 rfl (by decide) ?_
    refine aw_icmp_gt 26 dX9_isName_19 rfl rfl (fun (c1 : 8 < ((h.1 9 0 3) - (h.1 9 0 1))) => ?_) (fun (c1 : ¬ 8 < ((h.1 9 0 3) - (h.1 9 0 1))) => ?_)
    · refine aw_iconst (v := 0) dX9_isName_26 rfl (by decide) ?_
      simp only [if_neg (oa_nn c0), if_pos c1] at kk
      exact kk
    · refine aw_iconst (v := 1) dX9_isName_22 rfl (by decide) ?_
      refine aw_goto 27 dX9_isName_23 rfl ?_
      simp only [if_neg (oa_nn c0), if_neg c1] at kk
      exact kk
set_option maxHeartbeats 4000000 in
set_option maxRecDepth 100000 in
theorem vc_X9_name_0 {X : WD → State → Prop} {d rb : Nat} {h : Hp} {Qr : Option AV → Hp → Prop} {Qx : String → Hp → Prop}   (k : AW X (d + 1) rb mX9_name 7 [(0, vR 9 0), (1, vJ 0), (3, vI (h.1 9 0 1))] [] h Qr Qx) : AW X (d + 1) rb mX9_name 0 [(0, vR 9 0)] [] h Qr Qx := by
  refine aw_lconst (v := 0) dX9_name_0 rfl (by decide) ?_
  refine aw_lstore_n (i := 1) (L2 := [(1, vJ 0), (0, vR 9 0)]) dX9_name_1 rfl rfl (by decide) rfl ?_
  refine aw_aload_n (j := 1) (i := 0) dX9_name_2 rfl rfl rfl ?_
  refine aw_geti (k := 1) dX9_name_3 rfl (by decide) rfl rfl cb_9 (by decide) gw_150 ?_
  refine aw_istore_n (i := 3) (L2 := [(3, vI (h.1 9 0 1)), (1, vJ 0), (0, vR 9 0)]) dX9_name_6 rfl rfl (by decide) rfl ?_
  exact aw_sub [2, 1, 0] rfl k
set_option maxHeartbeats 4000000 in
set_option maxRecDepth 100000 in
theorem vc_X9_name_7 {X : WD → State → Prop} {d rb : Nat} {h : Hp} {Qr : Option AV → Hp → Prop} {Qx : String → Hp → Prop} {x1 : Int64} {x3 : Int32}  (k : (((h.1 9 0 3) ≤ x3) → Qr (some (vJ x1)) h) ∧ ((¬ (h.1 9 0 3) ≤ x3) → CL 0 d mX4_signAt [vR 4 0, vI x3] h (oI fun r2 h1 => AW X (d + 1) rb mX9_name 7 [(0, vR 9 0), (1, vJ ((x1 <<< ((8 : Int32).toInt64 &&& 63)) ||| r2.toInt64)), (3, vI (x3 + 1))] [] h1 Qr Qx) Qx)) : AW X (d + 1) rb mX9_name 7 [(0, vR 9 0), (1, vJ x1), (3, vI x3)] [] h Qr Qx := by
  refine aw_iload_n (j := 2) (i := 3) dX9_name_7 rfl rfl rfl ?_
  refine aw_aload_n (j := 0) (i := 0) dX9_name_8 rfl rfl rfl ?_
  refine aw_geti (k := 3) dX9_name_9 rfl (by decide) rfl rfl cb_9 (by decide) gw_154 ?_
  refine aw_icmp_ge 36 dX9_name_12 rfl rfl (fun c => ?_) (fun c => ?_)
  · replace k := k.1 c
    refine aw_lload_n (j := 1) (i := 1) dX9_name_36 rfl rfl rfl ?_
    exact aw_lret dX9_name_37 rfl k
  · replace k := k.2 c
    refine aw_lload_n (j := 1) (i := 1) dX9_name_15 rfl rfl rfl ?_
    refine aw_bipush (v := 8) dX9_name_16 rfl (by decide) ?_
    refine aw_lshl dX9_name_18 rfl ?_
    refine aw_aload_n (j := 0) (i := 0) dX9_name_19 rfl rfl rfl ?_
    refine aw_getf (k := 2) (z := 4) dX9_name_20 rfl (by decide) rfl rfl rfl cb_9 (by decide) gw_152 ?_
    refine aw_iload_n (j := 2) (i := 3) dX9_name_23 rfl rfl rfl ?_
    refine aw_callV (M' := mX4_signAt) (S := [vJ (x1 <<< ((8 : Int32).toInt64 &&& 63))]) (as := [vI x3]) (k := 0) dX9_name_24 rfl (by decide) rfl rfl gw_773 gw_774 gw_775 mb_X4_signAt rfl (Nat.zero_le _) (Nat.le_of_ble_eq_true rfl) rfl (CL.imp k (fun _ h1 k => ?_) (fun _ _ k => k))
    obtain ⟨r2, rfl, k⟩ := oI_of k
    show AW X (d + 1) rb mX9_name 27 _ [vI r2, vJ (x1 <<< ((8 : Int32).toInt64 &&& 63))] h1 Qr Qx
    refine aw_i2l dX9_name_27 rfl ?_
    refine aw_lor dX9_name_28 rfl ?_
    refine aw_lstore_n (i := 1) (L2 := [(1, vJ ((x1 <<< ((8 : Int32).toInt64 &&& 63)) ||| r2.toInt64)), (0, vR 9 0), (3, vI x3)]) dX9_name_29 rfl rfl (by decide) rfl ?_
    refine aw_iinc (i := 3) (j := 2) (v := x3 + 1) (L2 := [(3, vI (x3 + 1)), (1, vJ ((x1 <<< ((8 : Int32).toInt64 &&& 63)) ||| r2.toInt64)), (0, vR 9 0)]) dX9_name_30 rfl (by decide) rfl rfl rfl ?_
    refine aw_goto 7 dX9_name_33 rfl ?_
    exact aw_sub [2, 1, 0] rfl k
set_option maxHeartbeats 4000000 in
set_option maxRecDepth 100000 in
theorem vc_X9_value_0 {X : WD → State → Prop} {d rb : Nat} {h : Hp} {Qr : Option AV → Hp → Prop} {Qx : String → Hp → Prop}   (k : ((((h.1 9 0 3) - (h.1 9 0 1)) ≤ 4) → AW X (d + 1) rb mX9_value 22 [(0, vR 9 0), (1, vI 0), (2, vI (h.1 9 0 1))] [] h Qr Qx) ∧ ((¬ ((h.1 9 0 3) - (h.1 9 0 1)) ≤ 4) → Qr (some (vI (-1))) h)) : AW X (d + 1) rb mX9_value 0 [(0, vR 9 0)] [] h Qr Qx := by
  refine aw_aload_n (j := 0) (i := 0) dX9_value_0 rfl rfl rfl ?_
  refine aw_geti (k := 3) dX9_value_1 rfl (by decide) rfl rfl cb_9 (by decide) gw_154 ?_
  refine aw_aload_n (j := 0) (i := 0) dX9_value_4 rfl rfl rfl ?_
  refine aw_geti (k := 1) dX9_value_5 rfl (by decide) rfl rfl cb_9 (by decide) gw_150 ?_
  refine aw_isub dX9_value_8 rfl ?_
  refine aw_iconst (v := 4) dX9_value_9 rfl (by decide) ?_
  refine aw_icmp_le 15 dX9_value_10 rfl rfl (fun c => ?_) (fun c => ?_)
  · replace k := k.1 c
    refine aw_iconst (v := 0) dX9_value_15 rfl (by decide) ?_
    refine aw_istore_n (i := 1) (L2 := [(1, vI 0), (0, vR 9 0)]) dX9_value_16 rfl rfl (by decide) rfl ?_
    refine aw_aload_n (j := 1) (i := 0) dX9_value_17 rfl rfl rfl ?_
    refine aw_geti (k := 1) dX9_value_18 rfl (by decide) rfl rfl cb_9 (by decide) gw_150 ?_
    refine aw_istore_n (i := 2) (L2 := [(2, vI (h.1 9 0 1)), (1, vI 0), (0, vR 9 0)]) dX9_value_21 rfl rfl (by decide) rfl ?_
    exact aw_sub [2, 1, 0] rfl k
  · replace k := k.2 c
    refine aw_iconst (v := (-1)) dX9_value_13 rfl (by decide) ?_
    exact aw_iret dX9_value_14 rfl k
set_option maxHeartbeats 4000000 in
set_option maxRecDepth 100000 in
theorem vc_X9_value_22 {X : WD → State → Prop} {d rb : Nat} {h : Hp} {Qr : Option AV → Hp → Prop} {Qx : String → Hp → Prop} {x1 : Int32} {x2 : Int32}  (k : (((h.1 9 0 3) ≤ x2) → Qr (some (vI x1)) h) ∧ ((¬ (h.1 9 0 3) ≤ x2) → CL 0 d mX4_signAt [vR 4 0, vI x2] h (oI fun r2 h1 => AW X (d + 1) rb mX9_value 22 [(0, vR 9 0), (1, vI (((x1 * 10) + r2) - 48)), (2, vI (x2 + 1))] [] h1 Qr Qx) Qx)) : AW X (d + 1) rb mX9_value 22 [(0, vR 9 0), (1, vI x1), (2, vI x2)] [] h Qr Qx := by
  refine aw_iload_n (j := 2) (i := 2) dX9_value_22 rfl rfl rfl ?_
  refine aw_aload_n (j := 0) (i := 0) dX9_value_23 rfl rfl rfl ?_
  refine aw_geti (k := 3) dX9_value_24 rfl (by decide) rfl rfl cb_9 (by decide) gw_154 ?_
  refine aw_icmp_ge 53 dX9_value_27 rfl rfl (fun c => ?_) (fun c => ?_)
  · replace k := k.1 c
    refine aw_iload_n (j := 1) (i := 1) dX9_value_53 rfl rfl rfl ?_
    exact aw_iret dX9_value_54 rfl k
  · replace k := k.2 c
    refine aw_iload_n (j := 1) (i := 1) dX9_value_30 rfl rfl rfl ?_
    refine aw_bipush (v := 10) dX9_value_31 rfl (by decide) ?_
    refine aw_imul dX9_value_33 rfl ?_
    refine aw_aload_n (j := 0) (i := 0) dX9_value_34 rfl rfl rfl ?_
    refine aw_getf (k := 2) (z := 4) dX9_value_35 rfl (by decide) rfl rfl rfl cb_9 (by decide) gw_152 ?_
    refine aw_iload_n (j := 2) (i := 2) dX9_value_38 rfl rfl rfl ?_
    refine aw_callV (M' := mX4_signAt) (S := [vI (x1 * 10)]) (as := [vI x2]) (k := 0) dX9_value_39 rfl (by decide) rfl rfl gw_773 gw_774 gw_775 mb_X4_signAt rfl (Nat.zero_le _) (Nat.le_of_ble_eq_true rfl) rfl (CL.imp k (fun _ h1 k => ?_) (fun _ _ k => k))
    obtain ⟨r2, rfl, k⟩ := oI_of k
    show AW X (d + 1) rb mX9_value 42 _ [vI r2, vI (x1 * 10)] h1 Qr Qx
    refine aw_iadd dX9_value_42 rfl ?_
    refine aw_bipush (v := 48) dX9_value_43 rfl (by decide) ?_
    refine aw_isub dX9_value_45 rfl ?_
    refine aw_istore_n (i := 1) (L2 := [(1, vI (((x1 * 10) + r2) - 48)), (0, vR 9 0), (2, vI x2)]) dX9_value_46 rfl rfl (by decide) rfl ?_
    refine aw_iinc (i := 2) (j := 2) (v := x2 + 1) (L2 := [(2, vI (x2 + 1)), (1, vI (((x1 * 10) + r2) - 48)), (0, vR 9 0)]) dX9_value_47 rfl (by decide) rfl rfl rfl ?_
    refine aw_goto 22 dX9_value_50 rfl ?_
    exact aw_sub [2, 1, 0] rfl k
set_option maxHeartbeats 4000000 in
set_option maxRecDepth 100000 in
theorem vc_X10_clear_0 {X : WD → State → Prop} {d rb : Nat} {h : Hp} {Qr : Option AV → Hp → Prop} {Qx : String → Hp → Prop} {i0 : Nat}  (k : CL 0 d mJ7_fill_53178 [vR 48 i0, vI 0] (hp_i (hp_i h 10 i0 0 0) 10 i0 1 0) (oV fun h1 => CL 0 d mJ7_fill_53178 [vR 49 i0, vI 0] h1 (oV fun h2 => Qr none h2) Qx) Qx) : AW X (d + 1) rb mX10_clear 0 [(0, vR 10 i0)] [] h Qr Qx := by
  refine aw_aload_n (j := 0) (i := 0) dX10_clear_0 rfl rfl rfl ?_
  refine aw_iconst (v := 0) dX10_clear_1 rfl (by decide) ?_
  refine aw_puti (k := 0) dX10_clear_2 rfl (by decide) rfl rfl cb_10 (by decide) rfl rfl gw_237 ?_
  refine aw_aload_n (j := 0) (i := 0) dX10_clear_5 rfl rfl rfl ?_
  refine aw_iconst (v := 0) dX10_clear_6 rfl (by decide) ?_
  refine aw_puti (k := 1) dX10_clear_7 rfl (by decide) rfl rfl cb_10 (by decide) rfl rfl gw_240 ?_
  refine aw_aload_n (j := 0) (i := 0) dX10_clear_10 rfl rfl rfl ?_
  refine aw_getf (k := 2) (z := 48) dX10_clear_11 rfl (by decide) rfl rfl rfl cb_10 (by decide) gw_242 ?_
  refine aw_iconst (v := 0) dX10_clear_14 rfl (by decide) ?_
  refine aw_callS (M' := mJ7_fill_53178) (S := []) (as := [vR 48 i0, vI 0]) (k := 0) dX10_clear_15 rfl gw_759 gw_595 mb_J7_fill_53178 rfl (Nat.zero_le _) (Nat.le_of_ble_eq_true rfl) rfl (CL.imp k (fun _ h1 k => ?_) (fun _ _ k => k))
  obtain ⟨rfl, k⟩ := oV_of k
  show AW X (d + 1) rb mX10_clear 18 _ [] h1 Qr Qx
  refine aw_aload_n (j := 0) (i := 0) dX10_clear_18 rfl rfl rfl ?_
  refine aw_getf (k := 3) (z := 49) dX10_clear_19 rfl (by decide) rfl rfl rfl cb_10 (by decide) gw_243 ?_
  refine aw_iconst (v := 0) dX10_clear_22 rfl (by decide) ?_
  refine aw_callS (M' := mJ7_fill_53178) (S := []) (as := [vR 49 i0, vI 0]) (k := 0) dX10_clear_23 rfl gw_759 gw_595 mb_J7_fill_53178 rfl (Nat.zero_le _) (Nat.le_of_ble_eq_true rfl) rfl (CL.imp k (fun _ h2 k => ?_) (fun _ _ k => k))
  obtain ⟨rfl, k⟩ := oV_of k
  show AW X (d + 1) rb mX10_clear 26 _ [] h2 Qr Qx
  exact aw_vret dX10_clear_26 rfl k
set_option maxHeartbeats 4000000 in
set_option maxRecDepth 100000 in
theorem vc_X10_copyFrom_0 {X : WD → State → Prop} {d rb : Nat} {h : Hp} {Qr : Option AV → Hp → Prop} {Qx : String → Hp → Prop} {i0 : Nat} {i1 : Nat}  (k : Qr none (hp_a (hp_a (hp_a (hp_a (hp_a (hp_i (hp_i h 10 i0 0 (h.1 10 i1 0)) 10 i0 1 ((hp_i h 10 i0 0 (h.1 10 i1 0)).1 10 i1 1)) 48 i0 (va_cpy (h.1 48 i1) (h.1 48 i0) 0 0 12)) 49 i0 (va_cpy (h.1 49 i1) (h.1 49 i0) 0 0 12)) 50 i0 (va_cpy (h.1 50 i1) (h.1 50 i0) 0 0 20)) 51 i0 (va_cpy (h.1 51 i1) (h.1 51 i0) 0 0 20)) 52 i0 (va_cpy (h.1 52 i1) (h.1 52 i0) 0 0 20))) : AW X (d + 1) rb mX10_copyFrom 0 [(0, vR 10 i0), (1, vR 10 i1)] [] h Qr Qx := by
  refine aw_aload_n (j := 0) (i := 0) dX10_copyFrom_0 rfl rfl rfl ?_
  refine aw_aload_n (j := 1) (i := 1) dX10_copyFrom_1 rfl rfl rfl ?_
  refine aw_geti (k := 0) dX10_copyFrom_2 rfl (by decide) rfl rfl cb_10 (by decide) gw_237 ?_
  refine aw_puti (k := 0) dX10_copyFrom_5 rfl (by decide) rfl rfl cb_10 (by decide) rfl rfl gw_237 ?_
  refine aw_aload_n (j := 0) (i := 0) dX10_copyFrom_8 rfl rfl rfl ?_
  refine aw_aload_n (j := 1) (i := 1) dX10_copyFrom_9 rfl rfl rfl ?_
  refine aw_geti (k := 1) dX10_copyFrom_10 rfl (by decide) rfl rfl cb_10 (by decide) gw_240 ?_
  refine aw_puti (k := 1) dX10_copyFrom_13 rfl (by decide) rfl rfl cb_10 (by decide) rfl rfl gw_240 ?_
  refine aw_aload_n (j := 1) (i := 1) dX10_copyFrom_16 rfl rfl rfl ?_
  refine aw_getf (k := 2) (z := 48) dX10_copyFrom_17 rfl (by decide) rfl rfl rfl cb_10 (by decide) gw_242 ?_
  refine aw_iconst (v := 0) dX10_copyFrom_20 rfl (by decide) ?_
  refine aw_aload_n (j := 0) (i := 0) dX10_copyFrom_21 rfl rfl rfl ?_
  refine aw_getf (k := 2) (z := 48) dX10_copyFrom_22 rfl (by decide) rfl rfl rfl cb_10 (by decide) gw_242 ?_
  refine aw_iconst (v := 0) dX10_copyFrom_25 rfl (by decide) ?_
  refine aw_bipush (v := 12) dX10_copyFrom_26 rfl (by decide) ?_
  refine aw_copy (kc := 1) dX10_copyFrom_28 rfl gw_635 gw_637 gw_636 gw_111 (by decide) (by decide) (by decide) rfl rfl (by decide) (by decide) (by decide) (Nat.le_of_ble_eq_true rfl) ?_
  refine aw_aload_n (j := 1) (i := 1) dX10_copyFrom_31 rfl rfl rfl ?_
  refine aw_getf (k := 3) (z := 49) dX10_copyFrom_32 rfl (by decide) rfl rfl rfl cb_10 (by decide) gw_243 ?_
  refine aw_iconst (v := 0) dX10_copyFrom_35 rfl (by decide) ?_
  refine aw_aload_n (j := 0) (i := 0) dX10_copyFrom_36 rfl rfl rfl ?_
  refine aw_getf (k := 3) (z := 49) dX10_copyFrom_37 rfl (by decide) rfl rfl rfl cb_10 (by decide) gw_243 ?_
  refine aw_iconst (v := 0) dX10_copyFrom_40 rfl (by decide) ?_
  refine aw_bipush (v := 12) dX10_copyFrom_41 rfl (by decide) ?_
  refine aw_copy (kc := 1) dX10_copyFrom_43 rfl gw_635 gw_637 gw_636 gw_111 (by decide) (by decide) (by decide) rfl rfl (by decide) (by decide) (by decide) (Nat.le_of_ble_eq_true rfl) ?_
  refine aw_aload_n (j := 1) (i := 1) dX10_copyFrom_46 rfl rfl rfl ?_
  refine aw_getf (k := 4) (z := 50) dX10_copyFrom_47 rfl (by decide) rfl rfl rfl cb_10 (by decide) gw_244 ?_
  refine aw_iconst (v := 0) dX10_copyFrom_50 rfl (by decide) ?_
  refine aw_aload_n (j := 0) (i := 0) dX10_copyFrom_51 rfl rfl rfl ?_
  refine aw_getf (k := 4) (z := 50) dX10_copyFrom_52 rfl (by decide) rfl rfl rfl cb_10 (by decide) gw_244 ?_
  refine aw_iconst (v := 0) dX10_copyFrom_55 rfl (by decide) ?_
  refine aw_bipush (v := 20) dX10_copyFrom_56 rfl (by decide) ?_
  refine aw_copy (kc := 1) dX10_copyFrom_58 rfl gw_635 gw_637 gw_636 gw_111 (by decide) (by decide) (by decide) rfl rfl (by decide) (by decide) (by decide) (Nat.le_of_ble_eq_true rfl) ?_
  refine aw_aload_n (j := 1) (i := 1) dX10_copyFrom_61 rfl rfl rfl ?_
  refine aw_getf (k := 5) (z := 51) dX10_copyFrom_62 rfl (by decide) rfl rfl rfl cb_10 (by decide) gw_245 ?_
  refine aw_iconst (v := 0) dX10_copyFrom_65 rfl (by decide) ?_
  refine aw_aload_n (j := 0) (i := 0) dX10_copyFrom_66 rfl rfl rfl ?_
  refine aw_getf (k := 5) (z := 51) dX10_copyFrom_67 rfl (by decide) rfl rfl rfl cb_10 (by decide) gw_245 ?_
  refine aw_iconst (v := 0) dX10_copyFrom_70 rfl (by decide) ?_
  refine aw_bipush (v := 20) dX10_copyFrom_71 rfl (by decide) ?_
  refine aw_copy (kc := 1) dX10_copyFrom_73 rfl gw_635 gw_637 gw_636 gw_111 (by decide) (by decide) (by decide) rfl rfl (by decide) (by decide) (by decide) (Nat.le_of_ble_eq_true rfl) ?_
  refine aw_aload_n (j := 1) (i := 1) dX10_copyFrom_76 rfl rfl rfl ?_
  refine aw_getf (k := 6) (z := 52) dX10_copyFrom_77 rfl (by decide) rfl rfl rfl cb_10 (by decide) gw_246 ?_
  refine aw_iconst (v := 0) dX10_copyFrom_80 rfl (by decide) ?_
  refine aw_aload_n (j := 0) (i := 0) dX10_copyFrom_81 rfl rfl rfl ?_
  refine aw_getf (k := 6) (z := 52) dX10_copyFrom_82 rfl (by decide) rfl rfl rfl cb_10 (by decide) gw_246 ?_
  refine aw_iconst (v := 0) dX10_copyFrom_85 rfl (by decide) ?_
  refine aw_bipush (v := 20) dX10_copyFrom_86 rfl (by decide) ?_
  refine aw_copy (kc := 1) dX10_copyFrom_88 rfl gw_635 gw_637 gw_636 gw_111 (by decide) (by decide) (by decide) rfl rfl (by decide) (by decide) (by decide) (Nat.le_of_ble_eq_true rfl) ?_
  exact aw_vret dX10_copyFrom_91 rfl k
set_option maxHeartbeats 4000000 in
set_option maxRecDepth 100000 in
theorem vc_X10_stockOf_0 {X : WD → State → Prop} {d rb : Nat} {h : Hp} {Qr : Option AV → Hp → Prop} {Qx : String → Hp → Prop} {i0 : Nat} {a1 : Int32}  (k : CL 0 d mX11_isInside [vI a1, vI 12] h (oI fun r2 h1 => ((r2 = 0) → Qr (some (vI 0)) h1) ∧ ((¬ r2 = 0) → (vp_in a1 12) ∧ Qr (some (vI (h1.1 48 i0 a1.toNatClampNeg))) h1)) Qx) : AW X (d + 1) rb mX10_stockOf 0 [(0, vR 10 i0), (1, vI a1)] [] h Qr Qx := by
  refine aw_iload_n (j := 1) (i := 1) dX10_stockOf_0 rfl rfl rfl ?_
  refine aw_bipush (v := 12) dX10_stockOf_1 rfl (by decide) ?_
  refine aw_callSN (M' := mX11_isInside) (S := []) (as := [vI a1, vI 12]) (k := 0) dX10_stockOf_3 rfl nw_520 gw_461 mb_X11_isInside rfl (Nat.zero_le _) (Nat.le_of_ble_eq_true rfl) rfl (CL.imp k (fun _ h1 k => ?_) (fun _ _ k => k))
  obtain ⟨r2, rfl, k⟩ := oI_of k
  show AW X (d + 1) rb mX10_stockOf 6 _ [vI r2] h1 Qr Qx
  refine aw_if_eq 18 dX10_stockOf_6 rfl rfl (fun c => ?_) (fun c => ?_)
  · replace k := k.1 c
    refine aw_iconst (v := 0) dX10_stockOf_18 rfl (by decide) ?_
    exact aw_iret dX10_stockOf_19 rfl k
  · replace k := k.2 c
    refine aw_aload_n (j := 0) (i := 0) dX10_stockOf_9 rfl rfl rfl ?_
    refine aw_getf (k := 2) (z := 48) dX10_stockOf_10 rfl (by decide) rfl rfl rfl cb_10 (by decide) gw_242 ?_
    refine aw_iload_n (j := 1) (i := 1) dX10_stockOf_13 rfl rfl rfl ?_
    refine aw_iald dX10_stockOf_14 rfl (by decide) rfl k.1 ?_
    replace k := k.2
    refine aw_goto 19 dX10_stockOf_15 rfl ?_
    exact aw_iret dX10_stockOf_19 rfl k
set_option maxHeartbeats 4000000 in
set_option maxRecDepth 100000 in
theorem vc_X10_reservedOf_0 {X : WD → State → Prop} {d rb : Nat} {h : Hp} {Qr : Option AV → Hp → Prop} {Qx : String → Hp → Prop} {i0 : Nat} {a1 : Int32}  (k : CL 0 d mX11_isInside [vI a1, vI 12] h (oI fun r2 h1 => ((r2 = 0) → Qr (some (vI 0)) h1) ∧ ((¬ r2 = 0) → (vp_in a1 12) ∧ Qr (some (vI (h1.1 49 i0 a1.toNatClampNeg))) h1)) Qx) : AW X (d + 1) rb mX10_reservedOf 0 [(0, vR 10 i0), (1, vI a1)] [] h Qr Qx := by
  refine aw_iload_n (j := 1) (i := 1) dX10_reservedOf_0 rfl rfl rfl ?_
  refine aw_bipush (v := 12) dX10_reservedOf_1 rfl (by decide) ?_
  refine aw_callSN (M' := mX11_isInside) (S := []) (as := [vI a1, vI 12]) (k := 0) dX10_reservedOf_3 rfl nw_520 gw_461 mb_X11_isInside rfl (Nat.zero_le _) (Nat.le_of_ble_eq_true rfl) rfl (CL.imp k (fun _ h1 k => ?_) (fun _ _ k => k))
  obtain ⟨r2, rfl, k⟩ := oI_of k
  show AW X (d + 1) rb mX10_reservedOf 6 _ [vI r2] h1 Qr Qx
  refine aw_if_eq 18 dX10_reservedOf_6 rfl rfl (fun c => ?_) (fun c => ?_)
  · replace k := k.1 c
    refine aw_iconst (v := 0) dX10_reservedOf_18 rfl (by decide) ?_
    exact aw_iret dX10_reservedOf_19 rfl k
  · replace k := k.2 c
    refine aw_aload_n (j := 0) (i := 0) dX10_reservedOf_9 rfl rfl rfl ?_
    refine aw_getf (k := 3) (z := 49) dX10_reservedOf_10 rfl (by decide) rfl rfl rfl cb_10 (by decide) gw_243 ?_
    refine aw_iload_n (j := 1) (i := 1) dX10_reservedOf_13 rfl rfl rfl ?_
    refine aw_iald dX10_reservedOf_14 rfl (by decide) rfl k.1 ?_
    replace k := k.2
    refine aw_goto 19 dX10_reservedOf_15 rfl ?_
    exact aw_iret dX10_reservedOf_19 rfl k
set_option maxHeartbeats 4000000 in
set_option maxRecDepth 100000 in
theorem vc_X10_freeOf_0 {X : WD → State → Prop} {d rb : Nat} {h : Hp} {Qr : Option AV → Hp → Prop} {Qx : String → Hp → Prop} {i0 : Nat} {a1 : Int32}  (k : CL 0 d mX10_stockOf [vR 10 i0, vI a1] h (oI fun r2 h1 => CL 0 d mX10_reservedOf [vR 10 i0, vI a1] h1 (oI fun r4 h3 => Qr (some (vI (r2 - r4))) h3) Qx) Qx) : AW X (d + 1) rb mX10_freeOf 0 [(0, vR 10 i0), (1, vI a1)] [] h Qr Qx := by
  refine aw_aload_n (j := 0) (i := 0) dX10_freeOf_0 rfl rfl rfl ?_
  refine aw_iload_n (j := 1) (i := 1) dX10_freeOf_1 rfl rfl rfl ?_
  refine aw_callV (M' := mX10_stockOf) (S := []) (as := [vI a1]) (k := 0) dX10_freeOf_2 rfl (by decide) rfl rfl gw_516 gw_517 gw_518 mb_X10_stockOf rfl (Nat.zero_le _) (Nat.le_of_ble_eq_true rfl) rfl (CL.imp k (fun _ h1 k => ?_) (fun _ _ k => k))
  obtain ⟨r2, rfl, k⟩ := oI_of k
  show AW X (d + 1) rb mX10_freeOf 5 _ [vI r2] h1 Qr Qx
  refine aw_aload_n (j := 0) (i := 0) dX10_freeOf_5 rfl rfl rfl ?_
  refine aw_iload_n (j := 1) (i := 1) dX10_freeOf_6 rfl rfl rfl ?_
  refine aw_callV (M' := mX10_reservedOf) (S := [vI r2]) (as := [vI a1]) (k := 0) dX10_freeOf_7 rfl (by decide) rfl rfl gw_521 gw_522 gw_523 mb_X10_reservedOf rfl (Nat.zero_le _) (Nat.le_of_ble_eq_true rfl) rfl (CL.imp k (fun _ h3 k => ?_) (fun _ _ k => k))
  obtain ⟨r4, rfl, k⟩ := oI_of k
  show AW X (d + 1) rb mX10_freeOf 10 _ [vI r4, vI r2] h3 Qr Qx
  refine aw_isub dX10_freeOf_10 rfl ?_
  exact aw_iret dX10_freeOf_11 rfl k
set_option maxHeartbeats 4000000 in
set_option maxRecDepth 100000 in
theorem vc_X10_fillFree_0 {X : WD → State → Prop} {d rb : Nat} {h : Hp} {Qr : Option AV → Hp → Prop} {Qx : String → Hp → Prop} {i0 : Nat} {t1 i1 n1 : Nat} {f1 : List (Nat × Nat)} (ht1 : t1 < oa_nT) (hk1 : oa_kd t1 = (1, n1, f1)) (k : AW X (d + 1) rb mX10_fillFree 2 [(0, vR 10 i0), (1, vR t1 i1), (2, vI 0)] [] h Qr Qx) : AW X (d + 1) rb mX10_fillFree 0 [(0, vR 10 i0), (1, vR t1 i1)] [] h Qr Qx := by
  refine aw_iconst (v := 0) dX10_fillFree_0 rfl (by decide) ?_
  refine aw_istore_n (i := 2) (L2 := [(2, vI 0), (0, vR 10 i0), (1, vR t1 i1)]) dX10_fillFree_1 rfl rfl (by decide) rfl ?_
  exact aw_sub [1, 2, 0] rfl k
set_option maxHeartbeats 4000000 in
set_option maxRecDepth 100000 in
theorem vc_X10_fillFree_2 {X : WD → State → Prop} {d rb : Nat} {h : Hp} {Qr : Option AV → Hp → Prop} {Qx : String → Hp → Prop} {i0 : Nat} {t1 i1 n1 : Nat} {f1 : List (Nat × Nat)} {x2 : Int32} (ht1 : t1 < oa_nT) (hk1 : oa_kd t1 = (1, n1, f1)) (k : (((Int32.ofNat n1) ≤ x2) → Qr none h) ∧ ((¬ (Int32.ofNat n1) ≤ x2) → CL 0 d mX10_freeOf [vR 10 i0, vI x2] h (oI fun r2 h1 => (vp_in x2 n1) ∧ AW X (d + 1) rb mX10_fillFree 2 [(0, vR 10 i0), (1, vR t1 i1), (2, vI (x2 + 1))] [] (hp_i h1 t1 i1 x2.toNatClampNeg r2) Qr Qx) Qx)) : AW X (d + 1) rb mX10_fillFree 2 [(0, vR 10 i0), (1, vR t1 i1), (2, vI x2)] [] h Qr Qx := by
  refine aw_iload_n (j := 2) (i := 2) dX10_fillFree_2 rfl rfl rfl ?_
  refine aw_aload_n (j := 1) (i := 1) dX10_fillFree_3 rfl rfl rfl ?_
  refine aw_alen dX10_fillFree_4 rfl ht1 hk1 rfl ?_
  refine aw_icmp_ge 22 dX10_fillFree_5 rfl rfl (fun c => ?_) (fun c => ?_)
  · replace k := k.1 c
    exact aw_vret dX10_fillFree_22 rfl k
  · replace k := k.2 c
    refine aw_aload_n (j := 1) (i := 1) dX10_fillFree_8 rfl rfl rfl ?_
    refine aw_iload_n (j := 2) (i := 2) dX10_fillFree_9 rfl rfl rfl ?_
    refine aw_aload_n (j := 0) (i := 0) dX10_fillFree_10 rfl rfl rfl ?_
    refine aw_iload_n (j := 2) (i := 2) dX10_fillFree_11 rfl rfl rfl ?_
    refine aw_callV (M' := mX10_freeOf) (S := [vI x2, vR t1 i1]) (as := [vI x2]) (k := 0) dX10_fillFree_12 rfl (by decide) rfl rfl gw_560 gw_513 gw_514 mb_X10_freeOf rfl (Nat.zero_le _) (Nat.le_of_ble_eq_true rfl) rfl (CL.imp k (fun _ h1 k => ?_) (fun _ _ k => k))
    obtain ⟨r2, rfl, k⟩ := oI_of k
    show AW X (d + 1) rb mX10_fillFree 15 _ [vI r2, vI x2, vR t1 i1] h1 Qr Qx
    refine aw_iast dX10_fillFree_15 rfl ht1 hk1 k.1 ?_
    replace k := k.2
    refine aw_iinc (i := 2) (j := 2) (v := x2 + 1) (L2 := [(2, vI (x2 + 1)), (0, vR 10 i0), (1, vR t1 i1)]) dX10_fillFree_16 rfl (by decide) rfl rfl rfl ?_
    refine aw_goto 2 dX10_fillFree_19 rfl ?_
    exact aw_sub [1, 2, 0] rfl k
set_option maxHeartbeats 4000000 in
set_option maxRecDepth 100000 in
theorem vc_X10_setStock_0 {X : WD → State → Prop} {d rb : Nat} {h : Hp} {Qr : Option AV → Hp → Prop} {Qx : String → Hp → Prop} {i0 : Nat} {a1 : Int32} {a2 : Int32}  (k : CL 0 d mX11_isInside [vI a1, vI 12] h (oI fun r2 h1 => ((r2 = 0) → Qr none h1) ∧ ((¬ r2 = 0) → (vp_in a1 12) ∧ Qr none (hp_i h1 48 i0 a1.toNatClampNeg a2))) Qx) : AW X (d + 1) rb mX10_setStock 0 [(0, vR 10 i0), (1, vI a1), (2, vI a2)] [] h Qr Qx := by
  refine aw_iload_n (j := 1) (i := 1) dX10_setStock_0 rfl rfl rfl ?_
  refine aw_bipush (v := 12) dX10_setStock_1 rfl (by decide) ?_
  refine aw_callSN (M' := mX11_isInside) (S := []) (as := [vI a1, vI 12]) (k := 0) dX10_setStock_3 rfl nw_520 gw_461 mb_X11_isInside rfl (Nat.zero_le _) (Nat.le_of_ble_eq_true rfl) rfl (CL.imp k (fun _ h1 k => ?_) (fun _ _ k => k))
  obtain ⟨r2, rfl, k⟩ := oI_of k
  show AW X (d + 1) rb mX10_setStock 6 _ [vI r2] h1 Qr Qx
  refine aw_if_eq 16 dX10_setStock_6 rfl rfl (fun c => ?_) (fun c => ?_)
  · replace k := k.1 c
    exact aw_vret dX10_setStock_16 rfl k
  · replace k := k.2 c
    refine aw_aload_n (j := 0) (i := 0) dX10_setStock_9 rfl rfl rfl ?_
    refine aw_getf (k := 2) (z := 48) dX10_setStock_10 rfl (by decide) rfl rfl rfl cb_10 (by decide) gw_242 ?_
    refine aw_iload_n (j := 1) (i := 1) dX10_setStock_13 rfl rfl rfl ?_
    refine aw_iload_n (j := 2) (i := 2) dX10_setStock_14 rfl rfl rfl ?_
    refine aw_iast dX10_setStock_15 rfl (by decide) rfl k.1 ?_
    replace k := k.2
    exact aw_vret dX10_setStock_16 rfl k
set_option maxHeartbeats 4000000 in
set_option maxRecDepth 100000 in
theorem vc_X10_addReserved_0 {X : WD → State → Prop} {d rb : Nat} {h : Hp} {Qr : Option AV → Hp → Prop} {Qx : String → Hp → Prop} {i0 : Nat} {a1 : Int32} {a2 : Int32}  (k : CL 0 d mX11_isInside [vI a1, vI 12] h (oI fun r2 h1 => ((r2 = 0) → Qr none h1) ∧ ((¬ r2 = 0) → (vp_in a1 12) ∧ (vp_in a1 12) ∧ Qr none (hp_i h1 49 i0 a1.toNatClampNeg ((h1.1 49 i0 a1.toNatClampNeg) + a2)))) Qx) : AW X (d + 1) rb mX10_addReserved 0 [(0, vR 10 i0), (1, vI a1), (2, vI a2)] [] h Qr Qx := by
  refine aw_iload_n (j := 1) (i := 1) dX10_addReserved_0 rfl rfl rfl ?_
  refine aw_bipush (v := 12) dX10_addReserved_1 rfl (by decide) ?_
  refine aw_callSN (M' := mX11_isInside) (S := []) (as := [vI a1, vI 12]) (k := 0) dX10_addReserved_3 rfl nw_520 gw_461 mb_X11_isInside rfl (Nat.zero_le _) (Nat.le_of_ble_eq_true rfl) rfl (CL.imp k (fun _ h1 k => ?_) (fun _ _ k => k))
  obtain ⟨r2, rfl, k⟩ := oI_of k
  show AW X (d + 1) rb mX10_addReserved 6 _ [vI r2] h1 Qr Qx
  refine aw_if_eq 19 dX10_addReserved_6 rfl rfl (fun c => ?_) (fun c => ?_)
  · replace k := k.1 c
    exact aw_vret dX10_addReserved_19 rfl k
  · replace k := k.2 c
    refine aw_aload_n (j := 0) (i := 0) dX10_addReserved_9 rfl rfl rfl ?_
    refine aw_getf (k := 3) (z := 49) dX10_addReserved_10 rfl (by decide) rfl rfl rfl cb_10 (by decide) gw_243 ?_
    refine aw_iload_n (j := 1) (i := 1) dX10_addReserved_13 rfl rfl rfl ?_
    refine aw_dup2 dX10_addReserved_14 rfl rfl rfl ?_
    refine aw_iald dX10_addReserved_15 rfl (by decide) rfl k.1 ?_
    replace k := k.2
    refine aw_iload_n (j := 2) (i := 2) dX10_addReserved_16 rfl rfl rfl ?_
    refine aw_iadd dX10_addReserved_17 rfl ?_
    refine aw_iast dX10_addReserved_18 rfl (by decide) rfl k.1 ?_
    replace k := k.2
    exact aw_vret dX10_addReserved_19 rfl k
set_option maxHeartbeats 4000000 in
set_option maxRecDepth 100000 in
theorem vc_X10_addArrival_0 {X : WD → State → Prop} {d rb : Nat} {h : Hp} {Qr : Option AV → Hp → Prop} {Qx : String → Hp → Prop} {i0 : Nat} {a1 : Int32} {a2 : Int32} {a3 : Int32}  (k : ((20 ≤ (h.1 10 i0 1)) → Qr (some (vI ((h.1 10 i0 0) + a3))) h) ∧ ((¬ 20 ≤ (h.1 10 i0 1)) → (vp_in (h.1 10 i0 1) 20) ∧ (vp_in (h.1 10 i0 1) 20) ∧ (vp_in (h.1 10 i0 1) 20) ∧ Qr (some (vI ((h.1 10 i0 0) + a3))) (hp_i (hp_i (hp_i (hp_i h 50 i0 ((h.1 10 i0 1).toNatClampNeg) a1) 51 i0 ((h.1 10 i0 1).toNatClampNeg) a2) 52 i0 ((h.1 10 i0 1).toNatClampNeg) ((h.1 10 i0 0) + a3)) 10 i0 1 ((h.1 10 i0 1) + 1)))) : AW X (d + 1) rb mX10_addArrival 0 [(0, vR 10 i0), (1, vI a1), (2, vI a2), (3, vI a3)] [] h Qr Qx := by
  refine aw_aload_n (j := 0) (i := 0) dX10_addArrival_0 rfl rfl rfl ?_
  refine aw_geti (k := 0) dX10_addArrival_1 rfl (by decide) rfl rfl cb_10 (by decide) gw_237 ?_
  refine aw_iload_n (j := 3) (i := 3) dX10_addArrival_4 rfl rfl rfl ?_
  refine aw_iadd dX10_addArrival_5 rfl ?_
  refine aw_istore (i := 4) (L2 := [(4, vI ((h.1 10 i0 0) + a3)), (0, vR 10 i0), (1, vI a1), (2, vI a2), (3, vI a3)]) dX10_addArrival_6 rfl (by decide) rfl ?_
  refine aw_aload_n (j := 1) (i := 0) dX10_addArrival_8 rfl rfl rfl ?_
  refine aw_geti (k := 1) dX10_addArrival_9 rfl (by decide) rfl rfl cb_10 (by decide) gw_240 ?_
  refine aw_bipush (v := 20) dX10_addArrival_12 rfl (by decide) ?_
  refine aw_icmp_ge 58 dX10_addArrival_14 rfl rfl (fun c => ?_) (fun c => ?_)
  · replace k := k.1 c
    refine aw_iload (j := 0) (i := 4) dX10_addArrival_58 rfl rfl ?_
    exact aw_iret dX10_addArrival_60 rfl k
  · replace k := k.2 c
    refine aw_aload_n (j := 1) (i := 0) dX10_addArrival_17 rfl rfl rfl ?_
    refine aw_getf (k := 4) (z := 50) dX10_addArrival_18 rfl (by decide) rfl rfl rfl cb_10 (by decide) gw_244 ?_
    refine aw_aload_n (j := 1) (i := 0) dX10_addArrival_21 rfl rfl rfl ?_
    refine aw_geti (k := 1) dX10_addArrival_22 rfl (by decide) rfl rfl cb_10 (by decide) gw_240 ?_
    refine aw_iload_n (j := 2) (i := 1) dX10_addArrival_25 rfl rfl rfl ?_
    refine aw_iast dX10_addArrival_26 rfl (by decide) rfl k.1 ?_
    replace k := k.2
    refine aw_aload_n (j := 1) (i := 0) dX10_addArrival_27 rfl rfl rfl ?_
    refine aw_getf (k := 5) (z := 51) dX10_addArrival_28 rfl (by decide) rfl rfl rfl cb_10 (by decide) gw_245 ?_
    refine aw_aload_n (j := 1) (i := 0) dX10_addArrival_31 rfl rfl rfl ?_
    refine aw_geti (k := 1) dX10_addArrival_32 rfl (by decide) rfl rfl cb_10 (by decide) gw_240 ?_
    refine aw_iload_n (j := 3) (i := 2) dX10_addArrival_35 rfl rfl rfl ?_
    refine aw_iast dX10_addArrival_36 rfl (by decide) rfl k.1 ?_
    replace k := k.2
    refine aw_aload_n (j := 1) (i := 0) dX10_addArrival_37 rfl rfl rfl ?_
    refine aw_getf (k := 6) (z := 52) dX10_addArrival_38 rfl (by decide) rfl rfl rfl cb_10 (by decide) gw_246 ?_
    refine aw_aload_n (j := 1) (i := 0) dX10_addArrival_41 rfl rfl rfl ?_
    refine aw_geti (k := 1) dX10_addArrival_42 rfl (by decide) rfl rfl cb_10 (by decide) gw_240 ?_
    refine aw_iload (j := 0) (i := 4) dX10_addArrival_45 rfl rfl ?_
    refine aw_iast dX10_addArrival_47 rfl (by decide) rfl k.1 ?_
    replace k := k.2
    refine aw_aload_n (j := 1) (i := 0) dX10_addArrival_48 rfl rfl rfl ?_
    refine aw_dup dX10_addArrival_49 rfl rfl ?_
    refine aw_geti (k := 1) dX10_addArrival_50 rfl (by decide) rfl rfl cb_10 (by decide) gw_240 ?_
    refine aw_iconst (v := 1) dX10_addArrival_53 rfl (by decide) ?_
    refine aw_iadd dX10_addArrival_54 rfl ?_
    refine aw_puti (k := 1) dX10_addArrival_55 rfl (by decide) rfl rfl cb_10 (by decide) rfl rfl gw_240 ?_
    refine aw_iload (j := 0) (i := 4) dX10_addArrival_58 rfl rfl ?_
    exact aw_iret dX10_addArrival_60 rfl k
set_option maxHeartbeats 4000000 in
set_option maxRecDepth 100000 in
theorem vc_X10_passDay_0 {X : WD → State → Prop} {d rb : Nat} {h : Hp} {Qr : Option AV → Hp → Prop} {Qx : String → Hp → Prop} {i0 : Nat}  (k : AW X (d + 1) rb mX10_passDay 14 [(0, vR 10 i0), (1, vI 0), (2, vI 0)] [] (hp_i h 10 i0 0 ((h.1 10 i0 0) + 1)) Qr Qx) : AW X (d + 1) rb mX10_passDay 0 [(0, vR 10 i0)] [] h Qr Qx := by
  refine aw_aload_n (j := 0) (i := 0) dX10_passDay_0 rfl rfl rfl ?_
  refine aw_dup dX10_passDay_1 rfl rfl ?_
  refine aw_geti (k := 0) dX10_passDay_2 rfl (by decide) rfl rfl cb_10 (by decide) gw_237 ?_
  refine aw_iconst (v := 1) dX10_passDay_5 rfl (by decide) ?_
  refine aw_iadd dX10_passDay_6 rfl ?_
  refine aw_puti (k := 0) dX10_passDay_7 rfl (by decide) rfl rfl cb_10 (by decide) rfl rfl gw_237 ?_
  refine aw_iconst (v := 0) dX10_passDay_10 rfl (by decide) ?_
  refine aw_istore_n (i := 1) (L2 := [(1, vI 0), (0, vR 10 i0)]) dX10_passDay_11 rfl rfl (by decide) rfl ?_
  refine aw_iconst (v := 0) dX10_passDay_12 rfl (by decide) ?_
  refine aw_istore_n (i := 2) (L2 := [(2, vI 0), (1, vI 0), (0, vR 10 i0)]) dX10_passDay_13 rfl rfl (by decide) rfl ?_
  exact aw_sub [2, 1, 0] rfl k
set_option maxHeartbeats 4000000 in
set_option maxRecDepth 100000 in
theorem vc_X10_passDay_14 {X : WD → State → Prop} {d rb : Nat} {h : Hp} {Qr : Option AV → Hp → Prop} {Qx : String → Hp → Prop} {i0 : Nat} {x1 : Int32} {x2 : Int32}  (k : (((h.1 10 i0 1) ≤ x2) → Qr (some (vI ((h.1 10 i0 1) - x1))) (hp_i h 10 i0 1 x1)) ∧ ((¬ (h.1 10 i0 1) ≤ x2) → (vp_in x2 20) ∧ ((¬ (h.1 52 i0 x2.toNatClampNeg) = (h.1 10 i0 0)) → (vp_in x2 20) ∧ (vp_in x1 20) ∧ (vp_in x2 20) ∧ (vp_in x1 20) ∧ (vp_in x2 20) ∧ (vp_in x1 20) ∧ AW X (d + 1) rb mX10_passDay 14 [(0, vR 10 i0), (1, vI (x1 + 1)), (2, vI (x2 + 1))] [] (hp_i (hp_i (hp_i h 50 i0 x1.toNatClampNeg (h.1 50 i0 x2.toNatClampNeg)) 51 i0 x1.toNatClampNeg (h.1 51 i0 x2.toNatClampNeg)) 52 i0 x1.toNatClampNeg (h.1 52 i0 x2.toNatClampNeg)) Qr Qx) ∧ (((h.1 52 i0 x2.toNatClampNeg) = (h.1 10 i0 0)) → (vp_in x2 20) ∧ CL 0 d mX10_stockOf [vR 10 i0, vI (h.1 50 i0 x2.toNatClampNeg)] h (oI fun r2 h1 => (vp_in x2 20) ∧ CL 0 d mX10_setStock [vR 10 i0, vI (h.1 50 i0 x2.toNatClampNeg), vI (r2 + (h1.1 51 i0 x2.toNatClampNeg))] h1 (oV fun h3 => AW X (d + 1) rb mX10_passDay 14 [(0, vR 10 i0), (1, vI x1), (2, vI (x2 + 1))] [] h3 Qr Qx) Qx) Qx))) : AW X (d + 1) rb mX10_passDay 14 [(0, vR 10 i0), (1, vI x1), (2, vI x2)] [] h Qr Qx := by
  refine aw_iload_n (j := 2) (i := 2) dX10_passDay_14 rfl rfl rfl ?_
  refine aw_aload_n (j := 0) (i := 0) dX10_passDay_15 rfl rfl rfl ?_
  refine aw_geti (k := 1) dX10_passDay_16 rfl (by decide) rfl rfl cb_10 (by decide) gw_240 ?_
  refine aw_icmp_ge 107 dX10_passDay_19 rfl rfl (fun c => ?_) (fun c => ?_)
  · replace k := k.1 c
    refine aw_aload_n (j := 0) (i := 0) dX10_passDay_107 rfl rfl rfl ?_
    refine aw_geti (k := 1) dX10_passDay_108 rfl (by decide) rfl rfl cb_10 (by decide) gw_240 ?_
    refine aw_iload_n (j := 1) (i := 1) dX10_passDay_111 rfl rfl rfl ?_
    refine aw_isub dX10_passDay_112 rfl ?_
    refine aw_istore_n (i := 2) (L2 := [(2, vI ((h.1 10 i0 1) - x1)), (0, vR 10 i0), (1, vI x1)]) dX10_passDay_113 rfl rfl (by decide) rfl ?_
    refine aw_aload_n (j := 1) (i := 0) dX10_passDay_114 rfl rfl rfl ?_
    refine aw_iload_n (j := 2) (i := 1) dX10_passDay_115 rfl rfl rfl ?_
    refine aw_puti (k := 1) dX10_passDay_116 rfl (by decide) rfl rfl cb_10 (by decide) rfl rfl gw_240 ?_
    refine aw_iload_n (j := 0) (i := 2) dX10_passDay_119 rfl rfl rfl ?_
    exact aw_iret dX10_passDay_120 rfl k
  · replace k := k.2 c
    refine aw_aload_n (j := 0) (i := 0) dX10_passDay_22 rfl rfl rfl ?_
    refine aw_getf (k := 6) (z := 52) dX10_passDay_23 rfl (by decide) rfl rfl rfl cb_10 (by decide) gw_246 ?_
    refine aw_iload_n (j := 2) (i := 2) dX10_passDay_26 rfl rfl rfl ?_
    refine aw_iald dX10_passDay_27 rfl (by decide) rfl k.1 ?_
    replace k := k.2
    refine aw_aload_n (j := 0) (i := 0) dX10_passDay_28 rfl rfl rfl ?_
    refine aw_geti (k := 0) dX10_passDay_29 rfl (by decide) rfl rfl cb_10 (by decide) gw_237 ?_
    refine aw_icmp_ne 62 dX10_passDay_32 rfl rfl (fun c => ?_) (fun c => ?_)
    · replace k := k.1 c
      refine aw_aload_n (j := 0) (i := 0) dX10_passDay_62 rfl rfl rfl ?_
      refine aw_getf (k := 4) (z := 50) dX10_passDay_63 rfl (by decide) rfl rfl rfl cb_10 (by decide) gw_244 ?_
      refine aw_iload_n (j := 1) (i := 1) dX10_passDay_66 rfl rfl rfl ?_
      refine aw_aload_n (j := 0) (i := 0) dX10_passDay_67 rfl rfl rfl ?_
      refine aw_getf (k := 4) (z := 50) dX10_passDay_68 rfl (by decide) rfl rfl rfl cb_10 (by decide) gw_244 ?_
      refine aw_iload_n (j := 2) (i := 2) dX10_passDay_71 rfl rfl rfl ?_
      refine aw_iald dX10_passDay_72 rfl (by decide) rfl k.1 ?_
      replace k := k.2
      refine aw_iast dX10_passDay_73 rfl (by decide) rfl k.1 ?_
      replace k := k.2
      refine aw_aload_n (j := 0) (i := 0) dX10_passDay_74 rfl rfl rfl ?_
      refine aw_getf (k := 5) (z := 51) dX10_passDay_75 rfl (by decide) rfl rfl rfl cb_10 (by decide) gw_245 ?_
      refine aw_iload_n (j := 1) (i := 1) dX10_passDay_78 rfl rfl rfl ?_
      refine aw_aload_n (j := 0) (i := 0) dX10_passDay_79 rfl rfl rfl ?_
      refine aw_getf (k := 5) (z := 51) dX10_passDay_80 rfl (by decide) rfl rfl rfl cb_10 (by decide) gw_245 ?_
      refine aw_iload_n (j := 2) (i := 2) dX10_passDay_83 rfl rfl rfl ?_
      refine aw_iald dX10_passDay_84 rfl (by decide) rfl k.1 ?_
      replace k := k.2
      refine aw_iast dX10_passDay_85 rfl (by decide) rfl k.1 ?_
      replace k := k.2
      refine aw_aload_n (j := 0) (i := 0) dX10_passDay_86 rfl rfl rfl ?_
      refine aw_getf (k := 6) (z := 52) dX10_passDay_87 rfl (by decide) rfl rfl rfl cb_10 (by decide) gw_246 ?_
      refine aw_iload_n (j := 1) (i := 1) dX10_passDay_90 rfl rfl rfl ?_
      refine aw_aload_n (j := 0) (i := 0) dX10_passDay_91 rfl rfl rfl ?_
      refine aw_getf (k := 6) (z := 52) dX10_passDay_92 rfl (by decide) rfl rfl rfl cb_10 (by decide) gw_246 ?_
      refine aw_iload_n (j := 2) (i := 2) dX10_passDay_95 rfl rfl rfl ?_
      refine aw_iald dX10_passDay_96 rfl (by decide) rfl k.1 ?_
      replace k := k.2
      refine aw_iast dX10_passDay_97 rfl (by decide) rfl k.1 ?_
      replace k := k.2
      refine aw_iinc (i := 1) (j := 1) (v := x1 + 1) (L2 := [(1, vI (x1 + 1)), (0, vR 10 i0), (2, vI x2)]) dX10_passDay_98 rfl (by decide) rfl rfl rfl ?_
      refine aw_iinc (i := 2) (j := 2) (v := x2 + 1) (L2 := [(2, vI (x2 + 1)), (1, vI (x1 + 1)), (0, vR 10 i0)]) dX10_passDay_101 rfl (by decide) rfl rfl rfl ?_
      refine aw_goto 14 dX10_passDay_104 rfl ?_
      exact aw_sub [2, 1, 0] rfl k
    · replace k := k.2 c
      refine aw_aload_n (j := 0) (i := 0) dX10_passDay_35 rfl rfl rfl ?_
      refine aw_getf (k := 4) (z := 50) dX10_passDay_36 rfl (by decide) rfl rfl rfl cb_10 (by decide) gw_244 ?_
      refine aw_iload_n (j := 2) (i := 2) dX10_passDay_39 rfl rfl rfl ?_
      refine aw_iald dX10_passDay_40 rfl (by decide) rfl k.1 ?_
      replace k := k.2
      refine aw_istore_n (i := 3) (L2 := [(3, vI (h.1 50 i0 x2.toNatClampNeg)), (0, vR 10 i0), (1, vI x1), (2, vI x2)]) dX10_passDay_41 rfl rfl (by decide) rfl ?_
      refine aw_aload_n (j := 1) (i := 0) dX10_passDay_42 rfl rfl rfl ?_
      refine aw_iload_n (j := 0) (i := 3) dX10_passDay_43 rfl rfl rfl ?_
      refine aw_aload_n (j := 1) (i := 0) dX10_passDay_44 rfl rfl rfl ?_
      refine aw_iload_n (j := 0) (i := 3) dX10_passDay_45 rfl rfl rfl ?_
      refine aw_callV (M' := mX10_stockOf) (S := [vI (h.1 50 i0 x2.toNatClampNeg), vR 10 i0]) (as := [vI (h.1 50 i0 x2.toNatClampNeg)]) (k := 0) dX10_passDay_46 rfl (by decide) rfl rfl gw_516 gw_517 gw_518 mb_X10_stockOf rfl (Nat.zero_le _) (Nat.le_of_ble_eq_true rfl) rfl (CL.imp k (fun _ h1 k => ?_) (fun _ _ k => k))
      obtain ⟨r2, rfl, k⟩ := oI_of k
      show AW X (d + 1) rb mX10_passDay 49 _ [vI r2, vI (h.1 50 i0 x2.toNatClampNeg), vR 10 i0] h1 Qr Qx
      refine aw_aload_n (j := 1) (i := 0) dX10_passDay_49 rfl rfl rfl ?_
      refine aw_getf (k := 5) (z := 51) dX10_passDay_50 rfl (by decide) rfl rfl rfl cb_10 (by decide) gw_245 ?_
      refine aw_iload_n (j := 3) (i := 2) dX10_passDay_53 rfl rfl rfl ?_
      refine aw_iald dX10_passDay_54 rfl (by decide) rfl k.1 ?_
      replace k := k.2
      refine aw_iadd dX10_passDay_55 rfl ?_
      refine aw_callV (M' := mX10_setStock) (S := []) (as := [vI (h.1 50 i0 x2.toNatClampNeg), vI (r2 + (h1.1 51 i0 x2.toNatClampNeg))]) (k := 0) dX10_passDay_56 rfl (by decide) rfl rfl gw_1502 gw_886 gw_887 mb_X10_setStock rfl (Nat.zero_le _) (Nat.le_of_ble_eq_true rfl) rfl (CL.imp k (fun _ h3 k => ?_) (fun _ _ k => k))
      obtain ⟨rfl, k⟩ := oV_of k
      show AW X (d + 1) rb mX10_passDay 59 _ [] h3 Qr Qx
      refine aw_goto 101 dX10_passDay_59 rfl ?_
      refine aw_iinc (i := 2) (j := 3) (v := x2 + 1) (L2 := [(2, vI (x2 + 1)), (3, vI (h.1 50 i0 x2.toNatClampNeg)), (0, vR 10 i0), (1, vI x1)]) dX10_passDay_101 rfl (by decide) rfl rfl rfl ?_
      refine aw_goto 14 dX10_passDay_104 rfl ?_
      exact aw_sub [2, 3, 0] rfl k
set_option maxHeartbeats 4000000 in
set_option maxRecDepth 100000 in
theorem vc_X10_allArriving_0 {X : WD → State → Prop} {d rb : Nat} {h : Hp} {Qr : Option AV → Hp → Prop} {Qx : String → Hp → Prop} {i0 : Nat} {a1 : Int32}  (k : CL 0 d mX10_arrivingUntil [vR 10 i0, vI a1, vI ((h.1 10 i0 0) + 60)] h (oI fun r2 h1 => Qr (some (vI r2)) h1) Qx) : AW X (d + 1) rb mX10_allArriving 0 [(0, vR 10 i0), (1, vI a1)] [] h Qr Qx := by
  refine aw_aload_n (j := 0) (i := 0) dX10_allArriving_0 rfl rfl rfl ?_
  refine aw_iload_n (j := 1) (i := 1) dX10_allArriving_1 rfl rfl rfl ?_
  refine aw_aload_n (j := 0) (i := 0) dX10_allArriving_2 rfl rfl rfl ?_
  refine aw_geti (k := 0) dX10_allArriving_3 rfl (by decide) rfl rfl cb_10 (by decide) gw_237 ?_
  refine aw_bipush (v := 60) dX10_allArriving_6 rfl (by decide) ?_
  refine aw_iadd dX10_allArriving_8 rfl ?_
  refine aw_callV (M' := mX10_arrivingUntil) (S := []) (as := [vI a1, vI ((h.1 10 i0 0) + 60)]) (k := 0) dX10_allArriving_9 rfl (by decide) rfl rfl gw_529 gw_531 gw_1 mb_X10_arrivingUntil rfl (Nat.zero_le _) (Nat.le_of_ble_eq_true rfl) rfl (CL.imp k (fun _ h1 k => ?_) (fun _ _ k => k))
  obtain ⟨r2, rfl, k⟩ := oI_of k
  show AW X (d + 1) rb mX10_allArriving 12 _ [vI r2] h1 Qr Qx
  exact aw_iret dX10_allArriving_12 rfl k
set_option maxHeartbeats 4000000 in
set_option maxRecDepth 100000 in
theorem vc_X10_arrivingUntil_0 {X : WD → State → Prop} {d rb : Nat} {h : Hp} {Qr : Option AV → Hp → Prop} {Qx : String → Hp → Prop} {i0 : Nat} {a1 : Int32} {a2 : Int32}  (k : AW X (d + 1) rb mX10_arrivingUntil 5 [(0, vR 10 i0), (1, vI a1), (2, vI a2), (3, vI 0), (4, vI 0)] [] h Qr Qx) : AW X (d + 1) rb mX10_arrivingUntil 0 [(0, vR 10 i0), (1, vI a1), (2, vI a2)] [] h Qr Qx := by
  refine aw_iconst (v := 0) dX10_arrivingUntil_0 rfl (by decide) ?_
  refine aw_istore_n (i := 3) (L2 := [(3, vI 0), (0, vR 10 i0), (1, vI a1), (2, vI a2)]) dX10_arrivingUntil_1 rfl rfl (by decide) rfl ?_
  refine aw_iconst (v := 0) dX10_arrivingUntil_2 rfl (by decide) ?_
  refine aw_istore (i := 4) (L2 := [(4, vI 0), (3, vI 0), (0, vR 10 i0), (1, vI a1), (2, vI a2)]) dX10_arrivingUntil_3 rfl (by decide) rfl ?_
  exact aw_sub [2, 3, 4, 1, 0] rfl k
set_option maxHeartbeats 4000000 in
set_option maxRecDepth 100000 in
theorem vc_X10_arrivingUntil_5 {X : WD → State → Prop} {d rb : Nat} {h : Hp} {Qr : Option AV → Hp → Prop} {Qx : String → Hp → Prop} {i0 : Nat} {x1 : Int32} {x2 : Int32} {x3 : Int32} {x4 : Int32}  (k : (((h.1 10 i0 1) ≤ x4) → Qr (some (vI x3)) h) ∧ ((¬ (h.1 10 i0 1) ≤ x4) → (vp_in x4 20) ∧ ((¬ (h.1 50 i0 x4.toNatClampNeg) = x1) → AW X (d + 1) rb mX10_arrivingUntil 5 [(0, vR 10 i0), (1, vI x1), (2, vI x2), (3, vI x3), (4, vI (x4 + 1))] [] h Qr Qx) ∧ (((h.1 50 i0 x4.toNatClampNeg) = x1) → (vp_in x4 20) ∧ ((x2 < (h.1 52 i0 x4.toNatClampNeg)) → AW X (d + 1) rb mX10_arrivingUntil 5 [(0, vR 10 i0), (1, vI x1), (2, vI x2), (3, vI x3), (4, vI (x4 + 1))] [] h Qr Qx) ∧ ((¬ x2 < (h.1 52 i0 x4.toNatClampNeg)) → (vp_in x4 20) ∧ AW X (d + 1) rb mX10_arrivingUntil 5 [(0, vR 10 i0), (1, vI x1), (2, vI x2), (3, vI (x3 + (h.1 51 i0 x4.toNatClampNeg))), (4, vI (x4 + 1))] [] h Qr Qx)))) : AW X (d + 1) rb mX10_arrivingUntil 5 [(0, vR 10 i0), (1, vI x1), (2, vI x2), (3, vI x3), (4, vI x4)] [] h Qr Qx := by
  refine aw_iload (j := 4) (i := 4) dX10_arrivingUntil_5 rfl rfl ?_
  refine aw_aload_n (j := 0) (i := 0) dX10_arrivingUntil_7 rfl rfl rfl ?_
  refine aw_geti (k := 1) dX10_arrivingUntil_8 rfl (by decide) rfl rfl cb_10 (by decide) gw_240 ?_
  refine aw_icmp_ge 52 dX10_arrivingUntil_11 rfl rfl (fun c => ?_) (fun c => ?_)
  · replace k := k.1 c
    refine aw_iload_n (j := 3) (i := 3) dX10_arrivingUntil_52 rfl rfl rfl ?_
    exact aw_iret dX10_arrivingUntil_53 rfl k
  · replace k := k.2 c
    refine aw_aload_n (j := 0) (i := 0) dX10_arrivingUntil_14 rfl rfl rfl ?_
    refine aw_getf (k := 4) (z := 50) dX10_arrivingUntil_15 rfl (by decide) rfl rfl rfl cb_10 (by decide) gw_244 ?_
    refine aw_iload (j := 4) (i := 4) dX10_arrivingUntil_18 rfl rfl ?_
    refine aw_iald dX10_arrivingUntil_20 rfl (by decide) rfl k.1 ?_
    replace k := k.2
    refine aw_iload_n (j := 1) (i := 1) dX10_arrivingUntil_21 rfl rfl rfl ?_
    refine aw_icmp_ne 46 dX10_arrivingUntil_22 rfl rfl (fun c => ?_) (fun c => ?_)
    · replace k := k.1 c
      refine aw_iinc (i := 4) (j := 4) (v := x4 + 1) (L2 := [(4, vI (x4 + 1)), (0, vR 10 i0), (1, vI x1), (2, vI x2), (3, vI x3)]) dX10_arrivingUntil_46 rfl (by decide) rfl rfl rfl ?_
      refine aw_goto 5 dX10_arrivingUntil_49 rfl ?_
      exact aw_sub [1, 2, 3, 4, 0] rfl k
    · replace k := k.2 c
      refine aw_aload_n (j := 0) (i := 0) dX10_arrivingUntil_25 rfl rfl rfl ?_
      refine aw_getf (k := 6) (z := 52) dX10_arrivingUntil_26 rfl (by decide) rfl rfl rfl cb_10 (by decide) gw_246 ?_
      refine aw_iload (j := 4) (i := 4) dX10_arrivingUntil_29 rfl rfl ?_
      refine aw_iald dX10_arrivingUntil_31 rfl (by decide) rfl k.1 ?_
      replace k := k.2
      refine aw_iload_n (j := 2) (i := 2) dX10_arrivingUntil_32 rfl rfl rfl ?_
      refine aw_icmp_gt 46 dX10_arrivingUntil_33 rfl rfl (fun c => ?_) (fun c => ?_)
      · replace k := k.1 c
        refine aw_iinc (i := 4) (j := 4) (v := x4 + 1) (L2 := [(4, vI (x4 + 1)), (0, vR 10 i0), (1, vI x1), (2, vI x2), (3, vI x3)]) dX10_arrivingUntil_46 rfl (by decide) rfl rfl rfl ?_
        refine aw_goto 5 dX10_arrivingUntil_49 rfl ?_
        exact aw_sub [1, 2, 3, 4, 0] rfl k
      · replace k := k.2 c
        refine aw_iload_n (j := 3) (i := 3) dX10_arrivingUntil_36 rfl rfl rfl ?_
        refine aw_aload_n (j := 0) (i := 0) dX10_arrivingUntil_37 rfl rfl rfl ?_
        refine aw_getf (k := 5) (z := 51) dX10_arrivingUntil_38 rfl (by decide) rfl rfl rfl cb_10 (by decide) gw_245 ?_
        refine aw_iload (j := 4) (i := 4) dX10_arrivingUntil_41 rfl rfl ?_
        refine aw_iald dX10_arrivingUntil_43 rfl (by decide) rfl k.1 ?_
        replace k := k.2
        refine aw_iadd dX10_arrivingUntil_44 rfl ?_
        refine aw_istore_n (i := 3) (L2 := [(3, vI (x3 + (h.1 51 i0 x4.toNatClampNeg))), (0, vR 10 i0), (1, vI x1), (2, vI x2), (4, vI x4)]) dX10_arrivingUntil_45 rfl rfl (by decide) rfl ?_
        refine aw_iinc (i := 4) (j := 4) (v := x4 + 1) (L2 := [(4, vI (x4 + 1)), (3, vI (x3 + (h.1 51 i0 x4.toNatClampNeg))), (0, vR 10 i0), (1, vI x1), (2, vI x2)]) dX10_arrivingUntil_46 rfl (by decide) rfl rfl rfl ?_
        refine aw_goto 5 dX10_arrivingUntil_49 rfl ?_
        exact aw_sub [2, 3, 4, 1, 0] rfl k
set_option maxHeartbeats 4000000 in
set_option maxRecDepth 100000 in
theorem vc_X10_earliestArrival_0 {X : WD → State → Prop} {d rb : Nat} {h : Hp} {Qr : Option AV → Hp → Prop} {Qx : String → Hp → Prop} {i0 : Nat} {a1 : Int32}  (k : AW X (d + 1) rb mX10_earliestArrival 4 [(0, vR 10 i0), (1, vI a1), (2, vI (-1)), (3, vI 0)] [] h Qr Qx) : AW X (d + 1) rb mX10_earliestArrival 0 [(0, vR 10 i0), (1, vI a1)] [] h Qr Qx := by
  refine aw_iconst (v := (-1)) dX10_earliestArrival_0 rfl (by decide) ?_
  refine aw_istore_n (i := 2) (L2 := [(2, vI (-1)), (0, vR 10 i0), (1, vI a1)]) dX10_earliestArrival_1 rfl rfl (by decide) rfl ?_
  refine aw_iconst (v := 0) dX10_earliestArrival_2 rfl (by decide) ?_
  refine aw_istore_n (i := 3) (L2 := [(3, vI 0), (2, vI (-1)), (0, vR 10 i0), (1, vI a1)]) dX10_earliestArrival_3 rfl rfl (by decide) rfl ?_
  exact aw_sub [2, 3, 1, 0] rfl k
set_option maxHeartbeats 4000000 in
set_option maxRecDepth 100000 in
theorem vc_X10_earliestArrival_4 {X : WD → State → Prop} {d rb : Nat} {h : Hp} {Qr : Option AV → Hp → Prop} {Qx : String → Hp → Prop} {i0 : Nat} {x1 : Int32} {x2 : Int32} {x3 : Int32}  (k : (((h.1 10 i0 1) ≤ x3) → Qr (some (vI x2)) h) ∧ ((¬ (h.1 10 i0 1) ≤ x3) → (vp_in x3 20) ∧ ((¬ (h.1 50 i0 x3.toNatClampNeg) = x1) → AW X (d + 1) rb mX10_earliestArrival 4 [(0, vR 10 i0), (1, vI x1), (2, vI x2), (3, vI (x3 + 1))] [] h Qr Qx) ∧ (((h.1 50 i0 x3.toNatClampNeg) = x1) → ((x2 = (-1)) → (vp_in x3 20) ∧ AW X (d + 1) rb mX10_earliestArrival 4 [(0, vR 10 i0), (1, vI x1), (2, vI (h.1 52 i0 x3.toNatClampNeg)), (3, vI (x3 + 1))] [] h Qr Qx) ∧ ((¬ x2 = (-1)) → (vp_in x3 20) ∧ ((x2 ≤ (h.1 52 i0 x3.toNatClampNeg)) → AW X (d + 1) rb mX10_earliestArrival 4 [(0, vR 10 i0), (1, vI x1), (2, vI x2), (3, vI (x3 + 1))] [] h Qr Qx) ∧ ((¬ x2 ≤ (h.1 52 i0 x3.toNatClampNeg)) → (vp_in x3 20) ∧ AW X (d + 1) rb mX10_earliestArrival 4 [(0, vR 10 i0), (1, vI x1), (2, vI (h.1 52 i0 x3.toNatClampNeg)), (3, vI (x3 + 1))] [] h Qr Qx))))) : AW X (d + 1) rb mX10_earliestArrival 4 [(0, vR 10 i0), (1, vI x1), (2, vI x2), (3, vI x3)] [] h Qr Qx := by
  refine aw_iload_n (j := 3) (i := 3) dX10_earliestArrival_4 rfl rfl rfl ?_
  refine aw_aload_n (j := 0) (i := 0) dX10_earliestArrival_5 rfl rfl rfl ?_
  refine aw_geti (k := 1) dX10_earliestArrival_6 rfl (by decide) rfl rfl cb_10 (by decide) gw_240 ?_
  refine aw_icmp_ge 50 dX10_earliestArrival_9 rfl rfl (fun c => ?_) (fun c => ?_)
  · replace k := k.1 c
    refine aw_iload_n (j := 2) (i := 2) dX10_earliestArrival_50 rfl rfl rfl ?_
    exact aw_iret dX10_earliestArrival_51 rfl k
  · replace k := k.2 c
    refine aw_aload_n (j := 0) (i := 0) dX10_earliestArrival_12 rfl rfl rfl ?_
    refine aw_getf (k := 4) (z := 50) dX10_earliestArrival_13 rfl (by decide) rfl rfl rfl cb_10 (by decide) gw_244 ?_
    refine aw_iload_n (j := 3) (i := 3) dX10_earliestArrival_16 rfl rfl rfl ?_
    refine aw_iald dX10_earliestArrival_17 rfl (by decide) rfl k.1 ?_
    replace k := k.2
    refine aw_iload_n (j := 1) (i := 1) dX10_earliestArrival_18 rfl rfl rfl ?_
    refine aw_icmp_ne 44 dX10_earliestArrival_19 rfl rfl (fun c => ?_) (fun c => ?_)
    · replace k := k.1 c
      refine aw_iinc (i := 3) (j := 3) (v := x3 + 1) (L2 := [(3, vI (x3 + 1)), (0, vR 10 i0), (1, vI x1), (2, vI x2)]) dX10_earliestArrival_44 rfl (by decide) rfl rfl rfl ?_
      refine aw_goto 4 dX10_earliestArrival_47 rfl ?_
      exact aw_sub [1, 2, 3, 0] rfl k
    · replace k := k.2 c
      refine aw_iload_n (j := 2) (i := 2) dX10_earliestArrival_22 rfl rfl rfl ?_
      refine aw_iconst (v := (-1)) dX10_earliestArrival_23 rfl (by decide) ?_
      refine aw_icmp_eq 37 dX10_earliestArrival_24 rfl rfl (fun c => ?_) (fun c => ?_)
      · replace k := k.1 c
        refine aw_aload_n (j := 0) (i := 0) dX10_earliestArrival_37 rfl rfl rfl ?_
        refine aw_getf (k := 6) (z := 52) dX10_earliestArrival_38 rfl (by decide) rfl rfl rfl cb_10 (by decide) gw_246 ?_
        refine aw_iload_n (j := 3) (i := 3) dX10_earliestArrival_41 rfl rfl rfl ?_
        refine aw_iald dX10_earliestArrival_42 rfl (by decide) rfl k.1 ?_
        replace k := k.2
        refine aw_istore_n (i := 2) (L2 := [(2, vI (h.1 52 i0 x3.toNatClampNeg)), (0, vR 10 i0), (1, vI x1), (3, vI x3)]) dX10_earliestArrival_43 rfl rfl (by decide) rfl ?_
        refine aw_iinc (i := 3) (j := 3) (v := x3 + 1) (L2 := [(3, vI (x3 + 1)), (2, vI (h.1 52 i0 x3.toNatClampNeg)), (0, vR 10 i0), (1, vI x1)]) dX10_earliestArrival_44 rfl (by decide) rfl rfl rfl ?_
        refine aw_goto 4 dX10_earliestArrival_47 rfl ?_
        exact aw_sub [2, 3, 1, 0] rfl k
      · replace k := k.2 c
        refine aw_aload_n (j := 0) (i := 0) dX10_earliestArrival_27 rfl rfl rfl ?_
        refine aw_getf (k := 6) (z := 52) dX10_earliestArrival_28 rfl (by decide) rfl rfl rfl cb_10 (by decide) gw_246 ?_
        refine aw_iload_n (j := 3) (i := 3) dX10_earliestArrival_31 rfl rfl rfl ?_
        refine aw_iald dX10_earliestArrival_32 rfl (by decide) rfl k.1 ?_
        replace k := k.2
        refine aw_iload_n (j := 2) (i := 2) dX10_earliestArrival_33 rfl rfl rfl ?_
        refine aw_icmp_ge 44 dX10_earliestArrival_34 rfl rfl (fun c => ?_) (fun c => ?_)
        · replace k := k.1 c
          refine aw_iinc (i := 3) (j := 3) (v := x3 + 1) (L2 := [(3, vI (x3 + 1)), (0, vR 10 i0), (1, vI x1), (2, vI x2)]) dX10_earliestArrival_44 rfl (by decide) rfl rfl rfl ?_
          refine aw_goto 4 dX10_earliestArrival_47 rfl ?_
          exact aw_sub [1, 2, 3, 0] rfl k
        · replace k := k.2 c
          refine aw_aload_n (j := 0) (i := 0) dX10_earliestArrival_37 rfl rfl rfl ?_
          refine aw_getf (k := 6) (z := 52) dX10_earliestArrival_38 rfl (by decide) rfl rfl rfl cb_10 (by decide) gw_246 ?_
          refine aw_iload_n (j := 3) (i := 3) dX10_earliestArrival_41 rfl rfl rfl ?_
          refine aw_iald dX10_earliestArrival_42 rfl (by decide) rfl k.1 ?_
          replace k := k.2
          refine aw_istore_n (i := 2) (L2 := [(2, vI (h.1 52 i0 x3.toNatClampNeg)), (0, vR 10 i0), (1, vI x1), (3, vI x3)]) dX10_earliestArrival_43 rfl rfl (by decide) rfl ?_
          refine aw_iinc (i := 3) (j := 3) (v := x3 + 1) (L2 := [(3, vI (x3 + 1)), (2, vI (h.1 52 i0 x3.toNatClampNeg)), (0, vR 10 i0), (1, vI x1)]) dX10_earliestArrival_44 rfl (by decide) rfl rfl rfl ?_
          refine aw_goto 4 dX10_earliestArrival_47 rfl ?_
          exact aw_sub [2, 3, 1, 0] rfl k
set_option maxHeartbeats 4000000 in
set_option maxRecDepth 100000 in
theorem vc_X10_dayFor_0 {X : WD → State → Prop} {d rb : Nat} {h : Hp} {Qr : Option AV → Hp → Prop} {Qx : String → Hp → Prop} {i0 : Nat} {a1 : Int32} {a2 : Int32} {a3 : Int32}  (k : CL 0 d mX10_freeOf [vR 10 i0, vI a1] h (oI fun r2 h1 => ((0 < (a2 - r2)) → AW X (d + 1) rb mX10_dayFor 30 [(0, vR 10 i0), (1, vI a1), (2, vI a2), (3, vI a3), (4, vI (a2 - r2)), (5, vI ((h1.1 10 i0 0) + a3)), (6, vI 0)] [] h1 Qr Qx) ∧ ((¬ 0 < (a2 - r2)) → Qr (some (vI (h1.1 10 i0 0))) h1)) Qx) : AW X (d + 1) rb mX10_dayFor 0 [(0, vR 10 i0), (1, vI a1), (2, vI a2), (3, vI a3)] [] h Qr Qx := by
  refine aw_iload_n (j := 2) (i := 2) dX10_dayFor_0 rfl rfl rfl ?_
  refine aw_aload_n (j := 0) (i := 0) dX10_dayFor_1 rfl rfl rfl ?_
  refine aw_iload_n (j := 1) (i := 1) dX10_dayFor_2 rfl rfl rfl ?_
  refine aw_callV (M' := mX10_freeOf) (S := [vI a2]) (as := [vI a1]) (k := 0) dX10_dayFor_3 rfl (by decide) rfl rfl gw_560 gw_513 gw_514 mb_X10_freeOf rfl (Nat.zero_le _) (Nat.le_of_ble_eq_true rfl) rfl (CL.imp k (fun _ h1 k => ?_) (fun _ _ k => k))
  obtain ⟨r2, rfl, k⟩ := oI_of k
  show AW X (d + 1) rb mX10_dayFor 6 _ [vI r2, vI a2] h1 Qr Qx
  refine aw_isub dX10_dayFor_6 rfl ?_
  refine aw_istore (i := 4) (L2 := [(4, vI (a2 - r2)), (0, vR 10 i0), (1, vI a1), (2, vI a2), (3, vI a3)]) dX10_dayFor_7 rfl (by decide) rfl ?_
  refine aw_iload (j := 0) (i := 4) dX10_dayFor_9 rfl rfl ?_
  refine aw_if_gt 19 dX10_dayFor_11 rfl rfl (fun c => ?_) (fun c => ?_)
  · replace k := k.1 c
    refine aw_aload_n (j := 1) (i := 0) dX10_dayFor_19 rfl rfl rfl ?_
    refine aw_geti (k := 0) dX10_dayFor_20 rfl (by decide) rfl rfl cb_10 (by decide) gw_237 ?_
    refine aw_iload_n (j := 4) (i := 3) dX10_dayFor_23 rfl rfl rfl ?_
    refine aw_iadd dX10_dayFor_24 rfl ?_
    refine aw_istore (i := 5) (L2 := [(5, vI ((h1.1 10 i0 0) + a3)), (4, vI (a2 - r2)), (0, vR 10 i0), (1, vI a1), (2, vI a2), (3, vI a3)]) dX10_dayFor_25 rfl (by decide) rfl ?_
    refine aw_iconst (v := 0) dX10_dayFor_27 rfl (by decide) ?_
    refine aw_istore (i := 6) (L2 := [(6, vI 0), (5, vI ((h1.1 10 i0 0) + a3)), (4, vI (a2 - r2)), (0, vR 10 i0), (1, vI a1), (2, vI a2), (3, vI a3)]) dX10_dayFor_28 rfl (by decide) rfl ?_
    exact aw_sub [3, 4, 5, 6, 2, 1, 0] rfl k
  · replace k := k.2 c
    refine aw_aload_n (j := 1) (i := 0) dX10_dayFor_14 rfl rfl rfl ?_
    refine aw_geti (k := 0) dX10_dayFor_15 rfl (by decide) rfl rfl cb_10 (by decide) gw_237 ?_
    exact aw_iret dX10_dayFor_18 rfl k
set_option maxHeartbeats 4000000 in
set_option maxRecDepth 100000 in
theorem vc_X10_dayFor_30 {X : WD → State → Prop} {d rb : Nat} {h : Hp} {Qr : Option AV → Hp → Prop} {Qx : String → Hp → Prop} {i0 : Nat} {x1 : Int32} {x2 : Int32} {x3 : Int32} {x4 : Int32} {x5 : Int32} {x6 : Int32}  (k : (((h.1 10 i0 1) ≤ x6) → Qr (some (vI x5)) h) ∧ ((¬ (h.1 10 i0 1) ≤ x6) → (vp_in x6 20) ∧ ((x5 ≤ (h.1 52 i0 x6.toNatClampNeg)) → AW X (d + 1) rb mX10_dayFor 30 [(0, vR 10 i0), (1, vI x1), (2, vI x2), (3, vI x3), (4, vI x4), (5, vI x5), (6, vI (x6 + 1))] [] h Qr Qx) ∧ ((¬ x5 ≤ (h.1 52 i0 x6.toNatClampNeg)) → CL 0 d mX10_arrivingUntil [vR 10 i0, vI x1, vI (h.1 52 i0 x6.toNatClampNeg)] h (oI fun r2 h1 => ((r2 < x4) → AW X (d + 1) rb mX10_dayFor 30 [(0, vR 10 i0), (1, vI x1), (2, vI x2), (3, vI x3), (4, vI x4), (5, vI x5), (6, vI (x6 + 1))] [] h1 Qr Qx) ∧ ((¬ r2 < x4) → AW X (d + 1) rb mX10_dayFor 30 [(0, vR 10 i0), (1, vI x1), (2, vI x2), (3, vI x3), (4, vI x4), (5, vI (h.1 52 i0 x6.toNatClampNeg)), (6, vI (x6 + 1))] [] h1 Qr Qx)) Qx))) : AW X (d + 1) rb mX10_dayFor 30 [(0, vR 10 i0), (1, vI x1), (2, vI x2), (3, vI x3), (4, vI x4), (5, vI x5), (6, vI x6)] [] h Qr Qx := by
  refine aw_iload (j := 6) (i := 6) dX10_dayFor_30 rfl rfl ?_
  refine aw_aload_n (j := 0) (i := 0) dX10_dayFor_32 rfl rfl rfl ?_
  refine aw_geti (k := 1) dX10_dayFor_33 rfl (by decide) rfl rfl cb_10 (by decide) gw_240 ?_
  refine aw_icmp_ge 77 dX10_dayFor_36 rfl rfl (fun c => ?_) (fun c => ?_)
  · replace k := k.1 c
    refine aw_iload (j := 5) (i := 5) dX10_dayFor_77 rfl rfl ?_
    exact aw_iret dX10_dayFor_79 rfl k
  · replace k := k.2 c
    refine aw_aload_n (j := 0) (i := 0) dX10_dayFor_39 rfl rfl rfl ?_
    refine aw_getf (k := 6) (z := 52) dX10_dayFor_40 rfl (by decide) rfl rfl rfl cb_10 (by decide) gw_246 ?_
    refine aw_iload (j := 6) (i := 6) dX10_dayFor_43 rfl rfl ?_
    refine aw_iald dX10_dayFor_45 rfl (by decide) rfl k.1 ?_
    replace k := k.2
    refine aw_istore (i := 7) (L2 := [(7, vI (h.1 52 i0 x6.toNatClampNeg)), (0, vR 10 i0), (1, vI x1), (2, vI x2), (3, vI x3), (4, vI x4), (5, vI x5), (6, vI x6)]) dX10_dayFor_46 rfl (by decide) rfl ?_
    refine aw_iload (j := 0) (i := 7) dX10_dayFor_48 rfl rfl ?_
    refine aw_iload (j := 6) (i := 5) dX10_dayFor_50 rfl rfl ?_
    refine aw_icmp_ge 71 dX10_dayFor_52 rfl rfl (fun c => ?_) (fun c => ?_)
    · replace k := k.1 c
      refine aw_iinc (i := 6) (j := 7) (v := x6 + 1) (L2 := [(6, vI (x6 + 1)), (7, vI (h.1 52 i0 x6.toNatClampNeg)), (0, vR 10 i0), (1, vI x1), (2, vI x2), (3, vI x3), (4, vI x4), (5, vI x5)]) dX10_dayFor_71 rfl (by decide) rfl rfl rfl ?_
      refine aw_goto 30 dX10_dayFor_74 rfl ?_
      exact aw_sub [2, 3, 4, 5, 6, 7, 0] rfl k
    · replace k := k.2 c
      refine aw_aload_n (j := 1) (i := 0) dX10_dayFor_55 rfl rfl rfl ?_
      refine aw_iload_n (j := 2) (i := 1) dX10_dayFor_56 rfl rfl rfl ?_
      refine aw_iload (j := 0) (i := 7) dX10_dayFor_57 rfl rfl ?_
      refine aw_callV (M' := mX10_arrivingUntil) (S := []) (as := [vI x1, vI (h.1 52 i0 x6.toNatClampNeg)]) (k := 0) dX10_dayFor_59 rfl (by decide) rfl rfl gw_529 gw_531 gw_1 mb_X10_arrivingUntil rfl (Nat.zero_le _) (Nat.le_of_ble_eq_true rfl) rfl (CL.imp k (fun _ h1 k => ?_) (fun _ _ k => k))
      obtain ⟨r2, rfl, k⟩ := oI_of k
      show AW X (d + 1) rb mX10_dayFor 62 _ [vI r2] h1 Qr Qx
      refine aw_iload (j := 5) (i := 4) dX10_dayFor_62 rfl rfl ?_
      refine aw_icmp_lt 71 dX10_dayFor_64 rfl rfl (fun c => ?_) (fun c => ?_)
      · replace k := k.1 c
        refine aw_iinc (i := 6) (j := 7) (v := x6 + 1) (L2 := [(6, vI (x6 + 1)), (7, vI (h.1 52 i0 x6.toNatClampNeg)), (0, vR 10 i0), (1, vI x1), (2, vI x2), (3, vI x3), (4, vI x4), (5, vI x5)]) dX10_dayFor_71 rfl (by decide) rfl rfl rfl ?_
        refine aw_goto 30 dX10_dayFor_74 rfl ?_
        exact aw_sub [2, 3, 4, 5, 6, 7, 0] rfl k
      · replace k := k.2 c
        refine aw_iload (j := 0) (i := 7) dX10_dayFor_67 rfl rfl ?_
        refine aw_istore (i := 5) (L2 := [(5, vI (h.1 52 i0 x6.toNatClampNeg)), (7, vI (h.1 52 i0 x6.toNatClampNeg)), (0, vR 10 i0), (1, vI x1), (2, vI x2), (3, vI x3), (4, vI x4), (6, vI x6)]) dX10_dayFor_69 rfl (by decide) rfl ?_
        refine aw_iinc (i := 6) (j := 7) (v := x6 + 1) (L2 := [(6, vI (x6 + 1)), (5, vI (h.1 52 i0 x6.toNatClampNeg)), (7, vI (h.1 52 i0 x6.toNatClampNeg)), (0, vR 10 i0), (1, vI x1), (2, vI x2), (3, vI x3), (4, vI x4)]) dX10_dayFor_71 rfl (by decide) rfl rfl rfl ?_
        refine aw_goto 30 dX10_dayFor_74 rfl ?_
        exact aw_sub [3, 4, 5, 6, 7, 1, 0] rfl k
