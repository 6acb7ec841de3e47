set_option maxHeartbeats 4000000 in
set_option maxRecDepth 100000 in
theorem vc_X11_append_0 {X : WD → State → Prop} {d rb : Nat} {h : Hp} {Qr : Option AV → Hp → Prop} {Qx : String → Hp → Prop} {a1 : Int32} {a2 : Int32} {a3 : Int32} {a4 : Int32} {a5 : Int32}  (k : CL 0 d mX4_hasRoomFor [vR 4 0, vI 20] h (oI fun r2 h1 => ((¬ r2 = 0) → CL 0 d mX4_putWord [vR 4 0, vI a1] h1 (oV fun h3 => CL 0 d mX4_putWord [vR 4 0, vI a2] h3 (oV fun h4 => CL 0 d mX4_putWord [vR 4 0, vI a3] h4 (oV fun h5 => CL 0 d mX4_putWord [vR 4 0, vI a4] h5 (oV fun h6 => CL 0 d mX4_putWord [vR 4 0, vI a5] h6 (oV fun h7 => Qr (some (vI (h7.1 4 0 0))) h7) Qx) Qx) Qx) Qx) Qx) ∧ ((r2 = 0) → Qr (some (vI (-1))) h1)) Qx) : AW X (d + 1) rb mX11_append 0 [(0, vR 11 0), (1, vI a1), (2, vI a2), (3, vI a3), (4, vI a4), (5, vI a5)] [] h Qr Qx := by
  refine aw_aload_n (j := 0) (i := 0) dX11_append_0 rfl rfl rfl ?_
  refine aw_getf (k := 1) (z := 4) dX11_append_1 rfl (by decide) rfl rfl rfl cb_11 (by decide) gw_424 ?_
  refine aw_bipush (v := 20) dX11_append_4 rfl (by decide) ?_
  refine aw_callV (M' := mX4_hasRoomFor) (S := []) (as := [vI 20]) (k := 0) dX11_append_6 rfl (by decide) rfl rfl gw_452 gw_453 gw_454 mb_X4_hasRoomFor rfl (Nat.zero_le _) (Nat.le_of_ble_eq_true rfl) rfl (CL.imp k (fun _ h1 k => ?_) (fun _ _ k => k))
  obtain ⟨r2, rfl, k⟩ := oI_of k
  show AW X (d + 1) rb mX11_append 9 _ [vI r2] h1 Qr Qx
  refine aw_if_ne 14 dX11_append_9 rfl rfl (fun c => ?_) (fun c => ?_)
  · replace k := k.1 c
    refine aw_aload_n (j := 0) (i := 0) dX11_append_14 rfl rfl rfl ?_
    refine aw_getf (k := 1) (z := 4) dX11_append_15 rfl (by decide) rfl rfl rfl cb_11 (by decide) gw_424 ?_
    refine aw_iload_n (j := 1) (i := 1) dX11_append_18 rfl rfl rfl ?_
    refine aw_callV (M' := mX4_putWord) (S := []) (as := [vI a1]) (k := 0) dX11_append_19 rfl (by decide) rfl rfl gw_456 gw_457 gw_458 mb_X4_putWord rfl (Nat.zero_le _) (Nat.le_of_ble_eq_true rfl) rfl (CL.imp k (fun _ h3 k => ?_) (fun _ _ k => k))
    obtain ⟨rfl, k⟩ := oV_of k
    show AW X (d + 1) rb mX11_append 22 _ [] h3 Qr Qx
    refine aw_aload_n (j := 0) (i := 0) dX11_append_22 rfl rfl rfl ?_
    refine aw_getf (k := 1) (z := 4) dX11_append_23 rfl (by decide) rfl rfl rfl cb_11 (by decide) gw_424 ?_
    refine aw_iload_n (j := 2) (i := 2) dX11_append_26 rfl rfl rfl ?_
    refine aw_callV (M' := mX4_putWord) (S := []) (as := [vI a2]) (k := 0) dX11_append_27 rfl (by decide) rfl rfl gw_456 gw_457 gw_458 mb_X4_putWord rfl (Nat.zero_le _) (Nat.le_of_ble_eq_true rfl) rfl (CL.imp k (fun _ h4 k => ?_) (fun _ _ k => k))
    obtain ⟨rfl, k⟩ := oV_of k
    show AW X (d + 1) rb mX11_append 30 _ [] h4 Qr Qx
    refine aw_aload_n (j := 0) (i := 0) dX11_append_30 rfl rfl rfl ?_
    refine aw_getf (k := 1) (z := 4) dX11_append_31 rfl (by decide) rfl rfl rfl cb_11 (by decide) gw_424 ?_
    refine aw_iload_n (j := 3) (i := 3) dX11_append_34 rfl rfl rfl ?_
    refine aw_callV (M' := mX4_putWord) (S := []) (as := [vI a3]) (k := 0) dX11_append_35 rfl (by decide) rfl rfl gw_456 gw_457 gw_458 mb_X4_putWord rfl (Nat.zero_le _) (Nat.le_of_ble_eq_true rfl) rfl (CL.imp k (fun _ h5 k => ?_) (fun _ _ k => k))
    obtain ⟨rfl, k⟩ := oV_of k
    show AW X (d + 1) rb mX11_append 38 _ [] h5 Qr Qx
    refine aw_aload_n (j := 0) (i := 0) dX11_append_38 rfl rfl rfl ?_
    refine aw_getf (k := 1) (z := 4) dX11_append_39 rfl (by decide) rfl rfl rfl cb_11 (by decide) gw_424 ?_
    refine aw_iload (j := 4) (i := 4) dX11_append_42 rfl rfl ?_
    refine aw_callV (M' := mX4_putWord) (S := []) (as := [vI a4]) (k := 0) dX11_append_44 rfl (by decide) rfl rfl gw_456 gw_457 gw_458 mb_X4_putWord rfl (Nat.zero_le _) (Nat.le_of_ble_eq_true rfl) rfl (CL.imp k (fun _ h6 k => ?_) (fun _ _ k => k))
    obtain ⟨rfl, k⟩ := oV_of k
    show AW X (d + 1) rb mX11_append 47 _ [] h6 Qr Qx
    refine aw_aload_n (j := 0) (i := 0) dX11_append_47 rfl rfl rfl ?_
    refine aw_getf (k := 1) (z := 4) dX11_append_48 rfl (by decide) rfl rfl rfl cb_11 (by decide) gw_424 ?_
    refine aw_iload (j := 5) (i := 5) dX11_append_51 rfl rfl ?_
    refine aw_callV (M' := mX4_putWord) (S := []) (as := [vI a5]) (k := 0) dX11_append_53 rfl (by decide) rfl rfl gw_456 gw_457 gw_458 mb_X4_putWord rfl (Nat.zero_le _) (Nat.le_of_ble_eq_true rfl) rfl (CL.imp k (fun _ h7 k => ?_) (fun _ _ k => k))
    obtain ⟨rfl, k⟩ := oV_of k
    show AW X (d + 1) rb mX11_append 56 _ [] h7 Qr Qx
    refine aw_aload_n (j := 0) (i := 0) dX11_append_56 rfl rfl rfl ?_
    refine aw_getf (k := 1) (z := 4) dX11_append_57 rfl (by decide) rfl rfl rfl cb_11 (by decide) gw_424 ?_
    refine aw_geti (k := 0) dX11_append_60 rfl (by decide) rfl rfl cb_4 (by decide) gw_139 ?_
    exact aw_iret dX11_append_63 rfl k
  · replace k := k.2 c
    refine aw_iconst (v := (-1)) dX11_append_12 rfl (by decide) ?_
    exact aw_iret dX11_append_13 rfl k
set_option maxHeartbeats 4000000 in
set_option maxRecDepth 100000 in
theorem vc_X11_truncate_0 {X : WD → State → Prop} {d rb : Nat} {h : Hp} {Qr : Option AV → Hp → Prop} {Qx : String → Hp → Prop} {a1 : Int32}  (k : CL 0 d mX4_shorten [vR 4 0, vI a1] h (oI fun r2 h1 => (r2 = 0 ∨ r2 = 1) ∧ Qr (some (vI r2)) h1) Qx) : AW X (d + 1) rb mX11_truncate 0 [(0, vR 11 0), (1, vI a1)] [] h Qr Qx := by
  refine aw_aload_n (j := 0) (i := 0) dX11_truncate_0 rfl rfl rfl ?_
  refine aw_getf (k := 1) (z := 4) dX11_truncate_1 rfl (by decide) rfl rfl rfl cb_11 (by decide) gw_424 ?_
  refine aw_iload_n (j := 1) (i := 1) dX11_truncate_4 rfl rfl rfl ?_
  refine aw_callV (M' := mX4_shorten) (S := []) (as := [vI a1]) (k := 0) dX11_truncate_5 rfl (by decide) rfl rfl gw_467 gw_468 gw_469 mb_X4_shorten rfl (Nat.zero_le _) (Nat.le_of_ble_eq_true rfl) rfl (CL.imp k (fun _ h1 k => ?_) (fun _ _ k => k))
  obtain ⟨r2, rfl, k⟩ := oI_of k
  show AW X (d + 1) rb mX11_truncate 8 _ [vI r2] h1 Qr Qx
  exact aw_zret dX11_truncate_8 rfl k.1 k.2
set_option maxHeartbeats 4000000 in
set_option maxRecDepth 100000 in
theorem vc_X11_load_0 {X : WD → State → Prop} {d rb : Nat} {h : Hp} {Qr : Option AV → Hp → Prop} {Qx : String → Hp → Prop}   (k : CL 0 d mX7_begin [vR 7 0] h (oV fun h1 => AW X (d + 1) rb mX11_load 11 [(0, vR 11 0), (1, vI 1), (2, vI 0)] [] h1 Qr Qx) Qx) : AW X (d + 1) rb mX11_load 0 [(0, vR 11 0)] [] h Qr Qx := by
  refine aw_aload_n (j := 0) (i := 0) dX11_load_0 rfl rfl rfl ?_
  refine aw_getf (k := 0) (z := 7) dX11_load_1 rfl (by decide) rfl rfl rfl cb_11 (by decide) gw_423 ?_
  refine aw_callV (M' := mX7_begin) (S := []) (as := []) (k := 0) dX11_load_4 rfl (by decide) rfl rfl gw_743 gw_744 gw_745 mb_X7_begin rfl (Nat.zero_le _) (Nat.le_of_ble_eq_true rfl) rfl (CL.imp k (fun _ h1 k => ?_) (fun _ _ k => k))
  obtain ⟨rfl, k⟩ := oV_of k
  show AW X (d + 1) rb mX11_load 7 _ [] h1 Qr Qx
  refine aw_iconst (v := 1) dX11_load_7 rfl (by decide) ?_
  refine aw_istore_n (i := 1) (L2 := [(1, vI 1), (0, vR 11 0)]) dX11_load_8 rfl rfl (by decide) rfl ?_
  refine aw_iconst (v := 0) dX11_load_9 rfl (by decide) ?_
  refine aw_istore_n (i := 2) (L2 := [(2, vI 0), (1, vI 1), (0, vR 11 0)]) dX11_load_10 rfl rfl (by decide) rfl ?_
  exact aw_sub [2, 1, 0] rfl k
set_option maxHeartbeats 4000000 in
set_option maxRecDepth 100000 in
theorem vc_X11_load_11 {X : WD → State → Prop} {d rb : Nat} {h : Hp} {Qr : Option AV → Hp → Prop} {Qx : String → Hp → Prop} {x1 : Int32} {x2 : Int32}  (k : ((900 ≤ x2) → CL 0 d mX4_shorten [vR 4 0, vI 0] h (oI fun r2 h1 => ((¬ x1 = 0) → CL 0 d mX7_swapCatalog [vR 7 0, vR 1 (h1.2.2 11 0 6)] h1 (oR 1 fun r4 h3 => CL 0 d mX7_swapLedger [vR 7 0, vR 5 ((hp_r h3 11 0 6 r4).2.2 11 0 7)] (hp_r h3 11 0 6 r4) (oR 5 fun r6 h5 => CL 0 d mX3_forget [vR 3 0] (hp_r h5 11 0 7 r6) (oV fun h7 => Qr (some (vI (h7.1 1 (h7.2.2 11 0 6) 1))) h7) Qx) Qx) Qx) ∧ ((x1 = 0) → AW X (d + 1) rb mX11_load 59 [(0, vR 11 0), (1, vI x1), (2, vI x2)] [] h1 Qr Qx)) Qx) ∧ ((¬ 900 ≤ x2) → ((x1 = 0) → CL 0 d mX4_shorten [vR 4 0, vI 0] h (oI fun r9 h8 => ((¬ x1 = 0) → CL 0 d mX7_swapCatalog [vR 7 0, vR 1 (h8.2.2 11 0 6)] h8 (oR 1 fun r11 h10 => CL 0 d mX7_swapLedger [vR 7 0, vR 5 ((hp_r h10 11 0 6 r11).2.2 11 0 7)] (hp_r h10 11 0 6 r11) (oR 5 fun r13 h12 => CL 0 d mX3_forget [vR 3 0] (hp_r h12 11 0 7 r13) (oV fun h14 => Qr (some (vI (h14.1 1 (h14.2.2 11 0 6) 1))) h14) Qx) Qx) Qx) ∧ ((x1 = 0) → AW X (d + 1) rb mX11_load 59 [(0, vR 11 0), (1, vI x1), (2, vI x2)] [] h8 Qr Qx)) Qx) ∧ ((¬ x1 = 0) → CL 0 d mX7_hasLine [vR 7 0] h (oI fun r16 h15 => ((r16 = 0) → CL 0 d mX4_shorten [vR 4 0, vI 0] h15 (oI fun r18 h17 => ((¬ x1 = 0) → CL 0 d mX7_swapCatalog [vR 7 0, vR 1 (h17.2.2 11 0 6)] h17 (oR 1 fun r20 h19 => CL 0 d mX7_swapLedger [vR 7 0, vR 5 ((hp_r h19 11 0 6 r20).2.2 11 0 7)] (hp_r h19 11 0 6 r20) (oR 5 fun r22 h21 => CL 0 d mX3_forget [vR 3 0] (hp_r h21 11 0 7 r22) (oV fun h23 => Qr (some (vI (h23.1 1 (h23.2.2 11 0 6) 1))) h23) Qx) Qx) Qx) ∧ ((x1 = 0) → AW X (d + 1) rb mX11_load 59 [(0, vR 11 0), (1, vI x1), (2, vI x2)] [] h17 Qr Qx)) Qx) ∧ ((¬ r16 = 0) → CL 0 d mX7_readLine [vR 7 0] h15 (oI fun r25 h24 => AW X (d + 1) rb mX11_load 11 [(0, vR 11 0), (1, vI r25), (2, vI (x2 + 1))] [] h24 Qr Qx) Qx)) Qx))) : AW X (d + 1) rb mX11_load 11 [(0, vR 11 0), (1, vI x1), (2, vI x2)] [] h Qr Qx := by
  refine aw_iload_n (j := 2) (i := 2) dX11_load_11 rfl rfl rfl ?_
  refine aw_sipush (v := 900) dX11_load_12 rfl (by decide) ?_
  refine aw_icmp_ge 46 dX11_load_15 rfl rfl (fun c => ?_) (fun c => ?_)
  · replace k := k.1 c
    refine aw_aload_n (j := 0) (i := 0) dX11_load_46 rfl rfl rfl ?_
    refine aw_getf (k := 1) (z := 4) dX11_load_47 rfl (by decide) rfl rfl rfl cb_11 (by decide) gw_424 ?_
    refine aw_iconst (v := 0) dX11_load_50 rfl (by decide) ?_
    refine aw_callV (M' := mX4_shorten) (S := []) (as := [vI 0]) (k := 0) dX11_load_51 rfl (by decide) rfl rfl gw_467 gw_468 gw_469 mb_X4_shorten rfl (Nat.zero_le _) (Nat.le_of_ble_eq_true rfl) rfl (CL.imp k (fun _ h1 k => ?_) (fun _ _ k => k))
    obtain ⟨r2, rfl, k⟩ := oI_of k
    show AW X (d + 1) rb mX11_load 54 _ [vI r2] h1 Qr Qx
    refine aw_pop dX11_load_54 rfl rfl ?_
    refine aw_iload_n (j := 1) (i := 1) dX11_load_55 rfl rfl rfl ?_
    refine aw_if_ne 69 dX11_load_56 rfl rfl (fun c => ?_) (fun c => ?_)
    · replace k := k.1 c
      refine aw_aload_n (j := 0) (i := 0) dX11_load_69 rfl rfl rfl ?_
      refine aw_aload_n (j := 0) (i := 0) dX11_load_70 rfl rfl rfl ?_
      refine aw_getf (k := 0) (z := 7) dX11_load_71 rfl (by decide) rfl rfl rfl cb_11 (by decide) gw_423 ?_
      refine aw_aload_n (j := 0) (i := 0) dX11_load_74 rfl rfl rfl ?_
      refine aw_getm (k := 6) (z := 1) dX11_load_75 rfl (by decide) rfl rfl cb_11 (by decide) gw_429 ?_
      refine aw_callV (M' := mX7_swapCatalog) (S := [vR 11 0]) (as := [vR 1 (h1.2.2 11 0 6)]) (k := 0) dX11_load_78 rfl (by decide) rfl rfl gw_1029 gw_1030 gw_1031 mb_X7_swapCatalog rfl (Nat.zero_le _) (Nat.le_of_ble_eq_true rfl) rfl (CL.imp k (fun _ h3 k => ?_) (fun _ _ k => k))
      obtain ⟨r4, e, kk⟩ := oR_of k
      clear k
      subst e
      have k := kk
      clear kk
      show AW X (d + 1) rb mX11_load 81 _ [vR 1 r4, vR 11 0] h3 Qr Qx
      refine aw_putm (k := 6) (z := 1) dX11_load_81 rfl (by decide) rfl rfl cb_11 (by decide) rfl rfl gw_429 ?_
      refine aw_aload_n (j := 0) (i := 0) dX11_load_84 rfl rfl rfl ?_
      refine aw_aload_n (j := 0) (i := 0) dX11_load_85 rfl rfl rfl ?_
      refine aw_getf (k := 0) (z := 7) dX11_load_86 rfl (by decide) rfl rfl rfl cb_11 (by decide) gw_423 ?_
      refine aw_aload_n (j := 0) (i := 0) dX11_load_89 rfl rfl rfl ?_
      refine aw_getm (k := 7) (z := 5) dX11_load_90 rfl (by decide) rfl rfl cb_11 (by decide) gw_430 ?_
      refine aw_callV (M' := mX7_swapLedger) (S := [vR 11 0]) (as := [vR 5 ((hp_r h3 11 0 6 r4).2.2 11 0 7)]) (k := 0) dX11_load_93 rfl (by decide) rfl rfl gw_1033 gw_1034 gw_1035 mb_X7_swapLedger rfl (Nat.zero_le _) (Nat.le_of_ble_eq_true rfl) rfl (CL.imp k (fun _ h5 k => ?_) (fun _ _ k => k))
      obtain ⟨r6, e, kk⟩ := oR_of k
      clear k
      subst e
      have k := kk
      clear kk
      show AW X (d + 1) rb mX11_load 96 _ [vR 5 r6, vR 11 0] h5 Qr Qx
      refine aw_putm (k := 7) (z := 5) dX11_load_96 rfl (by decide) rfl rfl cb_11 (by decide) rfl rfl gw_430 ?_
      refine aw_aload_n (j := 0) (i := 0) dX11_load_99 rfl rfl rfl ?_
      refine aw_getf (k := 2) (z := 3) dX11_load_100 rfl (by decide) rfl rfl rfl cb_11 (by decide) gw_425 ?_
      refine aw_callV (M' := mX3_forget) (S := []) (as := []) (k := 0) dX11_load_103 rfl (by decide) rfl rfl gw_1037 gw_1038 gw_1039 mb_X3_forget rfl (Nat.zero_le _) (Nat.le_of_ble_eq_true rfl) rfl (CL.imp k (fun _ h7 k => ?_) (fun _ _ k => k))
      obtain ⟨rfl, k⟩ := oV_of k
      show AW X (d + 1) rb mX11_load 106 _ [] h7 Qr Qx
      refine aw_aload_n (j := 0) (i := 0) dX11_load_106 rfl rfl rfl ?_
      refine aw_getm (k := 6) (z := 1) dX11_load_107 rfl (by decide) rfl rfl cb_11 (by decide) gw_429 ?_
      refine aw_geti (k := 1) dX11_load_110 rfl (by decide) rfl rfl cb_1 (by decide) gw_177 ?_
      exact aw_iret dX11_load_113 rfl k
    · replace k := k.2 c
      exact aw_sub [0, 1, 2] rfl k
  · replace k := k.2 c
    refine aw_iload_n (j := 1) (i := 1) dX11_load_18 rfl rfl rfl ?_
    refine aw_if_eq 46 dX11_load_19 rfl rfl (fun c => ?_) (fun c => ?_)
    · replace k := k.1 c
      refine aw_aload_n (j := 0) (i := 0) dX11_load_46 rfl rfl rfl ?_
      refine aw_getf (k := 1) (z := 4) dX11_load_47 rfl (by decide) rfl rfl rfl cb_11 (by decide) gw_424 ?_
      refine aw_iconst (v := 0) dX11_load_50 rfl (by decide) ?_
      refine aw_callV (M' := mX4_shorten) (S := []) (as := [vI 0]) (k := 0) dX11_load_51 rfl (by decide) rfl rfl gw_467 gw_468 gw_469 mb_X4_shorten rfl (Nat.zero_le _) (Nat.le_of_ble_eq_true rfl) rfl (CL.imp k (fun _ h8 k => ?_) (fun _ _ k => k))
      obtain ⟨r9, rfl, k⟩ := oI_of k
      show AW X (d + 1) rb mX11_load 54 _ [vI r9] h8 Qr Qx
      refine aw_pop dX11_load_54 rfl rfl ?_
      refine aw_iload_n (j := 1) (i := 1) dX11_load_55 rfl rfl rfl ?_
      refine aw_if_ne 69 dX11_load_56 rfl rfl (fun c => ?_) (fun c => ?_)
      · replace k := k.1 c
        refine aw_aload_n (j := 0) (i := 0) dX11_load_69 rfl rfl rfl ?_
        refine aw_aload_n (j := 0) (i := 0) dX11_load_70 rfl rfl rfl ?_
        refine aw_getf (k := 0) (z := 7) dX11_load_71 rfl (by decide) rfl rfl rfl cb_11 (by decide) gw_423 ?_
        refine aw_aload_n (j := 0) (i := 0) dX11_load_74 rfl rfl rfl ?_
        refine aw_getm (k := 6) (z := 1) dX11_load_75 rfl (by decide) rfl rfl cb_11 (by decide) gw_429 ?_
        refine aw_callV (M' := mX7_swapCatalog) (S := [vR 11 0]) (as := [vR 1 (h8.2.2 11 0 6)]) (k := 0) dX11_load_78 rfl (by decide) rfl rfl gw_1029 gw_1030 gw_1031 mb_X7_swapCatalog rfl (Nat.zero_le _) (Nat.le_of_ble_eq_true rfl) rfl (CL.imp k (fun _ h10 k => ?_) (fun _ _ k => k))
        obtain ⟨r11, e, kk⟩ := oR_of k
        clear k
        subst e
        have k := kk
        clear kk
        show AW X (d + 1) rb mX11_load 81 _ [vR 1 r11, vR 11 0] h10 Qr Qx
        refine aw_putm (k := 6) (z := 1) dX11_load_81 rfl (by decide) rfl rfl cb_11 (by decide) rfl rfl gw_429 ?_
        refine aw_aload_n (j := 0) (i := 0) dX11_load_84 rfl rfl rfl ?_
        refine aw_aload_n (j := 0) (i := 0) dX11_load_85 rfl rfl rfl ?_
        refine aw_getf (k := 0) (z := 7) dX11_load_86 rfl (by decide) rfl rfl rfl cb_11 (by decide) gw_423 ?_
        refine aw_aload_n (j := 0) (i := 0) dX11_load_89 rfl rfl rfl ?_
        refine aw_getm (k := 7) (z := 5) dX11_load_90 rfl (by decide) rfl rfl cb_11 (by decide) gw_430 ?_
        refine aw_callV (M' := mX7_swapLedger) (S := [vR 11 0]) (as := [vR 5 ((hp_r h10 11 0 6 r11).2.2 11 0 7)]) (k := 0) dX11_load_93 rfl (by decide) rfl rfl gw_1033 gw_1034 gw_1035 mb_X7_swapLedger rfl (Nat.zero_le _) (Nat.le_of_ble_eq_true rfl) rfl (CL.imp k (fun _ h12 k => ?_) (fun _ _ k => k))
        obtain ⟨r13, e, kk⟩ := oR_of k
        clear k
        subst e
        have k := kk
        clear kk
        show AW X (d + 1) rb mX11_load 96 _ [vR 5 r13, vR 11 0] h12 Qr Qx
        refine aw_putm (k := 7) (z := 5) dX11_load_96 rfl (by decide) rfl rfl cb_11 (by decide) rfl rfl gw_430 ?_
        refine aw_aload_n (j := 0) (i := 0) dX11_load_99 rfl rfl rfl ?_
        refine aw_getf (k := 2) (z := 3) dX11_load_100 rfl (by decide) rfl rfl rfl cb_11 (by decide) gw_425 ?_
        refine aw_callV (M' := mX3_forget) (S := []) (as := []) (k := 0) dX11_load_103 rfl (by decide) rfl rfl gw_1037 gw_1038 gw_1039 mb_X3_forget rfl (Nat.zero_le _) (Nat.le_of_ble_eq_true rfl) rfl (CL.imp k (fun _ h14 k => ?_) (fun _ _ k => k))
        obtain ⟨rfl, k⟩ := oV_of k
        show AW X (d + 1) rb mX11_load 106 _ [] h14 Qr Qx
        refine aw_aload_n (j := 0) (i := 0) dX11_load_106 rfl rfl rfl ?_
        refine aw_getm (k := 6) (z := 1) dX11_load_107 rfl (by decide) rfl rfl cb_11 (by decide) gw_429 ?_
        refine aw_geti (k := 1) dX11_load_110 rfl (by decide) rfl rfl cb_1 (by decide) gw_177 ?_
        exact aw_iret dX11_load_113 rfl k
      · replace k := k.2 c
        exact aw_sub [0, 1, 2] rfl k
    · replace k := k.2 c
      refine aw_aload_n (j := 0) (i := 0) dX11_load_22 rfl rfl rfl ?_
      refine aw_getf (k := 0) (z := 7) dX11_load_23 rfl (by decide) rfl rfl rfl cb_11 (by decide) gw_423 ?_
      refine aw_callV (M' := mX7_hasLine) (S := []) (as := []) (k := 0) dX11_load_26 rfl (by decide) rfl rfl gw_783 gw_784 gw_785 mb_X7_hasLine rfl (Nat.zero_le _) (Nat.le_of_ble_eq_true rfl) rfl (CL.imp k (fun _ h15 k => ?_) (fun _ _ k => k))
      obtain ⟨r16, rfl, k⟩ := oI_of k
      show AW X (d + 1) rb mX11_load 29 _ [vI r16] h15 Qr Qx
      refine aw_if_eq 46 dX11_load_29 rfl rfl (fun c => ?_) (fun c => ?_)
      · replace k := k.1 c
        refine aw_aload_n (j := 0) (i := 0) dX11_load_46 rfl rfl rfl ?_
        refine aw_getf (k := 1) (z := 4) dX11_load_47 rfl (by decide) rfl rfl rfl cb_11 (by decide) gw_424 ?_
        refine aw_iconst (v := 0) dX11_load_50 rfl (by decide) ?_
        refine aw_callV (M' := mX4_shorten) (S := []) (as := [vI 0]) (k := 0) dX11_load_51 rfl (by decide) rfl rfl gw_467 gw_468 gw_469 mb_X4_shorten rfl (Nat.zero_le _) (Nat.le_of_ble_eq_true rfl) rfl (CL.imp k (fun _ h17 k => ?_) (fun _ _ k => k))
        obtain ⟨r18, rfl, k⟩ := oI_of k
        show AW X (d + 1) rb mX11_load 54 _ [vI r18] h17 Qr Qx
        refine aw_pop dX11_load_54 rfl rfl ?_
        refine aw_iload_n (j := 1) (i := 1) dX11_load_55 rfl rfl rfl ?_
        refine aw_if_ne 69 dX11_load_56 rfl rfl (fun c => ?_) (fun c => ?_)
        · replace k := k.1 c
          refine aw_aload_n (j := 0) (i := 0) dX11_load_69 rfl rfl rfl ?_
          refine aw_aload_n (j := 0) (i := 0) dX11_load_70 rfl rfl rfl ?_
          refine aw_getf (k := 0) (z := 7) dX11_load_71 rfl (by decide) rfl rfl rfl cb_11 (by decide) gw_423 ?_
          refine aw_aload_n (j := 0) (i := 0) dX11_load_74 rfl rfl rfl ?_
          refine aw_getm (k := 6) (z := 1) dX11_load_75 rfl (by decide) rfl rfl cb_11 (by decide) gw_429 ?_
          refine aw_callV (M' := mX7_swapCatalog) (S := [vR 11 0]) (as := [vR 1 (h17.2.2 11 0 6)]) (k := 0) dX11_load_78 rfl (by decide) rfl rfl gw_1029 gw_1030 gw_1031 mb_X7_swapCatalog rfl (Nat.zero_le _) (Nat.le_of_ble_eq_true rfl) rfl (CL.imp k (fun _ h19 k => ?_) (fun _ _ k => k))
          obtain ⟨r20, e, kk⟩ := oR_of k
          clear k
          subst e
          have k := kk
          clear kk
          show AW X (d + 1) rb mX11_load 81 _ [vR 1 r20, vR 11 0] h19 Qr Qx
          refine aw_putm (k := 6) (z := 1) dX11_load_81 rfl (by decide) rfl rfl cb_11 (by decide) rfl rfl gw_429 ?_
          refine aw_aload_n (j := 0) (i := 0) dX11_load_84 rfl rfl rfl ?_
          refine aw_aload_n (j := 0) (i := 0) dX11_load_85 rfl rfl rfl ?_
          refine aw_getf (k := 0) (z := 7) dX11_load_86 rfl (by decide) rfl rfl rfl cb_11 (by decide) gw_423 ?_
          refine aw_aload_n (j := 0) (i := 0) dX11_load_89 rfl rfl rfl ?_
          refine aw_getm (k := 7) (z := 5) dX11_load_90 rfl (by decide) rfl rfl cb_11 (by decide) gw_430 ?_
          refine aw_callV (M' := mX7_swapLedger) (S := [vR 11 0]) (as := [vR 5 ((hp_r h19 11 0 6 r20).2.2 11 0 7)]) (k := 0) dX11_load_93 rfl (by decide) rfl rfl gw_1033 gw_1034 gw_1035 mb_X7_swapLedger rfl (Nat.zero_le _) (Nat.le_of_ble_eq_true rfl) rfl (CL.imp k (fun _ h21 k => ?_) (fun _ _ k => k))
          obtain ⟨r22, e, kk⟩ := oR_of k
          clear k
          subst e
          have k := kk
          clear kk
          show AW X (d + 1) rb mX11_load 96 _ [vR 5 r22, vR 11 0] h21 Qr Qx
          refine aw_putm (k := 7) (z := 5) dX11_load_96 rfl (by decide) rfl rfl cb_11 (by decide) rfl rfl gw_430 ?_
          refine aw_aload_n (j := 0) (i := 0) dX11_load_99 rfl rfl rfl ?_
          refine aw_getf (k := 2) (z := 3) dX11_load_100 rfl (by decide) rfl rfl rfl cb_11 (by decide) gw_425 ?_
          refine aw_callV (M' := mX3_forget) (S := []) (as := []) (k := 0) dX11_load_103 rfl (by decide) rfl rfl gw_1037 gw_1038 gw_1039 mb_X3_forget rfl (Nat.zero_le _) (Nat.le_of_ble_eq_true rfl) rfl (CL.imp k (fun _ h23 k => ?_) (fun _ _ k => k))
          obtain ⟨rfl, k⟩ := oV_of k
          show AW X (d + 1) rb mX11_load 106 _ [] h23 Qr Qx
          refine aw_aload_n (j := 0) (i := 0) dX11_load_106 rfl rfl rfl ?_
          refine aw_getm (k := 6) (z := 1) dX11_load_107 rfl (by decide) rfl rfl cb_11 (by decide) gw_429 ?_
          refine aw_geti (k := 1) dX11_load_110 rfl (by decide) rfl rfl cb_1 (by decide) gw_177 ?_
          exact aw_iret dX11_load_113 rfl k
        · replace k := k.2 c
          exact aw_sub [0, 1, 2] rfl k
      · replace k := k.2 c
        refine aw_aload_n (j := 0) (i := 0) dX11_load_32 rfl rfl rfl ?_
        refine aw_getf (k := 0) (z := 7) dX11_load_33 rfl (by decide) rfl rfl rfl cb_11 (by decide) gw_423 ?_
        refine aw_callV (M' := mX7_readLine) (S := []) (as := []) (k := 0) dX11_load_36 rfl (by decide) rfl rfl gw_787 gw_788 gw_789 mb_X7_readLine rfl (Nat.zero_le _) (Nat.le_of_ble_eq_true rfl) rfl (CL.imp k (fun _ h24 k => ?_) (fun _ _ k => k))
        obtain ⟨r25, rfl, k⟩ := oI_of k
        show AW X (d + 1) rb mX11_load 39 _ [vI r25] h24 Qr Qx
        refine aw_istore_n (i := 1) (L2 := [(1, vI r25), (0, vR 11 0), (2, vI x2)]) dX11_load_39 rfl rfl (by decide) rfl ?_
        refine aw_iinc (i := 2) (j := 2) (v := x2 + 1) (L2 := [(2, vI (x2 + 1)), (1, vI r25), (0, vR 11 0)]) dX11_load_40 rfl (by decide) rfl rfl rfl ?_
        refine aw_goto 11 dX11_load_43 rfl ?_
        exact aw_sub [2, 1, 0] rfl k
set_option maxHeartbeats 4000000 in
set_option maxRecDepth 100000 in
theorem vc_X11_load_59 {X : WD → State → Prop} {d rb : Nat} {h : Hp} {Qr : Option AV → Hp → Prop} {Qx : String → Hp → Prop} {x1 : Int32} {x2 : Int32}  (k : Qx "java/lang/IllegalArgumentException" h) : AW X (d + 6) (rb + 1) mX11_load 59 [(0, vR 11 0), (1, vI x1), (2, vI x2)] [] h Qr Qx := by
  exact aw_throwS (j := 5) rfl dX11_load_59 dX11_load_62 dX11_load_63 dX11_load_65 dX11_load_68 rfl gw_962 gw_108 (by decide +kernel) (by decide +kernel) ex_a_99_103_IllegalArgumentException ex_b_99_103_IllegalArgumentException ex_c_99_103_IllegalArgumentException (Nat.le_of_ble_eq_true rfl) k
set_option maxHeartbeats 4000000 in
set_option maxRecDepth 100000 in
theorem vc_X11_errorOffset_0 {X : WD → State → Prop} {d rb : Nat} {h : Hp} {Qr : Option AV → Hp → Prop} {Qx : String → Hp → Prop}   (k : Qr (some (vI (h.1 7 0 0))) h) : AW X (d + 1) rb mX11_errorOffset 0 [(0, vR 11 0)] [] h Qr Qx := by
  refine aw_aload_n (j := 0) (i := 0) dX11_errorOffset_0 rfl rfl rfl ?_
  refine aw_getf (k := 0) (z := 7) dX11_errorOffset_1 rfl (by decide) rfl rfl rfl cb_11 (by decide) gw_423 ?_
  refine aw_geti (k := 0) dX11_errorOffset_4 rfl (by decide) rfl rfl cb_7 (by decide) gw_338 ?_
  exact aw_iret dX11_errorOffset_7 rfl k
set_option maxHeartbeats 4000000 in
set_option maxRecDepth 100000 in
theorem vc_X11_errorKind_0 {X : WD → State → Prop} {d rb : Nat} {h : Hp} {Qr : Option AV → Hp → Prop} {Qx : String → Hp → Prop}   (k : Qr (some (vI (h.1 7 0 1))) h) : AW X (d + 1) rb mX11_errorKind 0 [(0, vR 11 0)] [] h Qr Qx := by
  refine aw_aload_n (j := 0) (i := 0) dX11_errorKind_0 rfl rfl rfl ?_
  refine aw_getf (k := 0) (z := 7) dX11_errorKind_1 rfl (by decide) rfl rfl rfl cb_11 (by decide) gw_423 ?_
  refine aw_geti (k := 1) dX11_errorKind_4 rfl (by decide) rfl rfl cb_7 (by decide) gw_340 ?_
  exact aw_iret dX11_errorKind_7 rfl k
set_option maxHeartbeats 4000000 in
set_option maxRecDepth 100000 in
theorem vc_X11_count_0 {X : WD → State → Prop} {d rb : Nat} {h : Hp} {Qr : Option AV → Hp → Prop} {Qx : String → Hp → Prop} {a1 : Int32}  (k : ((a1 < 0 ∨ 4 < a1) → Qr (some (vI (-1))) h) ∧ ((a1 = 0) → Qr (some (vI (h.1 1 (h.2.2 11 0 6) 0))) h) ∧ ((a1 = 1) → Qr (some (vI (h.1 1 (h.2.2 11 0 6) 1))) h) ∧ ((a1 = 2) → Qr (some (vI (h.1 6 (h.2.2 11 0 7) 0))) h) ∧ ((a1 = 3) → Qr (some (vI (h.1 1 (h.2.2 11 0 6) 2))) h) ∧ ((a1 = 4) → Qr (some (vI (h.1 10 (h.2.2 11 0 7) 1))) h)) : AW X (d + 1) rb mX11_count 0 [(0, vR 11 0), (1, vI a1)] [] h Qr Qx := by
  refine aw_iload_n (j := 1) (i := 1) dX11_count_0 rfl rfl rfl ?_
  rcases oa_sw 4 (by decide) a1 with hz | ⟨jj, hj, hz⟩
  · replace k := k.1 hz
    refine aw_tabOut 82 dX11_count_1 (oa_swo rfl hz) rfl ?_
    refine aw_iconst (v := (-1)) dX11_count_82 rfl (by decide) ?_
    exact aw_iret dX11_count_83 rfl k
  · replace k := k.2
    rcases (show jj = 0 ∨ jj = 1 ∨ jj = 2 ∨ jj = 3 ∨ jj = 4 by omega) with rfl | rfl | rfl | rfl | rfl
    · replace hz : a1 = 0 := hz
      replace k := k.1 hz
      refine aw_tabIn (z := 35) 36 dX11_count_1 (by rw [hz]; decide) (by rw [hz]; decide) (by rw [hz]; rfl) rfl ?_
      refine aw_aload_n (j := 0) (i := 0) dX11_count_36 rfl rfl rfl ?_
      refine aw_getm (k := 6) (z := 1) dX11_count_37 rfl (by decide) rfl rfl cb_11 (by decide) gw_429 ?_
      refine aw_geti (k := 0) dX11_count_40 rfl (by decide) rfl rfl cb_1 (by decide) gw_175 ?_
      exact aw_iret dX11_count_43 rfl k
    · replace hz : a1 = 1 := hz
      replace k := k.2.1 hz
      refine aw_tabIn (z := 43) 44 dX11_count_1 (by rw [hz]; decide) (by rw [hz]; decide) (by rw [hz]; rfl) rfl ?_
      refine aw_aload_n (j := 0) (i := 0) dX11_count_44 rfl rfl rfl ?_
      refine aw_getm (k := 6) (z := 1) dX11_count_45 rfl (by decide) rfl rfl cb_11 (by decide) gw_429 ?_
      refine aw_geti (k := 1) dX11_count_48 rfl (by decide) rfl rfl cb_1 (by decide) gw_177 ?_
      exact aw_iret dX11_count_51 rfl k
    · replace hz : a1 = 2 := hz
      replace k := k.2.2.1 hz
      refine aw_tabIn (z := 51) 52 dX11_count_1 (by rw [hz]; decide) (by rw [hz]; decide) (by rw [hz]; rfl) rfl ?_
      refine aw_aload_n (j := 0) (i := 0) dX11_count_52 rfl rfl rfl ?_
      refine aw_getm (k := 7) (z := 5) dX11_count_53 rfl (by decide) rfl rfl cb_11 (by decide) gw_430 ?_
      refine aw_getf (k := 1) (z := 6) dX11_count_56 rfl (by decide) rfl rfl rfl cb_5 (by decide) gw_327 ?_
      refine aw_geti (k := 0) dX11_count_59 rfl (by decide) rfl rfl cb_6 (by decide) gw_272 ?_
      exact aw_iret dX11_count_62 rfl k
    · replace hz : a1 = 3 := hz
      replace k := k.2.2.2.1 hz
      refine aw_tabIn (z := 62) 63 dX11_count_1 (by rw [hz]; decide) (by rw [hz]; decide) (by rw [hz]; rfl) rfl ?_
      refine aw_aload_n (j := 0) (i := 0) dX11_count_63 rfl rfl rfl ?_
      refine aw_getm (k := 6) (z := 1) dX11_count_64 rfl (by decide) rfl rfl cb_11 (by decide) gw_429 ?_
      refine aw_geti (k := 2) dX11_count_67 rfl (by decide) rfl rfl cb_1 (by decide) gw_182 ?_
      exact aw_iret dX11_count_70 rfl k
    · replace hz : a1 = 4 := hz
      replace k := k.2.2.2.2 hz
      refine aw_tabIn (z := 70) 71 dX11_count_1 (by rw [hz]; decide) (by rw [hz]; decide) (by rw [hz]; rfl) rfl ?_
      refine aw_aload_n (j := 0) (i := 0) dX11_count_71 rfl rfl rfl ?_
      refine aw_getm (k := 7) (z := 5) dX11_count_72 rfl (by decide) rfl rfl cb_11 (by decide) gw_430 ?_
      refine aw_getf (k := 0) (z := 10) dX11_count_75 rfl (by decide) rfl rfl rfl cb_5 (by decide) gw_322 ?_
      refine aw_geti (k := 1) dX11_count_78 rfl (by decide) rfl rfl cb_10 (by decide) gw_241 ?_
      exact aw_iret dX11_count_81 rfl k
set_option maxHeartbeats 4000000 in
set_option maxRecDepth 100000 in
theorem vc_X11_lineCount_0 {X : WD → State → Prop} {d rb : Nat} {h : Hp} {Qr : Option AV → Hp → Prop} {Qx : String → Hp → Prop} {a1 : Int32}  (k : (CL 0 d mX11_checkProduct [vR 11 0, vI a1] h (oV fun h1 => CL 0 d mX1_linesOf [vR 1 (h1.2.2 11 0 6), vI a1] h1 (oI fun r3 h2 => Qr (some (vI r3)) h2) Qx) Qx) ∨ (CL rb d mX11_checkProduct [vR 11 0, vI a1] h (fun _ _ => False) Qx)) : AW X (d + 1) rb mX11_lineCount 0 [(0, vR 11 0), (1, vI a1)] [] h Qr Qx := by
  refine aw_aload_n (j := 0) (i := 0) dX11_lineCount_0 rfl rfl rfl ?_
  refine aw_iload_n (j := 1) (i := 1) dX11_lineCount_1 rfl rfl rfl ?_
  rcases k with k | k
  · refine aw_callV (M' := mX11_checkProduct) (S := []) (as := [vI a1]) (k := 0) dX11_lineCount_2 rfl (by decide) rfl rfl gw_1049 gw_1051 gw_19 mb_X11_checkProduct rfl (Nat.zero_le _) (Nat.le_of_ble_eq_true rfl) rfl (CL.imp k (fun _ h1 k => ?_) (fun _ _ k => k))
    obtain ⟨rfl, k⟩ := oV_of k
    show AW X (d + 1) rb mX11_lineCount 5 _ [] h1 Qr Qx
    refine aw_aload_n (j := 0) (i := 0) dX11_lineCount_5 rfl rfl rfl ?_
    refine aw_getm (k := 6) (z := 1) dX11_lineCount_6 rfl (by decide) rfl rfl cb_11 (by decide) gw_429 ?_
    refine aw_iload_n (j := 1) (i := 1) dX11_lineCount_9 rfl rfl rfl ?_
    refine aw_callV (M' := mX1_linesOf) (S := []) (as := [vI a1]) (k := 0) dX11_lineCount_10 rfl (by decide) rfl rfl gw_1070 gw_1071 gw_1072 mb_X1_linesOf rfl (Nat.zero_le _) (Nat.le_of_ble_eq_true rfl) rfl (CL.imp k (fun _ h2 k => ?_) (fun _ _ k => k))
    obtain ⟨r3, rfl, k⟩ := oI_of k
    show AW X (d + 1) rb mX11_lineCount 13 _ [vI r3] h2 Qr Qx
    exact aw_iret dX11_lineCount_13 rfl k
  · refine aw_callV (M' := mX11_checkProduct) (S := []) (as := [vI a1]) (k := rb) dX11_lineCount_2 rfl (by decide) rfl rfl gw_1049 gw_1051 gw_19 mb_X11_checkProduct rfl (Nat.le_refl _) (Nat.le_of_ble_eq_true rfl) rfl (CL.imp k (fun _ h1 k => ?_) (fun _ _ k => k))
    exact k.elim
set_option maxHeartbeats 4000000 in
set_option maxRecDepth 100000 in
theorem vc_X11_lineItem_0 {X : WD → State → Prop} {d rb : Nat} {h : Hp} {Qr : Option AV → Hp → Prop} {Qx : String → Hp → Prop} {a1 : Int32} {a2 : Int32}  (k : (CL 0 d mX11_checkProduct [vR 11 0, vI a1] h (oV fun h1 => CL 0 d mX1_itemOf [vR 1 (h1.2.2 11 0 6), vI a1, vI a2] h1 (oI fun r3 h2 => Qr (some (vI r3)) h2) Qx) Qx) ∨ (CL rb d mX11_checkProduct [vR 11 0, vI a1] h (fun _ _ => False) Qx)) : AW X (d + 1) rb mX11_lineItem 0 [(0, vR 11 0), (1, vI a1), (2, vI a2)] [] h Qr Qx := by
  refine aw_aload_n (j := 0) (i := 0) dX11_lineItem_0 rfl rfl rfl ?_
  refine aw_iload_n (j := 1) (i := 1) dX11_lineItem_1 rfl rfl rfl ?_
  rcases k with k | k
  · refine aw_callV (M' := mX11_checkProduct) (S := []) (as := [vI a1]) (k := 0) dX11_lineItem_2 rfl (by decide) rfl rfl gw_1049 gw_1051 gw_19 mb_X11_checkProduct rfl (Nat.zero_le _) (Nat.le_of_ble_eq_true rfl) rfl (CL.imp k (fun _ h1 k => ?_) (fun _ _ k => k))
    obtain ⟨rfl, k⟩ := oV_of k
    show AW X (d + 1) rb mX11_lineItem 5 _ [] h1 Qr Qx
    refine aw_aload_n (j := 0) (i := 0) dX11_lineItem_5 rfl rfl rfl ?_
    refine aw_getm (k := 6) (z := 1) dX11_lineItem_6 rfl (by decide) rfl rfl cb_11 (by decide) gw_429 ?_
    refine aw_iload_n (j := 1) (i := 1) dX11_lineItem_9 rfl rfl rfl ?_
    refine aw_iload_n (j := 2) (i := 2) dX11_lineItem_10 rfl rfl rfl ?_
    refine aw_callV (M' := mX1_itemOf) (S := []) (as := [vI a1, vI a2]) (k := 0) dX11_lineItem_11 rfl (by decide) rfl rfl gw_1081 gw_1082 gw_1083 mb_X1_itemOf rfl (Nat.zero_le _) (Nat.le_of_ble_eq_true rfl) rfl (CL.imp k (fun _ h2 k => ?_) (fun _ _ k => k))
    obtain ⟨r3, rfl, k⟩ := oI_of k
    show AW X (d + 1) rb mX11_lineItem 14 _ [vI r3] h2 Qr Qx
    exact aw_iret dX11_lineItem_14 rfl k
  · refine aw_callV (M' := mX11_checkProduct) (S := []) (as := [vI a1]) (k := rb) dX11_lineItem_2 rfl (by decide) rfl rfl gw_1049 gw_1051 gw_19 mb_X11_checkProduct rfl (Nat.le_refl _) (Nat.le_of_ble_eq_true rfl) rfl (CL.imp k (fun _ h1 k => ?_) (fun _ _ k => k))
    exact k.elim
set_option maxHeartbeats 4000000 in
set_option maxRecDepth 100000 in
theorem vc_X11_lineQuantity_0 {X : WD → State → Prop} {d rb : Nat} {h : Hp} {Qr : Option AV → Hp → Prop} {Qx : String → Hp → Prop} {a1 : Int32} {a2 : Int32}  (k : (CL 0 d mX11_checkProduct [vR 11 0, vI a1] h (oV fun h1 => CL 0 d mX1_quantityOf [vR 1 (h1.2.2 11 0 6), vI a1, vI a2] h1 (oI fun r3 h2 => Qr (some (vI r3)) h2) Qx) Qx) ∨ (CL rb d mX11_checkProduct [vR 11 0, vI a1] h (fun _ _ => False) Qx)) : AW X (d + 1) rb mX11_lineQuantity 0 [(0, vR 11 0), (1, vI a1), (2, vI a2)] [] h Qr Qx := by
  refine aw_aload_n (j := 0) (i := 0) dX11_lineQuantity_0 rfl rfl rfl ?_
  refine aw_iload_n (j := 1) (i := 1) dX11_lineQuantity_1 rfl rfl rfl ?_
  rcases k with k | k
  · refine aw_callV (M' := mX11_checkProduct) (S := []) (as := [vI a1]) (k := 0) dX11_lineQuantity_2 rfl (by decide) rfl rfl gw_1049 gw_1051 gw_19 mb_X11_checkProduct rfl (Nat.zero_le _) (Nat.le_of_ble_eq_true rfl) rfl (CL.imp k (fun _ h1 k => ?_) (fun _ _ k => k))
    obtain ⟨rfl, k⟩ := oV_of k
    show AW X (d + 1) rb mX11_lineQuantity 5 _ [] h1 Qr Qx
    refine aw_aload_n (j := 0) (i := 0) dX11_lineQuantity_5 rfl rfl rfl ?_
    refine aw_getm (k := 6) (z := 1) dX11_lineQuantity_6 rfl (by decide) rfl rfl cb_11 (by decide) gw_429 ?_
    refine aw_iload_n (j := 1) (i := 1) dX11_lineQuantity_9 rfl rfl rfl ?_
    refine aw_iload_n (j := 2) (i := 2) dX11_lineQuantity_10 rfl rfl rfl ?_
    refine aw_callV (M' := mX1_quantityOf) (S := []) (as := [vI a1, vI a2]) (k := 0) dX11_lineQuantity_11 rfl (by decide) rfl rfl gw_1093 gw_1094 gw_1095 mb_X1_quantityOf rfl (Nat.zero_le _) (Nat.le_of_ble_eq_true rfl) rfl (CL.imp k (fun _ h2 k => ?_) (fun _ _ k => k))
    obtain ⟨r3, rfl, k⟩ := oI_of k
    show AW X (d + 1) rb mX11_lineQuantity 14 _ [vI r3] h2 Qr Qx
    exact aw_iret dX11_lineQuantity_14 rfl k
  · refine aw_callV (M' := mX11_checkProduct) (S := []) (as := [vI a1]) (k := rb) dX11_lineQuantity_2 rfl (by decide) rfl rfl gw_1049 gw_1051 gw_19 mb_X11_checkProduct rfl (Nat.le_refl _) (Nat.le_of_ble_eq_true rfl) rfl (CL.imp k (fun _ h1 k => ?_) (fun _ _ k => k))
    exact k.elim
set_option maxHeartbeats 4000000 in
set_option maxRecDepth 100000 in
theorem vc_X11_need_0 {X : WD → State → Prop} {d rb : Nat} {h : Hp} {Qr : Option AV → Hp → Prop} {Qx : String → Hp → Prop} {a1 : Int32} {a2 : Int32}  (k : (CL 0 d mX11_checkProduct [vR 11 0, vI a1] h (oV fun h1 => (CL 0 d mX11_checkPart [vR 11 0, vI a2] h1 (oV fun h2 => CL 0 d mX1_needOf [vR 1 (h2.2.2 11 0 6), vI a1, vI a2] h2 (oI fun r4 h3 => Qr (some (vI r4)) h3) Qx) Qx) ∨ (CL rb d mX11_checkPart [vR 11 0, vI a2] h1 (fun _ _ => False) Qx)) Qx) ∨ (CL rb d mX11_checkProduct [vR 11 0, vI a1] h (fun _ _ => False) Qx)) : AW X (d + 1) rb mX11_need 0 [(0, vR 11 0), (1, vI a1), (2, vI a2)] [] h Qr Qx := by
  refine aw_aload_n (j := 0) (i := 0) dX11_need_0 rfl rfl rfl ?_
  refine aw_iload_n (j := 1) (i := 1) dX11_need_1 rfl rfl rfl ?_
  rcases k with k | k
  · refine aw_callV (M' := mX11_checkProduct) (S := []) (as := [vI a1]) (k := 0) dX11_need_2 rfl (by decide) rfl rfl gw_1049 gw_1051 gw_19 mb_X11_checkProduct rfl (Nat.zero_le _) (Nat.le_of_ble_eq_true rfl) rfl (CL.imp k (fun _ h1 k => ?_) (fun _ _ k => k))
    obtain ⟨rfl, k⟩ := oV_of k
    show AW X (d + 1) rb mX11_need 5 _ [] h1 Qr Qx
    refine aw_aload_n (j := 0) (i := 0) dX11_need_5 rfl rfl rfl ?_
    refine aw_iload_n (j := 2) (i := 2) dX11_need_6 rfl rfl rfl ?_
    rcases k with k | k
    · refine aw_callV (M' := mX11_checkPart) (S := []) (as := [vI a2]) (k := 0) dX11_need_7 rfl (by decide) rfl rfl gw_1104 gw_1106 gw_20 mb_X11_checkPart rfl (Nat.zero_le _) (Nat.le_of_ble_eq_true rfl) rfl (CL.imp k (fun _ h2 k => ?_) (fun _ _ k => k))
      obtain ⟨rfl, k⟩ := oV_of k
      show AW X (d + 1) rb mX11_need 10 _ [] h2 Qr Qx
      refine aw_aload_n (j := 0) (i := 0) dX11_need_10 rfl rfl rfl ?_
      refine aw_getm (k := 6) (z := 1) dX11_need_11 rfl (by decide) rfl rfl cb_11 (by decide) gw_429 ?_
      refine aw_iload_n (j := 1) (i := 1) dX11_need_14 rfl rfl rfl ?_
      refine aw_iload_n (j := 2) (i := 2) dX11_need_15 rfl rfl rfl ?_
      refine aw_callV (M' := mX1_needOf) (S := []) (as := [vI a1, vI a2]) (k := 0) dX11_need_16 rfl (by decide) rfl rfl gw_546 gw_509 gw_510 mb_X1_needOf rfl (Nat.zero_le _) (Nat.le_of_ble_eq_true rfl) rfl (CL.imp k (fun _ h3 k => ?_) (fun _ _ k => k))
      obtain ⟨r4, rfl, k⟩ := oI_of k
      show AW X (d + 1) rb mX11_need 19 _ [vI r4] h3 Qr Qx
      exact aw_iret dX11_need_19 rfl k
    · refine aw_callV (M' := mX11_checkPart) (S := []) (as := [vI a2]) (k := rb) dX11_need_7 rfl (by decide) rfl rfl gw_1104 gw_1106 gw_20 mb_X11_checkPart rfl (Nat.le_refl _) (Nat.le_of_ble_eq_true rfl) rfl (CL.imp k (fun _ h2 k => ?_) (fun _ _ k => k))
      exact k.elim
  · refine aw_callV (M' := mX11_checkProduct) (S := []) (as := [vI a1]) (k := rb) dX11_need_2 rfl (by decide) rfl rfl gw_1049 gw_1051 gw_19 mb_X11_checkProduct rfl (Nat.le_refl _) (Nat.le_of_ble_eq_true rfl) rfl (CL.imp k (fun _ h1 k => ?_) (fun _ _ k => k))
    exact k.elim
set_option maxHeartbeats 4000000 in
set_option maxRecDepth 100000 in
theorem vc_X11_level_0 {X : WD → State → Prop} {d rb : Nat} {h : Hp} {Qr : Option AV → Hp → Prop} {Qx : String → Hp → Prop} {a1 : Int32}  (k : (CL 0 d mX11_checkProduct [vR 11 0, vI a1] h (oV fun h1 => CL 0 d mX1_levelOf [vR 1 (h1.2.2 11 0 6), vI a1] h1 (oI fun r3 h2 => Qr (some (vI r3)) h2) Qx) Qx) ∨ (CL rb d mX11_checkProduct [vR 11 0, vI a1] h (fun _ _ => False) Qx)) : AW X (d + 1) rb mX11_level 0 [(0, vR 11 0), (1, vI a1)] [] h Qr Qx := by
  refine aw_aload_n (j := 0) (i := 0) dX11_level_0 rfl rfl rfl ?_
  refine aw_iload_n (j := 1) (i := 1) dX11_level_1 rfl rfl rfl ?_
  rcases k with k | k
  · refine aw_callV (M' := mX11_checkProduct) (S := []) (as := [vI a1]) (k := 0) dX11_level_2 rfl (by decide) rfl rfl gw_1049 gw_1051 gw_19 mb_X11_checkProduct rfl (Nat.zero_le _) (Nat.le_of_ble_eq_true rfl) rfl (CL.imp k (fun _ h1 k => ?_) (fun _ _ k => k))
    obtain ⟨rfl, k⟩ := oV_of k
    show AW X (d + 1) rb mX11_level 5 _ [] h1 Qr Qx
    refine aw_aload_n (j := 0) (i := 0) dX11_level_5 rfl rfl rfl ?_
    refine aw_getm (k := 6) (z := 1) dX11_level_6 rfl (by decide) rfl rfl cb_11 (by decide) gw_429 ?_
    refine aw_iload_n (j := 1) (i := 1) dX11_level_9 rfl rfl rfl ?_
    refine aw_callV (M' := mX1_levelOf) (S := []) (as := [vI a1]) (k := 0) dX11_level_10 rfl (by decide) rfl rfl gw_1116 gw_937 gw_938 mb_X1_levelOf rfl (Nat.zero_le _) (Nat.le_of_ble_eq_true rfl) rfl (CL.imp k (fun _ h2 k => ?_) (fun _ _ k => k))
    obtain ⟨r3, rfl, k⟩ := oI_of k
    show AW X (d + 1) rb mX11_level 13 _ [vI r3] h2 Qr Qx
    exact aw_iret dX11_level_13 rfl k
  · refine aw_callV (M' := mX11_checkProduct) (S := []) (as := [vI a1]) (k := rb) dX11_level_2 rfl (by decide) rfl rfl gw_1049 gw_1051 gw_19 mb_X11_checkProduct rfl (Nat.le_refl _) (Nat.le_of_ble_eq_true rfl) rfl (CL.imp k (fun _ h1 k => ?_) (fun _ _ k => k))
    exact k.elim
set_option maxHeartbeats 4000000 in
set_option maxRecDepth 100000 in
theorem vc_X11_pieces_0 {X : WD → State → Prop} {d rb : Nat} {h : Hp} {Qr : Option AV → Hp → Prop} {Qx : String → Hp → Prop} {a1 : Int32}  (k : (CL 0 d mX11_checkProduct [vR 11 0, vI a1] h (oV fun h1 => AW X (d + 1) rb mX11_pieces 9 [(0, vR 11 0), (1, vI a1), (2, vI 0), (3, vI 0)] [] h1 Qr Qx) Qx) ∨ (CL rb d mX11_checkProduct [vR 11 0, vI a1] h (fun _ _ => False) Qx)) : AW X (d + 1) rb mX11_pieces 0 [(0, vR 11 0), (1, vI a1)] [] h Qr Qx := by
  refine aw_aload_n (j := 0) (i := 0) dX11_pieces_0 rfl rfl rfl ?_
  refine aw_iload_n (j := 1) (i := 1) dX11_pieces_1 rfl rfl rfl ?_
  rcases k with k | k
  · refine aw_callV (M' := mX11_checkProduct) (S := []) (as := [vI a1]) (k := 0) dX11_pieces_2 rfl (by decide) rfl rfl gw_1049 gw_1051 gw_19 mb_X11_checkProduct rfl (Nat.zero_le _) (Nat.le_of_ble_eq_true rfl) rfl (CL.imp k (fun _ h1 k => ?_) (fun _ _ k => k))
    obtain ⟨rfl, k⟩ := oV_of k
    show AW X (d + 1) rb mX11_pieces 5 _ [] h1 Qr Qx
    refine aw_iconst (v := 0) dX11_pieces_5 rfl (by decide) ?_
    refine aw_istore_n (i := 2) (L2 := [(2, vI 0), (0, vR 11 0), (1, vI a1)]) dX11_pieces_6 rfl rfl (by decide) rfl ?_
    refine aw_iconst (v := 0) dX11_pieces_7 rfl (by decide) ?_
    refine aw_istore_n (i := 3) (L2 := [(3, vI 0), (2, vI 0), (0, vR 11 0), (1, vI a1)]) dX11_pieces_8 rfl rfl (by decide) rfl ?_
    exact aw_sub [2, 3, 1, 0] rfl k
  · refine aw_callV (M' := mX11_checkProduct) (S := []) (as := [vI a1]) (k := rb) dX11_pieces_2 rfl (by decide) rfl rfl gw_1049 gw_1051 gw_19 mb_X11_checkProduct rfl (Nat.le_refl _) (Nat.le_of_ble_eq_true rfl) rfl (CL.imp k (fun _ h1 k => ?_) (fun _ _ k => k))
    exact k.elim
set_option maxHeartbeats 4000000 in
set_option maxRecDepth 100000 in
theorem vc_X11_pieces_9 {X : WD → State → Prop} {d rb : Nat} {h : Hp} {Qr : Option AV → Hp → Prop} {Qx : String → Hp → Prop} {x1 : Int32} {x2 : Int32} {x3 : Int32}  (k : (((h.1 1 (h.2.2 11 0 6) 0) ≤ x3) → Qr (some (vI x2)) h) ∧ ((¬ (h.1 1 (h.2.2 11 0 6) 0) ≤ x3) → CL 0 d mX1_needOf [vR 1 (h.2.2 11 0 6), vI x1, vI x3] h (oI fun r2 h1 => AW X (d + 1) rb mX11_pieces 9 [(0, vR 11 0), (1, vI x1), (2, vI (x2 + r2)), (3, vI (x3 + 1))] [] h1 Qr Qx) Qx)) : AW X (d + 1) rb mX11_pieces 9 [(0, vR 11 0), (1, vI x1), (2, vI x2), (3, vI x3)] [] h Qr Qx := by
  refine aw_iload_n (j := 3) (i := 3) dX11_pieces_9 rfl rfl rfl ?_
  refine aw_aload_n (j := 0) (i := 0) dX11_pieces_10 rfl rfl rfl ?_
  refine aw_getm (k := 6) (z := 1) dX11_pieces_11 rfl (by decide) rfl rfl cb_11 (by decide) gw_429 ?_
  refine aw_geti (k := 0) dX11_pieces_14 rfl (by decide) rfl rfl cb_1 (by decide) gw_175 ?_
  refine aw_icmp_ge 38 dX11_pieces_17 rfl rfl (fun c => ?_) (fun c => ?_)
  · replace k := k.1 c
    refine aw_iload_n (j := 2) (i := 2) dX11_pieces_38 rfl rfl rfl ?_
    exact aw_iret dX11_pieces_39 rfl k
  · replace k := k.2 c
    refine aw_iload_n (j := 2) (i := 2) dX11_pieces_20 rfl rfl rfl ?_
    refine aw_aload_n (j := 0) (i := 0) dX11_pieces_21 rfl rfl rfl ?_
    refine aw_getm (k := 6) (z := 1) dX11_pieces_22 rfl (by decide) rfl rfl cb_11 (by decide) gw_429 ?_
    refine aw_iload_n (j := 1) (i := 1) dX11_pieces_25 rfl rfl rfl ?_
    refine aw_iload_n (j := 3) (i := 3) dX11_pieces_26 rfl rfl rfl ?_
    refine aw_callV (M' := mX1_needOf) (S := [vI x2]) (as := [vI x1, vI x3]) (k := 0) dX11_pieces_27 rfl (by decide) rfl rfl gw_546 gw_509 gw_510 mb_X1_needOf rfl (Nat.zero_le _) (Nat.le_of_ble_eq_true rfl) rfl (CL.imp k (fun _ h1 k => ?_) (fun _ _ k => k))
    obtain ⟨r2, rfl, k⟩ := oI_of k
    show AW X (d + 1) rb mX11_pieces 30 _ [vI r2, vI x2] h1 Qr Qx
    refine aw_iadd dX11_pieces_30 rfl ?_
    refine aw_istore_n (i := 2) (L2 := [(2, vI (x2 + r2)), (0, vR 11 0), (1, vI x1), (3, vI x3)]) dX11_pieces_31 rfl rfl (by decide) rfl ?_
    refine aw_iinc (i := 3) (j := 3) (v := x3 + 1) (L2 := [(3, vI (x3 + 1)), (2, vI (x2 + r2)), (0, vR 11 0), (1, vI x1)]) dX11_pieces_32 rfl (by decide) rfl rfl rfl ?_
    refine aw_goto 9 dX11_pieces_35 rfl ?_
    exact aw_sub [2, 3, 1, 0] rfl k
set_option maxHeartbeats 4000000 in
set_option maxRecDepth 100000 in
theorem vc_X11_usedBy_0 {X : WD → State → Prop} {d rb : Nat} {h : Hp} {Qr : Option AV → Hp → Prop} {Qx : String → Hp → Prop} {a1 : Int32}  (k : (CL 0 d mX11_checkPart [vR 11 0, vI a1] h (oV fun h1 => AW X (d + 1) rb mX11_usedBy 9 [(0, vR 11 0), (1, vI a1), (2, vI 0), (3, vI 0)] [] h1 Qr Qx) Qx) ∨ (CL rb d mX11_checkPart [vR 11 0, vI a1] h (fun _ _ => False) Qx)) : AW X (d + 1) rb mX11_usedBy 0 [(0, vR 11 0), (1, vI a1)] [] h Qr Qx := by
  refine aw_aload_n (j := 0) (i := 0) dX11_usedBy_0 rfl rfl rfl ?_
  refine aw_iload_n (j := 1) (i := 1) dX11_usedBy_1 rfl rfl rfl ?_
  rcases k with k | k
  · refine aw_callV (M' := mX11_checkPart) (S := []) (as := [vI a1]) (k := 0) dX11_usedBy_2 rfl (by decide) rfl rfl gw_1104 gw_1106 gw_20 mb_X11_checkPart rfl (Nat.zero_le _) (Nat.le_of_ble_eq_true rfl) rfl (CL.imp k (fun _ h1 k => ?_) (fun _ _ k => k))
    obtain ⟨rfl, k⟩ := oV_of k
    show AW X (d + 1) rb mX11_usedBy 5 _ [] h1 Qr Qx
    refine aw_iconst (v := 0) dX11_usedBy_5 rfl (by decide) ?_
    refine aw_istore_n (i := 2) (L2 := [(2, vI 0), (0, vR 11 0), (1, vI a1)]) dX11_usedBy_6 rfl rfl (by decide) rfl ?_
    refine aw_iconst (v := 0) dX11_usedBy_7 rfl (by decide) ?_
    refine aw_istore_n (i := 3) (L2 := [(3, vI 0), (2, vI 0), (0, vR 11 0), (1, vI a1)]) dX11_usedBy_8 rfl rfl (by decide) rfl ?_
    exact aw_sub [2, 3, 1, 0] rfl k
  · refine aw_callV (M' := mX11_checkPart) (S := []) (as := [vI a1]) (k := rb) dX11_usedBy_2 rfl (by decide) rfl rfl gw_1104 gw_1106 gw_20 mb_X11_checkPart rfl (Nat.le_refl _) (Nat.le_of_ble_eq_true rfl) rfl (CL.imp k (fun _ h1 k => ?_) (fun _ _ k => k))
    exact k.elim
set_option maxHeartbeats 4000000 in
set_option maxRecDepth 100000 in
theorem vc_X11_usedBy_9 {X : WD → State → Prop} {d rb : Nat} {h : Hp} {Qr : Option AV → Hp → Prop} {Qx : String → Hp → Prop} {x1 : Int32} {x2 : Int32} {x3 : Int32}  (k : (((h.1 1 (h.2.2 11 0 6) 1) ≤ x3) → Qr (some (vI x2)) h) ∧ ((¬ (h.1 1 (h.2.2 11 0 6) 1) ≤ x3) → CL 0 d mX1_needOf [vR 1 (h.2.2 11 0 6), vI x3, vI x1] h (oI fun r2 h1 => ((r2 ≤ 0) → AW X (d + 1) rb mX11_usedBy 9 [(0, vR 11 0), (1, vI x1), (2, vI x2), (3, vI (x3 + 1))] [] h1 Qr Qx) ∧ ((¬ r2 ≤ 0) → AW X (d + 1) rb mX11_usedBy 9 [(0, vR 11 0), (1, vI x1), (2, vI (x2 ||| (1 <<< (x3 &&& 31)))), (3, vI (x3 + 1))] [] h1 Qr Qx)) Qx)) : AW X (d + 1) rb mX11_usedBy 9 [(0, vR 11 0), (1, vI x1), (2, vI x2), (3, vI x3)] [] h Qr Qx := by
  refine aw_iload_n (j := 3) (i := 3) dX11_usedBy_9 rfl rfl rfl ?_
  refine aw_aload_n (j := 0) (i := 0) dX11_usedBy_10 rfl rfl rfl ?_
  refine aw_getm (k := 6) (z := 1) dX11_usedBy_11 rfl (by decide) rfl rfl cb_11 (by decide) gw_429 ?_
  refine aw_geti (k := 1) dX11_usedBy_14 rfl (by decide) rfl rfl cb_1 (by decide) gw_177 ?_
  refine aw_icmp_ge 44 dX11_usedBy_17 rfl rfl (fun c => ?_) (fun c => ?_)
  · replace k := k.1 c
    refine aw_iload_n (j := 2) (i := 2) dX11_usedBy_44 rfl rfl rfl ?_
    exact aw_iret dX11_usedBy_45 rfl k
  · replace k := k.2 c
    refine aw_aload_n (j := 0) (i := 0) dX11_usedBy_20 rfl rfl rfl ?_
    refine aw_getm (k := 6) (z := 1) dX11_usedBy_21 rfl (by decide) rfl rfl cb_11 (by decide) gw_429 ?_
    refine aw_iload_n (j := 3) (i := 3) dX11_usedBy_24 rfl rfl rfl ?_
    refine aw_iload_n (j := 1) (i := 1) dX11_usedBy_25 rfl rfl rfl ?_
    refine aw_callV (M' := mX1_needOf) (S := []) (as := [vI x3, vI x1]) (k := 0) dX11_usedBy_26 rfl (by decide) rfl rfl gw_546 gw_509 gw_510 mb_X1_needOf rfl (Nat.zero_le _) (Nat.le_of_ble_eq_true rfl) rfl (CL.imp k (fun _ h1 k => ?_) (fun _ _ k => k))
    obtain ⟨r2, rfl, k⟩ := oI_of k
    show AW X (d + 1) rb mX11_usedBy 29 _ [vI r2] h1 Qr Qx
    refine aw_if_le 38 dX11_usedBy_29 rfl rfl (fun c => ?_) (fun c => ?_)
    · replace k := k.1 c
      refine aw_iinc (i := 3) (j := 3) (v := x3 + 1) (L2 := [(3, vI (x3 + 1)), (0, vR 11 0), (1, vI x1), (2, vI x2)]) dX11_usedBy_38 rfl (by decide) rfl rfl rfl ?_
      refine aw_goto 9 dX11_usedBy_41 rfl ?_
      exact aw_sub [1, 2, 3, 0] rfl k
    · replace k := k.2 c
      refine aw_iload_n (j := 2) (i := 2) dX11_usedBy_32 rfl rfl rfl ?_
      refine aw_iconst (v := 1) dX11_usedBy_33 rfl (by decide) ?_
      refine aw_iload_n (j := 3) (i := 3) dX11_usedBy_34 rfl rfl rfl ?_
      refine aw_ishl dX11_usedBy_35 rfl ?_
      refine aw_ior dX11_usedBy_36 rfl ?_
      refine aw_istore_n (i := 2) (L2 := [(2, vI (x2 ||| (1 <<< (x3 &&& 31)))), (0, vR 11 0), (1, vI x1), (3, vI x3)]) dX11_usedBy_37 rfl rfl (by decide) rfl ?_
      refine aw_iinc (i := 3) (j := 3) (v := x3 + 1) (L2 := [(3, vI (x3 + 1)), (2, vI (x2 ||| (1 <<< (x3 &&& 31)))), (0, vR 11 0), (1, vI x1)]) dX11_usedBy_38 rfl (by decide) rfl rfl rfl ?_
      refine aw_goto 9 dX11_usedBy_41 rfl ?_
      exact aw_sub [2, 3, 1, 0] rfl k
set_option maxHeartbeats 4000000 in
set_option maxRecDepth 100000 in
theorem vc_X11_commonParts_0 {X : WD → State → Prop} {d rb : Nat} {h : Hp} {Qr : Option AV → Hp → Prop} {Qx : String → Hp → Prop} {a1 : Int32} {a2 : Int32}  (k : (CL 0 d mX11_checkProduct [vR 11 0, vI a1] h (oV fun h1 => (CL 0 d mX11_checkProduct [vR 11 0, vI a2] h1 (oV fun h2 => AW X (d + 1) rb mX11_commonParts 15 [(0, vR 11 0), (1, vI a1), (2, vI a2), (3, vI 0), (4, vI 0)] [] h2 Qr Qx) Qx) ∨ (CL rb d mX11_checkProduct [vR 11 0, vI a2] h1 (fun _ _ => False) Qx)) Qx) ∨ (CL rb d mX11_checkProduct [vR 11 0, vI a1] h (fun _ _ => False) Qx)) : AW X (d + 1) rb mX11_commonParts 0 [(0, vR 11 0), (1, vI a1), (2, vI a2)] [] h Qr Qx := by
  refine aw_aload_n (j := 0) (i := 0) dX11_commonParts_0 rfl rfl rfl ?_
  refine aw_iload_n (j := 1) (i := 1) dX11_commonParts_1 rfl rfl rfl ?_
  rcases k with k | k
  · refine aw_callV (M' := mX11_checkProduct) (S := []) (as := [vI a1]) (k := 0) dX11_commonParts_2 rfl (by decide) rfl rfl gw_1049 gw_1051 gw_19 mb_X11_checkProduct rfl (Nat.zero_le _) (Nat.le_of_ble_eq_true rfl) rfl (CL.imp k (fun _ h1 k => ?_) (fun _ _ k => k))
    obtain ⟨rfl, k⟩ := oV_of k
    show AW X (d + 1) rb mX11_commonParts 5 _ [] h1 Qr Qx
    refine aw_aload_n (j := 0) (i := 0) dX11_commonParts_5 rfl rfl rfl ?_
    refine aw_iload_n (j := 2) (i := 2) dX11_commonParts_6 rfl rfl rfl ?_
    rcases k with k | k
    · refine aw_callV (M' := mX11_checkProduct) (S := []) (as := [vI a2]) (k := 0) dX11_commonParts_7 rfl (by decide) rfl rfl gw_1049 gw_1051 gw_19 mb_X11_checkProduct rfl (Nat.zero_le _) (Nat.le_of_ble_eq_true rfl) rfl (CL.imp k (fun _ h2 k => ?_) (fun _ _ k => k))
      obtain ⟨rfl, k⟩ := oV_of k
      show AW X (d + 1) rb mX11_commonParts 10 _ [] h2 Qr Qx
      refine aw_iconst (v := 0) dX11_commonParts_10 rfl (by decide) ?_
      refine aw_istore_n (i := 3) (L2 := [(3, vI 0), (0, vR 11 0), (1, vI a1), (2, vI a2)]) dX11_commonParts_11 rfl rfl (by decide) rfl ?_
      refine aw_iconst (v := 0) dX11_commonParts_12 rfl (by decide) ?_
      refine aw_istore (i := 4) (L2 := [(4, vI 0), (3, vI 0), (0, vR 11 0), (1, vI a1), (2, vI a2)]) dX11_commonParts_13 rfl (by decide) rfl ?_
      exact aw_sub [2, 3, 4, 1, 0] rfl k
    · refine aw_callV (M' := mX11_checkProduct) (S := []) (as := [vI a2]) (k := rb) dX11_commonParts_7 rfl (by decide) rfl rfl gw_1049 gw_1051 gw_19 mb_X11_checkProduct rfl (Nat.le_refl _) (Nat.le_of_ble_eq_true rfl) rfl (CL.imp k (fun _ h2 k => ?_) (fun _ _ k => k))
      exact k.elim
  · refine aw_callV (M' := mX11_checkProduct) (S := []) (as := [vI a1]) (k := rb) dX11_commonParts_2 rfl (by decide) rfl rfl gw_1049 gw_1051 gw_19 mb_X11_checkProduct rfl (Nat.le_refl _) (Nat.le_of_ble_eq_true rfl) rfl (CL.imp k (fun _ h1 k => ?_) (fun _ _ k => k))
    exact k.elim
set_option maxHeartbeats 4000000 in
set_option maxRecDepth 100000 in
theorem vc_X11_commonParts_15 {X : WD → State → Prop} {d rb : Nat} {h : Hp} {Qr : Option AV → Hp → Prop} {Qx : String → Hp → Prop} {x1 : Int32} {x2 : Int32} {x3 : Int32} {x4 : Int32}  (k : (((h.1 1 (h.2.2 11 0 6) 0) ≤ x4) → Qr (some (vI x3)) h) ∧ ((¬ (h.1 1 (h.2.2 11 0 6) 0) ≤ x4) → CL 0 d mX1_needOf [vR 1 (h.2.2 11 0 6), vI x1, vI x4] h (oI fun r2 h1 => ((r2 ≤ 0) → AW X (d + 1) rb mX11_commonParts 15 [(0, vR 11 0), (1, vI x1), (2, vI x2), (3, vI x3), (4, vI (x4 + 1))] [] h1 Qr Qx) ∧ ((¬ r2 ≤ 0) → CL 0 d mX1_needOf [vR 1 (h1.2.2 11 0 6), vI x2, vI x4] h1 (oI fun r4 h3 => ((r4 ≤ 0) → AW X (d + 1) rb mX11_commonParts 15 [(0, vR 11 0), (1, vI x1), (2, vI x2), (3, vI x3), (4, vI (x4 + 1))] [] h3 Qr Qx) ∧ ((¬ r4 ≤ 0) → AW X (d + 1) rb mX11_commonParts 15 [(0, vR 11 0), (1, vI x1), (2, vI x2), (3, vI (x3 ||| (1 <<< (x4 &&& 31)))), (4, vI (x4 + 1))] [] h3 Qr Qx)) Qx)) Qx)) : AW X (d + 1) rb mX11_commonParts 15 [(0, vR 11 0), (1, vI x1), (2, vI x2), (3, vI x3), (4, vI x4)] [] h Qr Qx := by
  refine aw_iload (j := 4) (i := 4) dX11_commonParts_15 rfl rfl ?_
  refine aw_aload_n (j := 0) (i := 0) dX11_commonParts_17 rfl rfl rfl ?_
  refine aw_getm (k := 6) (z := 1) dX11_commonParts_18 rfl (by decide) rfl rfl cb_11 (by decide) gw_429 ?_
  refine aw_geti (k := 0) dX11_commonParts_21 rfl (by decide) rfl rfl cb_1 (by decide) gw_175 ?_
  refine aw_icmp_ge 66 dX11_commonParts_24 rfl rfl (fun c => ?_) (fun c => ?_)
  · replace k := k.1 c
    refine aw_iload_n (j := 3) (i := 3) dX11_commonParts_66 rfl rfl rfl ?_
    exact aw_iret dX11_commonParts_67 rfl k
  · replace k := k.2 c
    refine aw_aload_n (j := 0) (i := 0) dX11_commonParts_27 rfl rfl rfl ?_
    refine aw_getm (k := 6) (z := 1) dX11_commonParts_28 rfl (by decide) rfl rfl cb_11 (by decide) gw_429 ?_
    refine aw_iload_n (j := 1) (i := 1) dX11_commonParts_31 rfl rfl rfl ?_
    refine aw_iload (j := 4) (i := 4) dX11_commonParts_32 rfl rfl ?_
    refine aw_callV (M' := mX1_needOf) (S := []) (as := [vI x1, vI x4]) (k := 0) dX11_commonParts_34 rfl (by decide) rfl rfl gw_546 gw_509 gw_510 mb_X1_needOf rfl (Nat.zero_le _) (Nat.le_of_ble_eq_true rfl) rfl (CL.imp k (fun _ h1 k => ?_) (fun _ _ k => k))
    obtain ⟨r2, rfl, k⟩ := oI_of k
    show AW X (d + 1) rb mX11_commonParts 37 _ [vI r2] h1 Qr Qx
    refine aw_if_le 60 dX11_commonParts_37 rfl rfl (fun c => ?_) (fun c => ?_)
    · replace k := k.1 c
      refine aw_iinc (i := 4) (j := 4) (v := x4 + 1) (L2 := [(4, vI (x4 + 1)), (0, vR 11 0), (1, vI x1), (2, vI x2), (3, vI x3)]) dX11_commonParts_60 rfl (by decide) rfl rfl rfl ?_
      refine aw_goto 15 dX11_commonParts_63 rfl ?_
      exact aw_sub [1, 2, 3, 4, 0] rfl k
    · replace k := k.2 c
      refine aw_aload_n (j := 0) (i := 0) dX11_commonParts_40 rfl rfl rfl ?_
      refine aw_getm (k := 6) (z := 1) dX11_commonParts_41 rfl (by decide) rfl rfl cb_11 (by decide) gw_429 ?_
      refine aw_iload_n (j := 2) (i := 2) dX11_commonParts_44 rfl rfl rfl ?_
      refine aw_iload (j := 4) (i := 4) dX11_commonParts_45 rfl rfl ?_
      refine aw_callV (M' := mX1_needOf) (S := []) (as := [vI x2, vI x4]) (k := 0) dX11_commonParts_47 rfl (by decide) rfl rfl gw_546 gw_509 gw_510 mb_X1_needOf rfl (Nat.zero_le _) (Nat.le_of_ble_eq_true rfl) rfl (CL.imp k (fun _ h3 k => ?_) (fun _ _ k => k))
      obtain ⟨r4, rfl, k⟩ := oI_of k
      show AW X (d + 1) rb mX11_commonParts 50 _ [vI r4] h3 Qr Qx
      refine aw_if_le 60 dX11_commonParts_50 rfl rfl (fun c => ?_) (fun c => ?_)
      · replace k := k.1 c
        refine aw_iinc (i := 4) (j := 4) (v := x4 + 1) (L2 := [(4, vI (x4 + 1)), (0, vR 11 0), (1, vI x1), (2, vI x2), (3, vI x3)]) dX11_commonParts_60 rfl (by decide) rfl rfl rfl ?_
        refine aw_goto 15 dX11_commonParts_63 rfl ?_
        exact aw_sub [1, 2, 3, 4, 0] rfl k
      · replace k := k.2 c
        refine aw_iload_n (j := 3) (i := 3) dX11_commonParts_53 rfl rfl rfl ?_
        refine aw_iconst (v := 1) dX11_commonParts_54 rfl (by decide) ?_
        refine aw_iload (j := 4) (i := 4) dX11_commonParts_55 rfl rfl ?_
        refine aw_ishl dX11_commonParts_57 rfl ?_
        refine aw_ior dX11_commonParts_58 rfl ?_
        refine aw_istore_n (i := 3) (L2 := [(3, vI (x3 ||| (1 <<< (x4 &&& 31)))), (0, vR 11 0), (1, vI x1), (2, vI x2), (4, vI x4)]) dX11_commonParts_59 rfl rfl (by decide) rfl ?_
        refine aw_iinc (i := 4) (j := 4) (v := x4 + 1) (L2 := [(4, vI (x4 + 1)), (3, vI (x3 ||| (1 <<< (x4 &&& 31)))), (0, vR 11 0), (1, vI x1), (2, vI x2)]) dX11_commonParts_60 rfl (by decide) rfl rfl rfl ?_
        refine aw_goto 15 dX11_commonParts_63 rfl ?_
        exact aw_sub [2, 3, 4, 1, 0] rfl k
set_option maxHeartbeats 4000000 in
set_option maxRecDepth 100000 in
theorem vc_X11_day_0 {X : WD → State → Prop} {d rb : Nat} {h : Hp} {Qr : Option AV → Hp → Prop} {Qx : String → Hp → Prop}   (k : Qr (some (vI (h.1 10 (h.2.2 11 0 7) 0))) h) : AW X (d + 1) rb mX11_day 0 [(0, vR 11 0)] [] h Qr Qx := by
  refine aw_aload_n (j := 0) (i := 0) dX11_day_0 rfl rfl rfl ?_
  refine aw_getm (k := 7) (z := 5) dX11_day_1 rfl (by decide) rfl rfl cb_11 (by decide) gw_430 ?_
  refine aw_getf (k := 0) (z := 10) dX11_day_4 rfl (by decide) rfl rfl rfl cb_5 (by decide) gw_322 ?_
  refine aw_geti (k := 0) dX11_day_7 rfl (by decide) rfl rfl cb_10 (by decide) gw_239 ?_
  exact aw_iret dX11_day_10 rfl k
set_option maxHeartbeats 4000000 in
set_option maxRecDepth 100000 in
theorem vc_X11_stock_0 {X : WD → State → Prop} {d rb : Nat} {h : Hp} {Qr : Option AV → Hp → Prop} {Qx : String → Hp → Prop} {a1 : Int32}  (k : (CL 0 d mX11_checkPart [vR 11 0, vI a1] h (oV fun h1 => CL 0 d mX10_stockOf [vR 10 (h1.2.2 11 0 7), vI a1] h1 (oI fun r3 h2 => Qr (some (vI r3)) h2) Qx) Qx) ∨ (CL rb d mX11_checkPart [vR 11 0, vI a1] h (fun _ _ => False) Qx)) : AW X (d + 1) rb mX11_stock 0 [(0, vR 11 0), (1, vI a1)] [] h Qr Qx := by
  refine aw_aload_n (j := 0) (i := 0) dX11_stock_0 rfl rfl rfl ?_
  refine aw_iload_n (j := 1) (i := 1) dX11_stock_1 rfl rfl rfl ?_
  rcases k with k | k
  · refine aw_callV (M' := mX11_checkPart) (S := []) (as := [vI a1]) (k := 0) dX11_stock_2 rfl (by decide) rfl rfl gw_1104 gw_1106 gw_20 mb_X11_checkPart rfl (Nat.zero_le _) (Nat.le_of_ble_eq_true rfl) rfl (CL.imp k (fun _ h1 k => ?_) (fun _ _ k => k))
    obtain ⟨rfl, k⟩ := oV_of k
    show AW X (d + 1) rb mX11_stock 5 _ [] h1 Qr Qx
    refine aw_aload_n (j := 0) (i := 0) dX11_stock_5 rfl rfl rfl ?_
    refine aw_getm (k := 7) (z := 5) dX11_stock_6 rfl (by decide) rfl rfl cb_11 (by decide) gw_430 ?_
    refine aw_getf (k := 0) (z := 10) dX11_stock_9 rfl (by decide) rfl rfl rfl cb_5 (by decide) gw_322 ?_
    refine aw_iload_n (j := 1) (i := 1) dX11_stock_12 rfl rfl rfl ?_
    refine aw_callV (M' := mX10_stockOf) (S := []) (as := [vI a1]) (k := 0) dX11_stock_13 rfl (by decide) rfl rfl gw_1145 gw_517 gw_518 mb_X10_stockOf rfl (Nat.zero_le _) (Nat.le_of_ble_eq_true rfl) rfl (CL.imp k (fun _ h2 k => ?_) (fun _ _ k => k))
    obtain ⟨r3, rfl, k⟩ := oI_of k
    show AW X (d + 1) rb mX11_stock 16 _ [vI r3] h2 Qr Qx
    exact aw_iret dX11_stock_16 rfl k
  · refine aw_callV (M' := mX11_checkPart) (S := []) (as := [vI a1]) (k := rb) dX11_stock_2 rfl (by decide) rfl rfl gw_1104 gw_1106 gw_20 mb_X11_checkPart rfl (Nat.le_refl _) (Nat.le_of_ble_eq_true rfl) rfl (CL.imp k (fun _ h1 k => ?_) (fun _ _ k => k))
    exact k.elim
set_option maxHeartbeats 4000000 in
set_option maxRecDepth 100000 in
theorem vc_X11_reserved_0 {X : WD → State → Prop} {d rb : Nat} {h : Hp} {Qr : Option AV → Hp → Prop} {Qx : String → Hp → Prop} {a1 : Int32}  (k : (CL 0 d mX11_checkPart [vR 11 0, vI a1] h (oV fun h1 => CL 0 d mX10_reservedOf [vR 10 (h1.2.2 11 0 7), vI a1] h1 (oI fun r3 h2 => Qr (some (vI r3)) h2) Qx) Qx) ∨ (CL rb d mX11_checkPart [vR 11 0, vI a1] h (fun _ _ => False) Qx)) : AW X (d + 1) rb mX11_reserved 0 [(0, vR 11 0), (1, vI a1)] [] h Qr Qx := by
  refine aw_aload_n (j := 0) (i := 0) dX11_reserved_0 rfl rfl rfl ?_
  refine aw_iload_n (j := 1) (i := 1) dX11_reserved_1 rfl rfl rfl ?_
  rcases k with k | k
  · refine aw_callV (M' := mX11_checkPart) (S := []) (as := [vI a1]) (k := 0) dX11_reserved_2 rfl (by decide) rfl rfl gw_1104 gw_1106 gw_20 mb_X11_checkPart rfl (Nat.zero_le _) (Nat.le_of_ble_eq_true rfl) rfl (CL.imp k (fun _ h1 k => ?_) (fun _ _ k => k))
    obtain ⟨rfl, k⟩ := oV_of k
    show AW X (d + 1) rb mX11_reserved 5 _ [] h1 Qr Qx
    refine aw_aload_n (j := 0) (i := 0) dX11_reserved_5 rfl rfl rfl ?_
    refine aw_getm (k := 7) (z := 5) dX11_reserved_6 rfl (by decide) rfl rfl cb_11 (by decide) gw_430 ?_
    refine aw_getf (k := 0) (z := 10) dX11_reserved_9 rfl (by decide) rfl rfl rfl cb_5 (by decide) gw_322 ?_
    refine aw_iload_n (j := 1) (i := 1) dX11_reserved_12 rfl rfl rfl ?_
    refine aw_callV (M' := mX10_reservedOf) (S := []) (as := [vI a1]) (k := 0) dX11_reserved_13 rfl (by decide) rfl rfl gw_1153 gw_522 gw_523 mb_X10_reservedOf rfl (Nat.zero_le _) (Nat.le_of_ble_eq_true rfl) rfl (CL.imp k (fun _ h2 k => ?_) (fun _ _ k => k))
    obtain ⟨r3, rfl, k⟩ := oI_of k
    show AW X (d + 1) rb mX11_reserved 16 _ [vI r3] h2 Qr Qx
    exact aw_iret dX11_reserved_16 rfl k
  · refine aw_callV (M' := mX11_checkPart) (S := []) (as := [vI a1]) (k := rb) dX11_reserved_2 rfl (by decide) rfl rfl gw_1104 gw_1106 gw_20 mb_X11_checkPart rfl (Nat.le_refl _) (Nat.le_of_ble_eq_true rfl) rfl (CL.imp k (fun _ h1 k => ?_) (fun _ _ k => k))
    exact k.elim
set_option maxHeartbeats 4000000 in
set_option maxRecDepth 100000 in
theorem vc_X11_arriving_0 {X : WD → State → Prop} {d rb : Nat} {h : Hp} {Qr : Option AV → Hp → Prop} {Qx : String → Hp → Prop} {a1 : Int32}  (k : (CL 0 d mX11_checkPart [vR 11 0, vI a1] h (oV fun h1 => CL 0 d mX10_allArriving [vR 10 (h1.2.2 11 0 7), vI a1] h1 (oI fun r3 h2 => Qr (some (vI r3)) h2) Qx) Qx) ∨ (CL rb d mX11_checkPart [vR 11 0, vI a1] h (fun _ _ => False) Qx)) : AW X (d + 1) rb mX11_arriving 0 [(0, vR 11 0), (1, vI a1)] [] h Qr Qx := by
  refine aw_aload_n (j := 0) (i := 0) dX11_arriving_0 rfl rfl rfl ?_
  refine aw_iload_n (j := 1) (i := 1) dX11_arriving_1 rfl rfl rfl ?_
  rcases k with k | k
  · refine aw_callV (M' := mX11_checkPart) (S := []) (as := [vI a1]) (k := 0) dX11_arriving_2 rfl (by decide) rfl rfl gw_1104 gw_1106 gw_20 mb_X11_checkPart rfl (Nat.zero_le _) (Nat.le_of_ble_eq_true rfl) rfl (CL.imp k (fun _ h1 k => ?_) (fun _ _ k => k))
    obtain ⟨rfl, k⟩ := oV_of k
    show AW X (d + 1) rb mX11_arriving 5 _ [] h1 Qr Qx
    refine aw_aload_n (j := 0) (i := 0) dX11_arriving_5 rfl rfl rfl ?_
    refine aw_getm (k := 7) (z := 5) dX11_arriving_6 rfl (by decide) rfl rfl cb_11 (by decide) gw_430 ?_
    refine aw_getf (k := 0) (z := 10) dX11_arriving_9 rfl (by decide) rfl rfl rfl cb_5 (by decide) gw_322 ?_
    refine aw_iload_n (j := 1) (i := 1) dX11_arriving_12 rfl rfl rfl ?_
    refine aw_callV (M' := mX10_allArriving) (S := []) (as := [vI a1]) (k := 0) dX11_arriving_13 rfl (by decide) rfl rfl gw_525 gw_526 gw_527 mb_X10_allArriving rfl (Nat.zero_le _) (Nat.le_of_ble_eq_true rfl) rfl (CL.imp k (fun _ h2 k => ?_) (fun _ _ k => k))
    obtain ⟨r3, rfl, k⟩ := oI_of k
    show AW X (d + 1) rb mX11_arriving 16 _ [vI r3] h2 Qr Qx
    exact aw_iret dX11_arriving_16 rfl k
  · refine aw_callV (M' := mX11_checkPart) (S := []) (as := [vI a1]) (k := rb) dX11_arriving_2 rfl (by decide) rfl rfl gw_1104 gw_1106 gw_20 mb_X11_checkPart rfl (Nat.le_refl _) (Nat.le_of_ble_eq_true rfl) rfl (CL.imp k (fun _ h1 k => ?_) (fun _ _ k => k))
    exact k.elim
set_option maxHeartbeats 4000000 in
set_option maxRecDepth 100000 in
theorem vc_X11_nextArrival_0 {X : WD → State → Prop} {d rb : Nat} {h : Hp} {Qr : Option AV → Hp → Prop} {Qx : String → Hp → Prop} {a1 : Int32}  (k : (CL 0 d mX11_checkPart [vR 11 0, vI a1] h (oV fun h1 => CL 0 d mX10_earliestArrival [vR 10 (h1.2.2 11 0 7), vI a1] h1 (oI fun r3 h2 => Qr (some (vI r3)) h2) Qx) Qx) ∨ (CL rb d mX11_checkPart [vR 11 0, vI a1] h (fun _ _ => False) Qx)) : AW X (d + 1) rb mX11_nextArrival 0 [(0, vR 11 0), (1, vI a1)] [] h Qr Qx := by
  refine aw_aload_n (j := 0) (i := 0) dX11_nextArrival_0 rfl rfl rfl ?_
  refine aw_iload_n (j := 1) (i := 1) dX11_nextArrival_1 rfl rfl rfl ?_
  rcases k with k | k
  · refine aw_callV (M' := mX11_checkPart) (S := []) (as := [vI a1]) (k := 0) dX11_nextArrival_2 rfl (by decide) rfl rfl gw_1104 gw_1106 gw_20 mb_X11_checkPart rfl (Nat.zero_le _) (Nat.le_of_ble_eq_true rfl) rfl (CL.imp k (fun _ h1 k => ?_) (fun _ _ k => k))
    obtain ⟨rfl, k⟩ := oV_of k
    show AW X (d + 1) rb mX11_nextArrival 5 _ [] h1 Qr Qx
    refine aw_aload_n (j := 0) (i := 0) dX11_nextArrival_5 rfl rfl rfl ?_
    refine aw_getm (k := 7) (z := 5) dX11_nextArrival_6 rfl (by decide) rfl rfl cb_11 (by decide) gw_430 ?_
    refine aw_getf (k := 0) (z := 10) dX11_nextArrival_9 rfl (by decide) rfl rfl rfl cb_5 (by decide) gw_322 ?_
    refine aw_iload_n (j := 1) (i := 1) dX11_nextArrival_12 rfl rfl rfl ?_
    refine aw_callV (M' := mX10_earliestArrival) (S := []) (as := [vI a1]) (k := 0) dX11_nextArrival_13 rfl (by decide) rfl rfl gw_1168 gw_1169 gw_1170 mb_X10_earliestArrival rfl (Nat.zero_le _) (Nat.le_of_ble_eq_true rfl) rfl (CL.imp k (fun _ h2 k => ?_) (fun _ _ k => k))
    obtain ⟨r3, rfl, k⟩ := oI_of k
    show AW X (d + 1) rb mX11_nextArrival 16 _ [vI r3] h2 Qr Qx
    exact aw_iret dX11_nextArrival_16 rfl k
  · refine aw_callV (M' := mX11_checkPart) (S := []) (as := [vI a1]) (k := rb) dX11_nextArrival_2 rfl (by decide) rfl rfl gw_1104 gw_1106 gw_20 mb_X11_checkPart rfl (Nat.le_refl _) (Nat.le_of_ble_eq_true rfl) rfl (CL.imp k (fun _ h1 k => ?_) (fun _ _ k => k))
    exact k.elim
set_option maxHeartbeats 4000000 in
set_option maxRecDepth 100000 in
theorem vc_X11_buildable_0 {X : WD → State → Prop} {d rb : Nat} {h : Hp} {Qr : Option AV → Hp → Prop} {Qx : String → Hp → Prop} {a1 : Int32}  (k : (CL 0 d mX11_checkProduct [vR 11 0, vI a1] h (oV fun h1 => CL 0 d mX10_fillFree [vR 10 (h1.2.2 11 0 7), vR 53 0] h1 (oV fun h2 => CL 0 d mX1_mostUnits [vR 1 (h2.2.2 11 0 6), vI a1, vR 53 0] h2 (oI fun r4 h3 => Qr (some (vI r4)) h3) Qx) Qx) Qx) ∨ (CL rb d mX11_checkProduct [vR 11 0, vI a1] h (fun _ _ => False) Qx)) : AW X (d + 1) rb mX11_buildable 0 [(0, vR 11 0), (1, vI a1)] [] h Qr Qx := by
  refine aw_aload_n (j := 0) (i := 0) dX11_buildable_0 rfl rfl rfl ?_
  refine aw_iload_n (j := 1) (i := 1) dX11_buildable_1 rfl rfl rfl ?_
  rcases k with k | k
  · refine aw_callV (M' := mX11_checkProduct) (S := []) (as := [vI a1]) (k := 0) dX11_buildable_2 rfl (by decide) rfl rfl gw_1049 gw_1051 gw_19 mb_X11_checkProduct rfl (Nat.zero_le _) (Nat.le_of_ble_eq_true rfl) rfl (CL.imp k (fun _ h1 k => ?_) (fun _ _ k => k))
    obtain ⟨rfl, k⟩ := oV_of k
    show AW X (d + 1) rb mX11_buildable 5 _ [] h1 Qr Qx
    refine aw_aload_n (j := 0) (i := 0) dX11_buildable_5 rfl rfl rfl ?_
    refine aw_getm (k := 7) (z := 5) dX11_buildable_6 rfl (by decide) rfl rfl cb_11 (by decide) gw_430 ?_
    refine aw_getf (k := 0) (z := 10) dX11_buildable_9 rfl (by decide) rfl rfl rfl cb_5 (by decide) gw_322 ?_
    refine aw_aload_n (j := 0) (i := 0) dX11_buildable_12 rfl rfl rfl ?_
    refine aw_getf (k := 5) (z := 53) dX11_buildable_13 rfl (by decide) rfl rfl rfl cb_11 (by decide) gw_428 ?_
    refine aw_callV (M' := mX10_fillFree) (S := []) (as := [vR 53 0]) (k := 0) dX11_buildable_16 rfl (by decide) rfl rfl gw_1179 gw_578 gw_579 mb_X10_fillFree rfl (Nat.zero_le _) (Nat.le_of_ble_eq_true rfl) rfl (CL.imp k (fun _ h2 k => ?_) (fun _ _ k => k))
    obtain ⟨rfl, k⟩ := oV_of k
    show AW X (d + 1) rb mX11_buildable 19 _ [] h2 Qr Qx
    refine aw_aload_n (j := 0) (i := 0) dX11_buildable_19 rfl rfl rfl ?_
    refine aw_getm (k := 6) (z := 1) dX11_buildable_20 rfl (by decide) rfl rfl cb_11 (by decide) gw_429 ?_
    refine aw_iload_n (j := 1) (i := 1) dX11_buildable_23 rfl rfl rfl ?_
    refine aw_aload_n (j := 0) (i := 0) dX11_buildable_24 rfl rfl rfl ?_
    refine aw_getf (k := 5) (z := 53) dX11_buildable_25 rfl (by decide) rfl rfl rfl cb_11 (by decide) gw_428 ?_
    refine aw_callV (M' := mX1_mostUnits) (S := []) (as := [vI a1, vR 53 0]) (k := 0) dX11_buildable_28 rfl (by decide) rfl rfl gw_1180 gw_600 gw_601 mb_X1_mostUnits rfl (Nat.zero_le _) (Nat.le_of_ble_eq_true rfl) rfl (CL.imp k (fun _ h3 k => ?_) (fun _ _ k => k))
    obtain ⟨r4, rfl, k⟩ := oI_of k
    show AW X (d + 1) rb mX11_buildable 31 _ [vI r4] h3 Qr Qx
    exact aw_iret dX11_buildable_31 rfl k
  · refine aw_callV (M' := mX11_checkProduct) (S := []) (as := [vI a1]) (k := rb) dX11_buildable_2 rfl (by decide) rfl rfl gw_1049 gw_1051 gw_19 mb_X11_checkProduct rfl (Nat.le_refl _) (Nat.le_of_ble_eq_true rfl) rfl (CL.imp k (fun _ h1 k => ?_) (fun _ _ k => k))
    exact k.elim
set_option maxHeartbeats 4000000 in
set_option maxRecDepth 100000 in
theorem vc_X11_bottleneck_0 {X : WD → State → Prop} {d rb : Nat} {h : Hp} {Qr : Option AV → Hp → Prop} {Qx : String → Hp → Prop} {a1 : Int32}  (k : (CL 0 d mX11_checkProduct [vR 11 0, vI a1] h (oV fun h1 => CL 0 d mX10_fillFree [vR 10 (h1.2.2 11 0 7), vR 53 0] h1 (oV fun h2 => CL 0 d mX1_tightestPart [vR 1 (h2.2.2 11 0 6), vI a1, vR 53 0] h2 (oI fun r4 h3 => Qr (some (vI r4)) h3) Qx) Qx) Qx) ∨ (CL rb d mX11_checkProduct [vR 11 0, vI a1] h (fun _ _ => False) Qx)) : AW X (d + 1) rb mX11_bottleneck 0 [(0, vR 11 0), (1, vI a1)] [] h Qr Qx := by
  refine aw_aload_n (j := 0) (i := 0) dX11_bottleneck_0 rfl rfl rfl ?_
  refine aw_iload_n (j := 1) (i := 1) dX11_bottleneck_1 rfl rfl rfl ?_
  rcases k with k | k
  · refine aw_callV (M' := mX11_checkProduct) (S := []) (as := [vI a1]) (k := 0) dX11_bottleneck_2 rfl (by decide) rfl rfl gw_1049 gw_1051 gw_19 mb_X11_checkProduct rfl (Nat.zero_le _) (Nat.le_of_ble_eq_true rfl) rfl (CL.imp k (fun _ h1 k => ?_) (fun _ _ k => k))
    obtain ⟨rfl, k⟩ := oV_of k
    show AW X (d + 1) rb mX11_bottleneck 5 _ [] h1 Qr Qx
    refine aw_aload_n (j := 0) (i := 0) dX11_bottleneck_5 rfl rfl rfl ?_
    refine aw_getm (k := 7) (z := 5) dX11_bottleneck_6 rfl (by decide) rfl rfl cb_11 (by decide) gw_430 ?_
    refine aw_getf (k := 0) (z := 10) dX11_bottleneck_9 rfl (by decide) rfl rfl rfl cb_5 (by decide) gw_322 ?_
    refine aw_aload_n (j := 0) (i := 0) dX11_bottleneck_12 rfl rfl rfl ?_
    refine aw_getf (k := 5) (z := 53) dX11_bottleneck_13 rfl (by decide) rfl rfl rfl cb_11 (by decide) gw_428 ?_
    refine aw_callV (M' := mX10_fillFree) (S := []) (as := [vR 53 0]) (k := 0) dX11_bottleneck_16 rfl (by decide) rfl rfl gw_1179 gw_578 gw_579 mb_X10_fillFree rfl (Nat.zero_le _) (Nat.le_of_ble_eq_true rfl) rfl (CL.imp k (fun _ h2 k => ?_) (fun _ _ k => k))
    obtain ⟨rfl, k⟩ := oV_of k
    show AW X (d + 1) rb mX11_bottleneck 19 _ [] h2 Qr Qx
    refine aw_aload_n (j := 0) (i := 0) dX11_bottleneck_19 rfl rfl rfl ?_
    refine aw_getm (k := 6) (z := 1) dX11_bottleneck_20 rfl (by decide) rfl rfl cb_11 (by decide) gw_429 ?_
    refine aw_iload_n (j := 1) (i := 1) dX11_bottleneck_23 rfl rfl rfl ?_
    refine aw_aload_n (j := 0) (i := 0) dX11_bottleneck_24 rfl rfl rfl ?_
    refine aw_getf (k := 5) (z := 53) dX11_bottleneck_25 rfl (by decide) rfl rfl rfl cb_11 (by decide) gw_428 ?_
    refine aw_callV (M' := mX1_tightestPart) (S := []) (as := [vI a1, vR 53 0]) (k := 0) dX11_bottleneck_28 rfl (by decide) rfl rfl gw_1188 gw_604 gw_605 mb_X1_tightestPart rfl (Nat.zero_le _) (Nat.le_of_ble_eq_true rfl) rfl (CL.imp k (fun _ h3 k => ?_) (fun _ _ k => k))
    obtain ⟨r4, rfl, k⟩ := oI_of k
    show AW X (d + 1) rb mX11_bottleneck 31 _ [vI r4] h3 Qr Qx
    exact aw_iret dX11_bottleneck_31 rfl k
  · refine aw_callV (M' := mX11_checkProduct) (S := []) (as := [vI a1]) (k := rb) dX11_bottleneck_2 rfl (by decide) rfl rfl gw_1049 gw_1051 gw_19 mb_X11_checkProduct rfl (Nat.le_refl _) (Nat.le_of_ble_eq_true rfl) rfl (CL.imp k (fun _ h1 k => ?_) (fun _ _ k => k))
    exact k.elim
set_option maxHeartbeats 4000000 in
set_option maxRecDepth 100000 in
theorem vc_X11_buildableTogether_0 {X : WD → State → Prop} {d rb : Nat} {h : Hp} {Qr : Option AV → Hp → Prop} {Qx : String → Hp → Prop} {a1 : Int32} {a2 : Int32}  (k : (CL 0 d mX11_checkProduct [vR 11 0, vI a1] h (oV fun h1 => (CL 0 d mX11_checkProduct [vR 11 0, vI a2] h1 (oV fun h2 => (CL 0 d mX11_checkArgument [vI (if a1 = a2 then (0 : Int32) else 1)] h2 (oV fun h3 => CL 0 d mX10_fillFree [vR 10 (h3.2.2 11 0 7), vR 53 0] h3 (oV fun h4 => CL 0 d mX1_mostTogether [vR 1 (h4.2.2 11 0 6), vI a1, vI a2, vR 53 0] h4 (oI fun r6 h5 => Qr (some (vI r6)) h5) Qx) Qx) Qx) ∨ (CL rb d mX11_checkArgument [vI (if a1 = a2 then (0 : Int32) else 1)] h2 (fun _ _ => False) Qx)) Qx) ∨ (CL rb d mX11_checkProduct [vR 11 0, vI a2] h1 (fun _ _ => False) Qx)) Qx) ∨ (CL rb d mX11_checkProduct [vR 11 0, vI a1] h (fun _ _ => False) Qx)) : AW X (d + 1) rb mX11_buildableTogether 0 [(0, vR 11 0), (1, vI a1), (2, vI a2)] [] h Qr Qx := by
  refine aw_aload_n (j := 0) (i := 0) dX11_buildableTogether_0 rfl rfl rfl ?_
  refine aw_iload_n (j := 1) (i := 1) dX11_buildableTogether_1 rfl rfl rfl ?_
  rcases k with k | k
  · refine aw_callV (M' := mX11_checkProduct) (S := []) (as := [vI a1]) (k := 0) dX11_buildableTogether_2 rfl (by decide) rfl rfl gw_1049 gw_1051 gw_19 mb_X11_checkProduct rfl (Nat.zero_le _) (Nat.le_of_ble_eq_true rfl) rfl (CL.imp k (fun _ h1 k => ?_) (fun _ _ k => k))
    obtain ⟨rfl, k⟩ := oV_of k
    show AW X (d + 1) rb mX11_buildableTogether 5 _ [] h1 Qr Qx
    refine aw_aload_n (j := 0) (i := 0) dX11_buildableTogether_5 rfl rfl rfl ?_
    refine aw_iload_n (j := 2) (i := 2) dX11_buildableTogether_6 rfl rfl rfl ?_
    rcases k with k | k
    · refine aw_callV (M' := mX11_checkProduct) (S := []) (as := [vI a2]) (k := 0) dX11_buildableTogether_7 rfl (by decide) rfl rfl gw_1049 gw_1051 gw_19 mb_X11_checkProduct rfl (Nat.zero_le _) (Nat.le_of_ble_eq_true rfl) rfl (CL.imp k (fun _ h2 k => ?_) (fun _ _ k => k))
      obtain ⟨rfl, k⟩ := oV_of k
      show AW X (d + 1) rb mX11_buildableTogether 10 _ [] h2 Qr Qx
      refine aw_iload_n (j := 1) (i := 1) dX11_buildableTogether_10 rfl rfl rfl ?_
      refine aw_iload_n (j := 2) (i := 2) dX11_buildableTogether_11 rfl rfl rfl ?_
      have kk : AW X (d + 1) rb mX11_buildableTogether 20 [(0, vR 11 0), (1, vI a1), (2, vI a2)] [vI (if a1 = a2 then (0 : Int32) else 1)] h2 Qr Qx := by
        rcases k with k | k
        · refine aw_callS (M' := mX11_checkArgument) (S := []) (as := [vI (if a1 = a2 then (0 : Int32) else 1)]) (k := 0) dX11_buildableTogether_20 rfl gw_1196 gw_1197 mb_X11_checkArgument rfl (Nat.zero_le _) (Nat.le_of_ble_eq_true rfl) rfl (CL.imp k (fun _ h3 k => ?_) (fun _ _ k => k))
          obtain ⟨rfl, k⟩ := oV_of k
          show AW X (d + 1) rb mX11_buildableTogether 23 _ [] h3 Qr Qx
          refine aw_aload_n (j := 0) (i := 0) dX11_buildableTogether_23 rfl rfl rfl ?_
          refine aw_getm (k := 7) (z := 5) dX11_buildableTogether_24 rfl (by decide) rfl rfl cb_11 (by decide) gw_430 ?_
          refine aw_getf (k := 0) (z := 10) dX11_buildableTogether_27 rfl (by decide) rfl rfl rfl cb_5 (by decide) gw_322 ?_
          refine aw_aload_n (j := 0) (i := 0) dX11_buildableTogether_30 rfl rfl rfl ?_
          refine aw_getf (k := 5) (z := 53) dX11_buildableTogether_31 rfl (by decide) rfl rfl rfl cb_11 (by decide) gw_428 ?_
          refine aw_callV (M' := mX10_fillFree) (S := []) (as := [vR 53 0]) (k := 0) dX11_buildableTogether_34 rfl (by decide) rfl rfl gw_1179 gw_578 gw_579 mb_X10_fillFree rfl (Nat.zero_le _) (Nat.le_of_ble_eq_true rfl) rfl (CL.imp k (fun _ h4 k => ?_) (fun _ _ k => k))
          obtain ⟨rfl, k⟩ := oV_of k
          show AW X (d + 1) rb mX11_buildableTogether 37 _ [] h4 Qr Qx
          refine aw_aload_n (j := 0) (i := 0) dX11_buildableTogether_37 rfl rfl rfl ?_
          refine aw_getm (k := 6) (z := 1) dX11_buildableTogether_38 rfl (by decide) rfl rfl cb_11 (by decide) gw_429 ?_
          refine aw_iload_n (j := 1) (i := 1) dX11_buildableTogether_41 rfl rfl rfl ?_
          refine aw_iload_n (j := 2) (i := 2) dX11_buildableTogether_42 rfl rfl rfl ?_
          refine aw_aload_n (j := 0) (i := 0) dX11_buildableTogether_43 rfl rfl rfl ?_
          refine aw_getf (k := 5) (z := 53) dX11_buildableTogether_44 rfl (by decide) rfl rfl rfl cb_11 (by decide) gw_428 ?_
          refine aw_callV (M' := mX1_mostTogether) (S := []) (as := [vI a1, vI a2, vR 53 0]) (k := 0) dX11_buildableTogether_47 rfl (by decide) rfl rfl gw_1200 gw_1201 gw_1202 mb_X1_mostTogether rfl (Nat.zero_le _) (Nat.le_of_ble_eq_true rfl) rfl (CL.imp k (fun _ h5 k => ?_) (fun _ _ k => k))
          obtain ⟨r6, rfl, k⟩ := oI_of k
          show AW X (d + 1) rb mX11_buildableTogether 50 _ [vI r6] h5 Qr Qx
          exact aw_iret dX11_buildableTogether_50 rfl k
        · refine aw_callS (M' := mX11_checkArgument) (S := []) (as := [vI (if a1 = a2 then (0 : Int32) else 1)]) (k := rb) dX11_buildableTogether_20 rfl gw_1196 gw_1197 mb_X11_checkArgument rfl (Nat.le_refl _) (Nat.le_of_ble_eq_true rfl) rfl (CL.imp k (fun _ h3 k => ?_) (fun _ _ k => k))
          exact k.elim
      refine aw_icmp_eq 19 dX11_buildableTogether_12 rfl rfl (fun (c0 : a1 = a2) => ?_) (fun (c0 : ¬ a1 = a2) => ?_)
      · refine aw_iconst (v := 0) dX11_buildableTogether_19 rfl (by decide) ?_
        simp only [if_pos c0] at kk
        exact kk
      · refine aw_iconst (v := 1) dX11_buildableTogether_15 rfl (by decide) ?_
        refine aw_goto 20 dX11_buildableTogether_16 rfl ?_
        simp only [if_neg c0] at kk
        exact kk
    · refine aw_callV (M' := mX11_checkProduct) (S := []) (as := [vI a2]) (k := rb) dX11_buildableTogether_7 rfl (by decide) rfl rfl gw_1049 gw_1051 gw_19 mb_X11_checkProduct rfl (Nat.le_refl _) (Nat.le_of_ble_eq_true rfl) rfl (CL.imp k (fun _ h2 k => ?_) (fun _ _ k => k))
      exact k.elim
  · refine aw_callV (M' := mX11_checkProduct) (S := []) (as := [vI a1]) (k := rb) dX11_buildableTogether_2 rfl (by decide) rfl rfl gw_1049 gw_1051 gw_19 mb_X11_checkProduct rfl (Nat.le_refl _) (Nat.le_of_ble_eq_true rfl) rfl (CL.imp k (fun _ h1 k => ?_) (fun _ _ k => k))
    exact k.elim
set_option maxHeartbeats 4000000 in
set_option maxRecDepth 100000 in
theorem vc_X11_stateOf_0 {X : WD → State → Prop} {d rb : Nat} {h : Hp} {Qr : Option AV → Hp → Prop} {Qx : String → Hp → Prop} {a1 : Int32}  (k : (CL 0 d mX11_checkOrder [vR 11 0, vI a1] h (oV fun h1 => CL 0 d mX6_stateFor [vR 6 (h1.2.2 11 0 7), vI a1] h1 (oI fun r3 h2 => Qr (some (vI r3)) h2) Qx) Qx) ∨ (CL rb d mX11_checkOrder [vR 11 0, vI a1] h (fun _ _ => False) Qx)) : AW X (d + 1) rb mX11_stateOf 0 [(0, vR 11 0), (1, vI a1)] [] h Qr Qx := by
  refine aw_aload_n (j := 0) (i := 0) dX11_stateOf_0 rfl rfl rfl ?_
  refine aw_iload_n (j := 1) (i := 1) dX11_stateOf_1 rfl rfl rfl ?_
  rcases k with k | k
  · refine aw_callV (M' := mX11_checkOrder) (S := []) (as := [vI a1]) (k := 0) dX11_stateOf_2 rfl (by decide) rfl rfl gw_1224 gw_1226 gw_24 mb_X11_checkOrder rfl (Nat.zero_le _) (Nat.le_of_ble_eq_true rfl) rfl (CL.imp k (fun _ h1 k => ?_) (fun _ _ k => k))
    obtain ⟨rfl, k⟩ := oV_of k
    show AW X (d + 1) rb mX11_stateOf 5 _ [] h1 Qr Qx
    refine aw_aload_n (j := 0) (i := 0) dX11_stateOf_5 rfl rfl rfl ?_
    refine aw_getm (k := 7) (z := 5) dX11_stateOf_6 rfl (by decide) rfl rfl cb_11 (by decide) gw_430 ?_
    refine aw_getf (k := 1) (z := 6) dX11_stateOf_9 rfl (by decide) rfl rfl rfl cb_5 (by decide) gw_327 ?_
    refine aw_iload_n (j := 1) (i := 1) dX11_stateOf_12 rfl rfl rfl ?_
    refine aw_callV (M' := mX6_stateFor) (S := []) (as := [vI a1]) (k := 0) dX11_stateOf_13 rfl (by decide) rfl rfl gw_1229 gw_1230 gw_1231 mb_X6_stateFor rfl (Nat.zero_le _) (Nat.le_of_ble_eq_true rfl) rfl (CL.imp k (fun _ h2 k => ?_) (fun _ _ k => k))
    obtain ⟨r3, rfl, k⟩ := oI_of k
    show AW X (d + 1) rb mX11_stateOf 16 _ [vI r3] h2 Qr Qx
    exact aw_iret dX11_stateOf_16 rfl k
  · refine aw_callV (M' := mX11_checkOrder) (S := []) (as := [vI a1]) (k := rb) dX11_stateOf_2 rfl (by decide) rfl rfl gw_1224 gw_1226 gw_24 mb_X11_checkOrder rfl (Nat.le_refl _) (Nat.le_of_ble_eq_true rfl) rfl (CL.imp k (fun _ h1 k => ?_) (fun _ _ k => k))
    exact k.elim
set_option maxHeartbeats 4000000 in
set_option maxRecDepth 100000 in
theorem vc_X11_openUnits_0 {X : WD → State → Prop} {d rb : Nat} {h : Hp} {Qr : Option AV → Hp → Prop} {Qx : String → Hp → Prop} {a1 : Int32}  (k : (CL 0 d mX11_checkOrder [vR 11 0, vI a1] h (oV fun h1 => CL 0 d mX6_openOf [vR 6 (h1.2.2 11 0 7), vI a1] h1 (oI fun r3 h2 => Qr (some (vI r3)) h2) Qx) Qx) ∨ (CL rb d mX11_checkOrder [vR 11 0, vI a1] h (fun _ _ => False) Qx)) : AW X (d + 1) rb mX11_openUnits 0 [(0, vR 11 0), (1, vI a1)] [] h Qr Qx := by
  refine aw_aload_n (j := 0) (i := 0) dX11_openUnits_0 rfl rfl rfl ?_
  refine aw_iload_n (j := 1) (i := 1) dX11_openUnits_1 rfl rfl rfl ?_
  rcases k with k | k
  · refine aw_callV (M' := mX11_checkOrder) (S := []) (as := [vI a1]) (k := 0) dX11_openUnits_2 rfl (by decide) rfl rfl gw_1224 gw_1226 gw_24 mb_X11_checkOrder rfl (Nat.zero_le _) (Nat.le_of_ble_eq_true rfl) rfl (CL.imp k (fun _ h1 k => ?_) (fun _ _ k => k))
    obtain ⟨rfl, k⟩ := oV_of k
    show AW X (d + 1) rb mX11_openUnits 5 _ [] h1 Qr Qx
    refine aw_aload_n (j := 0) (i := 0) dX11_openUnits_5 rfl rfl rfl ?_
    refine aw_getm (k := 7) (z := 5) dX11_openUnits_6 rfl (by decide) rfl rfl cb_11 (by decide) gw_430 ?_
    refine aw_getf (k := 1) (z := 6) dX11_openUnits_9 rfl (by decide) rfl rfl rfl cb_5 (by decide) gw_327 ?_
    refine aw_iload_n (j := 1) (i := 1) dX11_openUnits_12 rfl rfl rfl ?_
    refine aw_callV (M' := mX6_openOf) (S := []) (as := [vI a1]) (k := 0) dX11_openUnits_13 rfl (by decide) rfl rfl gw_540 gw_500 gw_501 mb_X6_openOf rfl (Nat.zero_le _) (Nat.le_of_ble_eq_true rfl) rfl (CL.imp k (fun _ h2 k => ?_) (fun _ _ k => k))
    obtain ⟨r3, rfl, k⟩ := oI_of k
    show AW X (d + 1) rb mX11_openUnits 16 _ [vI r3] h2 Qr Qx
    exact aw_iret dX11_openUnits_16 rfl k
  · refine aw_callV (M' := mX11_checkOrder) (S := []) (as := [vI a1]) (k := rb) dX11_openUnits_2 rfl (by decide) rfl rfl gw_1224 gw_1226 gw_24 mb_X11_checkOrder rfl (Nat.le_refl _) (Nat.le_of_ble_eq_true rfl) rfl (CL.imp k (fun _ h1 k => ?_) (fun _ _ k => k))
    exact k.elim
set_option maxHeartbeats 4000000 in
set_option maxRecDepth 100000 in
theorem vc_X11_reservedUnits_0 {X : WD → State → Prop} {d rb : Nat} {h : Hp} {Qr : Option AV → Hp → Prop} {Qx : String → Hp → Prop} {a1 : Int32}  (k : (CL 0 d mX11_checkOrder [vR 11 0, vI a1] h (oV fun h1 => CL 0 d mX6_reservedOf [vR 6 (h1.2.2 11 0 7), vI a1] h1 (oI fun r3 h2 => Qr (some (vI r3)) h2) Qx) Qx) ∨ (CL rb d mX11_checkOrder [vR 11 0, vI a1] h (fun _ _ => False) Qx)) : AW X (d + 1) rb mX11_reservedUnits 0 [(0, vR 11 0), (1, vI a1)] [] h Qr Qx := by
  refine aw_aload_n (j := 0) (i := 0) dX11_reservedUnits_0 rfl rfl rfl ?_
  refine aw_iload_n (j := 1) (i := 1) dX11_reservedUnits_1 rfl rfl rfl ?_
  rcases k with k | k
  · refine aw_callV (M' := mX11_checkOrder) (S := []) (as := [vI a1]) (k := 0) dX11_reservedUnits_2 rfl (by decide) rfl rfl gw_1224 gw_1226 gw_24 mb_X11_checkOrder rfl (Nat.zero_le _) (Nat.le_of_ble_eq_true rfl) rfl (CL.imp k (fun _ h1 k => ?_) (fun _ _ k => k))
    obtain ⟨rfl, k⟩ := oV_of k
    show AW X (d + 1) rb mX11_reservedUnits 5 _ [] h1 Qr Qx
    refine aw_aload_n (j := 0) (i := 0) dX11_reservedUnits_5 rfl rfl rfl ?_
    refine aw_getm (k := 7) (z := 5) dX11_reservedUnits_6 rfl (by decide) rfl rfl cb_11 (by decide) gw_430 ?_
    refine aw_getf (k := 1) (z := 6) dX11_reservedUnits_9 rfl (by decide) rfl rfl rfl cb_5 (by decide) gw_327 ?_
    refine aw_iload_n (j := 1) (i := 1) dX11_reservedUnits_12 rfl rfl rfl ?_
    refine aw_callV (M' := mX6_reservedOf) (S := []) (as := [vI a1]) (k := 0) dX11_reservedUnits_13 rfl (by decide) rfl rfl gw_1252 gw_1235 gw_1236 mb_X6_reservedOf rfl (Nat.zero_le _) (Nat.le_of_ble_eq_true rfl) rfl (CL.imp k (fun _ h2 k => ?_) (fun _ _ k => k))
    obtain ⟨r3, rfl, k⟩ := oI_of k
    show AW X (d + 1) rb mX11_reservedUnits 16 _ [vI r3] h2 Qr Qx
    exact aw_iret dX11_reservedUnits_16 rfl k
  · refine aw_callV (M' := mX11_checkOrder) (S := []) (as := [vI a1]) (k := rb) dX11_reservedUnits_2 rfl (by decide) rfl rfl gw_1224 gw_1226 gw_24 mb_X11_checkOrder rfl (Nat.le_refl _) (Nat.le_of_ble_eq_true rfl) rfl (CL.imp k (fun _ h1 k => ?_) (fun _ _ k => k))
    exact k.elim
set_option maxHeartbeats 4000000 in
set_option maxRecDepth 100000 in
theorem vc_X11_shippedUnits_0 {X : WD → State → Prop} {d rb : Nat} {h : Hp} {Qr : Option AV → Hp → Prop} {Qx : String → Hp → Prop} {a1 : Int32}  (k : (CL 0 d mX11_checkOrder [vR 11 0, vI a1] h (oV fun h1 => CL 0 d mX6_shippedOf [vR 6 (h1.2.2 11 0 7), vI a1] h1 (oI fun r3 h2 => Qr (some (vI r3)) h2) Qx) Qx) ∨ (CL rb d mX11_checkOrder [vR 11 0, vI a1] h (fun _ _ => False) Qx)) : AW X (d + 1) rb mX11_shippedUnits 0 [(0, vR 11 0), (1, vI a1)] [] h Qr Qx := by
  refine aw_aload_n (j := 0) (i := 0) dX11_shippedUnits_0 rfl rfl rfl ?_
  refine aw_iload_n (j := 1) (i := 1) dX11_shippedUnits_1 rfl rfl rfl ?_
  rcases k with k | k
  · refine aw_callV (M' := mX11_checkOrder) (S := []) (as := [vI a1]) (k := 0) dX11_shippedUnits_2 rfl (by decide) rfl rfl gw_1224 gw_1226 gw_24 mb_X11_checkOrder rfl (Nat.zero_le _) (Nat.le_of_ble_eq_true rfl) rfl (CL.imp k (fun _ h1 k => ?_) (fun _ _ k => k))
    obtain ⟨rfl, k⟩ := oV_of k
    show AW X (d + 1) rb mX11_shippedUnits 5 _ [] h1 Qr Qx
    refine aw_aload_n (j := 0) (i := 0) dX11_shippedUnits_5 rfl rfl rfl ?_
    refine aw_getm (k := 7) (z := 5) dX11_shippedUnits_6 rfl (by decide) rfl rfl cb_11 (by decide) gw_430 ?_
    refine aw_getf (k := 1) (z := 6) dX11_shippedUnits_9 rfl (by decide) rfl rfl rfl cb_5 (by decide) gw_327 ?_
    refine aw_iload_n (j := 1) (i := 1) dX11_shippedUnits_12 rfl rfl rfl ?_
    refine aw_callV (M' := mX6_shippedOf) (S := []) (as := [vI a1]) (k := 0) dX11_shippedUnits_13 rfl (by decide) rfl rfl gw_1260 gw_1261 gw_1262 mb_X6_shippedOf rfl (Nat.zero_le _) (Nat.le_of_ble_eq_true rfl) rfl (CL.imp k (fun _ h2 k => ?_) (fun _ _ k => k))
    obtain ⟨r3, rfl, k⟩ := oI_of k
    show AW X (d + 1) rb mX11_shippedUnits 16 _ [vI r3] h2 Qr Qx
    exact aw_iret dX11_shippedUnits_16 rfl k
  · refine aw_callV (M' := mX11_checkOrder) (S := []) (as := [vI a1]) (k := rb) dX11_shippedUnits_2 rfl (by decide) rfl rfl gw_1224 gw_1226 gw_24 mb_X11_checkOrder rfl (Nat.le_refl _) (Nat.le_of_ble_eq_true rfl) rfl (CL.imp k (fun _ h1 k => ?_) (fun _ _ k => k))
    exact k.elim
set_option maxHeartbeats 4000000 in
set_option maxRecDepth 100000 in
theorem vc_X11_orderField_0 {X : WD → State → Prop} {d rb : Nat} {h : Hp} {Qr : Option AV → Hp → Prop} {Qx : String → Hp → Prop} {a1 : Int32} {a2 : Int32}  (k : (CL 0 d mX11_checkOrder [vR 11 0, vI a1] h (oV fun h1 => ((a2 < 0 ∨ 4 < a2) → Qr (some (vI (-1))) h1) ∧ ((a2 = 0) → CL 0 d mX6_productOf [vR 6 (h1.2.2 11 0 7), vI a1] h1 (oI fun r3 h2 => Qr (some (vI r3)) h2) Qx) ∧ ((a2 = 1) → CL 0 d mX6_quantityOf [vR 6 (h1.2.2 11 0 7), vI a1] h1 (oI fun r5 h4 => Qr (some (vI r5)) h4) Qx) ∧ ((a2 = 2) → CL 0 d mX6_classOf [vR 6 (h1.2.2 11 0 7), vI a1] h1 (oI fun r7 h6 => Qr (some (vI r7)) h6) Qx) ∧ ((a2 = 3) → CL 0 d mX6_dueOf [vR 6 (h1.2.2 11 0 7), vI a1] h1 (oI fun r9 h8 => Qr (some (vI r9)) h8) Qx) ∧ ((a2 = 4) → CL 0 d mX6_isWhole [vR 6 (h1.2.2 11 0 7), vI a1] h1 (oI fun r11 h10 => Qr (some (vI (if r11 = 0 then (0 : Int32) else 1))) h10) Qx)) Qx) ∨ (CL rb d mX11_checkOrder [vR 11 0, vI a1] h (fun _ _ => False) Qx)) : AW X (d + 1) rb mX11_orderField 0 [(0, vR 11 0), (1, vI a1), (2, vI a2)] [] h Qr Qx := by
  refine aw_aload_n (j := 0) (i := 0) dX11_orderField_0 rfl rfl rfl ?_
  refine aw_iload_n (j := 1) (i := 1) dX11_orderField_1 rfl rfl rfl ?_
  rcases k with k | k
  · refine aw_callV (M' := mX11_checkOrder) (S := []) (as := [vI a1]) (k := 0) dX11_orderField_2 rfl (by decide) rfl rfl gw_1224 gw_1226 gw_24 mb_X11_checkOrder rfl (Nat.zero_le _) (Nat.le_of_ble_eq_true rfl) rfl (CL.imp k (fun _ h1 k => ?_) (fun _ _ k => k))
    obtain ⟨rfl, k⟩ := oV_of k
    show AW X (d + 1) rb mX11_orderField 5 _ [] h1 Qr Qx
    refine aw_aload_n (j := 0) (i := 0) dX11_orderField_5 rfl rfl rfl ?_
    refine aw_getm (k := 7) (z := 5) dX11_orderField_6 rfl (by decide) rfl rfl cb_11 (by decide) gw_430 ?_
    refine aw_getf (k := 1) (z := 6) dX11_orderField_9 rfl (by decide) rfl rfl rfl cb_5 (by decide) gw_327 ?_
    refine aw_astore_n (i := 3) (L2 := [(3, vR 6 (h1.2.2 11 0 7)), (0, vR 11 0), (1, vI a1), (2, vI a2)]) dX11_orderField_12 rfl rfl (by decide) rfl ?_
    refine aw_iload_n (j := 3) (i := 2) dX11_orderField_13 rfl rfl rfl ?_
    rcases oa_sw 4 (by decide) a2 with hz | ⟨jj, hj, hz⟩
    · replace k := k.1 hz
      refine aw_tabOut 86 dX11_orderField_14 (oa_swo rfl hz) rfl ?_
      refine aw_iconst (v := (-1)) dX11_orderField_86 rfl (by decide) ?_
      exact aw_iret dX11_orderField_87 rfl k
    · replace k := k.2
      rcases (show jj = 0 ∨ jj = 1 ∨ jj = 2 ∨ jj = 3 ∨ jj = 4 by omega) with rfl | rfl | rfl | rfl | rfl
      · replace hz : a2 = 0 := hz
        replace k := k.1 hz
        refine aw_tabIn (z := 34) 48 dX11_orderField_14 (by rw [hz]; decide) (by rw [hz]; decide) (by rw [hz]; rfl) rfl ?_
        refine aw_aload_n (j := 0) (i := 3) dX11_orderField_48 rfl rfl rfl ?_
        refine aw_iload_n (j := 2) (i := 1) dX11_orderField_49 rfl rfl rfl ?_
        refine aw_callV (M' := mX6_productOf) (S := []) (as := [vI a1]) (k := 0) dX11_orderField_50 rfl (by decide) rfl rfl gw_541 gw_505 gw_506 mb_X6_productOf rfl (Nat.zero_le _) (Nat.le_of_ble_eq_true rfl) rfl (CL.imp k (fun _ h2 k => ?_) (fun _ _ k => k))
        obtain ⟨r3, rfl, k⟩ := oI_of k
        show AW X (d + 1) rb mX11_orderField 53 _ [vI r3] h2 Qr Qx
        exact aw_iret dX11_orderField_53 rfl k
      · replace hz : a2 = 1 := hz
        replace k := k.2.1 hz
        refine aw_tabIn (z := 40) 54 dX11_orderField_14 (by rw [hz]; decide) (by rw [hz]; decide) (by rw [hz]; rfl) rfl ?_
        refine aw_aload_n (j := 0) (i := 3) dX11_orderField_54 rfl rfl rfl ?_
        refine aw_iload_n (j := 2) (i := 1) dX11_orderField_55 rfl rfl rfl ?_
        refine aw_callV (M' := mX6_quantityOf) (S := []) (as := [vI a1]) (k := 0) dX11_orderField_56 rfl (by decide) rfl rfl gw_1271 gw_1272 gw_1273 mb_X6_quantityOf rfl (Nat.zero_le _) (Nat.le_of_ble_eq_true rfl) rfl (CL.imp k (fun _ h4 k => ?_) (fun _ _ k => k))
        obtain ⟨r5, rfl, k⟩ := oI_of k
        show AW X (d + 1) rb mX11_orderField 59 _ [vI r5] h4 Qr Qx
        exact aw_iret dX11_orderField_59 rfl k
      · replace hz : a2 = 2 := hz
        replace k := k.2.2.1 hz
        refine aw_tabIn (z := 46) 60 dX11_orderField_14 (by rw [hz]; decide) (by rw [hz]; decide) (by rw [hz]; rfl) rfl ?_
        refine aw_aload_n (j := 0) (i := 3) dX11_orderField_60 rfl rfl rfl ?_
        refine aw_iload_n (j := 2) (i := 1) dX11_orderField_61 rfl rfl rfl ?_
        refine aw_callV (M' := mX6_classOf) (S := []) (as := [vI a1]) (k := 0) dX11_orderField_62 rfl (by decide) rfl rfl gw_1275 gw_591 gw_592 mb_X6_classOf rfl (Nat.zero_le _) (Nat.le_of_ble_eq_true rfl) rfl (CL.imp k (fun _ h6 k => ?_) (fun _ _ k => k))
        obtain ⟨r7, rfl, k⟩ := oI_of k
        show AW X (d + 1) rb mX11_orderField 65 _ [vI r7] h6 Qr Qx
        exact aw_iret dX11_orderField_65 rfl k
      · replace hz : a2 = 3 := hz
        replace k := k.2.2.2.1 hz
        refine aw_tabIn (z := 52) 66 dX11_orderField_14 (by rw [hz]; decide) (by rw [hz]; decide) (by rw [hz]; rfl) rfl ?_
        refine aw_aload_n (j := 0) (i := 3) dX11_orderField_66 rfl rfl rfl ?_
        refine aw_iload_n (j := 2) (i := 1) dX11_orderField_67 rfl rfl rfl ?_
        refine aw_callV (M' := mX6_dueOf) (S := []) (as := [vI a1]) (k := 0) dX11_orderField_68 rfl (by decide) rfl rfl gw_561 gw_562 gw_563 mb_X6_dueOf rfl (Nat.zero_le _) (Nat.le_of_ble_eq_true rfl) rfl (CL.imp k (fun _ h8 k => ?_) (fun _ _ k => k))
        obtain ⟨r9, rfl, k⟩ := oI_of k
        show AW X (d + 1) rb mX11_orderField 71 _ [vI r9] h8 Qr Qx
        exact aw_iret dX11_orderField_71 rfl k
      · replace hz : a2 = 4 := hz
        replace k := k.2.2.2.2 hz
        refine aw_tabIn (z := 58) 72 dX11_orderField_14 (by rw [hz]; decide) (by rw [hz]; decide) (by rw [hz]; rfl) rfl ?_
        refine aw_aload_n (j := 0) (i := 3) dX11_orderField_72 rfl rfl rfl ?_
        refine aw_iload_n (j := 2) (i := 1) dX11_orderField_73 rfl rfl rfl ?_
        refine aw_callV (M' := mX6_isWhole) (S := []) (as := [vI a1]) (k := 0) dX11_orderField_74 rfl (by decide) rfl rfl gw_1276 gw_679 gw_680 mb_X6_isWhole rfl (Nat.zero_le _) (Nat.le_of_ble_eq_true rfl) rfl (CL.imp k (fun _ h10 k => ?_) (fun _ _ k => k))
        obtain ⟨r11, rfl, k⟩ := oI_of k
        show AW X (d + 1) rb mX11_orderField 77 _ [vI r11] h10 Qr Qx
        have kk : AW X (d + 1) rb mX11_orderField 85 [(3, vR 6 (h1.2.2 11 0 7)), (0, vR 11 0), (1, vI a1), (2, vI a2)] [vI (if r11 = 0 then (0 : Int32) else 1)] h10 Qr Qx := by
          exact aw_iret dX11_orderField_85 rfl k
        refine aw_if_eq 84 dX11_orderField_77 rfl rfl (fun (c0 : r11 = 0) => ?_) (fun (c0 : ¬ r11 = 0) => ?_)
        · refine aw_iconst (v := 0) dX11_orderField_84 rfl (by decide) ?_
          simp only [if_pos c0] at kk
          exact kk
        · refine aw_iconst (v := 1) dX11_orderField_80 rfl (by decide) ?_
          refine aw_goto 85 dX11_orderField_81 rfl ?_
          simp only [if_neg c0] at kk
          exact kk
  · refine aw_callV (M' := mX11_checkOrder) (S := []) (as := [vI a1]) (k := rb) dX11_orderField_2 rfl (by decide) rfl rfl gw_1224 gw_1226 gw_24 mb_X11_checkOrder rfl (Nat.le_refl _) (Nat.le_of_ble_eq_true rfl) rfl (CL.imp k (fun _ h1 k => ?_) (fun _ _ k => k))
    exact k.elim
set_option maxHeartbeats 4000000 in
set_option maxRecDepth 100000 in
theorem vc_X11_missing_0 {X : WD → State → Prop} {d rb : Nat} {h : Hp} {Qr : Option AV → Hp → Prop} {Qx : String → Hp → Prop} {a1 : Int32} {a2 : Int32}  (k : (CL 0 d mX11_checkOrder [vR 11 0, vI a1] h (oV fun h1 => (CL 0 d mX11_checkPart [vR 11 0, vI a2] h1 (oV fun h2 => CL 0 d mX11_shortageOf [vR 11 0, vI a1, vI a2] h2 (oI fun r4 h3 => Qr (some (vI r4)) h3) Qx) Qx) ∨ (CL rb d mX11_checkPart [vR 11 0, vI a2] h1 (fun _ _ => False) Qx)) Qx) ∨ (CL rb d mX11_checkOrder [vR 11 0, vI a1] h (fun _ _ => False) Qx)) : AW X (d + 1) rb mX11_missing 0 [(0, vR 11 0), (1, vI a1), (2, vI a2)] [] h Qr Qx := by
  refine aw_aload_n (j := 0) (i := 0) dX11_missing_0 rfl rfl rfl ?_
  refine aw_iload_n (j := 1) (i := 1) dX11_missing_1 rfl rfl rfl ?_
  rcases k with k | k
  · refine aw_callV (M' := mX11_checkOrder) (S := []) (as := [vI a1]) (k := 0) dX11_missing_2 rfl (by decide) rfl rfl gw_1224 gw_1226 gw_24 mb_X11_checkOrder rfl (Nat.zero_le _) (Nat.le_of_ble_eq_true rfl) rfl (CL.imp k (fun _ h1 k => ?_) (fun _ _ k => k))
    obtain ⟨rfl, k⟩ := oV_of k
    show AW X (d + 1) rb mX11_missing 5 _ [] h1 Qr Qx
    refine aw_aload_n (j := 0) (i := 0) dX11_missing_5 rfl rfl rfl ?_
    refine aw_iload_n (j := 2) (i := 2) dX11_missing_6 rfl rfl rfl ?_
    rcases k with k | k
    · refine aw_callV (M' := mX11_checkPart) (S := []) (as := [vI a2]) (k := 0) dX11_missing_7 rfl (by decide) rfl rfl gw_1104 gw_1106 gw_20 mb_X11_checkPart rfl (Nat.zero_le _) (Nat.le_of_ble_eq_true rfl) rfl (CL.imp k (fun _ h2 k => ?_) (fun _ _ k => k))
      obtain ⟨rfl, k⟩ := oV_of k
      show AW X (d + 1) rb mX11_missing 10 _ [] h2 Qr Qx
      refine aw_aload_n (j := 0) (i := 0) dX11_missing_10 rfl rfl rfl ?_
      refine aw_iload_n (j := 1) (i := 1) dX11_missing_11 rfl rfl rfl ?_
      refine aw_iload_n (j := 2) (i := 2) dX11_missing_12 rfl rfl rfl ?_
      refine aw_callV (M' := mX11_shortageOf) (S := []) (as := [vI a1, vI a2]) (k := 0) dX11_missing_13 rfl (by decide) rfl rfl gw_1284 gw_1286 gw_25 mb_X11_shortageOf rfl (Nat.zero_le _) (Nat.le_of_ble_eq_true rfl) rfl (CL.imp k (fun _ h3 k => ?_) (fun _ _ k => k))
      obtain ⟨r4, rfl, k⟩ := oI_of k
      show AW X (d + 1) rb mX11_missing 16 _ [vI r4] h3 Qr Qx
      exact aw_iret dX11_missing_16 rfl k
    · refine aw_callV (M' := mX11_checkPart) (S := []) (as := [vI a2]) (k := rb) dX11_missing_7 rfl (by decide) rfl rfl gw_1104 gw_1106 gw_20 mb_X11_checkPart rfl (Nat.le_refl _) (Nat.le_of_ble_eq_true rfl) rfl (CL.imp k (fun _ h2 k => ?_) (fun _ _ k => k))
      exact k.elim
  · refine aw_callV (M' := mX11_checkOrder) (S := []) (as := [vI a1]) (k := rb) dX11_missing_2 rfl (by decide) rfl rfl gw_1224 gw_1226 gw_24 mb_X11_checkOrder rfl (Nat.le_refl _) (Nat.le_of_ble_eq_true rfl) rfl (CL.imp k (fun _ h1 k => ?_) (fun _ _ k => k))
    exact k.elim
set_option maxHeartbeats 4000000 in
set_option maxRecDepth 100000 in
theorem vc_X11_toBuy_0 {X : WD → State → Prop} {d rb : Nat} {h : Hp} {Qr : Option AV → Hp → Prop} {Qx : String → Hp → Prop} {a1 : Int32}  (k : (CL 0 d mX11_checkPart [vR 11 0, vI a1] h (oV fun h1 => CL 0 d mX11_shortageOfAll [vR 11 0, vI a1] h1 (oI fun r3 h2 => Qr (some (vI r3)) h2) Qx) Qx) ∨ (CL rb d mX11_checkPart [vR 11 0, vI a1] h (fun _ _ => False) Qx)) : AW X (d + 1) rb mX11_toBuy 0 [(0, vR 11 0), (1, vI a1)] [] h Qr Qx := by
  refine aw_aload_n (j := 0) (i := 0) dX11_toBuy_0 rfl rfl rfl ?_
  refine aw_iload_n (j := 1) (i := 1) dX11_toBuy_1 rfl rfl rfl ?_
  rcases k with k | k
  · refine aw_callV (M' := mX11_checkPart) (S := []) (as := [vI a1]) (k := 0) dX11_toBuy_2 rfl (by decide) rfl rfl gw_1104 gw_1106 gw_20 mb_X11_checkPart rfl (Nat.zero_le _) (Nat.le_of_ble_eq_true rfl) rfl (CL.imp k (fun _ h1 k => ?_) (fun _ _ k => k))
    obtain ⟨rfl, k⟩ := oV_of k
    show AW X (d + 1) rb mX11_toBuy 5 _ [] h1 Qr Qx
    refine aw_aload_n (j := 0) (i := 0) dX11_toBuy_5 rfl rfl rfl ?_
    refine aw_iload_n (j := 1) (i := 1) dX11_toBuy_6 rfl rfl rfl ?_
    refine aw_callV (M' := mX11_shortageOfAll) (S := []) (as := [vI a1]) (k := 0) dX11_toBuy_7 rfl (by decide) rfl rfl gw_491 gw_493 gw_0 mb_X11_shortageOfAll rfl (Nat.zero_le _) (Nat.le_of_ble_eq_true rfl) rfl (CL.imp k (fun _ h2 k => ?_) (fun _ _ k => k))
    obtain ⟨r3, rfl, k⟩ := oI_of k
    show AW X (d + 1) rb mX11_toBuy 10 _ [vI r3] h2 Qr Qx
    exact aw_iret dX11_toBuy_10 rfl k
  · refine aw_callV (M' := mX11_checkPart) (S := []) (as := [vI a1]) (k := rb) dX11_toBuy_2 rfl (by decide) rfl rfl gw_1104 gw_1106 gw_20 mb_X11_checkPart rfl (Nat.le_refl _) (Nat.le_of_ble_eq_true rfl) rfl (CL.imp k (fun _ h1 k => ?_) (fun _ _ k => k))
    exact k.elim
set_option maxHeartbeats 4000000 in
set_option maxRecDepth 100000 in
theorem vc_X11_scarcestPart_0 {X : WD → State → Prop} {d rb : Nat} {h : Hp} {Qr : Option AV → Hp → Prop} {Qx : String → Hp → Prop}   (k : AW X (d + 1) rb mX11_scarcestPart 6 [(0, vR 11 0), (1, vI (-1)), (2, vI 0), (3, vI 0)] [] h Qr Qx) : AW X (d + 1) rb mX11_scarcestPart 0 [(0, vR 11 0)] [] h Qr Qx := by
  refine aw_iconst (v := (-1)) dX11_scarcestPart_0 rfl (by decide) ?_
  refine aw_istore_n (i := 1) (L2 := [(1, vI (-1)), (0, vR 11 0)]) dX11_scarcestPart_1 rfl rfl (by decide) rfl ?_
  refine aw_iconst (v := 0) dX11_scarcestPart_2 rfl (by decide) ?_
  refine aw_istore_n (i := 2) (L2 := [(2, vI 0), (1, vI (-1)), (0, vR 11 0)]) dX11_scarcestPart_3 rfl rfl (by decide) rfl ?_
  refine aw_iconst (v := 0) dX11_scarcestPart_4 rfl (by decide) ?_
  refine aw_istore_n (i := 3) (L2 := [(3, vI 0), (2, vI 0), (1, vI (-1)), (0, vR 11 0)]) dX11_scarcestPart_5 rfl rfl (by decide) rfl ?_
  exact aw_sub [3, 2, 1, 0] rfl k
set_option maxHeartbeats 4000000 in
set_option maxRecDepth 100000 in
theorem vc_X11_scarcestPart_6 {X : WD → State → Prop} {d rb : Nat} {h : Hp} {Qr : Option AV → Hp → Prop} {Qx : String → Hp → Prop} {x1 : Int32} {x2 : Int32} {x3 : Int32}  (k : (((h.1 1 (h.2.2 11 0 6) 0) ≤ x3) → Qr (some (vI x1)) h) ∧ ((¬ (h.1 1 (h.2.2 11 0 6) 0) ≤ x3) → CL 0 d mX11_shortageOfAll [vR 11 0, vI x3] h (oI fun r2 h1 => ((r2 ≤ x2) → AW X (d + 1) rb mX11_scarcestPart 6 [(0, vR 11 0), (1, vI x1), (2, vI x2), (3, vI (x3 + 1))] [] h1 Qr Qx) ∧ ((¬ r2 ≤ x2) → AW X (d + 1) rb mX11_scarcestPart 6 [(0, vR 11 0), (1, vI x3), (2, vI r2), (3, vI (x3 + 1))] [] h1 Qr Qx)) Qx)) : AW X (d + 1) rb mX11_scarcestPart 6 [(0, vR 11 0), (1, vI x1), (2, vI x2), (3, vI x3)] [] h Qr Qx := by
  refine aw_iload_n (j := 3) (i := 3) dX11_scarcestPart_6 rfl rfl rfl ?_
  refine aw_aload_n (j := 0) (i := 0) dX11_scarcestPart_7 rfl rfl rfl ?_
  refine aw_getm (k := 6) (z := 1) dX11_scarcestPart_8 rfl (by decide) rfl rfl cb_11 (by decide) gw_429 ?_
  refine aw_geti (k := 0) dX11_scarcestPart_11 rfl (by decide) rfl rfl cb_1 (by decide) gw_175 ?_
  refine aw_icmp_ge 41 dX11_scarcestPart_14 rfl rfl (fun c => ?_) (fun c => ?_)
  · replace k := k.1 c
    refine aw_iload_n (j := 1) (i := 1) dX11_scarcestPart_41 rfl rfl rfl ?_
    exact aw_iret dX11_scarcestPart_42 rfl k
  · replace k := k.2 c
    refine aw_aload_n (j := 0) (i := 0) dX11_scarcestPart_17 rfl rfl rfl ?_
    refine aw_iload_n (j := 3) (i := 3) dX11_scarcestPart_18 rfl rfl rfl ?_
    refine aw_callV (M' := mX11_shortageOfAll) (S := []) (as := [vI x3]) (k := 0) dX11_scarcestPart_19 rfl (by decide) rfl rfl gw_491 gw_493 gw_0 mb_X11_shortageOfAll rfl (Nat.zero_le _) (Nat.le_of_ble_eq_true rfl) rfl (CL.imp k (fun _ h1 k => ?_) (fun _ _ k => k))
    obtain ⟨r2, rfl, k⟩ := oI_of k
    show AW X (d + 1) rb mX11_scarcestPart 22 _ [vI r2] h1 Qr Qx
    refine aw_istore (i := 4) (L2 := [(4, vI r2), (0, vR 11 0), (1, vI x1), (2, vI x2), (3, vI x3)]) dX11_scarcestPart_22 rfl (by decide) rfl ?_
    refine aw_iload (j := 0) (i := 4) dX11_scarcestPart_24 rfl rfl ?_
    refine aw_iload_n (j := 3) (i := 2) dX11_scarcestPart_26 rfl rfl rfl ?_
    refine aw_icmp_le 35 dX11_scarcestPart_27 rfl rfl (fun c => ?_) (fun c => ?_)
    · replace k := k.1 c
      refine aw_iinc (i := 3) (j := 4) (v := x3 + 1) (L2 := [(3, vI (x3 + 1)), (4, vI r2), (0, vR 11 0), (1, vI x1), (2, vI x2)]) dX11_scarcestPart_35 rfl (by decide) rfl rfl rfl ?_
      refine aw_goto 6 dX11_scarcestPart_38 rfl ?_
      exact aw_sub [2, 3, 4, 0] rfl k
    · replace k := k.2 c
      refine aw_iload (j := 0) (i := 4) dX11_scarcestPart_30 rfl rfl ?_
      refine aw_istore_n (i := 2) (L2 := [(2, vI r2), (4, vI r2), (0, vR 11 0), (1, vI x1), (3, vI x3)]) dX11_scarcestPart_32 rfl rfl (by decide) rfl ?_
      refine aw_iload_n (j := 4) (i := 3) dX11_scarcestPart_33 rfl rfl rfl ?_
      refine aw_istore_n (i := 1) (L2 := [(1, vI x3), (2, vI r2), (4, vI r2), (0, vR 11 0), (3, vI x3)]) dX11_scarcestPart_34 rfl rfl (by decide) rfl ?_
      refine aw_iinc (i := 3) (j := 4) (v := x3 + 1) (L2 := [(3, vI (x3 + 1)), (1, vI x3), (2, vI r2), (4, vI r2), (0, vR 11 0)]) dX11_scarcestPart_35 rfl (by decide) rfl rfl rfl ?_
      refine aw_goto 6 dX11_scarcestPart_38 rfl ?_
      exact aw_sub [4, 1, 2, 0] rfl k
set_option maxHeartbeats 4000000 in
set_option maxRecDepth 100000 in
theorem vc_X11_promise_0 {X : WD → State → Prop} {d rb : Nat} {h : Hp} {Qr : Option AV → Hp → Prop} {Qx : String → Hp → Prop} {a1 : Int32} {a2 : Int32}  (k : (CL 0 d mX11_checkProduct [vR 11 0, vI a1] h (oV fun h1 => (CL 0 d mX11_checkArgument [vI (if a2 < 1 then (0 : Int32) else (if 999 < a2 then (0 : Int32) else 1))] h1 (oV fun h2 => CL 0 d mX11_promiseDate [vR 11 0, vI a1, vI a2] h2 (oI fun r4 h3 => Qr (some (vI r4)) h3) Qx) Qx) ∨ (CL rb d mX11_checkArgument [vI (if a2 < 1 then (0 : Int32) else (if 999 < a2 then (0 : Int32) else 1))] h1 (fun _ _ => False) Qx)) Qx) ∨ (CL rb d mX11_checkProduct [vR 11 0, vI a1] h (fun _ _ => False) Qx)) : AW X (d + 1) rb mX11_promise 0 [(0, vR 11 0), (1, vI a1), (2, vI a2)] [] h Qr Qx := by
  refine aw_aload_n (j := 0) (i := 0) dX11_promise_0 rfl rfl rfl ?_
  refine aw_iload_n (j := 1) (i := 1) dX11_promise_1 rfl rfl rfl ?_
  rcases k with k | k
  · refine aw_callV (M' := mX11_checkProduct) (S := []) (as := [vI a1]) (k := 0) dX11_promise_2 rfl (by decide) rfl rfl gw_1049 gw_1051 gw_19 mb_X11_checkProduct rfl (Nat.zero_le _) (Nat.le_of_ble_eq_true rfl) rfl (CL.imp k (fun _ h1 k => ?_) (fun _ _ k => k))
    obtain ⟨rfl, k⟩ := oV_of k
    show AW X (d + 1) rb mX11_promise 5 _ [] h1 Qr Qx
    refine aw_iload_n (j := 2) (i := 2) dX11_promise_5 rfl rfl rfl ?_
    refine aw_iconst (v := 1) dX11_promise_6 rfl (by decide) ?_
    have kk : AW X (d + 1) rb mX11_promise 22 [(0, vR 11 0), (1, vI a1), (2, vI a2)] [vI (if a2 < 1 then (0 : Int32) else (if 999 < a2 then (0 : Int32) else 1))] h1 Qr Qx := by
      rcases k with k | k
      · refine aw_callS (M' := mX11_checkArgument) (S := []) (as := [vI (if a2 < 1 then (0 : Int32) else (if 999 < a2 then (0 : Int32) else 1))]) (k := 0) dX11_promise_22 rfl gw_1196 gw_1197 mb_X11_checkArgument rfl (Nat.zero_le _) (Nat.le_of_ble_eq_true rfl) rfl (CL.imp k (fun _ h2 k => ?_) (fun _ _ k => k))
        obtain ⟨rfl, k⟩ := oV_of k
        show AW X (d + 1) rb mX11_promise 25 _ [] h2 Qr Qx
        refine aw_aload_n (j := 0) (i := 0) dX11_promise_25 rfl rfl rfl ?_
        refine aw_iload_n (j := 1) (i := 1) dX11_promise_26 rfl rfl rfl ?_
        refine aw_iload_n (j := 2) (i := 2) dX11_promise_27 rfl rfl rfl ?_
        refine aw_callV (M' := mX11_promiseDate) (S := []) (as := [vI a1, vI a2]) (k := 0) dX11_promise_28 rfl (by decide) rfl rfl gw_542 gw_544 gw_2 mb_X11_promiseDate rfl (Nat.zero_le _) (Nat.le_of_ble_eq_true rfl) rfl (CL.imp k (fun _ h3 k => ?_) (fun _ _ k => k))
        obtain ⟨r4, rfl, k⟩ := oI_of k
        show AW X (d + 1) rb mX11_promise 31 _ [vI r4] h3 Qr Qx
        exact aw_iret dX11_promise_31 rfl k
      · refine aw_callS (M' := mX11_checkArgument) (S := []) (as := [vI (if a2 < 1 then (0 : Int32) else (if 999 < a2 then (0 : Int32) else 1))]) (k := rb) dX11_promise_22 rfl gw_1196 gw_1197 mb_X11_checkArgument rfl (Nat.le_refl _) (Nat.le_of_ble_eq_true rfl) rfl (CL.imp k (fun _ h2 k => ?_) (fun _ _ k => k))
        exact k.elim
    refine aw_icmp_lt 21 dX11_promise_7 rfl rfl (fun (c0 : a2 < 1) => ?_) (fun (c0 : ¬ a2 < 1) => ?_)
    · refine aw_iconst (v := 0) dX11_promise_21 rfl (by decide) ?_
      simp only [if_pos c0] at kk
      exact kk
    · refine aw_iload_n (j := 2) (i := 2) dX11_promise_10 rfl rfl rfl ?_
      refine aw_sipush (v := 999) dX11_promise_11 rfl (by decide) ?_
      refine aw_icmp_gt 21 dX11_promise_14 rfl rfl (fun (c1 : 999 < a2) => ?_) (fun (c1 : ¬ 999 < a2) => ?_)
      · refine aw_iconst (v := 0) dX11_promise_21 rfl (by decide) ?_
        simp only [if_neg c0, if_pos c1] at kk
        exact kk
      · refine aw_iconst (v := 1) dX11_promise_17 rfl (by decide) ?_
        refine aw_goto 22 dX11_promise_18 rfl ?_
        simp only [if_neg c0, if_neg c1] at kk
        exact kk
  · refine aw_callV (M' := mX11_checkProduct) (S := []) (as := [vI a1]) (k := rb) dX11_promise_2 rfl (by decide) rfl rfl gw_1049 gw_1051 gw_19 mb_X11_checkProduct rfl (Nat.le_refl _) (Nat.le_of_ble_eq_true rfl) rfl (CL.imp k (fun _ h1 k => ?_) (fun _ _ k => k))
    exact k.elim
set_option maxHeartbeats 4000000 in
set_option maxRecDepth 100000 in
theorem vc_X11_promiseOf_0 {X : WD → State → Prop} {d rb : Nat} {h : Hp} {Qr : Option AV → Hp → Prop} {Qx : String → Hp → Prop} {a1 : Int32}  (k : (CL 0 d mX11_checkOrder [vR 11 0, vI a1] h (oV fun h1 => CL 0 d mX11_isClosed [vR 11 0, vI a1] h1 (oI fun r3 h2 => ((r3 = 0) → CL 0 d mX6_productOf [vR 6 (h2.2.2 11 0 7), vI a1] h2 (oI fun r5 h4 => CL 0 d mX6_openOf [vR 6 (h4.2.2 11 0 7), vI a1] h4 (oI fun r7 h6 => CL 0 d mX11_promiseDate [vR 11 0, vI r5, vI r7] h6 (oI fun r9 h8 => Qr (some (vI r9)) h8) Qx) Qx) Qx) ∧ ((¬ r3 = 0) → Qr (some (vI (-1))) h2)) Qx) Qx) ∨ (CL rb d mX11_checkOrder [vR 11 0, vI a1] h (fun _ _ => False) Qx)) : AW X (d + 1) rb mX11_promiseOf 0 [(0, vR 11 0), (1, vI a1)] [] h Qr Qx := by
  refine aw_aload_n (j := 0) (i := 0) dX11_promiseOf_0 rfl rfl rfl ?_
  refine aw_iload_n (j := 1) (i := 1) dX11_promiseOf_1 rfl rfl rfl ?_
  rcases k with k | k
  · refine aw_callV (M' := mX11_checkOrder) (S := []) (as := [vI a1]) (k := 0) dX11_promiseOf_2 rfl (by decide) rfl rfl gw_1224 gw_1226 gw_24 mb_X11_checkOrder rfl (Nat.zero_le _) (Nat.le_of_ble_eq_true rfl) rfl (CL.imp k (fun _ h1 k => ?_) (fun _ _ k => k))
    obtain ⟨rfl, k⟩ := oV_of k
    show AW X (d + 1) rb mX11_promiseOf 5 _ [] h1 Qr Qx
    refine aw_aload_n (j := 0) (i := 0) dX11_promiseOf_5 rfl rfl rfl ?_
    refine aw_iload_n (j := 1) (i := 1) dX11_promiseOf_6 rfl rfl rfl ?_
    refine aw_callV (M' := mX11_isClosed) (S := []) (as := [vI a1]) (k := 0) dX11_promiseOf_7 rfl (by decide) rfl rfl gw_1309 gw_1311 gw_26 mb_X11_isClosed rfl (Nat.zero_le _) (Nat.le_of_ble_eq_true rfl) rfl (CL.imp k (fun _ h2 k => ?_) (fun _ _ k => k))
    obtain ⟨r3, rfl, k⟩ := oI_of k
    show AW X (d + 1) rb mX11_promiseOf 10 _ [vI r3] h2 Qr Qx
    refine aw_if_eq 15 dX11_promiseOf_10 rfl rfl (fun c => ?_) (fun c => ?_)
    · replace k := k.1 c
      refine aw_aload_n (j := 0) (i := 0) dX11_promiseOf_15 rfl rfl rfl ?_
      refine aw_aload_n (j := 0) (i := 0) dX11_promiseOf_16 rfl rfl rfl ?_
      refine aw_getm (k := 7) (z := 5) dX11_promiseOf_17 rfl (by decide) rfl rfl cb_11 (by decide) gw_430 ?_
      refine aw_getf (k := 1) (z := 6) dX11_promiseOf_20 rfl (by decide) rfl rfl rfl cb_5 (by decide) gw_327 ?_
      refine aw_iload_n (j := 1) (i := 1) dX11_promiseOf_23 rfl rfl rfl ?_
      refine aw_callV (M' := mX6_productOf) (S := [vR 11 0]) (as := [vI a1]) (k := 0) dX11_promiseOf_24 rfl (by decide) rfl rfl gw_541 gw_505 gw_506 mb_X6_productOf rfl (Nat.zero_le _) (Nat.le_of_ble_eq_true rfl) rfl (CL.imp k (fun _ h4 k => ?_) (fun _ _ k => k))
      obtain ⟨r5, rfl, k⟩ := oI_of k
      show AW X (d + 1) rb mX11_promiseOf 27 _ [vI r5, vR 11 0] h4 Qr Qx
      refine aw_aload_n (j := 0) (i := 0) dX11_promiseOf_27 rfl rfl rfl ?_
      refine aw_getm (k := 7) (z := 5) dX11_promiseOf_28 rfl (by decide) rfl rfl cb_11 (by decide) gw_430 ?_
      refine aw_getf (k := 1) (z := 6) dX11_promiseOf_31 rfl (by decide) rfl rfl rfl cb_5 (by decide) gw_327 ?_
      refine aw_iload_n (j := 1) (i := 1) dX11_promiseOf_34 rfl rfl rfl ?_
      refine aw_callV (M' := mX6_openOf) (S := [vI r5, vR 11 0]) (as := [vI a1]) (k := 0) dX11_promiseOf_35 rfl (by decide) rfl rfl gw_540 gw_500 gw_501 mb_X6_openOf rfl (Nat.zero_le _) (Nat.le_of_ble_eq_true rfl) rfl (CL.imp k (fun _ h6 k => ?_) (fun _ _ k => k))
      obtain ⟨r7, rfl, k⟩ := oI_of k
      show AW X (d + 1) rb mX11_promiseOf 38 _ [vI r7, vI r5, vR 11 0] h6 Qr Qx
      refine aw_callV (M' := mX11_promiseDate) (S := []) (as := [vI r5, vI r7]) (k := 0) dX11_promiseOf_38 rfl (by decide) rfl rfl gw_542 gw_544 gw_2 mb_X11_promiseDate rfl (Nat.zero_le _) (Nat.le_of_ble_eq_true rfl) rfl (CL.imp k (fun _ h8 k => ?_) (fun _ _ k => k))
      obtain ⟨r9, rfl, k⟩ := oI_of k
      show AW X (d + 1) rb mX11_promiseOf 41 _ [vI r9] h8 Qr Qx
      exact aw_iret dX11_promiseOf_41 rfl k
    · replace k := k.2 c
      refine aw_iconst (v := (-1)) dX11_promiseOf_13 rfl (by decide) ?_
      exact aw_iret dX11_promiseOf_14 rfl k
  · refine aw_callV (M' := mX11_checkOrder) (S := []) (as := [vI a1]) (k := rb) dX11_promiseOf_2 rfl (by decide) rfl rfl gw_1224 gw_1226 gw_24 mb_X11_checkOrder rfl (Nat.le_refl _) (Nat.le_of_ble_eq_true rfl) rfl (CL.imp k (fun _ h1 k => ?_) (fun _ _ k => k))
    exact k.elim
set_option maxHeartbeats 4000000 in
set_option maxRecDepth 100000 in
theorem vc_X11_delayingPart_0 {X : WD → State → Prop} {d rb : Nat} {h : Hp} {Qr : Option AV → Hp → Prop} {Qx : String → Hp → Prop} {a1 : Int32}  (k : (CL 0 d mX11_checkOrder [vR 11 0, vI a1] h (oV fun h1 => CL 0 d mX6_openOf [vR 6 (h1.2.2 11 0 7), vI a1] h1 (oI fun r3 h2 => ((¬ r3 = 0) → CL 0 d mX6_productOf [vR 6 (h2.2.2 11 0 7), vI a1] h2 (oI fun r5 h4 => AW X (d + 1) rb mX11_delayingPart 44 [(0, vR 11 0), (1, vI a1), (2, vI r3), (3, vI r5), (4, vI (-1)), (5, vI (-1)), (6, vI 0)] [] h4 Qr Qx) Qx) ∧ ((r3 = 0) → Qr (some (vI (-1))) h2)) Qx) Qx) ∨ (CL rb d mX11_checkOrder [vR 11 0, vI a1] h (fun _ _ => False) Qx)) : AW X (d + 1) rb mX11_delayingPart 0 [(0, vR 11 0), (1, vI a1)] [] h Qr Qx := by
  refine aw_aload_n (j := 0) (i := 0) dX11_delayingPart_0 rfl rfl rfl ?_
  refine aw_iload_n (j := 1) (i := 1) dX11_delayingPart_1 rfl rfl rfl ?_
  rcases k with k | k
  · refine aw_callV (M' := mX11_checkOrder) (S := []) (as := [vI a1]) (k := 0) dX11_delayingPart_2 rfl (by decide) rfl rfl gw_1224 gw_1226 gw_24 mb_X11_checkOrder rfl (Nat.zero_le _) (Nat.le_of_ble_eq_true rfl) rfl (CL.imp k (fun _ h1 k => ?_) (fun _ _ k => k))
    obtain ⟨rfl, k⟩ := oV_of k
    show AW X (d + 1) rb mX11_delayingPart 5 _ [] h1 Qr Qx
    refine aw_aload_n (j := 0) (i := 0) dX11_delayingPart_5 rfl rfl rfl ?_
    refine aw_getm (k := 7) (z := 5) dX11_delayingPart_6 rfl (by decide) rfl rfl cb_11 (by decide) gw_430 ?_
    refine aw_getf (k := 1) (z := 6) dX11_delayingPart_9 rfl (by decide) rfl rfl rfl cb_5 (by decide) gw_327 ?_
    refine aw_iload_n (j := 1) (i := 1) dX11_delayingPart_12 rfl rfl rfl ?_
    refine aw_callV (M' := mX6_openOf) (S := []) (as := [vI a1]) (k := 0) dX11_delayingPart_13 rfl (by decide) rfl rfl gw_540 gw_500 gw_501 mb_X6_openOf rfl (Nat.zero_le _) (Nat.le_of_ble_eq_true rfl) rfl (CL.imp k (fun _ h2 k => ?_) (fun _ _ k => k))
    obtain ⟨r3, rfl, k⟩ := oI_of k
    show AW X (d + 1) rb mX11_delayingPart 16 _ [vI r3] h2 Qr Qx
    refine aw_istore_n (i := 2) (L2 := [(2, vI r3), (0, vR 11 0), (1, vI a1)]) dX11_delayingPart_16 rfl rfl (by decide) rfl ?_
    refine aw_iload_n (j := 0) (i := 2) dX11_delayingPart_17 rfl rfl rfl ?_
    refine aw_if_ne 23 dX11_delayingPart_18 rfl rfl (fun c => ?_) (fun c => ?_)
    · replace k := k.1 c
      refine aw_aload_n (j := 1) (i := 0) dX11_delayingPart_23 rfl rfl rfl ?_
      refine aw_getm (k := 7) (z := 5) dX11_delayingPart_24 rfl (by decide) rfl rfl cb_11 (by decide) gw_430 ?_
      refine aw_getf (k := 1) (z := 6) dX11_delayingPart_27 rfl (by decide) rfl rfl rfl cb_5 (by decide) gw_327 ?_
      refine aw_iload_n (j := 2) (i := 1) dX11_delayingPart_30 rfl rfl rfl ?_
      refine aw_callV (M' := mX6_productOf) (S := []) (as := [vI a1]) (k := 0) dX11_delayingPart_31 rfl (by decide) rfl rfl gw_541 gw_505 gw_506 mb_X6_productOf rfl (Nat.zero_le _) (Nat.le_of_ble_eq_true rfl) rfl (CL.imp k (fun _ h4 k => ?_) (fun _ _ k => k))
      obtain ⟨r5, rfl, k⟩ := oI_of k
      show AW X (d + 1) rb mX11_delayingPart 34 _ [vI r5] h4 Qr Qx
      refine aw_istore_n (i := 3) (L2 := [(3, vI r5), (2, vI r3), (0, vR 11 0), (1, vI a1)]) dX11_delayingPart_34 rfl rfl (by decide) rfl ?_
      refine aw_iconst (v := (-1)) dX11_delayingPart_35 rfl (by decide) ?_
      refine aw_istore (i := 4) (L2 := [(4, vI (-1)), (3, vI r5), (2, vI r3), (0, vR 11 0), (1, vI a1)]) dX11_delayingPart_36 rfl (by decide) rfl ?_
      refine aw_iconst (v := (-1)) dX11_delayingPart_38 rfl (by decide) ?_
      refine aw_istore (i := 5) (L2 := [(5, vI (-1)), (4, vI (-1)), (3, vI r5), (2, vI r3), (0, vR 11 0), (1, vI a1)]) dX11_delayingPart_39 rfl (by decide) rfl ?_
      refine aw_iconst (v := 0) dX11_delayingPart_41 rfl (by decide) ?_
      refine aw_istore (i := 6) (L2 := [(6, vI 0), (5, vI (-1)), (4, vI (-1)), (3, vI r5), (2, vI r3), (0, vR 11 0), (1, vI a1)]) dX11_delayingPart_42 rfl (by decide) rfl ?_
      exact aw_sub [5, 6, 4, 3, 2, 1, 0] rfl k
    · replace k := k.2 c
      refine aw_iconst (v := (-1)) dX11_delayingPart_21 rfl (by decide) ?_
      exact aw_iret dX11_delayingPart_22 rfl k
  · refine aw_callV (M' := mX11_checkOrder) (S := []) (as := [vI a1]) (k := rb) dX11_delayingPart_2 rfl (by decide) rfl rfl gw_1224 gw_1226 gw_24 mb_X11_checkOrder rfl (Nat.le_refl _) (Nat.le_of_ble_eq_true rfl) rfl (CL.imp k (fun _ h1 k => ?_) (fun _ _ k => k))
    exact k.elim
set_option maxHeartbeats 4000000 in
set_option maxRecDepth 100000 in
theorem vc_X11_delayingPart_44 {X : WD → State → Prop} {d rb : Nat} {h : Hp} {Qr : Option AV → Hp → Prop} {Qx : String → Hp → Prop} {x1 : Int32} {x2 : Int32} {x3 : Int32} {x4 : Int32} {x5 : Int32} {x6 : Int32}  (k : (((h.1 1 (h.2.2 11 0 6) 0) ≤ x6) → Qr (some (vI x4)) h) ∧ ((¬ (h.1 1 (h.2.2 11 0 6) 0) ≤ x6) → CL 0 d mX1_needOf [vR 1 (h.2.2 11 0 6), vI x3, vI x6] h (oI fun r2 h1 => ((r2 ≤ 0) → (((-1) ≤ x5) → AW X (d + 1) rb mX11_delayingPart 44 [(0, vR 11 0), (1, vI x1), (2, vI x2), (3, vI x3), (4, vI x4), (5, vI x5), (6, vI (x6 + 1))] [] h1 Qr Qx) ∧ ((¬ (-1) ≤ x5) → AW X (d + 1) rb mX11_delayingPart 44 [(0, vR 11 0), (1, vI x1), (2, vI x2), (3, vI x3), (4, vI x6), (5, vI (-1)), (6, vI (x6 + 1))] [] h1 Qr Qx)) ∧ ((¬ r2 ≤ 0) → CL 0 d mX11_dayOfPart [vR 11 0, vI x6, vI (x2 * r2)] h1 (oI fun r4 h3 => ((r4 ≤ x5) → AW X (d + 1) rb mX11_delayingPart 44 [(0, vR 11 0), (1, vI x1), (2, vI x2), (3, vI x3), (4, vI x4), (5, vI x5), (6, vI (x6 + 1))] [] h3 Qr Qx) ∧ ((¬ r4 ≤ x5) → AW X (d + 1) rb mX11_delayingPart 44 [(0, vR 11 0), (1, vI x1), (2, vI x2), (3, vI x3), (4, vI x6), (5, vI r4), (6, vI (x6 + 1))] [] h3 Qr Qx)) Qx)) Qx)) : AW X (d + 1) rb mX11_delayingPart 44 [(0, vR 11 0), (1, vI x1), (2, vI x2), (3, vI x3), (4, vI x4), (5, vI x5), (6, vI x6)] [] h Qr Qx := by
  refine aw_iload (j := 6) (i := 6) dX11_delayingPart_44 rfl rfl ?_
  refine aw_aload_n (j := 0) (i := 0) dX11_delayingPart_46 rfl rfl rfl ?_
  refine aw_getm (k := 6) (z := 1) dX11_delayingPart_47 rfl (by decide) rfl rfl cb_11 (by decide) gw_429 ?_
  refine aw_geti (k := 0) dX11_delayingPart_50 rfl (by decide) rfl rfl cb_1 (by decide) gw_175 ?_
  refine aw_icmp_ge 110 dX11_delayingPart_53 rfl rfl (fun c => ?_) (fun c => ?_)
  · replace k := k.1 c
    refine aw_iload (j := 4) (i := 4) dX11_delayingPart_110 rfl rfl ?_
    exact aw_iret dX11_delayingPart_112 rfl k
  · replace k := k.2 c
    refine aw_aload_n (j := 0) (i := 0) dX11_delayingPart_56 rfl rfl rfl ?_
    refine aw_getm (k := 6) (z := 1) dX11_delayingPart_57 rfl (by decide) rfl rfl cb_11 (by decide) gw_429 ?_
    refine aw_iload_n (j := 3) (i := 3) dX11_delayingPart_60 rfl rfl rfl ?_
    refine aw_iload (j := 6) (i := 6) dX11_delayingPart_61 rfl rfl ?_
    refine aw_callV (M' := mX1_needOf) (S := []) (as := [vI x3, vI x6]) (k := 0) dX11_delayingPart_63 rfl (by decide) rfl rfl gw_546 gw_509 gw_510 mb_X1_needOf rfl (Nat.zero_le _) (Nat.le_of_ble_eq_true rfl) rfl (CL.imp k (fun _ h1 k => ?_) (fun _ _ k => k))
    obtain ⟨r2, rfl, k⟩ := oI_of k
    show AW X (d + 1) rb mX11_delayingPart 66 _ [vI r2] h1 Qr Qx
    refine aw_istore (i := 7) (L2 := [(7, vI r2), (0, vR 11 0), (1, vI x1), (2, vI x2), (3, vI x3), (4, vI x4), (5, vI x5), (6, vI x6)]) dX11_delayingPart_66 rfl (by decide) rfl ?_
    refine aw_iload (j := 0) (i := 7) dX11_delayingPart_68 rfl rfl ?_
    refine aw_if_le 86 dX11_delayingPart_70 rfl rfl (fun c => ?_) (fun c => ?_)
    · replace k := k.1 c
      refine aw_iconst (v := (-1)) dX11_delayingPart_86 rfl (by decide) ?_
      refine aw_istore (i := 8) (L2 := [(8, vI (-1)), (7, vI r2), (0, vR 11 0), (1, vI x1), (2, vI x2), (3, vI x3), (4, vI x4), (5, vI x5), (6, vI x6)]) dX11_delayingPart_87 rfl (by decide) rfl ?_
      refine aw_iload (j := 0) (i := 8) dX11_delayingPart_89 rfl rfl ?_
      refine aw_iload (j := 7) (i := 5) dX11_delayingPart_91 rfl rfl ?_
      refine aw_icmp_le 104 dX11_delayingPart_93 rfl rfl (fun c => ?_) (fun c => ?_)
      · replace k := k.1 c
        refine aw_iinc (i := 6) (j := 8) (v := x6 + 1) (L2 := [(6, vI (x6 + 1)), (8, vI (-1)), (7, vI r2), (0, vR 11 0), (1, vI x1), (2, vI x2), (3, vI x3), (4, vI x4), (5, vI x5)]) dX11_delayingPart_104 rfl (by decide) rfl rfl rfl ?_
        refine aw_goto 44 dX11_delayingPart_107 rfl ?_
        exact aw_sub [3, 4, 5, 6, 7, 8, 0] rfl k
      · replace k := k.2 c
        refine aw_iload (j := 0) (i := 8) dX11_delayingPart_96 rfl rfl ?_
        refine aw_istore (i := 5) (L2 := [(5, vI (-1)), (8, vI (-1)), (7, vI r2), (0, vR 11 0), (1, vI x1), (2, vI x2), (3, vI x3), (4, vI x4), (6, vI x6)]) dX11_delayingPart_98 rfl (by decide) rfl ?_
        refine aw_iload (j := 8) (i := 6) dX11_delayingPart_100 rfl rfl ?_
        refine aw_istore (i := 4) (L2 := [(4, vI x6), (5, vI (-1)), (8, vI (-1)), (7, vI r2), (0, vR 11 0), (1, vI x1), (2, vI x2), (3, vI x3), (6, vI x6)]) dX11_delayingPart_102 rfl (by decide) rfl ?_
        refine aw_iinc (i := 6) (j := 8) (v := x6 + 1) (L2 := [(6, vI (x6 + 1)), (4, vI x6), (5, vI (-1)), (8, vI (-1)), (7, vI r2), (0, vR 11 0), (1, vI x1), (2, vI x2), (3, vI x3)]) dX11_delayingPart_104 rfl (by decide) rfl rfl rfl ?_
        refine aw_goto 44 dX11_delayingPart_107 rfl ?_
        exact aw_sub [5, 6, 7, 8, 1, 2, 0] rfl k
    · replace k := k.2 c
      refine aw_aload_n (j := 1) (i := 0) dX11_delayingPart_73 rfl rfl rfl ?_
      refine aw_iload (j := 7) (i := 6) dX11_delayingPart_74 rfl rfl ?_
      refine aw_iload_n (j := 3) (i := 2) dX11_delayingPart_76 rfl rfl rfl ?_
      refine aw_iload (j := 0) (i := 7) dX11_delayingPart_77 rfl rfl ?_
      refine aw_imul dX11_delayingPart_79 rfl ?_
      refine aw_callV (M' := mX11_dayOfPart) (S := []) (as := [vI x6, vI (x2 * r2)]) (k := 0) dX11_delayingPart_80 rfl (by decide) rfl rfl gw_547 gw_549 gw_3 mb_X11_dayOfPart rfl (Nat.zero_le _) (Nat.le_of_ble_eq_true rfl) rfl (CL.imp k (fun _ h3 k => ?_) (fun _ _ k => k))
      obtain ⟨r4, rfl, k⟩ := oI_of k
      show AW X (d + 1) rb mX11_delayingPart 83 _ [vI r4] h3 Qr Qx
      refine aw_goto 87 dX11_delayingPart_83 rfl ?_
      refine aw_istore (i := 8) (L2 := [(8, vI r4), (7, vI r2), (0, vR 11 0), (1, vI x1), (2, vI x2), (3, vI x3), (4, vI x4), (5, vI x5), (6, vI x6)]) dX11_delayingPart_87 rfl (by decide) rfl ?_
      refine aw_iload (j := 0) (i := 8) dX11_delayingPart_89 rfl rfl ?_
      refine aw_iload (j := 7) (i := 5) dX11_delayingPart_91 rfl rfl ?_
      refine aw_icmp_le 104 dX11_delayingPart_93 rfl rfl (fun c => ?_) (fun c => ?_)
      · replace k := k.1 c
        refine aw_iinc (i := 6) (j := 8) (v := x6 + 1) (L2 := [(6, vI (x6 + 1)), (8, vI r4), (7, vI r2), (0, vR 11 0), (1, vI x1), (2, vI x2), (3, vI x3), (4, vI x4), (5, vI x5)]) dX11_delayingPart_104 rfl (by decide) rfl rfl rfl ?_
        refine aw_goto 44 dX11_delayingPart_107 rfl ?_
        exact aw_sub [3, 4, 5, 6, 7, 8, 0] rfl k
      · replace k := k.2 c
        refine aw_iload (j := 0) (i := 8) dX11_delayingPart_96 rfl rfl ?_
        refine aw_istore (i := 5) (L2 := [(5, vI r4), (8, vI r4), (7, vI r2), (0, vR 11 0), (1, vI x1), (2, vI x2), (3, vI x3), (4, vI x4), (6, vI x6)]) dX11_delayingPart_98 rfl (by decide) rfl ?_
        refine aw_iload (j := 8) (i := 6) dX11_delayingPart_100 rfl rfl ?_
        refine aw_istore (i := 4) (L2 := [(4, vI x6), (5, vI r4), (8, vI r4), (7, vI r2), (0, vR 11 0), (1, vI x1), (2, vI x2), (3, vI x3), (6, vI x6)]) dX11_delayingPart_102 rfl (by decide) rfl ?_
        refine aw_iinc (i := 6) (j := 8) (v := x6 + 1) (L2 := [(6, vI (x6 + 1)), (4, vI x6), (5, vI r4), (8, vI r4), (7, vI r2), (0, vR 11 0), (1, vI x1), (2, vI x2), (3, vI x3)]) dX11_delayingPart_104 rfl (by decide) rfl rfl rfl ?_
        refine aw_goto 44 dX11_delayingPart_107 rfl ?_
        exact aw_sub [5, 6, 7, 8, 1, 2, 0] rfl k
set_option maxHeartbeats 4000000 in
set_option maxRecDepth 100000 in
theorem vc_X11_lateOrders_0 {X : WD → State → Prop} {d rb : Nat} {h : Hp} {Qr : Option AV → Hp → Prop} {Qx : String → Hp → Prop}   (k : AW X (d + 1) rb mX11_lateOrders 12 [(0, vR 11 0), (1, vR 6 (h.2.2 11 0 7)), (2, vI 0), (3, vI 0)] [] h Qr Qx) : AW X (d + 1) rb mX11_lateOrders 0 [(0, vR 11 0)] [] h Qr Qx := by
  refine aw_aload_n (j := 0) (i := 0) dX11_lateOrders_0 rfl rfl rfl ?_
  refine aw_getm (k := 7) (z := 5) dX11_lateOrders_1 rfl (by decide) rfl rfl cb_11 (by decide) gw_430 ?_
  refine aw_getf (k := 1) (z := 6) dX11_lateOrders_4 rfl (by decide) rfl rfl rfl cb_5 (by decide) gw_327 ?_
  refine aw_astore_n (i := 1) (L2 := [(1, vR 6 (h.2.2 11 0 7)), (0, vR 11 0)]) dX11_lateOrders_7 rfl rfl (by decide) rfl ?_
  refine aw_iconst (v := 0) dX11_lateOrders_8 rfl (by decide) ?_
  refine aw_istore_n (i := 2) (L2 := [(2, vI 0), (1, vR 6 (h.2.2 11 0 7)), (0, vR 11 0)]) dX11_lateOrders_9 rfl rfl (by decide) rfl ?_
  refine aw_iconst (v := 0) dX11_lateOrders_10 rfl (by decide) ?_
  refine aw_istore_n (i := 3) (L2 := [(3, vI 0), (2, vI 0), (1, vR 6 (h.2.2 11 0 7)), (0, vR 11 0)]) dX11_lateOrders_11 rfl rfl (by decide) rfl ?_
  exact aw_sub [3, 2, 1, 0] rfl k
set_option maxHeartbeats 4000000 in
set_option maxRecDepth 100000 in
theorem vc_X11_lateOrders_12 {X : WD → State → Prop} {d rb : Nat} {h : Hp} {Qr : Option AV → Hp → Prop} {Qx : String → Hp → Prop} {i1 : Nat} {x2 : Int32} {x3 : Int32}  (k : (((h.1 6 i1 0) ≤ x3) → Qr (some (vI x2)) h) ∧ ((¬ (h.1 6 i1 0) ≤ x3) → CL 0 d mX6_openOf [vR 6 i1, vI x3] h (oI fun r2 h1 => ((r2 ≤ 0) → AW X (d + 1) rb mX11_lateOrders 12 [(0, vR 11 0), (1, vR 6 i1), (2, vI x2), (3, vI (x3 + 1))] [] h1 Qr Qx) ∧ ((¬ r2 ≤ 0) → CL 0 d mX6_productOf [vR 6 i1, vI x3] h1 (oI fun r4 h3 => CL 0 d mX11_promiseDate [vR 11 0, vI r4, vI r2] h3 (oI fun r6 h5 => CL 0 d mX6_dueOf [vR 6 i1, vI x3] h5 (oI fun r8 h7 => ((r6 ≤ r8) → AW X (d + 1) rb mX11_lateOrders 12 [(0, vR 11 0), (1, vR 6 i1), (2, vI x2), (3, vI (x3 + 1))] [] h7 Qr Qx) ∧ ((¬ r6 ≤ r8) → AW X (d + 1) rb mX11_lateOrders 12 [(0, vR 11 0), (1, vR 6 i1), (2, vI (x2 ||| (1 <<< (x3 &&& 31)))), (3, vI (x3 + 1))] [] h7 Qr Qx)) Qx) Qx) Qx)) Qx)) : AW X (d + 1) rb mX11_lateOrders 12 [(0, vR 11 0), (1, vR 6 i1), (2, vI x2), (3, vI x3)] [] h Qr Qx := by
  refine aw_iload_n (j := 3) (i := 3) dX11_lateOrders_12 rfl rfl rfl ?_
  refine aw_aload_n (j := 1) (i := 1) dX11_lateOrders_13 rfl rfl rfl ?_
  refine aw_geti (k := 0) dX11_lateOrders_14 rfl (by decide) rfl rfl cb_6 (by decide) gw_272 ?_
  refine aw_icmp_ge 63 dX11_lateOrders_17 rfl rfl (fun c => ?_) (fun c => ?_)
  · replace k := k.1 c
    refine aw_iload_n (j := 2) (i := 2) dX11_lateOrders_63 rfl rfl rfl ?_
    exact aw_iret dX11_lateOrders_64 rfl k
  · replace k := k.2 c
    refine aw_aload_n (j := 1) (i := 1) dX11_lateOrders_20 rfl rfl rfl ?_
    refine aw_iload_n (j := 3) (i := 3) dX11_lateOrders_21 rfl rfl rfl ?_
    refine aw_callV (M' := mX6_openOf) (S := []) (as := [vI x3]) (k := 0) dX11_lateOrders_22 rfl (by decide) rfl rfl gw_540 gw_500 gw_501 mb_X6_openOf rfl (Nat.zero_le _) (Nat.le_of_ble_eq_true rfl) rfl (CL.imp k (fun _ h1 k => ?_) (fun _ _ k => k))
    obtain ⟨r2, rfl, k⟩ := oI_of k
    show AW X (d + 1) rb mX11_lateOrders 25 _ [vI r2] h1 Qr Qx
    refine aw_istore (i := 4) (L2 := [(4, vI r2), (0, vR 11 0), (1, vR 6 i1), (2, vI x2), (3, vI x3)]) dX11_lateOrders_25 rfl (by decide) rfl ?_
    refine aw_iload (j := 0) (i := 4) dX11_lateOrders_27 rfl rfl ?_
    refine aw_if_le 57 dX11_lateOrders_29 rfl rfl (fun c => ?_) (fun c => ?_)
    · replace k := k.1 c
      refine aw_iinc (i := 3) (j := 4) (v := x3 + 1) (L2 := [(3, vI (x3 + 1)), (4, vI r2), (0, vR 11 0), (1, vR 6 i1), (2, vI x2)]) dX11_lateOrders_57 rfl (by decide) rfl rfl rfl ?_
      refine aw_goto 12 dX11_lateOrders_60 rfl ?_
      exact aw_sub [2, 3, 4, 0] rfl k
    · replace k := k.2 c
      refine aw_aload_n (j := 1) (i := 0) dX11_lateOrders_32 rfl rfl rfl ?_
      refine aw_aload_n (j := 2) (i := 1) dX11_lateOrders_33 rfl rfl rfl ?_
      refine aw_iload_n (j := 4) (i := 3) dX11_lateOrders_34 rfl rfl rfl ?_
      refine aw_callV (M' := mX6_productOf) (S := [vR 11 0]) (as := [vI x3]) (k := 0) dX11_lateOrders_35 rfl (by decide) rfl rfl gw_541 gw_505 gw_506 mb_X6_productOf rfl (Nat.zero_le _) (Nat.le_of_ble_eq_true rfl) rfl (CL.imp k (fun _ h3 k => ?_) (fun _ _ k => k))
      obtain ⟨r4, rfl, k⟩ := oI_of k
      show AW X (d + 1) rb mX11_lateOrders 38 _ [vI r4, vR 11 0] h3 Qr Qx
      refine aw_iload (j := 0) (i := 4) dX11_lateOrders_38 rfl rfl ?_
      refine aw_callV (M' := mX11_promiseDate) (S := []) (as := [vI r4, vI r2]) (k := 0) dX11_lateOrders_40 rfl (by decide) rfl rfl gw_542 gw_544 gw_2 mb_X11_promiseDate rfl (Nat.zero_le _) (Nat.le_of_ble_eq_true rfl) rfl (CL.imp k (fun _ h5 k => ?_) (fun _ _ k => k))
      obtain ⟨r6, rfl, k⟩ := oI_of k
      show AW X (d + 1) rb mX11_lateOrders 43 _ [vI r6] h5 Qr Qx
      refine aw_aload_n (j := 2) (i := 1) dX11_lateOrders_43 rfl rfl rfl ?_
      refine aw_iload_n (j := 4) (i := 3) dX11_lateOrders_44 rfl rfl rfl ?_
      refine aw_callV (M' := mX6_dueOf) (S := [vI r6]) (as := [vI x3]) (k := 0) dX11_lateOrders_45 rfl (by decide) rfl rfl gw_561 gw_562 gw_563 mb_X6_dueOf rfl (Nat.zero_le _) (Nat.le_of_ble_eq_true rfl) rfl (CL.imp k (fun _ h7 k => ?_) (fun _ _ k => k))
      obtain ⟨r8, rfl, k⟩ := oI_of k
      show AW X (d + 1) rb mX11_lateOrders 48 _ [vI r8, vI r6] h7 Qr Qx
      refine aw_icmp_le 57 dX11_lateOrders_48 rfl rfl (fun c => ?_) (fun c => ?_)
      · replace k := k.1 c
        refine aw_iinc (i := 3) (j := 4) (v := x3 + 1) (L2 := [(3, vI (x3 + 1)), (4, vI r2), (0, vR 11 0), (1, vR 6 i1), (2, vI x2)]) dX11_lateOrders_57 rfl (by decide) rfl rfl rfl ?_
        refine aw_goto 12 dX11_lateOrders_60 rfl ?_
        exact aw_sub [2, 3, 4, 0] rfl k
      · replace k := k.2 c
        refine aw_iload_n (j := 3) (i := 2) dX11_lateOrders_51 rfl rfl rfl ?_
        refine aw_iconst (v := 1) dX11_lateOrders_52 rfl (by decide) ?_
        refine aw_iload_n (j := 4) (i := 3) dX11_lateOrders_53 rfl rfl rfl ?_
        refine aw_ishl dX11_lateOrders_54 rfl ?_
        refine aw_ior dX11_lateOrders_55 rfl ?_
        refine aw_istore_n (i := 2) (L2 := [(2, vI (x2 ||| (1 <<< (x3 &&& 31)))), (4, vI r2), (0, vR 11 0), (1, vR 6 i1), (3, vI x3)]) dX11_lateOrders_56 rfl rfl (by decide) rfl ?_
        refine aw_iinc (i := 3) (j := 4) (v := x3 + 1) (L2 := [(3, vI (x3 + 1)), (2, vI (x2 ||| (1 <<< (x3 &&& 31)))), (4, vI r2), (0, vR 11 0), (1, vR 6 i1)]) dX11_lateOrders_57 rfl (by decide) rfl rfl rfl ?_
        refine aw_goto 12 dX11_lateOrders_60 rfl ?_
        exact aw_sub [3, 4, 1, 0] rfl k
set_option maxHeartbeats 4000000 in
set_option maxRecDepth 100000 in
theorem vc_X11_wouldGet_0 {X : WD → State → Prop} {d rb : Nat} {h : Hp} {Qr : Option AV → Hp → Prop} {Qx : String → Hp → Prop} {a1 : Int32}  (k : (CL 0 d mX11_checkOrder [vR 11 0, vI a1] h (oV fun h1 => CL 0 d mX0_tryOut [vR 0 0, vR 1 (h1.2.2 11 0 6), vR 5 (h1.2.2 11 0 7)] h1 (oV fun h2 => CL 0 d mX0_grantOf [vR 0 0, vI a1] h2 (oI fun r4 h3 => Qr (some (vI r4)) h3) Qx) Qx) Qx) ∨ (CL rb d mX11_checkOrder [vR 11 0, vI a1] h (fun _ _ => False) Qx)) : AW X (d + 1) rb mX11_wouldGet 0 [(0, vR 11 0), (1, vI a1)] [] h Qr Qx := by
  refine aw_aload_n (j := 0) (i := 0) dX11_wouldGet_0 rfl rfl rfl ?_
  refine aw_iload_n (j := 1) (i := 1) dX11_wouldGet_1 rfl rfl rfl ?_
  rcases k with k | k
  · refine aw_callV (M' := mX11_checkOrder) (S := []) (as := [vI a1]) (k := 0) dX11_wouldGet_2 rfl (by decide) rfl rfl gw_1224 gw_1226 gw_24 mb_X11_checkOrder rfl (Nat.zero_le _) (Nat.le_of_ble_eq_true rfl) rfl (CL.imp k (fun _ h1 k => ?_) (fun _ _ k => k))
    obtain ⟨rfl, k⟩ := oV_of k
    show AW X (d + 1) rb mX11_wouldGet 5 _ [] h1 Qr Qx
    refine aw_aload_n (j := 0) (i := 0) dX11_wouldGet_5 rfl rfl rfl ?_
    refine aw_getf (k := 3) (z := 0) dX11_wouldGet_6 rfl (by decide) rfl rfl rfl cb_11 (by decide) gw_426 ?_
    refine aw_aload_n (j := 0) (i := 0) dX11_wouldGet_9 rfl rfl rfl ?_
    refine aw_getm (k := 6) (z := 1) dX11_wouldGet_10 rfl (by decide) rfl rfl cb_11 (by decide) gw_429 ?_
    refine aw_aload_n (j := 0) (i := 0) dX11_wouldGet_13 rfl rfl rfl ?_
    refine aw_getm (k := 7) (z := 5) dX11_wouldGet_14 rfl (by decide) rfl rfl cb_11 (by decide) gw_430 ?_
    refine aw_callV (M' := mX0_tryOut) (S := []) (as := [vR 1 (h1.2.2 11 0 6), vR 5 (h1.2.2 11 0 7)]) (k := 0) dX11_wouldGet_17 rfl (by decide) rfl rfl gw_651 gw_652 gw_653 mb_X0_tryOut rfl (Nat.zero_le _) (Nat.le_of_ble_eq_true rfl) rfl (CL.imp k (fun _ h2 k => ?_) (fun _ _ k => k))
    obtain ⟨rfl, k⟩ := oV_of k
    show AW X (d + 1) rb mX11_wouldGet 20 _ [] h2 Qr Qx
    refine aw_aload_n (j := 0) (i := 0) dX11_wouldGet_20 rfl rfl rfl ?_
    refine aw_getf (k := 3) (z := 0) dX11_wouldGet_21 rfl (by decide) rfl rfl rfl cb_11 (by decide) gw_426 ?_
    refine aw_iload_n (j := 1) (i := 1) dX11_wouldGet_24 rfl rfl rfl ?_
    refine aw_callV (M' := mX0_grantOf) (S := []) (as := [vI a1]) (k := 0) dX11_wouldGet_25 rfl (by decide) rfl rfl gw_682 gw_673 gw_674 mb_X0_grantOf rfl (Nat.zero_le _) (Nat.le_of_ble_eq_true rfl) rfl (CL.imp k (fun _ h3 k => ?_) (fun _ _ k => k))
    obtain ⟨r4, rfl, k⟩ := oI_of k
    show AW X (d + 1) rb mX11_wouldGet 28 _ [vI r4] h3 Qr Qx
    exact aw_iret dX11_wouldGet_28 rfl k
  · refine aw_callV (M' := mX11_checkOrder) (S := []) (as := [vI a1]) (k := rb) dX11_wouldGet_2 rfl (by decide) rfl rfl gw_1224 gw_1226 gw_24 mb_X11_checkOrder rfl (Nat.le_refl _) (Nat.le_of_ble_eq_true rfl) rfl (CL.imp k (fun _ h1 k => ?_) (fun _ _ k => k))
    exact k.elim
set_option maxHeartbeats 4000000 in
set_option maxRecDepth 100000 in
theorem vc_X11_rungOf_0 {X : WD → State → Prop} {d rb : Nat} {h : Hp} {Qr : Option AV → Hp → Prop} {Qx : String → Hp → Prop} {a1 : Int32}  (k : (CL 0 d mX11_checkOrder [vR 11 0, vI a1] h (oV fun h1 => CL 0 d mX0_tryOut [vR 0 0, vR 1 (h1.2.2 11 0 6), vR 5 (h1.2.2 11 0 7)] h1 (oV fun h2 => CL 0 d mX0_firstRungOf [vR 0 0, vI a1] h2 (oI fun r4 h3 => Qr (some (vI r4)) h3) Qx) Qx) Qx) ∨ (CL rb d mX11_checkOrder [vR 11 0, vI a1] h (fun _ _ => False) Qx)) : AW X (d + 1) rb mX11_rungOf 0 [(0, vR 11 0), (1, vI a1)] [] h Qr Qx := by
  refine aw_aload_n (j := 0) (i := 0) dX11_rungOf_0 rfl rfl rfl ?_
  refine aw_iload_n (j := 1) (i := 1) dX11_rungOf_1 rfl rfl rfl ?_
  rcases k with k | k
  · refine aw_callV (M' := mX11_checkOrder) (S := []) (as := [vI a1]) (k := 0) dX11_rungOf_2 rfl (by decide) rfl rfl gw_1224 gw_1226 gw_24 mb_X11_checkOrder rfl (Nat.zero_le _) (Nat.le_of_ble_eq_true rfl) rfl (CL.imp k (fun _ h1 k => ?_) (fun _ _ k => k))
    obtain ⟨rfl, k⟩ := oV_of k
    show AW X (d + 1) rb mX11_rungOf 5 _ [] h1 Qr Qx
    refine aw_aload_n (j := 0) (i := 0) dX11_rungOf_5 rfl rfl rfl ?_
    refine aw_getf (k := 3) (z := 0) dX11_rungOf_6 rfl (by decide) rfl rfl rfl cb_11 (by decide) gw_426 ?_
    refine aw_aload_n (j := 0) (i := 0) dX11_rungOf_9 rfl rfl rfl ?_
    refine aw_getm (k := 6) (z := 1) dX11_rungOf_10 rfl (by decide) rfl rfl cb_11 (by decide) gw_429 ?_
    refine aw_aload_n (j := 0) (i := 0) dX11_rungOf_13 rfl rfl rfl ?_
    refine aw_getm (k := 7) (z := 5) dX11_rungOf_14 rfl (by decide) rfl rfl cb_11 (by decide) gw_430 ?_
    refine aw_callV (M' := mX0_tryOut) (S := []) (as := [vR 1 (h1.2.2 11 0 6), vR 5 (h1.2.2 11 0 7)]) (k := 0) dX11_rungOf_17 rfl (by decide) rfl rfl gw_651 gw_652 gw_653 mb_X0_tryOut rfl (Nat.zero_le _) (Nat.le_of_ble_eq_true rfl) rfl (CL.imp k (fun _ h2 k => ?_) (fun _ _ k => k))
    obtain ⟨rfl, k⟩ := oV_of k
    show AW X (d + 1) rb mX11_rungOf 20 _ [] h2 Qr Qx
    refine aw_aload_n (j := 0) (i := 0) dX11_rungOf_20 rfl rfl rfl ?_
    refine aw_getf (k := 3) (z := 0) dX11_rungOf_21 rfl (by decide) rfl rfl rfl cb_11 (by decide) gw_426 ?_
    refine aw_iload_n (j := 1) (i := 1) dX11_rungOf_24 rfl rfl rfl ?_
    refine aw_callV (M' := mX0_firstRungOf) (S := []) (as := [vI a1]) (k := 0) dX11_rungOf_25 rfl (by decide) rfl rfl gw_1334 gw_1335 gw_1336 mb_X0_firstRungOf rfl (Nat.zero_le _) (Nat.le_of_ble_eq_true rfl) rfl (CL.imp k (fun _ h3 k => ?_) (fun _ _ k => k))
    obtain ⟨r4, rfl, k⟩ := oI_of k
    show AW X (d + 1) rb mX11_rungOf 28 _ [vI r4] h3 Qr Qx
    exact aw_iret dX11_rungOf_28 rfl k
  · refine aw_callV (M' := mX11_checkOrder) (S := []) (as := [vI a1]) (k := rb) dX11_rungOf_2 rfl (by decide) rfl rfl gw_1224 gw_1226 gw_24 mb_X11_checkOrder rfl (Nat.le_refl _) (Nat.le_of_ble_eq_true rfl) rfl (CL.imp k (fun _ h1 k => ?_) (fun _ _ k => k))
    exact k.elim
set_option maxHeartbeats 4000000 in
set_option maxRecDepth 100000 in
theorem vc_X11_rungUnits_0 {X : WD → State → Prop} {d rb : Nat} {h : Hp} {Qr : Option AV → Hp → Prop} {Qx : String → Hp → Prop} {a1 : Int32}  (k : (CL 0 d mX11_checkRung [vR 11 0, vI a1] h (oV fun h1 => CL 0 d mX0_tryOut [vR 0 0, vR 1 (h1.2.2 11 0 6), vR 5 (h1.2.2 11 0 7)] h1 (oV fun h2 => CL 0 d mX0_unitsInRung [vR 0 0, vI a1] h2 (oI fun r4 h3 => Qr (some (vI r4)) h3) Qx) Qx) Qx) ∨ (CL rb d mX11_checkRung [vR 11 0, vI a1] h (fun _ _ => False) Qx)) : AW X (d + 1) rb mX11_rungUnits 0 [(0, vR 11 0), (1, vI a1)] [] h Qr Qx := by
  refine aw_aload_n (j := 0) (i := 0) dX11_rungUnits_0 rfl rfl rfl ?_
  refine aw_iload_n (j := 1) (i := 1) dX11_rungUnits_1 rfl rfl rfl ?_
  rcases k with k | k
  · refine aw_callV (M' := mX11_checkRung) (S := []) (as := [vI a1]) (k := 0) dX11_rungUnits_2 rfl (by decide) rfl rfl gw_1345 gw_1347 gw_27 mb_X11_checkRung rfl (Nat.zero_le _) (Nat.le_of_ble_eq_true rfl) rfl (CL.imp k (fun _ h1 k => ?_) (fun _ _ k => k))
    obtain ⟨rfl, k⟩ := oV_of k
    show AW X (d + 1) rb mX11_rungUnits 5 _ [] h1 Qr Qx
    refine aw_aload_n (j := 0) (i := 0) dX11_rungUnits_5 rfl rfl rfl ?_
    refine aw_getf (k := 3) (z := 0) dX11_rungUnits_6 rfl (by decide) rfl rfl rfl cb_11 (by decide) gw_426 ?_
    refine aw_aload_n (j := 0) (i := 0) dX11_rungUnits_9 rfl rfl rfl ?_
    refine aw_getm (k := 6) (z := 1) dX11_rungUnits_10 rfl (by decide) rfl rfl cb_11 (by decide) gw_429 ?_
    refine aw_aload_n (j := 0) (i := 0) dX11_rungUnits_13 rfl rfl rfl ?_
    refine aw_getm (k := 7) (z := 5) dX11_rungUnits_14 rfl (by decide) rfl rfl cb_11 (by decide) gw_430 ?_
    refine aw_callV (M' := mX0_tryOut) (S := []) (as := [vR 1 (h1.2.2 11 0 6), vR 5 (h1.2.2 11 0 7)]) (k := 0) dX11_rungUnits_17 rfl (by decide) rfl rfl gw_651 gw_652 gw_653 mb_X0_tryOut rfl (Nat.zero_le _) (Nat.le_of_ble_eq_true rfl) rfl (CL.imp k (fun _ h2 k => ?_) (fun _ _ k => k))
    obtain ⟨rfl, k⟩ := oV_of k
    show AW X (d + 1) rb mX11_rungUnits 20 _ [] h2 Qr Qx
    refine aw_aload_n (j := 0) (i := 0) dX11_rungUnits_20 rfl rfl rfl ?_
    refine aw_getf (k := 3) (z := 0) dX11_rungUnits_21 rfl (by decide) rfl rfl rfl cb_11 (by decide) gw_426 ?_
    refine aw_iload_n (j := 1) (i := 1) dX11_rungUnits_24 rfl rfl rfl ?_
    refine aw_callV (M' := mX0_unitsInRung) (S := []) (as := [vI a1]) (k := 0) dX11_rungUnits_25 rfl (by decide) rfl rfl gw_1350 gw_1351 gw_1352 mb_X0_unitsInRung rfl (Nat.zero_le _) (Nat.le_of_ble_eq_true rfl) rfl (CL.imp k (fun _ h3 k => ?_) (fun _ _ k => k))
    obtain ⟨r4, rfl, k⟩ := oI_of k
    show AW X (d + 1) rb mX11_rungUnits 28 _ [vI r4] h3 Qr Qx
    exact aw_iret dX11_rungUnits_28 rfl k
  · refine aw_callV (M' := mX11_checkRung) (S := []) (as := [vI a1]) (k := rb) dX11_rungUnits_2 rfl (by decide) rfl rfl gw_1345 gw_1347 gw_27 mb_X11_checkRung rfl (Nat.le_refl _) (Nat.le_of_ble_eq_true rfl) rfl (CL.imp k (fun _ h1 k => ?_) (fun _ _ k => k))
    exact k.elim
set_option maxHeartbeats 4000000 in
set_option maxRecDepth 100000 in
theorem vc_X11_missingPieces_0 {X : WD → State → Prop} {d rb : Nat} {h : Hp} {Qr : Option AV → Hp → Prop} {Qx : String → Hp → Prop} {a1 : Int32}  (k : (CL 0 d mX11_checkOrder [vR 11 0, vI a1] h (oV fun h1 => AW X (d + 1) rb mX11_missingPieces 9 [(0, vR 11 0), (1, vI a1), (2, vI 0), (3, vI 0)] [] h1 Qr Qx) Qx) ∨ (CL rb d mX11_checkOrder [vR 11 0, vI a1] h (fun _ _ => False) Qx)) : AW X (d + 1) rb mX11_missingPieces 0 [(0, vR 11 0), (1, vI a1)] [] h Qr Qx := by
  refine aw_aload_n (j := 0) (i := 0) dX11_missingPieces_0 rfl rfl rfl ?_
  refine aw_iload_n (j := 1) (i := 1) dX11_missingPieces_1 rfl rfl rfl ?_
  rcases k with k | k
  · refine aw_callV (M' := mX11_checkOrder) (S := []) (as := [vI a1]) (k := 0) dX11_missingPieces_2 rfl (by decide) rfl rfl gw_1224 gw_1226 gw_24 mb_X11_checkOrder rfl (Nat.zero_le _) (Nat.le_of_ble_eq_true rfl) rfl (CL.imp k (fun _ h1 k => ?_) (fun _ _ k => k))
    obtain ⟨rfl, k⟩ := oV_of k
    show AW X (d + 1) rb mX11_missingPieces 5 _ [] h1 Qr Qx
    refine aw_iconst (v := 0) dX11_missingPieces_5 rfl (by decide) ?_
    refine aw_istore_n (i := 2) (L2 := [(2, vI 0), (0, vR 11 0), (1, vI a1)]) dX11_missingPieces_6 rfl rfl (by decide) rfl ?_
    refine aw_iconst (v := 0) dX11_missingPieces_7 rfl (by decide) ?_
    refine aw_istore_n (i := 3) (L2 := [(3, vI 0), (2, vI 0), (0, vR 11 0), (1, vI a1)]) dX11_missingPieces_8 rfl rfl (by decide) rfl ?_
    exact aw_sub [2, 3, 1, 0] rfl k
  · refine aw_callV (M' := mX11_checkOrder) (S := []) (as := [vI a1]) (k := rb) dX11_missingPieces_2 rfl (by decide) rfl rfl gw_1224 gw_1226 gw_24 mb_X11_checkOrder rfl (Nat.le_refl _) (Nat.le_of_ble_eq_true rfl) rfl (CL.imp k (fun _ h1 k => ?_) (fun _ _ k => k))
    exact k.elim
set_option maxHeartbeats 4000000 in
set_option maxRecDepth 100000 in
theorem vc_X11_missingPieces_9 {X : WD → State → Prop} {d rb : Nat} {h : Hp} {Qr : Option AV → Hp → Prop} {Qx : String → Hp → Prop} {x1 : Int32} {x2 : Int32} {x3 : Int32}  (k : (((h.1 1 (h.2.2 11 0 6) 0) ≤ x3) → Qr (some (vI x2)) h) ∧ ((¬ (h.1 1 (h.2.2 11 0 6) 0) ≤ x3) → CL 0 d mX11_shortageOf [vR 11 0, vI x1, vI x3] h (oI fun r2 h1 => AW X (d + 1) rb mX11_missingPieces 9 [(0, vR 11 0), (1, vI x1), (2, vI (x2 + r2)), (3, vI (x3 + 1))] [] h1 Qr Qx) Qx)) : AW X (d + 1) rb mX11_missingPieces 9 [(0, vR 11 0), (1, vI x1), (2, vI x2), (3, vI x3)] [] h Qr Qx := by
  refine aw_iload_n (j := 3) (i := 3) dX11_missingPieces_9 rfl rfl rfl ?_
  refine aw_aload_n (j := 0) (i := 0) dX11_missingPieces_10 rfl rfl rfl ?_
  refine aw_getm (k := 6) (z := 1) dX11_missingPieces_11 rfl (by decide) rfl rfl cb_11 (by decide) gw_429 ?_
  refine aw_geti (k := 0) dX11_missingPieces_14 rfl (by decide) rfl rfl cb_1 (by decide) gw_175 ?_
  refine aw_icmp_ge 35 dX11_missingPieces_17 rfl rfl (fun c => ?_) (fun c => ?_)
  · replace k := k.1 c
    refine aw_iload_n (j := 2) (i := 2) dX11_missingPieces_35 rfl rfl rfl ?_
    exact aw_iret dX11_missingPieces_36 rfl k
  · replace k := k.2 c
    refine aw_iload_n (j := 2) (i := 2) dX11_missingPieces_20 rfl rfl rfl ?_
    refine aw_aload_n (j := 0) (i := 0) dX11_missingPieces_21 rfl rfl rfl ?_
    refine aw_iload_n (j := 1) (i := 1) dX11_missingPieces_22 rfl rfl rfl ?_
    refine aw_iload_n (j := 3) (i := 3) dX11_missingPieces_23 rfl rfl rfl ?_
    refine aw_callV (M' := mX11_shortageOf) (S := [vI x2]) (as := [vI x1, vI x3]) (k := 0) dX11_missingPieces_24 rfl (by decide) rfl rfl gw_1284 gw_1286 gw_25 mb_X11_shortageOf rfl (Nat.zero_le _) (Nat.le_of_ble_eq_true rfl) rfl (CL.imp k (fun _ h1 k => ?_) (fun _ _ k => k))
    obtain ⟨r2, rfl, k⟩ := oI_of k
    show AW X (d + 1) rb mX11_missingPieces 27 _ [vI r2, vI x2] h1 Qr Qx
    refine aw_iadd dX11_missingPieces_27 rfl ?_
    refine aw_istore_n (i := 2) (L2 := [(2, vI (x2 + r2)), (0, vR 11 0), (1, vI x1), (3, vI x3)]) dX11_missingPieces_28 rfl rfl (by decide) rfl ?_
    refine aw_iinc (i := 3) (j := 3) (v := x3 + 1) (L2 := [(3, vI (x3 + 1)), (2, vI (x2 + r2)), (0, vR 11 0), (1, vI x1)]) dX11_missingPieces_29 rfl (by decide) rfl rfl rfl ?_
    refine aw_goto 9 dX11_missingPieces_32 rfl ?_
    exact aw_sub [2, 3, 1, 0] rfl k
set_option maxHeartbeats 4000000 in
set_option maxRecDepth 100000 in
theorem vc_X11_buildableAfter_0 {X : WD → State → Prop} {d rb : Nat} {h : Hp} {Qr : Option AV → Hp → Prop} {Qx : String → Hp → Prop} {a1 : Int32} {a2 : Int32} {a3 : Int32}  (k : (CL 0 d mX11_checkProduct [vR 11 0, vI a1] h (oV fun h1 => (CL 0 d mX11_checkProduct [vR 11 0, vI a2] h1 (oV fun h2 => (CL 0 d mX11_checkArgument [vI (if a1 = a2 then (0 : Int32) else (if a3 < 0 then (0 : Int32) else (if 999 < a3 then (0 : Int32) else 1)))] h2 (oV fun h3 => CL 0 d mX10_fillFree [vR 10 (h3.2.2 11 0 7), vR 53 0] h3 (oV fun h4 => CL 0 d mX1_mostUnits [vR 1 (h4.2.2 11 0 6), vI a2, vR 53 0] h4 (oI fun r6 h5 => ((a3 ≤ r6) → CL 0 d mX1_takePieces [vR 1 (h5.2.2 11 0 6), vI a2, vI a3, vR 53 0] h5 (oV fun h7 => CL 0 d mX1_mostUnits [vR 1 (h7.2.2 11 0 6), vI a1, vR 53 0] h7 (oI fun r9 h8 => Qr (some (vI r9)) h8) Qx) Qx) ∧ ((¬ a3 ≤ r6) → Qr (some (vI (-1))) h5)) Qx) Qx) Qx) ∨ (CL rb d mX11_checkArgument [vI (if a1 = a2 then (0 : Int32) else (if a3 < 0 then (0 : Int32) else (if 999 < a3 then (0 : Int32) else 1)))] h2 (fun _ _ => False) Qx)) Qx) ∨ (CL rb d mX11_checkProduct [vR 11 0, vI a2] h1 (fun _ _ => False) Qx)) Qx) ∨ (CL rb d mX11_checkProduct [vR 11 0, vI a1] h (fun _ _ => False) Qx)) : AW X (d + 1) rb mX11_buildableAfter 0 [(0, vR 11 0), (1, vI a1), (2, vI a2), (3, vI a3)] [] h Qr Qx := by
  refine aw_aload_n (j := 0) (i := 0) dX11_buildableAfter_0 rfl rfl rfl ?_
  refine aw_iload_n (j := 1) (i := 1) dX11_buildableAfter_1 rfl rfl rfl ?_
  rcases k with k | k
  · refine aw_callV (M' := mX11_checkProduct) (S := []) (as := [vI a1]) (k := 0) dX11_buildableAfter_2 rfl (by decide) rfl rfl gw_1049 gw_1051 gw_19 mb_X11_checkProduct rfl (Nat.zero_le _) (Nat.le_of_ble_eq_true rfl) rfl (CL.imp k (fun _ h1 k => ?_) (fun _ _ k => k))
    obtain ⟨rfl, k⟩ := oV_of k
    show AW X (d + 1) rb mX11_buildableAfter 5 _ [] h1 Qr Qx
    refine aw_aload_n (j := 0) (i := 0) dX11_buildableAfter_5 rfl rfl rfl ?_
    refine aw_iload_n (j := 2) (i := 2) dX11_buildableAfter_6 rfl rfl rfl ?_
    rcases k with k | k
    · refine aw_callV (M' := mX11_checkProduct) (S := []) (as := [vI a2]) (k := 0) dX11_buildableAfter_7 rfl (by decide) rfl rfl gw_1049 gw_1051 gw_19 mb_X11_checkProduct rfl (Nat.zero_le _) (Nat.le_of_ble_eq_true rfl) rfl (CL.imp k (fun _ h2 k => ?_) (fun _ _ k => k))
      obtain ⟨rfl, k⟩ := oV_of k
      show AW X (d + 1) rb mX11_buildableAfter 10 _ [] h2 Qr Qx
      refine aw_iload_n (j := 1) (i := 1) dX11_buildableAfter_10 rfl rfl rfl ?_
      refine aw_iload_n (j := 2) (i := 2) dX11_buildableAfter_11 rfl rfl rfl ?_
      have kk : AW X (d + 1) rb mX11_buildableAfter 31 [(0, vR 11 0), (1, vI a1), (2, vI a2), (3, vI a3)] [vI (if a1 = a2 then (0 : Int32) else (if a3 < 0 then (0 : Int32) else (if 999 < a3 then (0 : Int32) else 1)))] h2 Qr Qx := by
        rcases k with k | k
        · refine aw_callS (M' := mX11_checkArgument) (S := []) (as := [vI (if a1 = a2 then (0 : Int32) else (if a3 < 0 then (0 : Int32) else (if 999 < a3 then (0 : Int32) else 1)))]) (k := 0) dX11_buildableAfter_31 rfl gw_1196 gw_1197 mb_X11_checkArgument rfl (Nat.zero_le _) (Nat.le_of_ble_eq_true rfl) rfl (CL.imp k (fun _ h3 k => ?_) (fun _ _ k => k))
          obtain ⟨rfl, k⟩ := oV_of k
          show AW X (d + 1) rb mX11_buildableAfter 34 _ [] h3 Qr Qx
          refine aw_aload_n (j := 0) (i := 0) dX11_buildableAfter_34 rfl rfl rfl ?_
          refine aw_getm (k := 7) (z := 5) dX11_buildableAfter_35 rfl (by decide) rfl rfl cb_11 (by decide) gw_430 ?_
          refine aw_getf (k := 0) (z := 10) dX11_buildableAfter_38 rfl (by decide) rfl rfl rfl cb_5 (by decide) gw_322 ?_
          refine aw_aload_n (j := 0) (i := 0) dX11_buildableAfter_41 rfl rfl rfl ?_
          refine aw_getf (k := 5) (z := 53) dX11_buildableAfter_42 rfl (by decide) rfl rfl rfl cb_11 (by decide) gw_428 ?_
          refine aw_callV (M' := mX10_fillFree) (S := []) (as := [vR 53 0]) (k := 0) dX11_buildableAfter_45 rfl (by decide) rfl rfl gw_1179 gw_578 gw_579 mb_X10_fillFree rfl (Nat.zero_le _) (Nat.le_of_ble_eq_true rfl) rfl (CL.imp k (fun _ h4 k => ?_) (fun _ _ k => k))
          obtain ⟨rfl, k⟩ := oV_of k
          show AW X (d + 1) rb mX11_buildableAfter 48 _ [] h4 Qr Qx
          refine aw_aload_n (j := 0) (i := 0) dX11_buildableAfter_48 rfl rfl rfl ?_
          refine aw_getm (k := 6) (z := 1) dX11_buildableAfter_49 rfl (by decide) rfl rfl cb_11 (by decide) gw_429 ?_
          refine aw_iload_n (j := 2) (i := 2) dX11_buildableAfter_52 rfl rfl rfl ?_
          refine aw_aload_n (j := 0) (i := 0) dX11_buildableAfter_53 rfl rfl rfl ?_
          refine aw_getf (k := 5) (z := 53) dX11_buildableAfter_54 rfl (by decide) rfl rfl rfl cb_11 (by decide) gw_428 ?_
          refine aw_callV (M' := mX1_mostUnits) (S := []) (as := [vI a2, vR 53 0]) (k := 0) dX11_buildableAfter_57 rfl (by decide) rfl rfl gw_1180 gw_600 gw_601 mb_X1_mostUnits rfl (Nat.zero_le _) (Nat.le_of_ble_eq_true rfl) rfl (CL.imp k (fun _ h5 k => ?_) (fun _ _ k => k))
          obtain ⟨r6, rfl, k⟩ := oI_of k
          show AW X (d + 1) rb mX11_buildableAfter 60 _ [vI r6] h5 Qr Qx
          refine aw_iload_n (j := 3) (i := 3) dX11_buildableAfter_60 rfl rfl rfl ?_
          refine aw_icmp_ge 66 dX11_buildableAfter_61 rfl rfl (fun c => ?_) (fun c => ?_)
          · replace k := k.1 c
            refine aw_aload_n (j := 0) (i := 0) dX11_buildableAfter_66 rfl rfl rfl ?_
            refine aw_getm (k := 6) (z := 1) dX11_buildableAfter_67 rfl (by decide) rfl rfl cb_11 (by decide) gw_429 ?_
            refine aw_iload_n (j := 2) (i := 2) dX11_buildableAfter_70 rfl rfl rfl ?_
            refine aw_iload_n (j := 3) (i := 3) dX11_buildableAfter_71 rfl rfl rfl ?_
            refine aw_aload_n (j := 0) (i := 0) dX11_buildableAfter_72 rfl rfl rfl ?_
            refine aw_getf (k := 5) (z := 53) dX11_buildableAfter_73 rfl (by decide) rfl rfl rfl cb_11 (by decide) gw_428 ?_
            refine aw_callV (M' := mX1_takePieces) (S := []) (as := [vI a2, vI a3, vR 53 0]) (k := 0) dX11_buildableAfter_76 rfl (by decide) rfl rfl gw_1368 gw_609 gw_610 mb_X1_takePieces rfl (Nat.zero_le _) (Nat.le_of_ble_eq_true rfl) rfl (CL.imp k (fun _ h7 k => ?_) (fun _ _ k => k))
            obtain ⟨rfl, k⟩ := oV_of k
            show AW X (d + 1) rb mX11_buildableAfter 79 _ [] h7 Qr Qx
            refine aw_aload_n (j := 0) (i := 0) dX11_buildableAfter_79 rfl rfl rfl ?_
            refine aw_getm (k := 6) (z := 1) dX11_buildableAfter_80 rfl (by decide) rfl rfl cb_11 (by decide) gw_429 ?_
            refine aw_iload_n (j := 1) (i := 1) dX11_buildableAfter_83 rfl rfl rfl ?_
            refine aw_aload_n (j := 0) (i := 0) dX11_buildableAfter_84 rfl rfl rfl ?_
            refine aw_getf (k := 5) (z := 53) dX11_buildableAfter_85 rfl (by decide) rfl rfl rfl cb_11 (by decide) gw_428 ?_
            refine aw_callV (M' := mX1_mostUnits) (S := []) (as := [vI a1, vR 53 0]) (k := 0) dX11_buildableAfter_88 rfl (by decide) rfl rfl gw_1180 gw_600 gw_601 mb_X1_mostUnits rfl (Nat.zero_le _) (Nat.le_of_ble_eq_true rfl) rfl (CL.imp k (fun _ h8 k => ?_) (fun _ _ k => k))
            obtain ⟨r9, rfl, k⟩ := oI_of k
            show AW X (d + 1) rb mX11_buildableAfter 91 _ [vI r9] h8 Qr Qx
            exact aw_iret dX11_buildableAfter_91 rfl k
          · replace k := k.2 c
            refine aw_iconst (v := (-1)) dX11_buildableAfter_64 rfl (by decide) ?_
            exact aw_iret dX11_buildableAfter_65 rfl k
        · refine aw_callS (M' := mX11_checkArgument) (S := []) (as := [vI (if a1 = a2 then (0 : Int32) else (if a3 < 0 then (0 : Int32) else (if 999 < a3 then (0 : Int32) else 1)))]) (k := rb) dX11_buildableAfter_31 rfl gw_1196 gw_1197 mb_X11_checkArgument rfl (Nat.le_refl _) (Nat.le_of_ble_eq_true rfl) rfl (CL.imp k (fun _ h3 k => ?_) (fun _ _ k => k))
          exact k.elim
      refine aw_icmp_eq 30 dX11_buildableAfter_12 rfl rfl (fun (c0 : a1 = a2) => ?_) (fun (c0 : ¬ a1 = a2) => ?_)
      · refine aw_iconst (v := 0) dX11_buildableAfter_30 rfl (by decide) ?_
        simp only [if_pos c0] at kk
        exact kk
      · refine aw_iload_n (j := 3) (i := 3) dX11_buildableAfter_15 rfl rfl rfl ?_
        refine aw_if_lt 30 dX11_buildableAfter_16 rfl rfl (fun (c1 : a3 < 0) => ?_) (fun (c1 : ¬ a3 < 0) => ?_)
        · refine aw_iconst (v := 0) dX11_buildableAfter_30 rfl (by decide) ?_
          simp only [if_neg c0, if_pos c1] at kk
          exact kk
        · refine aw_iload_n (j := 3) (i := 3) dX11_buildableAfter_19 rfl rfl rfl ?_
          refine aw_sipush (v := 999) dX11_buildableAfter_20 rfl (by decide) ?_
          refine aw_icmp_gt 30 dX11_buildableAfter_23 rfl rfl (fun (c2 : 999 < a3) => ?_) (fun (c2 : ¬ 999 < a3) => ?_)
          · refine aw_iconst (v := 0) dX11_buildableAfter_30 rfl (by decide) ?_
            simp only [if_neg c0, if_neg c1, if_pos c2] at kk
            exact kk
          · refine aw_iconst (v := 1) dX11_buildableAfter_26 rfl (by decide) ?_
            refine aw_goto 31 dX11_buildableAfter_27 rfl ?_
            simp only [if_neg c0, if_neg c1, if_neg c2] at kk
            exact kk
    · refine aw_callV (M' := mX11_checkProduct) (S := []) (as := [vI a2]) (k := rb) dX11_buildableAfter_7 rfl (by decide) rfl rfl gw_1049 gw_1051 gw_19 mb_X11_checkProduct rfl (Nat.le_refl _) (Nat.le_of_ble_eq_true rfl) rfl (CL.imp k (fun _ h2 k => ?_) (fun _ _ k => k))
      exact k.elim
  · refine aw_callV (M' := mX11_checkProduct) (S := []) (as := [vI a1]) (k := rb) dX11_buildableAfter_2 rfl (by decide) rfl rfl gw_1049 gw_1051 gw_19 mb_X11_checkProduct rfl (Nat.le_refl _) (Nat.le_of_ble_eq_true rfl) rfl (CL.imp k (fun _ h1 k => ?_) (fun _ _ k => k))
    exact k.elim
set_option maxHeartbeats 4000000 in
set_option maxRecDepth 100000 in
theorem vc_X11_coveredOrders_0 {X : WD → State → Prop} {d rb : Nat} {h : Hp} {Qr : Option AV → Hp → Prop} {Qx : String → Hp → Prop}   (k : CL 0 d mX0_coveredSet [vR 0 0, vR 1 (h.2.2 11 0 6), vR 5 (h.2.2 11 0 7)] h (oI fun r2 h1 => Qr (some (vI r2)) h1) Qx) : AW X (d + 1) rb mX11_coveredOrders 0 [(0, vR 11 0)] [] h Qr Qx := by
  refine aw_aload_n (j := 0) (i := 0) dX11_coveredOrders_0 rfl rfl rfl ?_
  refine aw_getf (k := 3) (z := 0) dX11_coveredOrders_1 rfl (by decide) rfl rfl rfl cb_11 (by decide) gw_426 ?_
  refine aw_aload_n (j := 0) (i := 0) dX11_coveredOrders_4 rfl rfl rfl ?_
  refine aw_getm (k := 6) (z := 1) dX11_coveredOrders_5 rfl (by decide) rfl rfl cb_11 (by decide) gw_429 ?_
  refine aw_aload_n (j := 0) (i := 0) dX11_coveredOrders_8 rfl rfl rfl ?_
  refine aw_getm (k := 7) (z := 5) dX11_coveredOrders_9 rfl (by decide) rfl rfl cb_11 (by decide) gw_430 ?_
  refine aw_callV (M' := mX0_coveredSet) (S := []) (as := [vR 1 (h.2.2 11 0 6), vR 5 (h.2.2 11 0 7)]) (k := 0) dX11_coveredOrders_12 rfl (by decide) rfl rfl gw_569 gw_570 gw_571 mb_X0_coveredSet rfl (Nat.zero_le _) (Nat.le_of_ble_eq_true rfl) rfl (CL.imp k (fun _ h1 k => ?_) (fun _ _ k => k))
  obtain ⟨r2, rfl, k⟩ := oI_of k
  show AW X (d + 1) rb mX11_coveredOrders 15 _ [vI r2] h1 Qr Qx
  exact aw_iret dX11_coveredOrders_15 rfl k
set_option maxHeartbeats 4000000 in
set_option maxRecDepth 100000 in
theorem vc_X11_promiseOfAll_0 {X : WD → State → Prop} {d rb : Nat} {h : Hp} {Qr : Option AV → Hp → Prop} {Qx : String → Hp → Prop}   (k : AW X (d + 1) rb mX11_promiseOfAll 13 [(0, vR 11 0), (1, vI (h.1 10 (h.2.2 11 0 7) 0)), (2, vI 0)] [] h Qr Qx) : AW X (d + 1) rb mX11_promiseOfAll 0 [(0, vR 11 0)] [] h Qr Qx := by
  refine aw_aload_n (j := 0) (i := 0) dX11_promiseOfAll_0 rfl rfl rfl ?_
  refine aw_getm (k := 7) (z := 5) dX11_promiseOfAll_1 rfl (by decide) rfl rfl cb_11 (by decide) gw_430 ?_
  refine aw_getf (k := 0) (z := 10) dX11_promiseOfAll_4 rfl (by decide) rfl rfl rfl cb_5 (by decide) gw_322 ?_
  refine aw_geti (k := 0) dX11_promiseOfAll_7 rfl (by decide) rfl rfl cb_10 (by decide) gw_239 ?_
  refine aw_istore_n (i := 1) (L2 := [(1, vI (h.1 10 (h.2.2 11 0 7) 0)), (0, vR 11 0)]) dX11_promiseOfAll_10 rfl rfl (by decide) rfl ?_
  refine aw_iconst (v := 0) dX11_promiseOfAll_11 rfl (by decide) ?_
  refine aw_istore_n (i := 2) (L2 := [(2, vI 0), (1, vI (h.1 10 (h.2.2 11 0 7) 0)), (0, vR 11 0)]) dX11_promiseOfAll_12 rfl rfl (by decide) rfl ?_
  exact aw_sub [2, 1, 0] rfl k
set_option maxHeartbeats 4000000 in
set_option maxRecDepth 100000 in
theorem vc_X11_promiseOfAll_13 {X : WD → State → Prop} {d rb : Nat} {h : Hp} {Qr : Option AV → Hp → Prop} {Qx : String → Hp → Prop} {x1 : Int32} {x2 : Int32}  (k : (((h.1 1 (h.2.2 11 0 6) 0) ≤ x2) → Qr (some (vI x1)) h) ∧ ((¬ (h.1 1 (h.2.2 11 0 6) 0) ≤ x2) → CL 0 d mX5_openPieces [vR 5 (h.2.2 11 0 7), vR 1 (h.2.2 11 0 6), vI x2] h (oI fun r2 h1 => ((r2 ≤ 0) → AW X (d + 1) rb mX11_promiseOfAll 13 [(0, vR 11 0), (1, vI x1), (2, vI (x2 + 1))] [] h1 Qr Qx) ∧ ((¬ r2 ≤ 0) → CL 0 d mX11_dayOfPart [vR 11 0, vI x2, vI r2] h1 (oI fun r4 h3 => AW X (d + 1) rb mX11_promiseOfAll 13 [(0, vR 11 0), (1, vI (if x1 < r4 then r4 else x1)), (2, vI (x2 + 1))] [] h3 Qr Qx) Qx)) Qx)) : AW X (d + 1) rb mX11_promiseOfAll 13 [(0, vR 11 0), (1, vI x1), (2, vI x2)] [] h Qr Qx := by
  refine aw_iload_n (j := 2) (i := 2) dX11_promiseOfAll_13 rfl rfl rfl ?_
  refine aw_aload_n (j := 0) (i := 0) dX11_promiseOfAll_14 rfl rfl rfl ?_
  refine aw_getm (k := 6) (z := 1) dX11_promiseOfAll_15 rfl (by decide) rfl rfl cb_11 (by decide) gw_429 ?_
  refine aw_geti (k := 0) dX11_promiseOfAll_18 rfl (by decide) rfl rfl cb_1 (by decide) gw_175 ?_
  refine aw_icmp_ge 58 dX11_promiseOfAll_21 rfl rfl (fun c => ?_) (fun c => ?_)
  · replace k := k.1 c
    refine aw_iload_n (j := 1) (i := 1) dX11_promiseOfAll_58 rfl rfl rfl ?_
    exact aw_iret dX11_promiseOfAll_59 rfl k
  · replace k := k.2 c
    refine aw_aload_n (j := 0) (i := 0) dX11_promiseOfAll_24 rfl rfl rfl ?_
    refine aw_getm (k := 7) (z := 5) dX11_promiseOfAll_25 rfl (by decide) rfl rfl cb_11 (by decide) gw_430 ?_
    refine aw_aload_n (j := 0) (i := 0) dX11_promiseOfAll_28 rfl rfl rfl ?_
    refine aw_getm (k := 6) (z := 1) dX11_promiseOfAll_29 rfl (by decide) rfl rfl cb_11 (by decide) gw_429 ?_
    refine aw_iload_n (j := 2) (i := 2) dX11_promiseOfAll_32 rfl rfl rfl ?_
    refine aw_callV (M' := mX5_openPieces) (S := []) (as := [vR 1 (h.2.2 11 0 6), vI x2]) (k := 0) dX11_promiseOfAll_33 rfl (by decide) rfl rfl gw_495 gw_496 gw_497 mb_X5_openPieces rfl (Nat.zero_le _) (Nat.le_of_ble_eq_true rfl) rfl (CL.imp k (fun _ h1 k => ?_) (fun _ _ k => k))
    obtain ⟨r2, rfl, k⟩ := oI_of k
    show AW X (d + 1) rb mX11_promiseOfAll 36 _ [vI r2] h1 Qr Qx
    refine aw_istore_n (i := 3) (L2 := [(3, vI r2), (0, vR 11 0), (1, vI x1), (2, vI x2)]) dX11_promiseOfAll_36 rfl rfl (by decide) rfl ?_
    refine aw_iload_n (j := 0) (i := 3) dX11_promiseOfAll_37 rfl rfl rfl ?_
    refine aw_if_le 52 dX11_promiseOfAll_38 rfl rfl (fun c => ?_) (fun c => ?_)
    · replace k := k.1 c
      refine aw_iinc (i := 2) (j := 3) (v := x2 + 1) (L2 := [(2, vI (x2 + 1)), (3, vI r2), (0, vR 11 0), (1, vI x1)]) dX11_promiseOfAll_52 rfl (by decide) rfl rfl rfl ?_
      refine aw_goto 13 dX11_promiseOfAll_55 rfl ?_
      exact aw_sub [2, 3, 0] rfl k
    · replace k := k.2 c
      refine aw_iload_n (j := 2) (i := 1) dX11_promiseOfAll_41 rfl rfl rfl ?_
      refine aw_aload_n (j := 1) (i := 0) dX11_promiseOfAll_42 rfl rfl rfl ?_
      refine aw_iload_n (j := 3) (i := 2) dX11_promiseOfAll_43 rfl rfl rfl ?_
      refine aw_iload_n (j := 0) (i := 3) dX11_promiseOfAll_44 rfl rfl rfl ?_
      refine aw_callV (M' := mX11_dayOfPart) (S := [vI x1]) (as := [vI x2, vI r2]) (k := 0) dX11_promiseOfAll_45 rfl (by decide) rfl rfl gw_547 gw_549 gw_3 mb_X11_dayOfPart rfl (Nat.zero_le _) (Nat.le_of_ble_eq_true rfl) rfl (CL.imp k (fun _ h3 k => ?_) (fun _ _ k => k))
      obtain ⟨r4, rfl, k⟩ := oI_of k
      show AW X (d + 1) rb mX11_promiseOfAll 48 _ [vI r4, vI x1] h3 Qr Qx
      refine aw_max dX11_promiseOfAll_48 rfl gw_533 gw_534 gw_104 gw_535 (Nat.le_of_ble_eq_true rfl) ?_
      refine aw_istore_n (i := 1) (L2 := [(1, vI (if x1 < r4 then r4 else x1)), (3, vI r2), (0, vR 11 0), (2, vI x2)]) dX11_promiseOfAll_51 rfl rfl (by decide) rfl ?_
      refine aw_iinc (i := 2) (j := 3) (v := x2 + 1) (L2 := [(2, vI (x2 + 1)), (1, vI (if x1 < r4 then r4 else x1)), (3, vI r2), (0, vR 11 0)]) dX11_promiseOfAll_52 rfl (by decide) rfl rfl rfl ?_
      refine aw_goto 13 dX11_promiseOfAll_55 rfl ?_
      exact aw_sub [3, 1, 0] rfl k
set_option maxHeartbeats 4000000 in
set_option maxRecDepth 100000 in
theorem vc_X11_addOrder_0 {X : WD → State → Prop} {d rb : Nat} {h : Hp} {Qr : Option AV → Hp → Prop} {Qx : String → Hp → Prop} {a1 : Int32} {a2 : Int32} {a3 : Int32} {a4 : Int32} {a5 : Int32}  (k : (CL 0 d mX11_checkProduct [vR 11 0, vI a1] h (oV fun h1 => (CL 0 d mX11_checkArgument [vI (if a2 < 1 then (0 : Int32) else (if 99 < a2 then (0 : Int32) else 1))] h1 (oV fun h2 => (CL 0 d mX11_checkArgument [vI (if a3 < 0 then (0 : Int32) else (if 9 < a3 then (0 : Int32) else 1))] h2 (oV fun h3 => (CL 0 d mX11_checkArgument [vI (if a4 < 0 then (0 : Int32) else (if 999 < a4 then (0 : Int32) else 1))] h3 (oV fun h4 => (CL 0 d mX11_checkState [vI (if 20 ≤ (h4.1 6 (h4.2.2 11 0 7) 0) then (0 : Int32) else 1)] h4 (oV fun h5 => CL 0 d mX3_record [vR 3 0, vR 5 (h5.2.2 11 0 7)] h5 (oV fun h6 => CL 0 d mX6_enter [vR 6 (h6.2.2 11 0 7), vI a1, vI a2, vI a3, vI a4, vI a5] h6 (oI fun r8 h7 => Qr (some (vI r8)) h7) Qx) Qx) Qx) ∨ (CL rb d mX11_checkState [vI (if 20 ≤ (h4.1 6 (h4.2.2 11 0 7) 0) then (0 : Int32) else 1)] h4 (fun _ _ => False) Qx)) Qx) ∨ (CL rb d mX11_checkArgument [vI (if a4 < 0 then (0 : Int32) else (if 999 < a4 then (0 : Int32) else 1))] h3 (fun _ _ => False) Qx)) Qx) ∨ (CL rb d mX11_checkArgument [vI (if a3 < 0 then (0 : Int32) else (if 9 < a3 then (0 : Int32) else 1))] h2 (fun _ _ => False) Qx)) Qx) ∨ (CL rb d mX11_checkArgument [vI (if a2 < 1 then (0 : Int32) else (if 99 < a2 then (0 : Int32) else 1))] h1 (fun _ _ => False) Qx)) Qx) ∨ (CL rb d mX11_checkProduct [vR 11 0, vI a1] h (fun _ _ => False) Qx)) : AW X (d + 1) rb mX11_addOrder 0 [(0, vR 11 0), (1, vI a1), (2, vI a2), (3, vI a3), (4, vI a4), (5, vI a5)] [] h Qr Qx := by
  refine aw_aload_n (j := 0) (i := 0) dX11_addOrder_0 rfl rfl rfl ?_
  refine aw_iload_n (j := 1) (i := 1) dX11_addOrder_1 rfl rfl rfl ?_
  rcases k with k | k
  · refine aw_callV (M' := mX11_checkProduct) (S := []) (as := [vI a1]) (k := 0) dX11_addOrder_2 rfl (by decide) rfl rfl gw_1049 gw_1051 gw_19 mb_X11_checkProduct rfl (Nat.zero_le _) (Nat.le_of_ble_eq_true rfl) rfl (CL.imp k (fun _ h1 k => ?_) (fun _ _ k => k))
    obtain ⟨rfl, k⟩ := oV_of k
    show AW X (d + 1) rb mX11_addOrder 5 _ [] h1 Qr Qx
    refine aw_iload_n (j := 2) (i := 2) dX11_addOrder_5 rfl rfl rfl ?_
    refine aw_iconst (v := 1) dX11_addOrder_6 rfl (by decide) ?_
    have kk : AW X (d + 1) rb mX11_addOrder 21 [(0, vR 11 0), (1, vI a1), (2, vI a2), (3, vI a3), (4, vI a4), (5, vI a5)] [vI (if a2 < 1 then (0 : Int32) else (if 99 < a2 then (0 : Int32) else 1))] h1 Qr Qx := by
      rcases k with k | k
      · refine aw_callS (M' := mX11_checkArgument) (S := []) (as := [vI (if a2 < 1 then (0 : Int32) else (if 99 < a2 then (0 : Int32) else 1))]) (k := 0) dX11_addOrder_21 rfl gw_1196 gw_1197 mb_X11_checkArgument rfl (Nat.zero_le _) (Nat.le_of_ble_eq_true rfl) rfl (CL.imp k (fun _ h2 k => ?_) (fun _ _ k => k))
        obtain ⟨rfl, k⟩ := oV_of k
        show AW X (d + 1) rb mX11_addOrder 24 _ [] h2 Qr Qx
        refine aw_iload_n (j := 3) (i := 3) dX11_addOrder_24 rfl rfl rfl ?_
        have kk : AW X (d + 1) rb mX11_addOrder 39 [(0, vR 11 0), (1, vI a1), (2, vI a2), (3, vI a3), (4, vI a4), (5, vI a5)] [vI (if a3 < 0 then (0 : Int32) else (if 9 < a3 then (0 : Int32) else 1))] h2 Qr Qx := by
          rcases k with k | k
          · refine aw_callS (M' := mX11_checkArgument) (S := []) (as := [vI (if a3 < 0 then (0 : Int32) else (if 9 < a3 then (0 : Int32) else 1))]) (k := 0) dX11_addOrder_39 rfl gw_1196 gw_1197 mb_X11_checkArgument rfl (Nat.zero_le _) (Nat.le_of_ble_eq_true rfl) rfl (CL.imp k (fun _ h3 k => ?_) (fun _ _ k => k))
            obtain ⟨rfl, k⟩ := oV_of k
            show AW X (d + 1) rb mX11_addOrder 42 _ [] h3 Qr Qx
            refine aw_iload (j := 4) (i := 4) dX11_addOrder_42 rfl rfl ?_
            have kk : AW X (d + 1) rb mX11_addOrder 60 [(0, vR 11 0), (1, vI a1), (2, vI a2), (3, vI a3), (4, vI a4), (5, vI a5)] [vI (if a4 < 0 then (0 : Int32) else (if 999 < a4 then (0 : Int32) else 1))] h3 Qr Qx := by
              rcases k with k | k
              · refine aw_callS (M' := mX11_checkArgument) (S := []) (as := [vI (if a4 < 0 then (0 : Int32) else (if 999 < a4 then (0 : Int32) else 1))]) (k := 0) dX11_addOrder_60 rfl gw_1196 gw_1197 mb_X11_checkArgument rfl (Nat.zero_le _) (Nat.le_of_ble_eq_true rfl) rfl (CL.imp k (fun _ h4 k => ?_) (fun _ _ k => k))
                obtain ⟨rfl, k⟩ := oV_of k
                show AW X (d + 1) rb mX11_addOrder 63 _ [] h4 Qr Qx
                refine aw_aload_n (j := 0) (i := 0) dX11_addOrder_63 rfl rfl rfl ?_
                refine aw_getm (k := 7) (z := 5) dX11_addOrder_64 rfl (by decide) rfl rfl cb_11 (by decide) gw_430 ?_
                refine aw_getf (k := 1) (z := 6) dX11_addOrder_67 rfl (by decide) rfl rfl rfl cb_5 (by decide) gw_327 ?_
                refine aw_geti (k := 0) dX11_addOrder_70 rfl (by decide) rfl rfl cb_6 (by decide) gw_272 ?_
                refine aw_bipush (v := 20) dX11_addOrder_73 rfl (by decide) ?_
                have kk : AW X (d + 1) rb mX11_addOrder 83 [(0, vR 11 0), (1, vI a1), (2, vI a2), (3, vI a3), (4, vI a4), (5, vI a5)] [vI (if 20 ≤ (h4.1 6 (h4.2.2 11 0 7) 0) then (0 : Int32) else 1)] h4 Qr Qx := by
                  rcases k with k | k
                  · refine aw_callS (M' := mX11_checkState) (S := []) (as := [vI (if 20 ≤ (h4.1 6 (h4.2.2 11 0 7) 0) then (0 : Int32) else 1)]) (k := 0) dX11_addOrder_83 rfl gw_1377 gw_1378 mb_X11_checkState rfl (Nat.zero_le _) (Nat.le_of_ble_eq_true rfl) rfl (CL.imp k (fun _ h5 k => ?_) (fun _ _ k => k))
                    obtain ⟨rfl, k⟩ := oV_of k
                    show AW X (d + 1) rb mX11_addOrder 86 _ [] h5 Qr Qx
                    refine aw_aload_n (j := 0) (i := 0) dX11_addOrder_86 rfl rfl rfl ?_
                    refine aw_getf (k := 2) (z := 3) dX11_addOrder_87 rfl (by decide) rfl rfl rfl cb_11 (by decide) gw_425 ?_
                    refine aw_aload_n (j := 0) (i := 0) dX11_addOrder_90 rfl rfl rfl ?_
                    refine aw_getm (k := 7) (z := 5) dX11_addOrder_91 rfl (by decide) rfl rfl cb_11 (by decide) gw_430 ?_
                    refine aw_callV (M' := mX3_record) (S := []) (as := [vR 5 (h5.2.2 11 0 7)]) (k := 0) dX11_addOrder_94 rfl (by decide) rfl rfl gw_620 gw_621 gw_622 mb_X3_record rfl (Nat.zero_le _) (Nat.le_of_ble_eq_true rfl) rfl (CL.imp k (fun _ h6 k => ?_) (fun _ _ k => k))
                    obtain ⟨rfl, k⟩ := oV_of k
                    show AW X (d + 1) rb mX11_addOrder 97 _ [] h6 Qr Qx
                    refine aw_aload_n (j := 0) (i := 0) dX11_addOrder_97 rfl rfl rfl ?_
                    refine aw_getm (k := 7) (z := 5) dX11_addOrder_98 rfl (by decide) rfl rfl cb_11 (by decide) gw_430 ?_
                    refine aw_getf (k := 1) (z := 6) dX11_addOrder_101 rfl (by decide) rfl rfl rfl cb_5 (by decide) gw_327 ?_
                    refine aw_iload_n (j := 1) (i := 1) dX11_addOrder_104 rfl rfl rfl ?_
                    refine aw_iload_n (j := 2) (i := 2) dX11_addOrder_105 rfl rfl rfl ?_
                    refine aw_iload_n (j := 3) (i := 3) dX11_addOrder_106 rfl rfl rfl ?_
                    refine aw_iload (j := 4) (i := 4) dX11_addOrder_107 rfl rfl ?_
                    refine aw_iload (j := 5) (i := 5) dX11_addOrder_109 rfl rfl ?_
                    refine aw_callV (M' := mX6_enter) (S := []) (as := [vI a1, vI a2, vI a3, vI a4, vI a5]) (k := 0) dX11_addOrder_111 rfl (by decide) rfl rfl gw_1396 gw_959 gw_960 mb_X6_enter rfl (Nat.zero_le _) (Nat.le_of_ble_eq_true rfl) rfl (CL.imp k (fun _ h7 k => ?_) (fun _ _ k => k))
                    obtain ⟨r8, rfl, k⟩ := oI_of k
                    show AW X (d + 1) rb mX11_addOrder 114 _ [vI r8] h7 Qr Qx
                    exact aw_iret dX11_addOrder_114 rfl k
                  · refine aw_callS (M' := mX11_checkState) (S := []) (as := [vI (if 20 ≤ (h4.1 6 (h4.2.2 11 0 7) 0) then (0 : Int32) else 1)]) (k := rb) dX11_addOrder_83 rfl gw_1377 gw_1378 mb_X11_checkState rfl (Nat.le_refl _) (Nat.le_of_ble_eq_true rfl) rfl (CL.imp k (fun _ h5 k => ?_) (fun _ _ k => k))
                    exact k.elim
                refine aw_icmp_ge 82 dX11_addOrder_75 rfl rfl (fun (c0 : 20 ≤ (h4.1 6 (h4.2.2 11 0 7) 0)) => ?_) (fun (c0 : ¬ 20 ≤ (h4.1 6 (h4.2.2 11 0 7) 0)) => ?_)
                · refine aw_iconst (v := 0) dX11_addOrder_82 rfl (by decide) ?_
                  simp only [if_pos c0] at kk
                  exact kk
                · refine aw_iconst (v := 1) dX11_addOrder_78 rfl (by decide) ?_
                  refine aw_goto 83 dX11_addOrder_79 rfl ?_
                  simp only [if_neg c0] at kk
                  exact kk
              · refine aw_callS (M' := mX11_checkArgument) (S := []) (as := [vI (if a4 < 0 then (0 : Int32) else (if 999 < a4 then (0 : Int32) else 1))]) (k := rb) dX11_addOrder_60 rfl gw_1196 gw_1197 mb_X11_checkArgument rfl (Nat.le_refl _) (Nat.le_of_ble_eq_true rfl) rfl (CL.imp k (fun _ h4 k => ?_) (fun _ _ k => k))
                exact k.elim
            refine aw_if_lt 59 dX11_addOrder_44 rfl rfl (fun (c0 : a4 < 0) => ?_) (fun (c0 : ¬ a4 < 0) => ?_)
            · refine aw_iconst (v := 0) dX11_addOrder_59 rfl (by decide) ?_
              simp only [if_pos c0] at kk
              exact kk
            · refine aw_iload (j := 4) (i := 4) dX11_addOrder_47 rfl rfl ?_
              refine aw_sipush (v := 999) dX11_addOrder_49 rfl (by decide) ?_
              refine aw_icmp_gt 59 dX11_addOrder_52 rfl rfl (fun (c1 : 999 < a4) => ?_) (fun (c1 : ¬ 999 < a4) => ?_)
              · refine aw_iconst (v := 0) dX11_addOrder_59 rfl (by decide) ?_
                simp only [if_neg c0, if_pos c1] at kk
                exact kk
              · refine aw_iconst (v := 1) dX11_addOrder_55 rfl (by decide) ?_
                refine aw_goto 60 dX11_addOrder_56 rfl ?_
                simp only [if_neg c0, if_neg c1] at kk
                exact kk
          · refine aw_callS (M' := mX11_checkArgument) (S := []) (as := [vI (if a3 < 0 then (0 : Int32) else (if 9 < a3 then (0 : Int32) else 1))]) (k := rb) dX11_addOrder_39 rfl gw_1196 gw_1197 mb_X11_checkArgument rfl (Nat.le_refl _) (Nat.le_of_ble_eq_true rfl) rfl (CL.imp k (fun _ h3 k => ?_) (fun _ _ k => k))
            exact k.elim
        refine aw_if_lt 38 dX11_addOrder_25 rfl rfl (fun (c0 : a3 < 0) => ?_) (fun (c0 : ¬ a3 < 0) => ?_)
        · refine aw_iconst (v := 0) dX11_addOrder_38 rfl (by decide) ?_
          simp only [if_pos c0] at kk
          exact kk
        · refine aw_iload_n (j := 3) (i := 3) dX11_addOrder_28 rfl rfl rfl ?_
          refine aw_bipush (v := 9) dX11_addOrder_29 rfl (by decide) ?_
          refine aw_icmp_gt 38 dX11_addOrder_31 rfl rfl (fun (c1 : 9 < a3) => ?_) (fun (c1 : ¬ 9 < a3) => ?_)
          · refine aw_iconst (v := 0) dX11_addOrder_38 rfl (by decide) ?_
            simp only [if_neg c0, if_pos c1] at kk
            exact kk
          · refine aw_iconst (v := 1) dX11_addOrder_34 rfl (by decide) ?_
            refine aw_goto 39 dX11_addOrder_35 rfl ?_
            simp only [if_neg c0, if_neg c1] at kk
            exact kk
      · refine aw_callS (M' := mX11_checkArgument) (S := []) (as := [vI (if a2 < 1 then (0 : Int32) else (if 99 < a2 then (0 : Int32) else 1))]) (k := rb) dX11_addOrder_21 rfl gw_1196 gw_1197 mb_X11_checkArgument rfl (Nat.le_refl _) (Nat.le_of_ble_eq_true rfl) rfl (CL.imp k (fun _ h2 k => ?_) (fun _ _ k => k))
        exact k.elim
    refine aw_icmp_lt 20 dX11_addOrder_7 rfl rfl (fun (c0 : a2 < 1) => ?_) (fun (c0 : ¬ a2 < 1) => ?_)
    · refine aw_iconst (v := 0) dX11_addOrder_20 rfl (by decide) ?_
      simp only [if_pos c0] at kk
      exact kk
    · refine aw_iload_n (j := 2) (i := 2) dX11_addOrder_10 rfl rfl rfl ?_
      refine aw_bipush (v := 99) dX11_addOrder_11 rfl (by decide) ?_
      refine aw_icmp_gt 20 dX11_addOrder_13 rfl rfl (fun (c1 : 99 < a2) => ?_) (fun (c1 : ¬ 99 < a2) => ?_)
      · refine aw_iconst (v := 0) dX11_addOrder_20 rfl (by decide) ?_
        simp only [if_neg c0, if_pos c1] at kk
        exact kk
      · refine aw_iconst (v := 1) dX11_addOrder_16 rfl (by decide) ?_
        refine aw_goto 21 dX11_addOrder_17 rfl ?_
        simp only [if_neg c0, if_neg c1] at kk
        exact kk
  · refine aw_callV (M' := mX11_checkProduct) (S := []) (as := [vI a1]) (k := rb) dX11_addOrder_2 rfl (by decide) rfl rfl gw_1049 gw_1051 gw_19 mb_X11_checkProduct rfl (Nat.le_refl _) (Nat.le_of_ble_eq_true rfl) rfl (CL.imp k (fun _ h1 k => ?_) (fun _ _ k => k))
    exact k.elim
set_option maxHeartbeats 4000000 in
set_option maxRecDepth 100000 in
theorem vc_X11_cancel_0 {X : WD → State → Prop} {d rb : Nat} {h : Hp} {Qr : Option AV → Hp → Prop} {Qx : String → Hp → Prop} {a1 : Int32}  (k : (CL 0 d mX11_checkOrder [vR 11 0, vI a1] h (oV fun h1 => CL 0 d mX11_isClosed [vR 11 0, vI a1] h1 (oI fun r3 h2 => (CL 0 d mX11_checkState [vI (if ¬ r3 = 0 then (0 : Int32) else 1)] h2 (oV fun h4 => CL 0 d mX3_record [vR 3 0, vR 5 (h4.2.2 11 0 7)] h4 (oV fun h5 => CL 0 d mX6_reservedOf [vR 6 (h5.2.2 11 0 7), vI a1] h5 (oI fun r7 h6 => CL 0 d mX5_changeReserved [vR 5 (h6.2.2 11 0 7), vR 1 (h6.2.2 11 0 6), vI a1, vI (-r7)] h6 (oV fun h8 => CL 0 d mX6_markCancelled [vR 6 (h8.2.2 11 0 7), vI a1] h8 (oV fun h9 => Qr (some (vI r7)) h9) Qx) Qx) Qx) Qx) Qx) ∨ (CL rb d mX11_checkState [vI (if ¬ r3 = 0 then (0 : Int32) else 1)] h2 (fun _ _ => False) Qx)) Qx) Qx) ∨ (CL rb d mX11_checkOrder [vR 11 0, vI a1] h (fun _ _ => False) Qx)) : AW X (d + 1) rb mX11_cancel 0 [(0, vR 11 0), (1, vI a1)] [] h Qr Qx := by
  refine aw_aload_n (j := 0) (i := 0) dX11_cancel_0 rfl rfl rfl ?_
  refine aw_iload_n (j := 1) (i := 1) dX11_cancel_1 rfl rfl rfl ?_
  rcases k with k | k
  · refine aw_callV (M' := mX11_checkOrder) (S := []) (as := [vI a1]) (k := 0) dX11_cancel_2 rfl (by decide) rfl rfl gw_1224 gw_1226 gw_24 mb_X11_checkOrder rfl (Nat.zero_le _) (Nat.le_of_ble_eq_true rfl) rfl (CL.imp k (fun _ h1 k => ?_) (fun _ _ k => k))
    obtain ⟨rfl, k⟩ := oV_of k
    show AW X (d + 1) rb mX11_cancel 5 _ [] h1 Qr Qx
    refine aw_aload_n (j := 0) (i := 0) dX11_cancel_5 rfl rfl rfl ?_
    refine aw_iload_n (j := 1) (i := 1) dX11_cancel_6 rfl rfl rfl ?_
    refine aw_callV (M' := mX11_isClosed) (S := []) (as := [vI a1]) (k := 0) dX11_cancel_7 rfl (by decide) rfl rfl gw_1309 gw_1311 gw_26 mb_X11_isClosed rfl (Nat.zero_le _) (Nat.le_of_ble_eq_true rfl) rfl (CL.imp k (fun _ h2 k => ?_) (fun _ _ k => k))
    obtain ⟨r3, rfl, k⟩ := oI_of k
    show AW X (d + 1) rb mX11_cancel 10 _ [vI r3] h2 Qr Qx
    have kk : AW X (d + 1) rb mX11_cancel 18 [(0, vR 11 0), (1, vI a1)] [vI (if ¬ r3 = 0 then (0 : Int32) else 1)] h2 Qr Qx := by
      rcases k with k | k
      · refine aw_callS (M' := mX11_checkState) (S := []) (as := [vI (if ¬ r3 = 0 then (0 : Int32) else 1)]) (k := 0) dX11_cancel_18 rfl gw_1377 gw_1378 mb_X11_checkState rfl (Nat.zero_le _) (Nat.le_of_ble_eq_true rfl) rfl (CL.imp k (fun _ h4 k => ?_) (fun _ _ k => k))
        obtain ⟨rfl, k⟩ := oV_of k
        show AW X (d + 1) rb mX11_cancel 21 _ [] h4 Qr Qx
        refine aw_aload_n (j := 0) (i := 0) dX11_cancel_21 rfl rfl rfl ?_
        refine aw_getf (k := 2) (z := 3) dX11_cancel_22 rfl (by decide) rfl rfl rfl cb_11 (by decide) gw_425 ?_
        refine aw_aload_n (j := 0) (i := 0) dX11_cancel_25 rfl rfl rfl ?_
        refine aw_getm (k := 7) (z := 5) dX11_cancel_26 rfl (by decide) rfl rfl cb_11 (by decide) gw_430 ?_
        refine aw_callV (M' := mX3_record) (S := []) (as := [vR 5 (h4.2.2 11 0 7)]) (k := 0) dX11_cancel_29 rfl (by decide) rfl rfl gw_620 gw_621 gw_622 mb_X3_record rfl (Nat.zero_le _) (Nat.le_of_ble_eq_true rfl) rfl (CL.imp k (fun _ h5 k => ?_) (fun _ _ k => k))
        obtain ⟨rfl, k⟩ := oV_of k
        show AW X (d + 1) rb mX11_cancel 32 _ [] h5 Qr Qx
        refine aw_aload_n (j := 0) (i := 0) dX11_cancel_32 rfl rfl rfl ?_
        refine aw_getm (k := 7) (z := 5) dX11_cancel_33 rfl (by decide) rfl rfl cb_11 (by decide) gw_430 ?_
        refine aw_getf (k := 1) (z := 6) dX11_cancel_36 rfl (by decide) rfl rfl rfl cb_5 (by decide) gw_327 ?_
        refine aw_iload_n (j := 1) (i := 1) dX11_cancel_39 rfl rfl rfl ?_
        refine aw_callV (M' := mX6_reservedOf) (S := []) (as := [vI a1]) (k := 0) dX11_cancel_40 rfl (by decide) rfl rfl gw_1252 gw_1235 gw_1236 mb_X6_reservedOf rfl (Nat.zero_le _) (Nat.le_of_ble_eq_true rfl) rfl (CL.imp k (fun _ h6 k => ?_) (fun _ _ k => k))
        obtain ⟨r7, rfl, k⟩ := oI_of k
        show AW X (d + 1) rb mX11_cancel 43 _ [vI r7] h6 Qr Qx
        refine aw_istore_n (i := 2) (L2 := [(2, vI r7), (0, vR 11 0), (1, vI a1)]) dX11_cancel_43 rfl rfl (by decide) rfl ?_
        refine aw_aload_n (j := 1) (i := 0) dX11_cancel_44 rfl rfl rfl ?_
        refine aw_getm (k := 7) (z := 5) dX11_cancel_45 rfl (by decide) rfl rfl cb_11 (by decide) gw_430 ?_
        refine aw_aload_n (j := 1) (i := 0) dX11_cancel_48 rfl rfl rfl ?_
        refine aw_getm (k := 6) (z := 1) dX11_cancel_49 rfl (by decide) rfl rfl cb_11 (by decide) gw_429 ?_
        refine aw_iload_n (j := 2) (i := 1) dX11_cancel_52 rfl rfl rfl ?_
        refine aw_iload_n (j := 0) (i := 2) dX11_cancel_53 rfl rfl rfl ?_
        refine aw_ineg dX11_cancel_54 rfl ?_
        refine aw_callV (M' := mX5_changeReserved) (S := []) (as := [vR 1 (h6.2.2 11 0 6), vI a1, vI (-r7)]) (k := 0) dX11_cancel_55 rfl (by decide) rfl rfl gw_683 gw_684 gw_685 mb_X5_changeReserved rfl (Nat.zero_le _) (Nat.le_of_ble_eq_true rfl) rfl (CL.imp k (fun _ h8 k => ?_) (fun _ _ k => k))
        obtain ⟨rfl, k⟩ := oV_of k
        show AW X (d + 1) rb mX11_cancel 58 _ [] h8 Qr Qx
        refine aw_aload_n (j := 1) (i := 0) dX11_cancel_58 rfl rfl rfl ?_
        refine aw_getm (k := 7) (z := 5) dX11_cancel_59 rfl (by decide) rfl rfl cb_11 (by decide) gw_430 ?_
        refine aw_getf (k := 1) (z := 6) dX11_cancel_62 rfl (by decide) rfl rfl rfl cb_5 (by decide) gw_327 ?_
        refine aw_iload_n (j := 2) (i := 1) dX11_cancel_65 rfl rfl rfl ?_
        refine aw_callV (M' := mX6_markCancelled) (S := []) (as := [vI a1]) (k := 0) dX11_cancel_66 rfl (by decide) rfl rfl gw_1404 gw_1405 gw_1406 mb_X6_markCancelled rfl (Nat.zero_le _) (Nat.le_of_ble_eq_true rfl) rfl (CL.imp k (fun _ h9 k => ?_) (fun _ _ k => k))
        obtain ⟨rfl, k⟩ := oV_of k
        show AW X (d + 1) rb mX11_cancel 69 _ [] h9 Qr Qx
        refine aw_iload_n (j := 0) (i := 2) dX11_cancel_69 rfl rfl rfl ?_
        exact aw_iret dX11_cancel_70 rfl k
      · refine aw_callS (M' := mX11_checkState) (S := []) (as := [vI (if ¬ r3 = 0 then (0 : Int32) else 1)]) (k := rb) dX11_cancel_18 rfl gw_1377 gw_1378 mb_X11_checkState rfl (Nat.le_refl _) (Nat.le_of_ble_eq_true rfl) rfl (CL.imp k (fun _ h4 k => ?_) (fun _ _ k => k))
        exact k.elim
    refine aw_if_ne 17 dX11_cancel_10 rfl rfl (fun (c0 : ¬ r3 = 0) => ?_) (fun (c0 : r3 = 0) => ?_)
    · refine aw_iconst (v := 0) dX11_cancel_17 rfl (by decide) ?_
      simp only [if_pos c0] at kk
      exact kk
    · refine aw_iconst (v := 1) dX11_cancel_13 rfl (by decide) ?_
      refine aw_goto 18 dX11_cancel_14 rfl ?_
      simp only [if_neg (oa_nn c0)] at kk
      exact kk
  · refine aw_callV (M' := mX11_checkOrder) (S := []) (as := [vI a1]) (k := rb) dX11_cancel_2 rfl (by decide) rfl rfl gw_1224 gw_1226 gw_24 mb_X11_checkOrder rfl (Nat.le_refl _) (Nat.le_of_ble_eq_true rfl) rfl (CL.imp k (fun _ h1 k => ?_) (fun _ _ k => k))
    exact k.elim
set_option maxHeartbeats 4000000 in
set_option maxRecDepth 100000 in
theorem vc_X11_reserve_0 {X : WD → State → Prop} {d rb : Nat} {h : Hp} {Qr : Option AV → Hp → Prop} {Qx : String → Hp → Prop} {a1 : Int32} {a2 : Int32}  (k : (CL 0 d mX11_checkOrder [vR 11 0, vI a1] h (oV fun h1 => (CL 0 d mX11_checkArgument [vI (if a2 < 1 then (0 : Int32) else 1)] h1 (oV fun h2 => CL 0 d mX6_openOf [vR 6 (h2.2.2 11 0 7), vI a1] h2 (oI fun r4 h3 => ((r4 < a2) → (CL 0 d mX11_checkState [vI 0] h3 (oV fun h5 => CL 0 d mX10_fillFree [vR 10 (h5.2.2 11 0 7), vR 53 0] h5 (oV fun h6 => CL 0 d mX6_productOf [vR 6 (h2.2.2 11 0 7), vI a1] h6 (oI fun r8 h7 => CL 0 d mX1_mostUnits [vR 1 (h6.2.2 11 0 6), vI r8, vR 53 0] h7 (oI fun r10 h9 => (CL 0 d mX11_checkState [vI (if r10 < a2 then (0 : Int32) else 1)] h9 (oV fun h11 => CL 0 d mX3_record [vR 3 0, vR 5 (h11.2.2 11 0 7)] h11 (oV fun h12 => CL 0 d mX5_changeReserved [vR 5 (h12.2.2 11 0 7), vR 1 (h12.2.2 11 0 6), vI a1, vI a2] h12 (oV fun h13 => CL 0 d mX6_openOf [vR 6 (h2.2.2 11 0 7), vI a1] h13 (oI fun r15 h14 => Qr (some (vI r15)) h14) Qx) Qx) Qx) Qx) ∨ (CL rb d mX11_checkState [vI (if r10 < a2 then (0 : Int32) else 1)] h9 (fun _ _ => False) Qx)) Qx) Qx) Qx) Qx) ∨ (CL rb d mX11_checkState [vI 0] h3 (fun _ _ => False) Qx)) ∧ ((¬ r4 < a2) → CL 0 d mX6_mayMove [vR 6 (h2.2.2 11 0 7), vI a1, vI a2] h3 (oI fun r17 h16 => (CL 0 d mX11_checkState [vI (if r17 = 0 then (0 : Int32) else 1)] h16 (oV fun h18 => CL 0 d mX10_fillFree [vR 10 (h18.2.2 11 0 7), vR 53 0] h18 (oV fun h19 => CL 0 d mX6_productOf [vR 6 (h2.2.2 11 0 7), vI a1] h19 (oI fun r21 h20 => CL 0 d mX1_mostUnits [vR 1 (h19.2.2 11 0 6), vI r21, vR 53 0] h20 (oI fun r23 h22 => (CL 0 d mX11_checkState [vI (if r23 < a2 then (0 : Int32) else 1)] h22 (oV fun h24 => CL 0 d mX3_record [vR 3 0, vR 5 (h24.2.2 11 0 7)] h24 (oV fun h25 => CL 0 d mX5_changeReserved [vR 5 (h25.2.2 11 0 7), vR 1 (h25.2.2 11 0 6), vI a1, vI a2] h25 (oV fun h26 => CL 0 d mX6_openOf [vR 6 (h2.2.2 11 0 7), vI a1] h26 (oI fun r28 h27 => Qr (some (vI r28)) h27) Qx) Qx) Qx) Qx) ∨ (CL rb d mX11_checkState [vI (if r23 < a2 then (0 : Int32) else 1)] h22 (fun _ _ => False) Qx)) Qx) Qx) Qx) Qx) ∨ (CL rb d mX11_checkState [vI (if r17 = 0 then (0 : Int32) else 1)] h16 (fun _ _ => False) Qx)) Qx)) Qx) Qx) ∨ (CL rb d mX11_checkArgument [vI (if a2 < 1 then (0 : Int32) else 1)] h1 (fun _ _ => False) Qx)) Qx) ∨ (CL rb d mX11_checkOrder [vR 11 0, vI a1] h (fun _ _ => False) Qx)) : AW X (d + 1) rb mX11_reserve 0 [(0, vR 11 0), (1, vI a1), (2, vI a2)] [] h Qr Qx := by
  refine aw_aload_n (j := 0) (i := 0) dX11_reserve_0 rfl rfl rfl ?_
  refine aw_iload_n (j := 1) (i := 1) dX11_reserve_1 rfl rfl rfl ?_
  rcases k with k | k
  · refine aw_callV (M' := mX11_checkOrder) (S := []) (as := [vI a1]) (k := 0) dX11_reserve_2 rfl (by decide) rfl rfl gw_1224 gw_1226 gw_24 mb_X11_checkOrder rfl (Nat.zero_le _) (Nat.le_of_ble_eq_true rfl) rfl (CL.imp k (fun _ h1 k => ?_) (fun _ _ k => k))
    obtain ⟨rfl, k⟩ := oV_of k
    show AW X (d + 1) rb mX11_reserve 5 _ [] h1 Qr Qx
    refine aw_iload_n (j := 2) (i := 2) dX11_reserve_5 rfl rfl rfl ?_
    refine aw_iconst (v := 1) dX11_reserve_6 rfl (by decide) ?_
    have kk : AW X (d + 1) rb mX11_reserve 15 [(0, vR 11 0), (1, vI a1), (2, vI a2)] [vI (if a2 < 1 then (0 : Int32) else 1)] h1 Qr Qx := by
      rcases k with k | k
      · refine aw_callS (M' := mX11_checkArgument) (S := []) (as := [vI (if a2 < 1 then (0 : Int32) else 1)]) (k := 0) dX11_reserve_15 rfl gw_1196 gw_1197 mb_X11_checkArgument rfl (Nat.zero_le _) (Nat.le_of_ble_eq_true rfl) rfl (CL.imp k (fun _ h2 k => ?_) (fun _ _ k => k))
        obtain ⟨rfl, k⟩ := oV_of k
        show AW X (d + 1) rb mX11_reserve 18 _ [] h2 Qr Qx
        refine aw_aload_n (j := 0) (i := 0) dX11_reserve_18 rfl rfl rfl ?_
        refine aw_getm (k := 7) (z := 5) dX11_reserve_19 rfl (by decide) rfl rfl cb_11 (by decide) gw_430 ?_
        refine aw_getf (k := 1) (z := 6) dX11_reserve_22 rfl (by decide) rfl rfl rfl cb_5 (by decide) gw_327 ?_
        refine aw_astore_n (i := 3) (L2 := [(3, vR 6 (h2.2.2 11 0 7)), (0, vR 11 0), (1, vI a1), (2, vI a2)]) dX11_reserve_25 rfl rfl (by decide) rfl ?_
        refine aw_iload_n (j := 3) (i := 2) dX11_reserve_26 rfl rfl rfl ?_
        refine aw_aload_n (j := 0) (i := 3) dX11_reserve_27 rfl rfl rfl ?_
        refine aw_iload_n (j := 2) (i := 1) dX11_reserve_28 rfl rfl rfl ?_
        refine aw_callV (M' := mX6_openOf) (S := [vI a2]) (as := [vI a1]) (k := 0) dX11_reserve_29 rfl (by decide) rfl rfl gw_540 gw_500 gw_501 mb_X6_openOf rfl (Nat.zero_le _) (Nat.le_of_ble_eq_true rfl) rfl (CL.imp k (fun _ h3 k => ?_) (fun _ _ k => k))
        obtain ⟨r4, rfl, k⟩ := oI_of k
        show AW X (d + 1) rb mX11_reserve 32 _ [vI r4, vI a2] h3 Qr Qx
        refine aw_icmp_gt 48 dX11_reserve_32 rfl rfl (fun c => ?_) (fun c => ?_)
        · replace k := k.1 c
          refine aw_iconst (v := 0) dX11_reserve_48 rfl (by decide) ?_
          rcases k with k | k
          · refine aw_callS (M' := mX11_checkState) (S := []) (as := [vI 0]) (k := 0) dX11_reserve_49 rfl gw_1377 gw_1378 mb_X11_checkState rfl (Nat.zero_le _) (Nat.le_of_ble_eq_true rfl) rfl (CL.imp k (fun _ h5 k => ?_) (fun _ _ k => k))
            obtain ⟨rfl, k⟩ := oV_of k
            show AW X (d + 1) rb mX11_reserve 52 _ [] h5 Qr Qx
            refine aw_aload_n (j := 1) (i := 0) dX11_reserve_52 rfl rfl rfl ?_
            refine aw_getm (k := 7) (z := 5) dX11_reserve_53 rfl (by decide) rfl rfl cb_11 (by decide) gw_430 ?_
            refine aw_getf (k := 0) (z := 10) dX11_reserve_56 rfl (by decide) rfl rfl rfl cb_5 (by decide) gw_322 ?_
            refine aw_aload_n (j := 1) (i := 0) dX11_reserve_59 rfl rfl rfl ?_
            refine aw_getf (k := 5) (z := 53) dX11_reserve_60 rfl (by decide) rfl rfl rfl cb_11 (by decide) gw_428 ?_
            refine aw_callV (M' := mX10_fillFree) (S := []) (as := [vR 53 0]) (k := 0) dX11_reserve_63 rfl (by decide) rfl rfl gw_1179 gw_578 gw_579 mb_X10_fillFree rfl (Nat.zero_le _) (Nat.le_of_ble_eq_true rfl) rfl (CL.imp k (fun _ h6 k => ?_) (fun _ _ k => k))
            obtain ⟨rfl, k⟩ := oV_of k
            show AW X (d + 1) rb mX11_reserve 66 _ [] h6 Qr Qx
            refine aw_iload_n (j := 3) (i := 2) dX11_reserve_66 rfl rfl rfl ?_
            refine aw_aload_n (j := 1) (i := 0) dX11_reserve_67 rfl rfl rfl ?_
            refine aw_getm (k := 6) (z := 1) dX11_reserve_68 rfl (by decide) rfl rfl cb_11 (by decide) gw_429 ?_
            refine aw_aload_n (j := 0) (i := 3) dX11_reserve_71 rfl rfl rfl ?_
            refine aw_iload_n (j := 2) (i := 1) dX11_reserve_72 rfl rfl rfl ?_
            refine aw_callV (M' := mX6_productOf) (S := [vR 1 (h6.2.2 11 0 6), vI a2]) (as := [vI a1]) (k := 0) dX11_reserve_73 rfl (by decide) rfl rfl gw_541 gw_505 gw_506 mb_X6_productOf rfl (Nat.zero_le _) (Nat.le_of_ble_eq_true rfl) rfl (CL.imp k (fun _ h7 k => ?_) (fun _ _ k => k))
            obtain ⟨r8, rfl, k⟩ := oI_of k
            show AW X (d + 1) rb mX11_reserve 76 _ [vI r8, vR 1 (h6.2.2 11 0 6), vI a2] h7 Qr Qx
            refine aw_aload_n (j := 1) (i := 0) dX11_reserve_76 rfl rfl rfl ?_
            refine aw_getf (k := 5) (z := 53) dX11_reserve_77 rfl (by decide) rfl rfl rfl cb_11 (by decide) gw_428 ?_
            refine aw_callV (M' := mX1_mostUnits) (S := [vI a2]) (as := [vI r8, vR 53 0]) (k := 0) dX11_reserve_80 rfl (by decide) rfl rfl gw_1180 gw_600 gw_601 mb_X1_mostUnits rfl (Nat.zero_le _) (Nat.le_of_ble_eq_true rfl) rfl (CL.imp k (fun _ h9 k => ?_) (fun _ _ k => k))
            obtain ⟨r10, rfl, k⟩ := oI_of k
            show AW X (d + 1) rb mX11_reserve 83 _ [vI r10, vI a2] h9 Qr Qx
            have kk : AW X (d + 1) rb mX11_reserve 91 [(3, vR 6 (h2.2.2 11 0 7)), (0, vR 11 0), (1, vI a1), (2, vI a2)] [vI (if r10 < a2 then (0 : Int32) else 1)] h9 Qr Qx := by
              rcases k with k | k
              · refine aw_callS (M' := mX11_checkState) (S := []) (as := [vI (if r10 < a2 then (0 : Int32) else 1)]) (k := 0) dX11_reserve_91 rfl gw_1377 gw_1378 mb_X11_checkState rfl (Nat.zero_le _) (Nat.le_of_ble_eq_true rfl) rfl (CL.imp k (fun _ h11 k => ?_) (fun _ _ k => k))
                obtain ⟨rfl, k⟩ := oV_of k
                show AW X (d + 1) rb mX11_reserve 94 _ [] h11 Qr Qx
                refine aw_aload_n (j := 1) (i := 0) dX11_reserve_94 rfl rfl rfl ?_
                refine aw_getf (k := 2) (z := 3) dX11_reserve_95 rfl (by decide) rfl rfl rfl cb_11 (by decide) gw_425 ?_
                refine aw_aload_n (j := 1) (i := 0) dX11_reserve_98 rfl rfl rfl ?_
                refine aw_getm (k := 7) (z := 5) dX11_reserve_99 rfl (by decide) rfl rfl cb_11 (by decide) gw_430 ?_
                refine aw_callV (M' := mX3_record) (S := []) (as := [vR 5 (h11.2.2 11 0 7)]) (k := 0) dX11_reserve_102 rfl (by decide) rfl rfl gw_620 gw_621 gw_622 mb_X3_record rfl (Nat.zero_le _) (Nat.le_of_ble_eq_true rfl) rfl (CL.imp k (fun _ h12 k => ?_) (fun _ _ k => k))
                obtain ⟨rfl, k⟩ := oV_of k
                show AW X (d + 1) rb mX11_reserve 105 _ [] h12 Qr Qx
                refine aw_aload_n (j := 1) (i := 0) dX11_reserve_105 rfl rfl rfl ?_
                refine aw_getm (k := 7) (z := 5) dX11_reserve_106 rfl (by decide) rfl rfl cb_11 (by decide) gw_430 ?_
                refine aw_aload_n (j := 1) (i := 0) dX11_reserve_109 rfl rfl rfl ?_
                refine aw_getm (k := 6) (z := 1) dX11_reserve_110 rfl (by decide) rfl rfl cb_11 (by decide) gw_429 ?_
                refine aw_iload_n (j := 2) (i := 1) dX11_reserve_113 rfl rfl rfl ?_
                refine aw_iload_n (j := 3) (i := 2) dX11_reserve_114 rfl rfl rfl ?_
                refine aw_callV (M' := mX5_changeReserved) (S := []) (as := [vR 1 (h12.2.2 11 0 6), vI a1, vI a2]) (k := 0) dX11_reserve_115 rfl (by decide) rfl rfl gw_683 gw_684 gw_685 mb_X5_changeReserved rfl (Nat.zero_le _) (Nat.le_of_ble_eq_true rfl) rfl (CL.imp k (fun _ h13 k => ?_) (fun _ _ k => k))
                obtain ⟨rfl, k⟩ := oV_of k
                show AW X (d + 1) rb mX11_reserve 118 _ [] h13 Qr Qx
                refine aw_aload_n (j := 0) (i := 3) dX11_reserve_118 rfl rfl rfl ?_
                refine aw_iload_n (j := 2) (i := 1) dX11_reserve_119 rfl rfl rfl ?_
                refine aw_callV (M' := mX6_openOf) (S := []) (as := [vI a1]) (k := 0) dX11_reserve_120 rfl (by decide) rfl rfl gw_540 gw_500 gw_501 mb_X6_openOf rfl (Nat.zero_le _) (Nat.le_of_ble_eq_true rfl) rfl (CL.imp k (fun _ h14 k => ?_) (fun _ _ k => k))
                obtain ⟨r15, rfl, k⟩ := oI_of k
                show AW X (d + 1) rb mX11_reserve 123 _ [vI r15] h14 Qr Qx
                exact aw_iret dX11_reserve_123 rfl k
              · refine aw_callS (M' := mX11_checkState) (S := []) (as := [vI (if r10 < a2 then (0 : Int32) else 1)]) (k := rb) dX11_reserve_91 rfl gw_1377 gw_1378 mb_X11_checkState rfl (Nat.le_refl _) (Nat.le_of_ble_eq_true rfl) rfl (CL.imp k (fun _ h11 k => ?_) (fun _ _ k => k))
                exact k.elim
            refine aw_icmp_gt 90 dX11_reserve_83 rfl rfl (fun (c0 : r10 < a2) => ?_) (fun (c0 : ¬ r10 < a2) => ?_)
            · refine aw_iconst (v := 0) dX11_reserve_90 rfl (by decide) ?_
              simp only [if_pos c0] at kk
              exact kk
            · refine aw_iconst (v := 1) dX11_reserve_86 rfl (by decide) ?_
              refine aw_goto 91 dX11_reserve_87 rfl ?_
              simp only [if_neg c0] at kk
              exact kk
          · refine aw_callS (M' := mX11_checkState) (S := []) (as := [vI 0]) (k := rb) dX11_reserve_49 rfl gw_1377 gw_1378 mb_X11_checkState rfl (Nat.le_refl _) (Nat.le_of_ble_eq_true rfl) rfl (CL.imp k (fun _ h5 k => ?_) (fun _ _ k => k))
            exact k.elim
        · replace k := k.2 c
          refine aw_aload_n (j := 0) (i := 3) dX11_reserve_35 rfl rfl rfl ?_
          refine aw_iload_n (j := 2) (i := 1) dX11_reserve_36 rfl rfl rfl ?_
          refine aw_iload_n (j := 3) (i := 2) dX11_reserve_37 rfl rfl rfl ?_
          refine aw_callV (M' := mX6_mayMove) (S := []) (as := [vI a1, vI a2]) (k := 0) dX11_reserve_38 rfl (by decide) rfl rfl gw_1415 gw_1416 gw_1417 mb_X6_mayMove rfl (Nat.zero_le _) (Nat.le_of_ble_eq_true rfl) rfl (CL.imp k (fun _ h16 k => ?_) (fun _ _ k => k))
          obtain ⟨r17, rfl, k⟩ := oI_of k
          show AW X (d + 1) rb mX11_reserve 41 _ [vI r17] h16 Qr Qx
          have kk : AW X (d + 1) rb mX11_reserve 49 [(3, vR 6 (h2.2.2 11 0 7)), (0, vR 11 0), (1, vI a1), (2, vI a2)] [vI (if r17 = 0 then (0 : Int32) else 1)] h16 Qr Qx := by
            rcases k with k | k
            · refine aw_callS (M' := mX11_checkState) (S := []) (as := [vI (if r17 = 0 then (0 : Int32) else 1)]) (k := 0) dX11_reserve_49 rfl gw_1377 gw_1378 mb_X11_checkState rfl (Nat.zero_le _) (Nat.le_of_ble_eq_true rfl) rfl (CL.imp k (fun _ h18 k => ?_) (fun _ _ k => k))
              obtain ⟨rfl, k⟩ := oV_of k
              show AW X (d + 1) rb mX11_reserve 52 _ [] h18 Qr Qx
              refine aw_aload_n (j := 1) (i := 0) dX11_reserve_52 rfl rfl rfl ?_
              refine aw_getm (k := 7) (z := 5) dX11_reserve_53 rfl (by decide) rfl rfl cb_11 (by decide) gw_430 ?_
              refine aw_getf (k := 0) (z := 10) dX11_reserve_56 rfl (by decide) rfl rfl rfl cb_5 (by decide) gw_322 ?_
              refine aw_aload_n (j := 1) (i := 0) dX11_reserve_59 rfl rfl rfl ?_
              refine aw_getf (k := 5) (z := 53) dX11_reserve_60 rfl (by decide) rfl rfl rfl cb_11 (by decide) gw_428 ?_
              refine aw_callV (M' := mX10_fillFree) (S := []) (as := [vR 53 0]) (k := 0) dX11_reserve_63 rfl (by decide) rfl rfl gw_1179 gw_578 gw_579 mb_X10_fillFree rfl (Nat.zero_le _) (Nat.le_of_ble_eq_true rfl) rfl (CL.imp k (fun _ h19 k => ?_) (fun _ _ k => k))
              obtain ⟨rfl, k⟩ := oV_of k
              show AW X (d + 1) rb mX11_reserve 66 _ [] h19 Qr Qx
              refine aw_iload_n (j := 3) (i := 2) dX11_reserve_66 rfl rfl rfl ?_
              refine aw_aload_n (j := 1) (i := 0) dX11_reserve_67 rfl rfl rfl ?_
              refine aw_getm (k := 6) (z := 1) dX11_reserve_68 rfl (by decide) rfl rfl cb_11 (by decide) gw_429 ?_
              refine aw_aload_n (j := 0) (i := 3) dX11_reserve_71 rfl rfl rfl ?_
              refine aw_iload_n (j := 2) (i := 1) dX11_reserve_72 rfl rfl rfl ?_
              refine aw_callV (M' := mX6_productOf) (S := [vR 1 (h19.2.2 11 0 6), vI a2]) (as := [vI a1]) (k := 0) dX11_reserve_73 rfl (by decide) rfl rfl gw_541 gw_505 gw_506 mb_X6_productOf rfl (Nat.zero_le _) (Nat.le_of_ble_eq_true rfl) rfl (CL.imp k (fun _ h20 k => ?_) (fun _ _ k => k))
              obtain ⟨r21, rfl, k⟩ := oI_of k
              show AW X (d + 1) rb mX11_reserve 76 _ [vI r21, vR 1 (h19.2.2 11 0 6), vI a2] h20 Qr Qx
              refine aw_aload_n (j := 1) (i := 0) dX11_reserve_76 rfl rfl rfl ?_
              refine aw_getf (k := 5) (z := 53) dX11_reserve_77 rfl (by decide) rfl rfl rfl cb_11 (by decide) gw_428 ?_
              refine aw_callV (M' := mX1_mostUnits) (S := [vI a2]) (as := [vI r21, vR 53 0]) (k := 0) dX11_reserve_80 rfl (by decide) rfl rfl gw_1180 gw_600 gw_601 mb_X1_mostUnits rfl (Nat.zero_le _) (Nat.le_of_ble_eq_true rfl) rfl (CL.imp k (fun _ h22 k => ?_) (fun _ _ k => k))
              obtain ⟨r23, rfl, k⟩ := oI_of k
              show AW X (d + 1) rb mX11_reserve 83 _ [vI r23, vI a2] h22 Qr Qx
              have kk : AW X (d + 1) rb mX11_reserve 91 [(3, vR 6 (h2.2.2 11 0 7)), (0, vR 11 0), (1, vI a1), (2, vI a2)] [vI (if r23 < a2 then (0 : Int32) else 1)] h22 Qr Qx := by
                rcases k with k | k
                · refine aw_callS (M' := mX11_checkState) (S := []) (as := [vI (if r23 < a2 then (0 : Int32) else 1)]) (k := 0) dX11_reserve_91 rfl gw_1377 gw_1378 mb_X11_checkState rfl (Nat.zero_le _) (Nat.le_of_ble_eq_true rfl) rfl (CL.imp k (fun _ h24 k => ?_) (fun _ _ k => k))
                  obtain ⟨rfl, k⟩ := oV_of k
                  show AW X (d + 1) rb mX11_reserve 94 _ [] h24 Qr Qx
                  refine aw_aload_n (j := 1) (i := 0) dX11_reserve_94 rfl rfl rfl ?_
                  refine aw_getf (k := 2) (z := 3) dX11_reserve_95 rfl (by decide) rfl rfl rfl cb_11 (by decide) gw_425 ?_
                  refine aw_aload_n (j := 1) (i := 0) dX11_reserve_98 rfl rfl rfl ?_
                  refine aw_getm (k := 7) (z := 5) dX11_reserve_99 rfl (by decide) rfl rfl cb_11 (by decide) gw_430 ?_
                  refine aw_callV (M' := mX3_record) (S := []) (as := [vR 5 (h24.2.2 11 0 7)]) (k := 0) dX11_reserve_102 rfl (by decide) rfl rfl gw_620 gw_621 gw_622 mb_X3_record rfl (Nat.zero_le _) (Nat.le_of_ble_eq_true rfl) rfl (CL.imp k (fun _ h25 k => ?_) (fun _ _ k => k))
                  obtain ⟨rfl, k⟩ := oV_of k
                  show AW X (d + 1) rb mX11_reserve 105 _ [] h25 Qr Qx
                  refine aw_aload_n (j := 1) (i := 0) dX11_reserve_105 rfl rfl rfl ?_
                  refine aw_getm (k := 7) (z := 5) dX11_reserve_106 rfl (by decide) rfl rfl cb_11 (by decide) gw_430 ?_
                  refine aw_aload_n (j := 1) (i := 0) dX11_reserve_109 rfl rfl rfl ?_
                  refine aw_getm (k := 6) (z := 1) dX11_reserve_110 rfl (by decide) rfl rfl cb_11 (by decide) gw_429 ?_
                  refine aw_iload_n (j := 2) (i := 1) dX11_reserve_113 rfl rfl rfl ?_
                  refine aw_iload_n (j := 3) (i := 2) dX11_reserve_114 rfl rfl rfl ?_
                  refine aw_callV (M' := mX5_changeReserved) (S := []) (as := [vR 1 (h25.2.2 11 0 6), vI a1, vI a2]) (k := 0) dX11_reserve_115 rfl (by decide) rfl rfl gw_683 gw_684 gw_685 mb_X5_changeReserved rfl (Nat.zero_le _) (Nat.le_of_ble_eq_true rfl) rfl (CL.imp k (fun _ h26 k => ?_) (fun _ _ k => k))
                  obtain ⟨rfl, k⟩ := oV_of k
                  show AW X (d + 1) rb mX11_reserve 118 _ [] h26 Qr Qx
                  refine aw_aload_n (j := 0) (i := 3) dX11_reserve_118 rfl rfl rfl ?_
                  refine aw_iload_n (j := 2) (i := 1) dX11_reserve_119 rfl rfl rfl ?_
                  refine aw_callV (M' := mX6_openOf) (S := []) (as := [vI a1]) (k := 0) dX11_reserve_120 rfl (by decide) rfl rfl gw_540 gw_500 gw_501 mb_X6_openOf rfl (Nat.zero_le _) (Nat.le_of_ble_eq_true rfl) rfl (CL.imp k (fun _ h27 k => ?_) (fun _ _ k => k))
                  obtain ⟨r28, rfl, k⟩ := oI_of k
                  show AW X (d + 1) rb mX11_reserve 123 _ [vI r28] h27 Qr Qx
                  exact aw_iret dX11_reserve_123 rfl k
                · refine aw_callS (M' := mX11_checkState) (S := []) (as := [vI (if r23 < a2 then (0 : Int32) else 1)]) (k := rb) dX11_reserve_91 rfl gw_1377 gw_1378 mb_X11_checkState rfl (Nat.le_refl _) (Nat.le_of_ble_eq_true rfl) rfl (CL.imp k (fun _ h24 k => ?_) (fun _ _ k => k))
                  exact k.elim
              refine aw_icmp_gt 90 dX11_reserve_83 rfl rfl (fun (c0 : r23 < a2) => ?_) (fun (c0 : ¬ r23 < a2) => ?_)
              · refine aw_iconst (v := 0) dX11_reserve_90 rfl (by decide) ?_
                simp only [if_pos c0] at kk
                exact kk
              · refine aw_iconst (v := 1) dX11_reserve_86 rfl (by decide) ?_
                refine aw_goto 91 dX11_reserve_87 rfl ?_
                simp only [if_neg c0] at kk
                exact kk
            · refine aw_callS (M' := mX11_checkState) (S := []) (as := [vI (if r17 = 0 then (0 : Int32) else 1)]) (k := rb) dX11_reserve_49 rfl gw_1377 gw_1378 mb_X11_checkState rfl (Nat.le_refl _) (Nat.le_of_ble_eq_true rfl) rfl (CL.imp k (fun _ h18 k => ?_) (fun _ _ k => k))
              exact k.elim
          refine aw_if_eq 48 dX11_reserve_41 rfl rfl (fun (c0 : r17 = 0) => ?_) (fun (c0 : ¬ r17 = 0) => ?_)
          · refine aw_iconst (v := 0) dX11_reserve_48 rfl (by decide) ?_
            simp only [if_pos c0] at kk
            exact kk
          · refine aw_iconst (v := 1) dX11_reserve_44 rfl (by decide) ?_
            refine aw_goto 49 dX11_reserve_45 rfl ?_
            simp only [if_neg c0] at kk
            exact kk
      · refine aw_callS (M' := mX11_checkArgument) (S := []) (as := [vI (if a2 < 1 then (0 : Int32) else 1)]) (k := rb) dX11_reserve_15 rfl gw_1196 gw_1197 mb_X11_checkArgument rfl (Nat.le_refl _) (Nat.le_of_ble_eq_true rfl) rfl (CL.imp k (fun _ h2 k => ?_) (fun _ _ k => k))
        exact k.elim
    refine aw_icmp_lt 14 dX11_reserve_7 rfl rfl (fun (c0 : a2 < 1) => ?_) (fun (c0 : ¬ a2 < 1) => ?_)
    · refine aw_iconst (v := 0) dX11_reserve_14 rfl (by decide) ?_
      simp only [if_pos c0] at kk
      exact kk
    · refine aw_iconst (v := 1) dX11_reserve_10 rfl (by decide) ?_
      refine aw_goto 15 dX11_reserve_11 rfl ?_
      simp only [if_neg c0] at kk
      exact kk
  · refine aw_callV (M' := mX11_checkOrder) (S := []) (as := [vI a1]) (k := rb) dX11_reserve_2 rfl (by decide) rfl rfl gw_1224 gw_1226 gw_24 mb_X11_checkOrder rfl (Nat.le_refl _) (Nat.le_of_ble_eq_true rfl) rfl (CL.imp k (fun _ h1 k => ?_) (fun _ _ k => k))
    exact k.elim
set_option maxHeartbeats 4000000 in
set_option maxRecDepth 100000 in
theorem vc_X11_release_0 {X : WD → State → Prop} {d rb : Nat} {h : Hp} {Qr : Option AV → Hp → Prop} {Qx : String → Hp → Prop} {a1 : Int32} {a2 : Int32}  (k : (CL 0 d mX11_checkOrder [vR 11 0, vI a1] h (oV fun h1 => (CL 0 d mX11_checkArgument [vI (if a2 < 1 then (0 : Int32) else 1)] h1 (oV fun h2 => CL 0 d mX6_reservedOf [vR 6 (h2.2.2 11 0 7), vI a1] h2 (oI fun r4 h3 => ((r4 < a2) → (CL 0 d mX11_checkState [vI 0] h3 (oV fun h5 => CL 0 d mX3_record [vR 3 0, vR 5 (h5.2.2 11 0 7)] h5 (oV fun h6 => CL 0 d mX5_changeReserved [vR 5 (h6.2.2 11 0 7), vR 1 (h6.2.2 11 0 6), vI a1, vI (-a2)] h6 (oV fun h7 => CL 0 d mX6_reservedOf [vR 6 (h2.2.2 11 0 7), vI a1] h7 (oI fun r9 h8 => Qr (some (vI r9)) h8) Qx) Qx) Qx) Qx) ∨ (CL rb d mX11_checkState [vI 0] h3 (fun _ _ => False) Qx)) ∧ ((¬ r4 < a2) → CL 0 d mX6_mayMove [vR 6 (h2.2.2 11 0 7), vI a1, vI a2] h3 (oI fun r11 h10 => (CL 0 d mX11_checkState [vI (if r11 = 0 then (0 : Int32) else 1)] h10 (oV fun h12 => CL 0 d mX3_record [vR 3 0, vR 5 (h12.2.2 11 0 7)] h12 (oV fun h13 => CL 0 d mX5_changeReserved [vR 5 (h13.2.2 11 0 7), vR 1 (h13.2.2 11 0 6), vI a1, vI (-a2)] h13 (oV fun h14 => CL 0 d mX6_reservedOf [vR 6 (h2.2.2 11 0 7), vI a1] h14 (oI fun r16 h15 => Qr (some (vI r16)) h15) Qx) Qx) Qx) Qx) ∨ (CL rb d mX11_checkState [vI (if r11 = 0 then (0 : Int32) else 1)] h10 (fun _ _ => False) Qx)) Qx)) Qx) Qx) ∨ (CL rb d mX11_checkArgument [vI (if a2 < 1 then (0 : Int32) else 1)] h1 (fun _ _ => False) Qx)) Qx) ∨ (CL rb d mX11_checkOrder [vR 11 0, vI a1] h (fun _ _ => False) Qx)) : AW X (d + 1) rb mX11_release 0 [(0, vR 11 0), (1, vI a1), (2, vI a2)] [] h Qr Qx := by
  refine aw_aload_n (j := 0) (i := 0) dX11_release_0 rfl rfl rfl ?_
  refine aw_iload_n (j := 1) (i := 1) dX11_release_1 rfl rfl rfl ?_
  rcases k with k | k
  · refine aw_callV (M' := mX11_checkOrder) (S := []) (as := [vI a1]) (k := 0) dX11_release_2 rfl (by decide) rfl rfl gw_1224 gw_1226 gw_24 mb_X11_checkOrder rfl (Nat.zero_le _) (Nat.le_of_ble_eq_true rfl) rfl (CL.imp k (fun _ h1 k => ?_) (fun _ _ k => k))
    obtain ⟨rfl, k⟩ := oV_of k
    show AW X (d + 1) rb mX11_release 5 _ [] h1 Qr Qx
    refine aw_iload_n (j := 2) (i := 2) dX11_release_5 rfl rfl rfl ?_
    refine aw_iconst (v := 1) dX11_release_6 rfl (by decide) ?_
    have kk : AW X (d + 1) rb mX11_release 15 [(0, vR 11 0), (1, vI a1), (2, vI a2)] [vI (if a2 < 1 then (0 : Int32) else 1)] h1 Qr Qx := by
      rcases k with k | k
      · refine aw_callS (M' := mX11_checkArgument) (S := []) (as := [vI (if a2 < 1 then (0 : Int32) else 1)]) (k := 0) dX11_release_15 rfl gw_1196 gw_1197 mb_X11_checkArgument rfl (Nat.zero_le _) (Nat.le_of_ble_eq_true rfl) rfl (CL.imp k (fun _ h2 k => ?_) (fun _ _ k => k))
        obtain ⟨rfl, k⟩ := oV_of k
        show AW X (d + 1) rb mX11_release 18 _ [] h2 Qr Qx
        refine aw_aload_n (j := 0) (i := 0) dX11_release_18 rfl rfl rfl ?_
        refine aw_getm (k := 7) (z := 5) dX11_release_19 rfl (by decide) rfl rfl cb_11 (by decide) gw_430 ?_
        refine aw_getf (k := 1) (z := 6) dX11_release_22 rfl (by decide) rfl rfl rfl cb_5 (by decide) gw_327 ?_
        refine aw_astore_n (i := 3) (L2 := [(3, vR 6 (h2.2.2 11 0 7)), (0, vR 11 0), (1, vI a1), (2, vI a2)]) dX11_release_25 rfl rfl (by decide) rfl ?_
        refine aw_iload_n (j := 3) (i := 2) dX11_release_26 rfl rfl rfl ?_
        refine aw_aload_n (j := 0) (i := 3) dX11_release_27 rfl rfl rfl ?_
        refine aw_iload_n (j := 2) (i := 1) dX11_release_28 rfl rfl rfl ?_
        refine aw_callV (M' := mX6_reservedOf) (S := [vI a2]) (as := [vI a1]) (k := 0) dX11_release_29 rfl (by decide) rfl rfl gw_1252 gw_1235 gw_1236 mb_X6_reservedOf rfl (Nat.zero_le _) (Nat.le_of_ble_eq_true rfl) rfl (CL.imp k (fun _ h3 k => ?_) (fun _ _ k => k))
        obtain ⟨r4, rfl, k⟩ := oI_of k
        show AW X (d + 1) rb mX11_release 32 _ [vI r4, vI a2] h3 Qr Qx
        refine aw_icmp_gt 48 dX11_release_32 rfl rfl (fun c => ?_) (fun c => ?_)
        · replace k := k.1 c
          refine aw_iconst (v := 0) dX11_release_48 rfl (by decide) ?_
          rcases k with k | k
          · refine aw_callS (M' := mX11_checkState) (S := []) (as := [vI 0]) (k := 0) dX11_release_49 rfl gw_1377 gw_1378 mb_X11_checkState rfl (Nat.zero_le _) (Nat.le_of_ble_eq_true rfl) rfl (CL.imp k (fun _ h5 k => ?_) (fun _ _ k => k))
            obtain ⟨rfl, k⟩ := oV_of k
            show AW X (d + 1) rb mX11_release 52 _ [] h5 Qr Qx
            refine aw_aload_n (j := 1) (i := 0) dX11_release_52 rfl rfl rfl ?_
            refine aw_getf (k := 2) (z := 3) dX11_release_53 rfl (by decide) rfl rfl rfl cb_11 (by decide) gw_425 ?_
            refine aw_aload_n (j := 1) (i := 0) dX11_release_56 rfl rfl rfl ?_
            refine aw_getm (k := 7) (z := 5) dX11_release_57 rfl (by decide) rfl rfl cb_11 (by decide) gw_430 ?_
            refine aw_callV (M' := mX3_record) (S := []) (as := [vR 5 (h5.2.2 11 0 7)]) (k := 0) dX11_release_60 rfl (by decide) rfl rfl gw_620 gw_621 gw_622 mb_X3_record rfl (Nat.zero_le _) (Nat.le_of_ble_eq_true rfl) rfl (CL.imp k (fun _ h6 k => ?_) (fun _ _ k => k))
            obtain ⟨rfl, k⟩ := oV_of k
            show AW X (d + 1) rb mX11_release 63 _ [] h6 Qr Qx
            refine aw_aload_n (j := 1) (i := 0) dX11_release_63 rfl rfl rfl ?_
            refine aw_getm (k := 7) (z := 5) dX11_release_64 rfl (by decide) rfl rfl cb_11 (by decide) gw_430 ?_
            refine aw_aload_n (j := 1) (i := 0) dX11_release_67 rfl rfl rfl ?_
            refine aw_getm (k := 6) (z := 1) dX11_release_68 rfl (by decide) rfl rfl cb_11 (by decide) gw_429 ?_
            refine aw_iload_n (j := 2) (i := 1) dX11_release_71 rfl rfl rfl ?_
            refine aw_iload_n (j := 3) (i := 2) dX11_release_72 rfl rfl rfl ?_
            refine aw_ineg dX11_release_73 rfl ?_
            refine aw_callV (M' := mX5_changeReserved) (S := []) (as := [vR 1 (h6.2.2 11 0 6), vI a1, vI (-a2)]) (k := 0) dX11_release_74 rfl (by decide) rfl rfl gw_683 gw_684 gw_685 mb_X5_changeReserved rfl (Nat.zero_le _) (Nat.le_of_ble_eq_true rfl) rfl (CL.imp k (fun _ h7 k => ?_) (fun _ _ k => k))
            obtain ⟨rfl, k⟩ := oV_of k
            show AW X (d + 1) rb mX11_release 77 _ [] h7 Qr Qx
            refine aw_aload_n (j := 0) (i := 3) dX11_release_77 rfl rfl rfl ?_
            refine aw_iload_n (j := 2) (i := 1) dX11_release_78 rfl rfl rfl ?_
            refine aw_callV (M' := mX6_reservedOf) (S := []) (as := [vI a1]) (k := 0) dX11_release_79 rfl (by decide) rfl rfl gw_1252 gw_1235 gw_1236 mb_X6_reservedOf rfl (Nat.zero_le _) (Nat.le_of_ble_eq_true rfl) rfl (CL.imp k (fun _ h8 k => ?_) (fun _ _ k => k))
            obtain ⟨r9, rfl, k⟩ := oI_of k
            show AW X (d + 1) rb mX11_release 82 _ [vI r9] h8 Qr Qx
            exact aw_iret dX11_release_82 rfl k
          · refine aw_callS (M' := mX11_checkState) (S := []) (as := [vI 0]) (k := rb) dX11_release_49 rfl gw_1377 gw_1378 mb_X11_checkState rfl (Nat.le_refl _) (Nat.le_of_ble_eq_true rfl) rfl (CL.imp k (fun _ h5 k => ?_) (fun _ _ k => k))
            exact k.elim
        · replace k := k.2 c
          refine aw_aload_n (j := 0) (i := 3) dX11_release_35 rfl rfl rfl ?_
          refine aw_iload_n (j := 2) (i := 1) dX11_release_36 rfl rfl rfl ?_
          refine aw_iload_n (j := 3) (i := 2) dX11_release_37 rfl rfl rfl ?_
          refine aw_callV (M' := mX6_mayMove) (S := []) (as := [vI a1, vI a2]) (k := 0) dX11_release_38 rfl (by decide) rfl rfl gw_1415 gw_1416 gw_1417 mb_X6_mayMove rfl (Nat.zero_le _) (Nat.le_of_ble_eq_true rfl) rfl (CL.imp k (fun _ h10 k => ?_) (fun _ _ k => k))
          obtain ⟨r11, rfl, k⟩ := oI_of k
          show AW X (d + 1) rb mX11_release 41 _ [vI r11] h10 Qr Qx
          have kk : AW X (d + 1) rb mX11_release 49 [(3, vR 6 (h2.2.2 11 0 7)), (0, vR 11 0), (1, vI a1), (2, vI a2)] [vI (if r11 = 0 then (0 : Int32) else 1)] h10 Qr Qx := by
            rcases k with k | k
            · refine aw_callS (M' := mX11_checkState) (S := []) (as := [vI (if r11 = 0 then (0 : Int32) else 1)]) (k := 0) dX11_release_49 rfl gw_1377 gw_1378 mb_X11_checkState rfl (Nat.zero_le _) (Nat.le_of_ble_eq_true rfl) rfl (CL.imp k (fun _ h12 k => ?_) (fun _ _ k => k))
              obtain ⟨rfl, k⟩ := oV_of k
              show AW X (d + 1) rb mX11_release 52 _ [] h12 Qr Qx
              refine aw_aload_n (j := 1) (i := 0) dX11_release_52 rfl rfl rfl ?_
              refine aw_getf (k := 2) (z := 3) dX11_release_53 rfl (by decide) rfl rfl rfl cb_11 (by decide) gw_425 ?_
              refine aw_aload_n (j := 1) (i := 0) dX11_release_56 rfl rfl rfl ?_
              refine aw_getm (k := 7) (z := 5) dX11_release_57 rfl (by decide) rfl rfl cb_11 (by decide) gw_430 ?_
              refine aw_callV (M' := mX3_record) (S := []) (as := [vR 5 (h12.2.2 11 0 7)]) (k := 0) dX11_release_60 rfl (by decide) rfl rfl gw_620 gw_621 gw_622 mb_X3_record rfl (Nat.zero_le _) (Nat.le_of_ble_eq_true rfl) rfl (CL.imp k (fun _ h13 k => ?_) (fun _ _ k => k))
              obtain ⟨rfl, k⟩ := oV_of k
              show AW X (d + 1) rb mX11_release 63 _ [] h13 Qr Qx
              refine aw_aload_n (j := 1) (i := 0) dX11_release_63 rfl rfl rfl ?_
              refine aw_getm (k := 7) (z := 5) dX11_release_64 rfl (by decide) rfl rfl cb_11 (by decide) gw_430 ?_
              refine aw_aload_n (j := 1) (i := 0) dX11_release_67 rfl rfl rfl ?_
              refine aw_getm (k := 6) (z := 1) dX11_release_68 rfl (by decide) rfl rfl cb_11 (by decide) gw_429 ?_
              refine aw_iload_n (j := 2) (i := 1) dX11_release_71 rfl rfl rfl ?_
              refine aw_iload_n (j := 3) (i := 2) dX11_release_72 rfl rfl rfl ?_
              refine aw_ineg dX11_release_73 rfl ?_
              refine aw_callV (M' := mX5_changeReserved) (S := []) (as := [vR 1 (h13.2.2 11 0 6), vI a1, vI (-a2)]) (k := 0) dX11_release_74 rfl (by decide) rfl rfl gw_683 gw_684 gw_685 mb_X5_changeReserved rfl (Nat.zero_le _) (Nat.le_of_ble_eq_true rfl) rfl (CL.imp k (fun _ h14 k => ?_) (fun _ _ k => k))
              obtain ⟨rfl, k⟩ := oV_of k
              show AW X (d + 1) rb mX11_release 77 _ [] h14 Qr Qx
              refine aw_aload_n (j := 0) (i := 3) dX11_release_77 rfl rfl rfl ?_
              refine aw_iload_n (j := 2) (i := 1) dX11_release_78 rfl rfl rfl ?_
              refine aw_callV (M' := mX6_reservedOf) (S := []) (as := [vI a1]) (k := 0) dX11_release_79 rfl (by decide) rfl rfl gw_1252 gw_1235 gw_1236 mb_X6_reservedOf rfl (Nat.zero_le _) (Nat.le_of_ble_eq_true rfl) rfl (CL.imp k (fun _ h15 k => ?_) (fun _ _ k => k))
              obtain ⟨r16, rfl, k⟩ := oI_of k
              show AW X (d + 1) rb mX11_release 82 _ [vI r16] h15 Qr Qx
              exact aw_iret dX11_release_82 rfl k
            · refine aw_callS (M' := mX11_checkState) (S := []) (as := [vI (if r11 = 0 then (0 : Int32) else 1)]) (k := rb) dX11_release_49 rfl gw_1377 gw_1378 mb_X11_checkState rfl (Nat.le_refl _) (Nat.le_of_ble_eq_true rfl) rfl (CL.imp k (fun _ h12 k => ?_) (fun _ _ k => k))
              exact k.elim
          refine aw_if_eq 48 dX11_release_41 rfl rfl (fun (c0 : r11 = 0) => ?_) (fun (c0 : ¬ r11 = 0) => ?_)
          · refine aw_iconst (v := 0) dX11_release_48 rfl (by decide) ?_
            simp only [if_pos c0] at kk
            exact kk
          · refine aw_iconst (v := 1) dX11_release_44 rfl (by decide) ?_
            refine aw_goto 49 dX11_release_45 rfl ?_
            simp only [if_neg c0] at kk
            exact kk
      · refine aw_callS (M' := mX11_checkArgument) (S := []) (as := [vI (if a2 < 1 then (0 : Int32) else 1)]) (k := rb) dX11_release_15 rfl gw_1196 gw_1197 mb_X11_checkArgument rfl (Nat.le_refl _) (Nat.le_of_ble_eq_true rfl) rfl (CL.imp k (fun _ h2 k => ?_) (fun _ _ k => k))
        exact k.elim
    refine aw_icmp_lt 14 dX11_release_7 rfl rfl (fun (c0 : a2 < 1) => ?_) (fun (c0 : ¬ a2 < 1) => ?_)
    · refine aw_iconst (v := 0) dX11_release_14 rfl (by decide) ?_
      simp only [if_pos c0] at kk
      exact kk
    · refine aw_iconst (v := 1) dX11_release_10 rfl (by decide) ?_
      refine aw_goto 15 dX11_release_11 rfl ?_
      simp only [if_neg c0] at kk
      exact kk
  · refine aw_callV (M' := mX11_checkOrder) (S := []) (as := [vI a1]) (k := rb) dX11_release_2 rfl (by decide) rfl rfl gw_1224 gw_1226 gw_24 mb_X11_checkOrder rfl (Nat.le_refl _) (Nat.le_of_ble_eq_true rfl) rfl (CL.imp k (fun _ h1 k => ?_) (fun _ _ k => k))
    exact k.elim
set_option maxHeartbeats 4000000 in
set_option maxRecDepth 100000 in
theorem vc_X11_allocate_0 {X : WD → State → Prop} {d rb : Nat} {h : Hp} {Qr : Option AV → Hp → Prop} {Qx : String → Hp → Prop}   (k : CL 0 d mX3_record [vR 3 0, vR 5 (h.2.2 11 0 7)] h (oV fun h1 => CL 0 d mX0_tryOut [vR 0 0, vR 1 (h1.2.2 11 0 6), vR 5 (h1.2.2 11 0 7)] h1 (oV fun h2 => AW X (d + 1) rb mX11_allocate 30 [(0, vR 11 0), (1, vI 0), (2, vI 0)] [] h2 Qr Qx) Qx) Qx) : AW X (d + 1) rb mX11_allocate 0 [(0, vR 11 0)] [] h Qr Qx := by
  refine aw_aload_n (j := 0) (i := 0) dX11_allocate_0 rfl rfl rfl ?_
  refine aw_getf (k := 2) (z := 3) dX11_allocate_1 rfl (by decide) rfl rfl rfl cb_11 (by decide) gw_425 ?_
  refine aw_aload_n (j := 0) (i := 0) dX11_allocate_4 rfl rfl rfl ?_
  refine aw_getm (k := 7) (z := 5) dX11_allocate_5 rfl (by decide) rfl rfl cb_11 (by decide) gw_430 ?_
  refine aw_callV (M' := mX3_record) (S := []) (as := [vR 5 (h.2.2 11 0 7)]) (k := 0) dX11_allocate_8 rfl (by decide) rfl rfl gw_620 gw_621 gw_622 mb_X3_record rfl (Nat.zero_le _) (Nat.le_of_ble_eq_true rfl) rfl (CL.imp k (fun _ h1 k => ?_) (fun _ _ k => k))
  obtain ⟨rfl, k⟩ := oV_of k
  show AW X (d + 1) rb mX11_allocate 11 _ [] h1 Qr Qx
  refine aw_aload_n (j := 0) (i := 0) dX11_allocate_11 rfl rfl rfl ?_
  refine aw_getf (k := 3) (z := 0) dX11_allocate_12 rfl (by decide) rfl rfl rfl cb_11 (by decide) gw_426 ?_
  refine aw_aload_n (j := 0) (i := 0) dX11_allocate_15 rfl rfl rfl ?_
  refine aw_getm (k := 6) (z := 1) dX11_allocate_16 rfl (by decide) rfl rfl cb_11 (by decide) gw_429 ?_
  refine aw_aload_n (j := 0) (i := 0) dX11_allocate_19 rfl rfl rfl ?_
  refine aw_getm (k := 7) (z := 5) dX11_allocate_20 rfl (by decide) rfl rfl cb_11 (by decide) gw_430 ?_
  refine aw_callV (M' := mX0_tryOut) (S := []) (as := [vR 1 (h1.2.2 11 0 6), vR 5 (h1.2.2 11 0 7)]) (k := 0) dX11_allocate_23 rfl (by decide) rfl rfl gw_651 gw_652 gw_653 mb_X0_tryOut rfl (Nat.zero_le _) (Nat.le_of_ble_eq_true rfl) rfl (CL.imp k (fun _ h2 k => ?_) (fun _ _ k => k))
  obtain ⟨rfl, k⟩ := oV_of k
  show AW X (d + 1) rb mX11_allocate 26 _ [] h2 Qr Qx
  refine aw_iconst (v := 0) dX11_allocate_26 rfl (by decide) ?_
  refine aw_istore_n (i := 1) (L2 := [(1, vI 0), (0, vR 11 0)]) dX11_allocate_27 rfl rfl (by decide) rfl ?_
  refine aw_iconst (v := 0) dX11_allocate_28 rfl (by decide) ?_
  refine aw_istore_n (i := 2) (L2 := [(2, vI 0), (1, vI 0), (0, vR 11 0)]) dX11_allocate_29 rfl rfl (by decide) rfl ?_
  exact aw_sub [2, 1, 0] rfl k
set_option maxHeartbeats 4000000 in
set_option maxRecDepth 100000 in
theorem vc_X11_allocate_30 {X : WD → State → Prop} {d rb : Nat} {h : Hp} {Qr : Option AV → Hp → Prop} {Qx : String → Hp → Prop} {x1 : Int32} {x2 : Int32}  (k : (((h.1 6 (h.2.2 11 0 7) 0) ≤ x2) → Qr (some (vI x1)) h) ∧ ((¬ (h.1 6 (h.2.2 11 0 7) 0) ≤ x2) → CL 0 d mX0_grantOf [vR 0 0, vI x2] h (oI fun r2 h1 => CL 0 d mX5_changeReserved [vR 5 (h1.2.2 11 0 7), vR 1 (h1.2.2 11 0 6), vI x2, vI r2] h1 (oV fun h3 => AW X (d + 1) rb mX11_allocate 30 [(0, vR 11 0), (1, vI (x1 + r2)), (2, vI (x2 + 1))] [] h3 Qr Qx) Qx) Qx)) : AW X (d + 1) rb mX11_allocate 30 [(0, vR 11 0), (1, vI x1), (2, vI x2)] [] h Qr Qx := by
  refine aw_iload_n (j := 2) (i := 2) dX11_allocate_30 rfl rfl rfl ?_
  refine aw_aload_n (j := 0) (i := 0) dX11_allocate_31 rfl rfl rfl ?_
  refine aw_getm (k := 7) (z := 5) dX11_allocate_32 rfl (by decide) rfl rfl cb_11 (by decide) gw_430 ?_
  refine aw_getf (k := 1) (z := 6) dX11_allocate_35 rfl (by decide) rfl rfl rfl cb_5 (by decide) gw_327 ?_
  refine aw_geti (k := 0) dX11_allocate_38 rfl (by decide) rfl rfl cb_6 (by decide) gw_272 ?_
  refine aw_icmp_ge 76 dX11_allocate_41 rfl rfl (fun c => ?_) (fun c => ?_)
  · replace k := k.1 c
    refine aw_iload_n (j := 1) (i := 1) dX11_allocate_76 rfl rfl rfl ?_
    exact aw_iret dX11_allocate_77 rfl k
  · replace k := k.2 c
    refine aw_aload_n (j := 0) (i := 0) dX11_allocate_44 rfl rfl rfl ?_
    refine aw_getf (k := 3) (z := 0) dX11_allocate_45 rfl (by decide) rfl rfl rfl cb_11 (by decide) gw_426 ?_
    refine aw_iload_n (j := 2) (i := 2) dX11_allocate_48 rfl rfl rfl ?_
    refine aw_callV (M' := mX0_grantOf) (S := []) (as := [vI x2]) (k := 0) dX11_allocate_49 rfl (by decide) rfl rfl gw_682 gw_673 gw_674 mb_X0_grantOf rfl (Nat.zero_le _) (Nat.le_of_ble_eq_true rfl) rfl (CL.imp k (fun _ h1 k => ?_) (fun _ _ k => k))
    obtain ⟨r2, rfl, k⟩ := oI_of k
    show AW X (d + 1) rb mX11_allocate 52 _ [vI r2] h1 Qr Qx
    refine aw_istore_n (i := 3) (L2 := [(3, vI r2), (0, vR 11 0), (1, vI x1), (2, vI x2)]) dX11_allocate_52 rfl rfl (by decide) rfl ?_
    refine aw_aload_n (j := 1) (i := 0) dX11_allocate_53 rfl rfl rfl ?_
    refine aw_getm (k := 7) (z := 5) dX11_allocate_54 rfl (by decide) rfl rfl cb_11 (by decide) gw_430 ?_
    refine aw_aload_n (j := 1) (i := 0) dX11_allocate_57 rfl rfl rfl ?_
    refine aw_getm (k := 6) (z := 1) dX11_allocate_58 rfl (by decide) rfl rfl cb_11 (by decide) gw_429 ?_
    refine aw_iload_n (j := 3) (i := 2) dX11_allocate_61 rfl rfl rfl ?_
    refine aw_iload_n (j := 0) (i := 3) dX11_allocate_62 rfl rfl rfl ?_
    refine aw_callV (M' := mX5_changeReserved) (S := []) (as := [vR 1 (h1.2.2 11 0 6), vI x2, vI r2]) (k := 0) dX11_allocate_63 rfl (by decide) rfl rfl gw_683 gw_684 gw_685 mb_X5_changeReserved rfl (Nat.zero_le _) (Nat.le_of_ble_eq_true rfl) rfl (CL.imp k (fun _ h3 k => ?_) (fun _ _ k => k))
    obtain ⟨rfl, k⟩ := oV_of k
    show AW X (d + 1) rb mX11_allocate 66 _ [] h3 Qr Qx
    refine aw_iload_n (j := 2) (i := 1) dX11_allocate_66 rfl rfl rfl ?_
    refine aw_iload_n (j := 0) (i := 3) dX11_allocate_67 rfl rfl rfl ?_
    refine aw_iadd dX11_allocate_68 rfl ?_
    refine aw_istore_n (i := 1) (L2 := [(1, vI (x1 + r2)), (3, vI r2), (0, vR 11 0), (2, vI x2)]) dX11_allocate_69 rfl rfl (by decide) rfl ?_
    refine aw_iinc (i := 2) (j := 3) (v := x2 + 1) (L2 := [(2, vI (x2 + 1)), (1, vI (x1 + r2)), (3, vI r2), (0, vR 11 0)]) dX11_allocate_70 rfl (by decide) rfl rfl rfl ?_
    refine aw_goto 30 dX11_allocate_73 rfl ?_
    exact aw_sub [3, 1, 0] rfl k
set_option maxHeartbeats 4000000 in
set_option maxRecDepth 100000 in
theorem vc_X11_ship_0 {X : WD → State → Prop} {d rb : Nat} {h : Hp} {Qr : Option AV → Hp → Prop} {Qx : String → Hp → Prop} {a1 : Int32}  (k : (CL 0 d mX11_checkOrder [vR 11 0, vI a1] h (oV fun h1 => CL 0 d mX6_reservedOf [vR 6 (h1.2.2 11 0 7), vI a1] h1 (oI fun r3 h2 => (CL 0 d mX11_checkState [vI (if r3 ≤ 0 then (0 : Int32) else 1)] h2 (oV fun h4 => CL 0 d mX3_record [vR 3 0, vR 5 (h4.2.2 11 0 7)] h4 (oV fun h5 => CL 0 d mX5_sendReserved [vR 5 (h5.2.2 11 0 7), vR 1 (h5.2.2 11 0 6), vI a1] h5 (oI fun r7 h6 => Qr (some (vI r7)) h6) Qx) Qx) Qx) ∨ (CL rb d mX11_checkState [vI (if r3 ≤ 0 then (0 : Int32) else 1)] h2 (fun _ _ => False) Qx)) Qx) Qx) ∨ (CL rb d mX11_checkOrder [vR 11 0, vI a1] h (fun _ _ => False) Qx)) : AW X (d + 1) rb mX11_ship 0 [(0, vR 11 0), (1, vI a1)] [] h Qr Qx := by
  refine aw_aload_n (j := 0) (i := 0) dX11_ship_0 rfl rfl rfl ?_
  refine aw_iload_n (j := 1) (i := 1) dX11_ship_1 rfl rfl rfl ?_
  rcases k with k | k
  · refine aw_callV (M' := mX11_checkOrder) (S := []) (as := [vI a1]) (k := 0) dX11_ship_2 rfl (by decide) rfl rfl gw_1224 gw_1226 gw_24 mb_X11_checkOrder rfl (Nat.zero_le _) (Nat.le_of_ble_eq_true rfl) rfl (CL.imp k (fun _ h1 k => ?_) (fun _ _ k => k))
    obtain ⟨rfl, k⟩ := oV_of k
    show AW X (d + 1) rb mX11_ship 5 _ [] h1 Qr Qx
    refine aw_aload_n (j := 0) (i := 0) dX11_ship_5 rfl rfl rfl ?_
    refine aw_getm (k := 7) (z := 5) dX11_ship_6 rfl (by decide) rfl rfl cb_11 (by decide) gw_430 ?_
    refine aw_getf (k := 1) (z := 6) dX11_ship_9 rfl (by decide) rfl rfl rfl cb_5 (by decide) gw_327 ?_
    refine aw_iload_n (j := 1) (i := 1) dX11_ship_12 rfl rfl rfl ?_
    refine aw_callV (M' := mX6_reservedOf) (S := []) (as := [vI a1]) (k := 0) dX11_ship_13 rfl (by decide) rfl rfl gw_1252 gw_1235 gw_1236 mb_X6_reservedOf rfl (Nat.zero_le _) (Nat.le_of_ble_eq_true rfl) rfl (CL.imp k (fun _ h2 k => ?_) (fun _ _ k => k))
    obtain ⟨r3, rfl, k⟩ := oI_of k
    show AW X (d + 1) rb mX11_ship 16 _ [vI r3] h2 Qr Qx
    have kk : AW X (d + 1) rb mX11_ship 24 [(0, vR 11 0), (1, vI a1)] [vI (if r3 ≤ 0 then (0 : Int32) else 1)] h2 Qr Qx := by
      rcases k with k | k
      · refine aw_callS (M' := mX11_checkState) (S := []) (as := [vI (if r3 ≤ 0 then (0 : Int32) else 1)]) (k := 0) dX11_ship_24 rfl gw_1377 gw_1378 mb_X11_checkState rfl (Nat.zero_le _) (Nat.le_of_ble_eq_true rfl) rfl (CL.imp k (fun _ h4 k => ?_) (fun _ _ k => k))
        obtain ⟨rfl, k⟩ := oV_of k
        show AW X (d + 1) rb mX11_ship 27 _ [] h4 Qr Qx
        refine aw_aload_n (j := 0) (i := 0) dX11_ship_27 rfl rfl rfl ?_
        refine aw_getf (k := 2) (z := 3) dX11_ship_28 rfl (by decide) rfl rfl rfl cb_11 (by decide) gw_425 ?_
        refine aw_aload_n (j := 0) (i := 0) dX11_ship_31 rfl rfl rfl ?_
        refine aw_getm (k := 7) (z := 5) dX11_ship_32 rfl (by decide) rfl rfl cb_11 (by decide) gw_430 ?_
        refine aw_callV (M' := mX3_record) (S := []) (as := [vR 5 (h4.2.2 11 0 7)]) (k := 0) dX11_ship_35 rfl (by decide) rfl rfl gw_620 gw_621 gw_622 mb_X3_record rfl (Nat.zero_le _) (Nat.le_of_ble_eq_true rfl) rfl (CL.imp k (fun _ h5 k => ?_) (fun _ _ k => k))
        obtain ⟨rfl, k⟩ := oV_of k
        show AW X (d + 1) rb mX11_ship 38 _ [] h5 Qr Qx
        refine aw_aload_n (j := 0) (i := 0) dX11_ship_38 rfl rfl rfl ?_
        refine aw_getm (k := 7) (z := 5) dX11_ship_39 rfl (by decide) rfl rfl cb_11 (by decide) gw_430 ?_
        refine aw_aload_n (j := 0) (i := 0) dX11_ship_42 rfl rfl rfl ?_
        refine aw_getm (k := 6) (z := 1) dX11_ship_43 rfl (by decide) rfl rfl cb_11 (by decide) gw_429 ?_
        refine aw_iload_n (j := 1) (i := 1) dX11_ship_46 rfl rfl rfl ?_
        refine aw_callV (M' := mX5_sendReserved) (S := []) (as := [vR 1 (h5.2.2 11 0 6), vI a1]) (k := 0) dX11_ship_47 rfl (by decide) rfl rfl gw_1435 gw_1436 gw_1437 mb_X5_sendReserved rfl (Nat.zero_le _) (Nat.le_of_ble_eq_true rfl) rfl (CL.imp k (fun _ h6 k => ?_) (fun _ _ k => k))
        obtain ⟨r7, rfl, k⟩ := oI_of k
        show AW X (d + 1) rb mX11_ship 50 _ [vI r7] h6 Qr Qx
        exact aw_iret dX11_ship_50 rfl k
      · refine aw_callS (M' := mX11_checkState) (S := []) (as := [vI (if r3 ≤ 0 then (0 : Int32) else 1)]) (k := rb) dX11_ship_24 rfl gw_1377 gw_1378 mb_X11_checkState rfl (Nat.le_refl _) (Nat.le_of_ble_eq_true rfl) rfl (CL.imp k (fun _ h4 k => ?_) (fun _ _ k => k))
        exact k.elim
    refine aw_if_le 23 dX11_ship_16 rfl rfl (fun (c0 : r3 ≤ 0) => ?_) (fun (c0 : ¬ r3 ≤ 0) => ?_)
    · refine aw_iconst (v := 0) dX11_ship_23 rfl (by decide) ?_
      simp only [if_pos c0] at kk
      exact kk
    · refine aw_iconst (v := 1) dX11_ship_19 rfl (by decide) ?_
      refine aw_goto 24 dX11_ship_20 rfl ?_
      simp only [if_neg c0] at kk
      exact kk
  · refine aw_callV (M' := mX11_checkOrder) (S := []) (as := [vI a1]) (k := rb) dX11_ship_2 rfl (by decide) rfl rfl gw_1224 gw_1226 gw_24 mb_X11_checkOrder rfl (Nat.le_refl _) (Nat.le_of_ble_eq_true rfl) rfl (CL.imp k (fun _ h1 k => ?_) (fun _ _ k => k))
    exact k.elim
set_option maxHeartbeats 4000000 in
set_option maxRecDepth 100000 in
theorem vc_X11_buy_0 {X : WD → State → Prop} {d rb : Nat} {h : Hp} {Qr : Option AV → Hp → Prop} {Qx : String → Hp → Prop} {a1 : Int32} {a2 : Int32}  (k : (CL 0 d mX11_checkPart [vR 11 0, vI a1] h (oV fun h1 => (CL 0 d mX11_checkArgument [vI (if a2 < 1 then (0 : Int32) else (if 999 < a2 then (0 : Int32) else 1))] h1 (oV fun h2 => (CL 0 d mX11_checkState [vI (if 20 ≤ (h2.1 10 (h2.2.2 11 0 7) 1) then (0 : Int32) else 1)] h2 (oV fun h3 => CL 0 d mX3_record [vR 3 0, vR 5 (h3.2.2 11 0 7)] h3 (oV fun h4 => CL 0 d mX8_addBought [vR 8 (h4.2.2 11 0 7), vI a2] h4 (oV fun h5 => CL 0 d mX1_leadTimeOf [vR 1 (h5.2.2 11 0 6), vI a1] h5 (oI fun r7 h6 => CL 0 d mX10_addArrival [vR 10 (h5.2.2 11 0 7), vI a1, vI a2, vI r7] h6 (oI fun r9 h8 => Qr (some (vI r9)) h8) Qx) Qx) Qx) Qx) Qx) ∨ (CL rb d mX11_checkState [vI (if 20 ≤ (h2.1 10 (h2.2.2 11 0 7) 1) then (0 : Int32) else 1)] h2 (fun _ _ => False) Qx)) Qx) ∨ (CL rb d mX11_checkArgument [vI (if a2 < 1 then (0 : Int32) else (if 999 < a2 then (0 : Int32) else 1))] h1 (fun _ _ => False) Qx)) Qx) ∨ (CL rb d mX11_checkPart [vR 11 0, vI a1] h (fun _ _ => False) Qx)) : AW X (d + 1) rb mX11_buy 0 [(0, vR 11 0), (1, vI a1), (2, vI a2)] [] h Qr Qx := by
  refine aw_aload_n (j := 0) (i := 0) dX11_buy_0 rfl rfl rfl ?_
  refine aw_iload_n (j := 1) (i := 1) dX11_buy_1 rfl rfl rfl ?_
  rcases k with k | k
  · refine aw_callV (M' := mX11_checkPart) (S := []) (as := [vI a1]) (k := 0) dX11_buy_2 rfl (by decide) rfl rfl gw_1104 gw_1106 gw_20 mb_X11_checkPart rfl (Nat.zero_le _) (Nat.le_of_ble_eq_true rfl) rfl (CL.imp k (fun _ h1 k => ?_) (fun _ _ k => k))
    obtain ⟨rfl, k⟩ := oV_of k
    show AW X (d + 1) rb mX11_buy 5 _ [] h1 Qr Qx
    refine aw_iload_n (j := 2) (i := 2) dX11_buy_5 rfl rfl rfl ?_
    refine aw_iconst (v := 1) dX11_buy_6 rfl (by decide) ?_
    have kk : AW X (d + 1) rb mX11_buy 22 [(0, vR 11 0), (1, vI a1), (2, vI a2)] [vI (if a2 < 1 then (0 : Int32) else (if 999 < a2 then (0 : Int32) else 1))] h1 Qr Qx := by
      rcases k with k | k
      · refine aw_callS (M' := mX11_checkArgument) (S := []) (as := [vI (if a2 < 1 then (0 : Int32) else (if 999 < a2 then (0 : Int32) else 1))]) (k := 0) dX11_buy_22 rfl gw_1196 gw_1197 mb_X11_checkArgument rfl (Nat.zero_le _) (Nat.le_of_ble_eq_true rfl) rfl (CL.imp k (fun _ h2 k => ?_) (fun _ _ k => k))
        obtain ⟨rfl, k⟩ := oV_of k
        show AW X (d + 1) rb mX11_buy 25 _ [] h2 Qr Qx
        refine aw_aload_n (j := 0) (i := 0) dX11_buy_25 rfl rfl rfl ?_
        refine aw_getm (k := 7) (z := 5) dX11_buy_26 rfl (by decide) rfl rfl cb_11 (by decide) gw_430 ?_
        refine aw_getf (k := 0) (z := 10) dX11_buy_29 rfl (by decide) rfl rfl rfl cb_5 (by decide) gw_322 ?_
        refine aw_geti (k := 1) dX11_buy_32 rfl (by decide) rfl rfl cb_10 (by decide) gw_241 ?_
        refine aw_bipush (v := 20) dX11_buy_35 rfl (by decide) ?_
        have kk : AW X (d + 1) rb mX11_buy 45 [(0, vR 11 0), (1, vI a1), (2, vI a2)] [vI (if 20 ≤ (h2.1 10 (h2.2.2 11 0 7) 1) then (0 : Int32) else 1)] h2 Qr Qx := by
          rcases k with k | k
          · refine aw_callS (M' := mX11_checkState) (S := []) (as := [vI (if 20 ≤ (h2.1 10 (h2.2.2 11 0 7) 1) then (0 : Int32) else 1)]) (k := 0) dX11_buy_45 rfl gw_1377 gw_1378 mb_X11_checkState rfl (Nat.zero_le _) (Nat.le_of_ble_eq_true rfl) rfl (CL.imp k (fun _ h3 k => ?_) (fun _ _ k => k))
            obtain ⟨rfl, k⟩ := oV_of k
            show AW X (d + 1) rb mX11_buy 48 _ [] h3 Qr Qx
            refine aw_aload_n (j := 0) (i := 0) dX11_buy_48 rfl rfl rfl ?_
            refine aw_getf (k := 2) (z := 3) dX11_buy_49 rfl (by decide) rfl rfl rfl cb_11 (by decide) gw_425 ?_
            refine aw_aload_n (j := 0) (i := 0) dX11_buy_52 rfl rfl rfl ?_
            refine aw_getm (k := 7) (z := 5) dX11_buy_53 rfl (by decide) rfl rfl cb_11 (by decide) gw_430 ?_
            refine aw_callV (M' := mX3_record) (S := []) (as := [vR 5 (h3.2.2 11 0 7)]) (k := 0) dX11_buy_56 rfl (by decide) rfl rfl gw_620 gw_621 gw_622 mb_X3_record rfl (Nat.zero_le _) (Nat.le_of_ble_eq_true rfl) rfl (CL.imp k (fun _ h4 k => ?_) (fun _ _ k => k))
            obtain ⟨rfl, k⟩ := oV_of k
            show AW X (d + 1) rb mX11_buy 59 _ [] h4 Qr Qx
            refine aw_aload_n (j := 0) (i := 0) dX11_buy_59 rfl rfl rfl ?_
            refine aw_getm (k := 7) (z := 5) dX11_buy_60 rfl (by decide) rfl rfl cb_11 (by decide) gw_430 ?_
            refine aw_getf (k := 2) (z := 8) dX11_buy_63 rfl (by decide) rfl rfl rfl cb_5 (by decide) gw_329 ?_
            refine aw_iload_n (j := 2) (i := 2) dX11_buy_66 rfl rfl rfl ?_
            refine aw_callV (M' := mX8_addBought) (S := []) (as := [vI a2]) (k := 0) dX11_buy_67 rfl (by decide) rfl rfl gw_1459 gw_1460 gw_1461 mb_X8_addBought rfl (Nat.zero_le _) (Nat.le_of_ble_eq_true rfl) rfl (CL.imp k (fun _ h5 k => ?_) (fun _ _ k => k))
            obtain ⟨rfl, k⟩ := oV_of k
            show AW X (d + 1) rb mX11_buy 70 _ [] h5 Qr Qx
            refine aw_aload_n (j := 0) (i := 0) dX11_buy_70 rfl rfl rfl ?_
            refine aw_getm (k := 7) (z := 5) dX11_buy_71 rfl (by decide) rfl rfl cb_11 (by decide) gw_430 ?_
            refine aw_getf (k := 0) (z := 10) dX11_buy_74 rfl (by decide) rfl rfl rfl cb_5 (by decide) gw_322 ?_
            refine aw_iload_n (j := 1) (i := 1) dX11_buy_77 rfl rfl rfl ?_
            refine aw_iload_n (j := 2) (i := 2) dX11_buy_78 rfl rfl rfl ?_
            refine aw_aload_n (j := 0) (i := 0) dX11_buy_79 rfl rfl rfl ?_
            refine aw_getm (k := 6) (z := 1) dX11_buy_80 rfl (by decide) rfl rfl cb_11 (by decide) gw_429 ?_
            refine aw_iload_n (j := 1) (i := 1) dX11_buy_83 rfl rfl rfl ?_
            refine aw_callV (M' := mX1_leadTimeOf) (S := [vI a2, vI a1, vR 10 (h5.2.2 11 0 7)]) (as := [vI a1]) (k := 0) dX11_buy_84 rfl (by decide) rfl rfl gw_551 gw_552 gw_553 mb_X1_leadTimeOf rfl (Nat.zero_le _) (Nat.le_of_ble_eq_true rfl) rfl (CL.imp k (fun _ h6 k => ?_) (fun _ _ k => k))
            obtain ⟨r7, rfl, k⟩ := oI_of k
            show AW X (d + 1) rb mX11_buy 87 _ [vI r7, vI a2, vI a1, vR 10 (h5.2.2 11 0 7)] h6 Qr Qx
            refine aw_callV (M' := mX10_addArrival) (S := []) (as := [vI a1, vI a2, vI r7]) (k := 0) dX11_buy_87 rfl (by decide) rfl rfl gw_1463 gw_1464 gw_1465 mb_X10_addArrival rfl (Nat.zero_le _) (Nat.le_of_ble_eq_true rfl) rfl (CL.imp k (fun _ h8 k => ?_) (fun _ _ k => k))
            obtain ⟨r9, rfl, k⟩ := oI_of k
            show AW X (d + 1) rb mX11_buy 90 _ [vI r9] h8 Qr Qx
            exact aw_iret dX11_buy_90 rfl k
          · refine aw_callS (M' := mX11_checkState) (S := []) (as := [vI (if 20 ≤ (h2.1 10 (h2.2.2 11 0 7) 1) then (0 : Int32) else 1)]) (k := rb) dX11_buy_45 rfl gw_1377 gw_1378 mb_X11_checkState rfl (Nat.le_refl _) (Nat.le_of_ble_eq_true rfl) rfl (CL.imp k (fun _ h3 k => ?_) (fun _ _ k => k))
            exact k.elim
        refine aw_icmp_ge 44 dX11_buy_37 rfl rfl (fun (c0 : 20 ≤ (h2.1 10 (h2.2.2 11 0 7) 1)) => ?_) (fun (c0 : ¬ 20 ≤ (h2.1 10 (h2.2.2 11 0 7) 1)) => ?_)
        · refine aw_iconst (v := 0) dX11_buy_44 rfl (by decide) ?_
          simp only [if_pos c0] at kk
          exact kk
        · refine aw_iconst (v := 1) dX11_buy_40 rfl (by decide) ?_
          refine aw_goto 45 dX11_buy_41 rfl ?_
          simp only [if_neg c0] at kk
          exact kk
      · refine aw_callS (M' := mX11_checkArgument) (S := []) (as := [vI (if a2 < 1 then (0 : Int32) else (if 999 < a2 then (0 : Int32) else 1))]) (k := rb) dX11_buy_22 rfl gw_1196 gw_1197 mb_X11_checkArgument rfl (Nat.le_refl _) (Nat.le_of_ble_eq_true rfl) rfl (CL.imp k (fun _ h2 k => ?_) (fun _ _ k => k))
        exact k.elim
    refine aw_icmp_lt 21 dX11_buy_7 rfl rfl (fun (c0 : a2 < 1) => ?_) (fun (c0 : ¬ a2 < 1) => ?_)
    · refine aw_iconst (v := 0) dX11_buy_21 rfl (by decide) ?_
      simp only [if_pos c0] at kk
      exact kk
    · refine aw_iload_n (j := 2) (i := 2) dX11_buy_10 rfl rfl rfl ?_
      refine aw_sipush (v := 999) dX11_buy_11 rfl (by decide) ?_
      refine aw_icmp_gt 21 dX11_buy_14 rfl rfl (fun (c1 : 999 < a2) => ?_) (fun (c1 : ¬ 999 < a2) => ?_)
      · refine aw_iconst (v := 0) dX11_buy_21 rfl (by decide) ?_
        simp only [if_neg c0, if_pos c1] at kk
        exact kk
      · refine aw_iconst (v := 1) dX11_buy_17 rfl (by decide) ?_
        refine aw_goto 22 dX11_buy_18 rfl ?_
        simp only [if_neg c0, if_neg c1] at kk
        exact kk
  · refine aw_callV (M' := mX11_checkPart) (S := []) (as := [vI a1]) (k := rb) dX11_buy_2 rfl (by decide) rfl rfl gw_1104 gw_1106 gw_20 mb_X11_checkPart rfl (Nat.le_refl _) (Nat.le_of_ble_eq_true rfl) rfl (CL.imp k (fun _ h1 k => ?_) (fun _ _ k => k))
    exact k.elim
set_option maxHeartbeats 4000000 in
set_option maxRecDepth 100000 in
theorem vc_X11_adjust_0 {X : WD → State → Prop} {d rb : Nat} {h : Hp} {Qr : Option AV → Hp → Prop} {Qx : String → Hp → Prop} {a1 : Int32} {a2 : Int32}  (k : (CL 0 d mX11_checkPart [vR 11 0, vI a1] h (oV fun h1 => (CL 0 d mX11_checkArgument [vI (if a2 < 0 then (0 : Int32) else (if 9999 < a2 then (0 : Int32) else 1))] h1 (oV fun h2 => CL 0 d mX3_record [vR 3 0, vR 5 (h2.2.2 11 0 7)] h2 (oV fun h3 => CL 0 d mX10_setStock [vR 10 (h3.2.2 11 0 7), vI a1, vI a2] h3 (oV fun h4 => CL 0 d mX5_releaseExcess [vR 5 (h4.2.2 11 0 7), vR 1 (h4.2.2 11 0 6), vI a1] h4 (oI fun r6 h5 => Qr (some (vI r6)) h5) Qx) Qx) Qx) Qx) ∨ (CL rb d mX11_checkArgument [vI (if a2 < 0 then (0 : Int32) else (if 9999 < a2 then (0 : Int32) else 1))] h1 (fun _ _ => False) Qx)) Qx) ∨ (CL rb d mX11_checkPart [vR 11 0, vI a1] h (fun _ _ => False) Qx)) : AW X (d + 1) rb mX11_adjust 0 [(0, vR 11 0), (1, vI a1), (2, vI a2)] [] h Qr Qx := by
  refine aw_aload_n (j := 0) (i := 0) dX11_adjust_0 rfl rfl rfl ?_
  refine aw_iload_n (j := 1) (i := 1) dX11_adjust_1 rfl rfl rfl ?_
  rcases k with k | k
  · refine aw_callV (M' := mX11_checkPart) (S := []) (as := [vI a1]) (k := 0) dX11_adjust_2 rfl (by decide) rfl rfl gw_1104 gw_1106 gw_20 mb_X11_checkPart rfl (Nat.zero_le _) (Nat.le_of_ble_eq_true rfl) rfl (CL.imp k (fun _ h1 k => ?_) (fun _ _ k => k))
    obtain ⟨rfl, k⟩ := oV_of k
    show AW X (d + 1) rb mX11_adjust 5 _ [] h1 Qr Qx
    refine aw_iload_n (j := 2) (i := 2) dX11_adjust_5 rfl rfl rfl ?_
    have kk : AW X (d + 1) rb mX11_adjust 21 [(0, vR 11 0), (1, vI a1), (2, vI a2)] [vI (if a2 < 0 then (0 : Int32) else (if 9999 < a2 then (0 : Int32) else 1))] h1 Qr Qx := by
      rcases k with k | k
      · refine aw_callS (M' := mX11_checkArgument) (S := []) (as := [vI (if a2 < 0 then (0 : Int32) else (if 9999 < a2 then (0 : Int32) else 1))]) (k := 0) dX11_adjust_21 rfl gw_1196 gw_1197 mb_X11_checkArgument rfl (Nat.zero_le _) (Nat.le_of_ble_eq_true rfl) rfl (CL.imp k (fun _ h2 k => ?_) (fun _ _ k => k))
        obtain ⟨rfl, k⟩ := oV_of k
        show AW X (d + 1) rb mX11_adjust 24 _ [] h2 Qr Qx
        refine aw_aload_n (j := 0) (i := 0) dX11_adjust_24 rfl rfl rfl ?_
        refine aw_getf (k := 2) (z := 3) dX11_adjust_25 rfl (by decide) rfl rfl rfl cb_11 (by decide) gw_425 ?_
        refine aw_aload_n (j := 0) (i := 0) dX11_adjust_28 rfl rfl rfl ?_
        refine aw_getm (k := 7) (z := 5) dX11_adjust_29 rfl (by decide) rfl rfl cb_11 (by decide) gw_430 ?_
        refine aw_callV (M' := mX3_record) (S := []) (as := [vR 5 (h2.2.2 11 0 7)]) (k := 0) dX11_adjust_32 rfl (by decide) rfl rfl gw_620 gw_621 gw_622 mb_X3_record rfl (Nat.zero_le _) (Nat.le_of_ble_eq_true rfl) rfl (CL.imp k (fun _ h3 k => ?_) (fun _ _ k => k))
        obtain ⟨rfl, k⟩ := oV_of k
        show AW X (d + 1) rb mX11_adjust 35 _ [] h3 Qr Qx
        refine aw_aload_n (j := 0) (i := 0) dX11_adjust_35 rfl rfl rfl ?_
        refine aw_getm (k := 7) (z := 5) dX11_adjust_36 rfl (by decide) rfl rfl cb_11 (by decide) gw_430 ?_
        refine aw_getf (k := 0) (z := 10) dX11_adjust_39 rfl (by decide) rfl rfl rfl cb_5 (by decide) gw_322 ?_
        refine aw_iload_n (j := 1) (i := 1) dX11_adjust_42 rfl rfl rfl ?_
        refine aw_iload_n (j := 2) (i := 2) dX11_adjust_43 rfl rfl rfl ?_
        refine aw_callV (M' := mX10_setStock) (S := []) (as := [vI a1, vI a2]) (k := 0) dX11_adjust_44 rfl (by decide) rfl rfl gw_1474 gw_886 gw_887 mb_X10_setStock rfl (Nat.zero_le _) (Nat.le_of_ble_eq_true rfl) rfl (CL.imp k (fun _ h4 k => ?_) (fun _ _ k => k))
        obtain ⟨rfl, k⟩ := oV_of k
        show AW X (d + 1) rb mX11_adjust 47 _ [] h4 Qr Qx
        refine aw_aload_n (j := 0) (i := 0) dX11_adjust_47 rfl rfl rfl ?_
        refine aw_getm (k := 7) (z := 5) dX11_adjust_48 rfl (by decide) rfl rfl cb_11 (by decide) gw_430 ?_
        refine aw_aload_n (j := 0) (i := 0) dX11_adjust_51 rfl rfl rfl ?_
        refine aw_getm (k := 6) (z := 1) dX11_adjust_52 rfl (by decide) rfl rfl cb_11 (by decide) gw_429 ?_
        refine aw_iload_n (j := 1) (i := 1) dX11_adjust_55 rfl rfl rfl ?_
        refine aw_callV (M' := mX5_releaseExcess) (S := []) (as := [vR 1 (h4.2.2 11 0 6), vI a1]) (k := 0) dX11_adjust_56 rfl (by decide) rfl rfl gw_1475 gw_1476 gw_1477 mb_X5_releaseExcess rfl (Nat.zero_le _) (Nat.le_of_ble_eq_true rfl) rfl (CL.imp k (fun _ h5 k => ?_) (fun _ _ k => k))
        obtain ⟨r6, rfl, k⟩ := oI_of k
        show AW X (d + 1) rb mX11_adjust 59 _ [vI r6] h5 Qr Qx
        exact aw_iret dX11_adjust_59 rfl k
      · refine aw_callS (M' := mX11_checkArgument) (S := []) (as := [vI (if a2 < 0 then (0 : Int32) else (if 9999 < a2 then (0 : Int32) else 1))]) (k := rb) dX11_adjust_21 rfl gw_1196 gw_1197 mb_X11_checkArgument rfl (Nat.le_refl _) (Nat.le_of_ble_eq_true rfl) rfl (CL.imp k (fun _ h2 k => ?_) (fun _ _ k => k))
        exact k.elim
    refine aw_if_lt 20 dX11_adjust_6 rfl rfl (fun (c0 : a2 < 0) => ?_) (fun (c0 : ¬ a2 < 0) => ?_)
    · refine aw_iconst (v := 0) dX11_adjust_20 rfl (by decide) ?_
      simp only [if_pos c0] at kk
      exact kk
    · refine aw_iload_n (j := 2) (i := 2) dX11_adjust_9 rfl rfl rfl ?_
      refine aw_sipush (v := 9999) dX11_adjust_10 rfl (by decide) ?_
      refine aw_icmp_gt 20 dX11_adjust_13 rfl rfl (fun (c1 : 9999 < a2) => ?_) (fun (c1 : ¬ 9999 < a2) => ?_)
      · refine aw_iconst (v := 0) dX11_adjust_20 rfl (by decide) ?_
        simp only [if_neg c0, if_pos c1] at kk
        exact kk
      · refine aw_iconst (v := 1) dX11_adjust_16 rfl (by decide) ?_
        refine aw_goto 21 dX11_adjust_17 rfl ?_
        simp only [if_neg c0, if_neg c1] at kk
        exact kk
  · refine aw_callV (M' := mX11_checkPart) (S := []) (as := [vI a1]) (k := rb) dX11_adjust_2 rfl (by decide) rfl rfl gw_1104 gw_1106 gw_20 mb_X11_checkPart rfl (Nat.le_refl _) (Nat.le_of_ble_eq_true rfl) rfl (CL.imp k (fun _ h1 k => ?_) (fun _ _ k => k))
    exact k.elim
set_option maxHeartbeats 4000000 in
set_option maxRecDepth 100000 in
theorem vc_X11_advance_0 {X : WD → State → Prop} {d rb : Nat} {h : Hp} {Qr : Option AV → Hp → Prop} {Qx : String → Hp → Prop} {a1 : Int32}  (k : (CL 0 d mX11_checkArgument [vI (if a1 < 1 then (0 : Int32) else (if 100 < a1 then (0 : Int32) else 1))] h (oV fun h1 => CL 0 d mX3_record [vR 3 0, vR 5 (h1.2.2 11 0 7)] h1 (oV fun h2 => AW X (d + 1) rb mX11_advance 34 [(0, vR 11 0), (1, vI a1), (2, vI 0), (3, vI 0)] [] h2 Qr Qx) Qx) Qx) ∨ (CL rb d mX11_checkArgument [vI (if a1 < 1 then (0 : Int32) else (if 100 < a1 then (0 : Int32) else 1))] h (fun _ _ => False) Qx)) : AW X (d + 1) rb mX11_advance 0 [(0, vR 11 0), (1, vI a1)] [] h Qr Qx := by
  refine aw_iload_n (j := 1) (i := 1) dX11_advance_0 rfl rfl rfl ?_
  refine aw_iconst (v := 1) dX11_advance_1 rfl (by decide) ?_
  have kk : AW X (d + 1) rb mX11_advance 16 [(0, vR 11 0), (1, vI a1)] [vI (if a1 < 1 then (0 : Int32) else (if 100 < a1 then (0 : Int32) else 1))] h Qr Qx := by
    rcases k with k | k
    · refine aw_callS (M' := mX11_checkArgument) (S := []) (as := [vI (if a1 < 1 then (0 : Int32) else (if 100 < a1 then (0 : Int32) else 1))]) (k := 0) dX11_advance_16 rfl gw_1196 gw_1197 mb_X11_checkArgument rfl (Nat.zero_le _) (Nat.le_of_ble_eq_true rfl) rfl (CL.imp k (fun _ h1 k => ?_) (fun _ _ k => k))
      obtain ⟨rfl, k⟩ := oV_of k
      show AW X (d + 1) rb mX11_advance 19 _ [] h1 Qr Qx
      refine aw_aload_n (j := 0) (i := 0) dX11_advance_19 rfl rfl rfl ?_
      refine aw_getf (k := 2) (z := 3) dX11_advance_20 rfl (by decide) rfl rfl rfl cb_11 (by decide) gw_425 ?_
      refine aw_aload_n (j := 0) (i := 0) dX11_advance_23 rfl rfl rfl ?_
      refine aw_getm (k := 7) (z := 5) dX11_advance_24 rfl (by decide) rfl rfl cb_11 (by decide) gw_430 ?_
      refine aw_callV (M' := mX3_record) (S := []) (as := [vR 5 (h1.2.2 11 0 7)]) (k := 0) dX11_advance_27 rfl (by decide) rfl rfl gw_620 gw_621 gw_622 mb_X3_record rfl (Nat.zero_le _) (Nat.le_of_ble_eq_true rfl) rfl (CL.imp k (fun _ h2 k => ?_) (fun _ _ k => k))
      obtain ⟨rfl, k⟩ := oV_of k
      show AW X (d + 1) rb mX11_advance 30 _ [] h2 Qr Qx
      refine aw_iconst (v := 0) dX11_advance_30 rfl (by decide) ?_
      refine aw_istore_n (i := 2) (L2 := [(2, vI 0), (0, vR 11 0), (1, vI a1)]) dX11_advance_31 rfl rfl (by decide) rfl ?_
      refine aw_iconst (v := 0) dX11_advance_32 rfl (by decide) ?_
      refine aw_istore_n (i := 3) (L2 := [(3, vI 0), (2, vI 0), (0, vR 11 0), (1, vI a1)]) dX11_advance_33 rfl rfl (by decide) rfl ?_
      exact aw_sub [2, 3, 1, 0] rfl k
    · refine aw_callS (M' := mX11_checkArgument) (S := []) (as := [vI (if a1 < 1 then (0 : Int32) else (if 100 < a1 then (0 : Int32) else 1))]) (k := rb) dX11_advance_16 rfl gw_1196 gw_1197 mb_X11_checkArgument rfl (Nat.le_refl _) (Nat.le_of_ble_eq_true rfl) rfl (CL.imp k (fun _ h1 k => ?_) (fun _ _ k => k))
      exact k.elim
  refine aw_icmp_lt 15 dX11_advance_2 rfl rfl (fun (c0 : a1 < 1) => ?_) (fun (c0 : ¬ a1 < 1) => ?_)
  · refine aw_iconst (v := 0) dX11_advance_15 rfl (by decide) ?_
    simp only [if_pos c0] at kk
    exact kk
  · refine aw_iload_n (j := 1) (i := 1) dX11_advance_5 rfl rfl rfl ?_
    refine aw_bipush (v := 100) dX11_advance_6 rfl (by decide) ?_
    refine aw_icmp_gt 15 dX11_advance_8 rfl rfl (fun (c1 : 100 < a1) => ?_) (fun (c1 : ¬ 100 < a1) => ?_)
    · refine aw_iconst (v := 0) dX11_advance_15 rfl (by decide) ?_
      simp only [if_neg c0, if_pos c1] at kk
      exact kk
    · refine aw_iconst (v := 1) dX11_advance_11 rfl (by decide) ?_
      refine aw_goto 16 dX11_advance_12 rfl ?_
      simp only [if_neg c0, if_neg c1] at kk
      exact kk
set_option maxHeartbeats 4000000 in
set_option maxRecDepth 100000 in
theorem vc_X11_advance_34 {X : WD → State → Prop} {d rb : Nat} {h : Hp} {Qr : Option AV → Hp → Prop} {Qx : String → Hp → Prop} {x1 : Int32} {x2 : Int32} {x3 : Int32}  (k : ((x1 ≤ x3) → Qr (some (vI x2)) h) ∧ ((¬ x1 ≤ x3) → CL 0 d mX10_passDay [vR 10 (h.2.2 11 0 7)] h (oI fun r2 h1 => AW X (d + 1) rb mX11_advance 34 [(0, vR 11 0), (1, vI x1), (2, vI (x2 + r2)), (3, vI (x3 + 1))] [] h1 Qr Qx) Qx)) : AW X (d + 1) rb mX11_advance 34 [(0, vR 11 0), (1, vI x1), (2, vI x2), (3, vI x3)] [] h Qr Qx := by
  refine aw_iload_n (j := 3) (i := 3) dX11_advance_34 rfl rfl rfl ?_
  refine aw_iload_n (j := 1) (i := 1) dX11_advance_35 rfl rfl rfl ?_
  refine aw_icmp_ge 58 dX11_advance_36 rfl rfl (fun c => ?_) (fun c => ?_)
  · replace k := k.1 c
    refine aw_iload_n (j := 2) (i := 2) dX11_advance_58 rfl rfl rfl ?_
    exact aw_iret dX11_advance_59 rfl k
  · replace k := k.2 c
    refine aw_iload_n (j := 2) (i := 2) dX11_advance_39 rfl rfl rfl ?_
    refine aw_aload_n (j := 0) (i := 0) dX11_advance_40 rfl rfl rfl ?_
    refine aw_getm (k := 7) (z := 5) dX11_advance_41 rfl (by decide) rfl rfl cb_11 (by decide) gw_430 ?_
    refine aw_getf (k := 0) (z := 10) dX11_advance_44 rfl (by decide) rfl rfl rfl cb_5 (by decide) gw_322 ?_
    refine aw_callV (M' := mX10_passDay) (S := [vI x2]) (as := []) (k := 0) dX11_advance_47 rfl (by decide) rfl rfl gw_1498 gw_1499 gw_1500 mb_X10_passDay rfl (Nat.zero_le _) (Nat.le_of_ble_eq_true rfl) rfl (CL.imp k (fun _ h1 k => ?_) (fun _ _ k => k))
    obtain ⟨r2, rfl, k⟩ := oI_of k
    show AW X (d + 1) rb mX11_advance 50 _ [vI r2, vI x2] h1 Qr Qx
    refine aw_iadd dX11_advance_50 rfl ?_
    refine aw_istore_n (i := 2) (L2 := [(2, vI (x2 + r2)), (0, vR 11 0), (1, vI x1), (3, vI x3)]) dX11_advance_51 rfl rfl (by decide) rfl ?_
    refine aw_iinc (i := 3) (j := 3) (v := x3 + 1) (L2 := [(3, vI (x3 + 1)), (2, vI (x2 + r2)), (0, vR 11 0), (1, vI x1)]) dX11_advance_52 rfl (by decide) rfl rfl rfl ?_
    refine aw_goto 34 dX11_advance_55 rfl ?_
    exact aw_sub [2, 3, 1, 0] rfl k
set_option maxHeartbeats 4000000 in
set_option maxRecDepth 100000 in
theorem vc_X11_undo_0 {X : WD → State → Prop} {d rb : Nat} {h : Hp} {Qr : Option AV → Hp → Prop} {Qx : String → Hp → Prop}   (k : CL 0 d mX3_takeBack [vR 3 0, vR 5 (h.2.2 11 0 7)] h (oI fun r2 h1 => Qr (some (vI (if r2 = 0 then ((-1) : Int32) else (h1.1 3 0 0)))) h1) Qx) : AW X (d + 1) rb mX11_undo 0 [(0, vR 11 0)] [] h Qr Qx := by
  refine aw_aload_n (j := 0) (i := 0) dX11_undo_0 rfl rfl rfl ?_
  refine aw_getf (k := 2) (z := 3) dX11_undo_1 rfl (by decide) rfl rfl rfl cb_11 (by decide) gw_425 ?_
  refine aw_aload_n (j := 0) (i := 0) dX11_undo_4 rfl rfl rfl ?_
  refine aw_getm (k := 7) (z := 5) dX11_undo_5 rfl (by decide) rfl rfl cb_11 (by decide) gw_430 ?_
  refine aw_callV (M' := mX3_takeBack) (S := []) (as := [vR 5 (h.2.2 11 0 7)]) (k := 0) dX11_undo_8 rfl (by decide) rfl rfl gw_699 gw_700 gw_701 mb_X3_takeBack rfl (Nat.zero_le _) (Nat.le_of_ble_eq_true rfl) rfl (CL.imp k (fun _ h1 k => ?_) (fun _ _ k => k))
  obtain ⟨r2, rfl, k⟩ := oI_of k
  show AW X (d + 1) rb mX11_undo 11 _ [vI r2] h1 Qr Qx
  have kk : AW X (d + 1) rb mX11_undo 25 [(0, vR 11 0)] [vI (if r2 = 0 then ((-1) : Int32) else (h1.1 3 0 0))] h1 Qr Qx := by
    exact aw_iret dX11_undo_25 rfl k
  refine aw_if_eq 24 dX11_undo_11 rfl rfl (fun (c0 : r2 = 0) => ?_) (fun (c0 : ¬ r2 = 0) => ?_)
  · refine aw_iconst (v := (-1)) dX11_undo_24 rfl (by decide) ?_
    simp only [if_pos c0] at kk
    exact kk
  · refine aw_aload_n (j := 0) (i := 0) dX11_undo_14 rfl rfl rfl ?_
    refine aw_getf (k := 2) (z := 3) dX11_undo_15 rfl (by decide) rfl rfl rfl cb_11 (by decide) gw_425 ?_
    refine aw_geti (k := 0) dX11_undo_18 rfl (by decide) rfl rfl cb_3 (by decide) gw_366 ?_
    refine aw_goto 25 dX11_undo_21 rfl ?_
    simp only [if_neg c0] at kk
    exact kk
set_option maxHeartbeats 4000000 in
set_option maxRecDepth 100000 in
theorem vc_X11_undoDepth_0 {X : WD → State → Prop} {d rb : Nat} {h : Hp} {Qr : Option AV → Hp → Prop} {Qx : String → Hp → Prop}   (k : Qr (some (vI (h.1 3 0 0))) h) : AW X (d + 1) rb mX11_undoDepth 0 [(0, vR 11 0)] [] h Qr Qx := by
  refine aw_aload_n (j := 0) (i := 0) dX11_undoDepth_0 rfl rfl rfl ?_
  refine aw_getf (k := 2) (z := 3) dX11_undoDepth_1 rfl (by decide) rfl rfl rfl cb_11 (by decide) gw_425 ?_
  refine aw_geti (k := 0) dX11_undoDepth_4 rfl (by decide) rfl rfl cb_3 (by decide) gw_366 ?_
  exact aw_iret dX11_undoDepth_7 rfl k
set_option maxHeartbeats 4000000 in
set_option maxRecDepth 100000 in
theorem vc_X11_total_0 {X : WD → State → Prop} {d rb : Nat} {h : Hp} {Qr : Option AV → Hp → Prop} {Qx : String → Hp → Prop} {a1 : Int32}  (k : CL 0 d mX8_totalOf [vR 8 (h.2.2 11 0 7), vI a1] h (oI fun r2 h1 => Qr (some (vI r2)) h1) Qx) : AW X (d + 1) rb mX11_total 0 [(0, vR 11 0), (1, vI a1)] [] h Qr Qx := by
  refine aw_aload_n (j := 0) (i := 0) dX11_total_0 rfl rfl rfl ?_
  refine aw_getm (k := 7) (z := 5) dX11_total_1 rfl (by decide) rfl rfl cb_11 (by decide) gw_430 ?_
  refine aw_getf (k := 2) (z := 8) dX11_total_4 rfl (by decide) rfl rfl rfl cb_5 (by decide) gw_329 ?_
  refine aw_iload_n (j := 1) (i := 1) dX11_total_7 rfl rfl rfl ?_
  refine aw_callV (M' := mX8_totalOf) (S := []) (as := [vI a1]) (k := 0) dX11_total_8 rfl (by decide) rfl rfl gw_711 gw_712 gw_713 mb_X8_totalOf rfl (Nat.zero_le _) (Nat.le_of_ble_eq_true rfl) rfl (CL.imp k (fun _ h1 k => ?_) (fun _ _ k => k))
  obtain ⟨r2, rfl, k⟩ := oI_of k
  show AW X (d + 1) rb mX11_total 11 _ [vI r2] h1 Qr Qx
  exact aw_iret dX11_total_11 rfl k
set_option maxHeartbeats 4000000 in
set_option maxRecDepth 100000 in
theorem vc_X11_shipment_0 {X : WD → State → Prop} {d rb : Nat} {h : Hp} {Qr : Option AV → Hp → Prop} {Qx : String → Hp → Prop} {a1 : Int32} {a2 : Int32}  (k : CL 0 d mX8_entry [vR 8 (h.2.2 11 0 7), vI a1, vI a2] h (oI fun r2 h1 => Qr (some (vI r2)) h1) Qx) : AW X (d + 1) rb mX11_shipment 0 [(0, vR 11 0), (1, vI a1), (2, vI a2)] [] h Qr Qx := by
  refine aw_aload_n (j := 0) (i := 0) dX11_shipment_0 rfl rfl rfl ?_
  refine aw_getm (k := 7) (z := 5) dX11_shipment_1 rfl (by decide) rfl rfl cb_11 (by decide) gw_430 ?_
  refine aw_getf (k := 2) (z := 8) dX11_shipment_4 rfl (by decide) rfl rfl rfl cb_5 (by decide) gw_329 ?_
  refine aw_iload_n (j := 1) (i := 1) dX11_shipment_7 rfl rfl rfl ?_
  refine aw_iload_n (j := 2) (i := 2) dX11_shipment_8 rfl rfl rfl ?_
  refine aw_callV (M' := mX8_entry) (S := []) (as := [vI a1, vI a2]) (k := 0) dX11_shipment_9 rfl (by decide) rfl rfl gw_720 gw_721 gw_722 mb_X8_entry rfl (Nat.zero_le _) (Nat.le_of_ble_eq_true rfl) rfl (CL.imp k (fun _ h1 k => ?_) (fun _ _ k => k))
  obtain ⟨r2, rfl, k⟩ := oI_of k
  show AW X (d + 1) rb mX11_shipment 12 _ [vI r2] h1 Qr Qx
  exact aw_iret dX11_shipment_12 rfl k
set_option maxHeartbeats 4000000 in
set_option maxRecDepth 100000 in
theorem vc_X11_formatOrder_0 {X : WD → State → Prop} {d rb : Nat} {h : Hp} {Qr : Option AV → Hp → Prop} {Qx : String → Hp → Prop} {a1 : Int32}  (k : (CL 0 d mX11_checkOrder [vR 11 0, vI a1] h (oV fun h1 => CL 0 d mX6_productOf [vR 6 (h1.2.2 11 0 7), vI a1] h1 (oI fun r3 h2 => CL 0 d mX1_productName [vR 1 (h1.2.2 11 0 6), vI r3] h2 (oJ fun r5 h4 => CL 0 d mX2_begin [vR 2 0, vJ r5] h4 (oV fun h6 => CL 0 d mX6_quantityOf [vR 6 (h1.2.2 11 0 7), vI a1] h6 (oI fun r8 h7 => CL 0 d mX2_putNumbered [vR 2 0, vR 1012 0, vI r8] h7 (oV fun h9 => CL 0 d mX6_classOf [vR 6 (h1.2.2 11 0 7), vI a1] h9 (oI fun r11 h10 => CL 0 d mX2_putNumbered [vR 2 0, vR 1013 0, vI r11] h10 (oV fun h12 => CL 0 d mX6_dueOf [vR 6 (h1.2.2 11 0 7), vI a1] h12 (oI fun r14 h13 => CL 0 d mX2_putNumbered [vR 2 0, vR 1014 0, vI r14] h13 (oV fun h15 => CL 0 d mX6_isWhole [vR 6 (h1.2.2 11 0 7), vI a1] h15 (oI fun r17 h16 => ((r17 = 0) → CL 0 d mX6_openOf [vR 6 (h1.2.2 11 0 7), vI a1] h16 (oI fun r19 h18 => CL 0 d mX2_putNumbered [vR 2 0, vR 1016 0, vI r19] h18 (oV fun h20 => CL 0 d mX6_reservedOf [vR 6 (h1.2.2 11 0 7), vI a1] h20 (oI fun r22 h21 => CL 0 d mX2_putNumbered [vR 2 0, vR 1017 0, vI r22] h21 (oV fun h23 => CL 0 d mX6_shippedOf [vR 6 (h1.2.2 11 0 7), vI a1] h23 (oI fun r25 h24 => CL 0 d mX2_putNumbered [vR 2 0, vR 1018 0, vI r25] h24 (oV fun h26 => CL 0 d mX6_stateFor [vR 6 (h1.2.2 11 0 7), vI a1] h26 (oI fun r28 h27 => ((¬ r28 = 3) → Qr (some (vI (h27.1 2 0 0))) h27) ∧ ((r28 = 3) → CL 0 d mX2_putText [vR 2 0, vR 1019 0] h27 (oV fun h29 => Qr (some (vI (h29.1 2 0 0))) h29) Qx)) Qx) Qx) Qx) Qx) Qx) Qx) Qx) ∧ ((¬ r17 = 0) → CL 0 d mX2_putText [vR 2 0, vR 1015 0] h16 (oV fun h30 => CL 0 d mX6_openOf [vR 6 (h1.2.2 11 0 7), vI a1] h30 (oI fun r32 h31 => CL 0 d mX2_putNumbered [vR 2 0, vR 1016 0, vI r32] h31 (oV fun h33 => CL 0 d mX6_reservedOf [vR 6 (h1.2.2 11 0 7), vI a1] h33 (oI fun r35 h34 => CL 0 d mX2_putNumbered [vR 2 0, vR 1017 0, vI r35] h34 (oV fun h36 => CL 0 d mX6_shippedOf [vR 6 (h1.2.2 11 0 7), vI a1] h36 (oI fun r38 h37 => CL 0 d mX2_putNumbered [vR 2 0, vR 1018 0, vI r38] h37 (oV fun h39 => CL 0 d mX6_stateFor [vR 6 (h1.2.2 11 0 7), vI a1] h39 (oI fun r41 h40 => ((¬ r41 = 3) → Qr (some (vI (h40.1 2 0 0))) h40) ∧ ((r41 = 3) → CL 0 d mX2_putText [vR 2 0, vR 1019 0] h40 (oV fun h42 => Qr (some (vI (h42.1 2 0 0))) h42) Qx)) Qx) Qx) Qx) Qx) Qx) Qx) Qx) Qx)) Qx) Qx) Qx) Qx) Qx) Qx) Qx) Qx) Qx) Qx) Qx) ∨ (CL rb d mX11_checkOrder [vR 11 0, vI a1] h (fun _ _ => False) Qx)) : AW X (d + 1) rb mX11_formatOrder 0 [(0, vR 11 0), (1, vI a1)] [] h Qr Qx := by
  refine aw_aload_n (j := 0) (i := 0) dX11_formatOrder_0 rfl rfl rfl ?_
  refine aw_iload_n (j := 1) (i := 1) dX11_formatOrder_1 rfl rfl rfl ?_
  rcases k with k | k
  · refine aw_callV (M' := mX11_checkOrder) (S := []) (as := [vI a1]) (k := 0) dX11_formatOrder_2 rfl (by decide) rfl rfl gw_1224 gw_1226 gw_24 mb_X11_checkOrder rfl (Nat.zero_le _) (Nat.le_of_ble_eq_true rfl) rfl (CL.imp k (fun _ h1 k => ?_) (fun _ _ k => k))
    obtain ⟨rfl, k⟩ := oV_of k
    show AW X (d + 1) rb mX11_formatOrder 5 _ [] h1 Qr Qx
    refine aw_aload_n (j := 0) (i := 0) dX11_formatOrder_5 rfl rfl rfl ?_
    refine aw_getm (k := 7) (z := 5) dX11_formatOrder_6 rfl (by decide) rfl rfl cb_11 (by decide) gw_430 ?_
    refine aw_getf (k := 1) (z := 6) dX11_formatOrder_9 rfl (by decide) rfl rfl rfl cb_5 (by decide) gw_327 ?_
    refine aw_astore_n (i := 2) (L2 := [(2, vR 6 (h1.2.2 11 0 7)), (0, vR 11 0), (1, vI a1)]) dX11_formatOrder_12 rfl rfl (by decide) rfl ?_
    refine aw_aload_n (j := 1) (i := 0) dX11_formatOrder_13 rfl rfl rfl ?_
    refine aw_getf (k := 4) (z := 2) dX11_formatOrder_14 rfl (by decide) rfl rfl rfl cb_11 (by decide) gw_427 ?_
    refine aw_aload_n (j := 1) (i := 0) dX11_formatOrder_17 rfl rfl rfl ?_
    refine aw_getm (k := 6) (z := 1) dX11_formatOrder_18 rfl (by decide) rfl rfl cb_11 (by decide) gw_429 ?_
    refine aw_aload_n (j := 0) (i := 2) dX11_formatOrder_21 rfl rfl rfl ?_
    refine aw_iload_n (j := 2) (i := 1) dX11_formatOrder_22 rfl rfl rfl ?_
    refine aw_callV (M' := mX6_productOf) (S := [vR 1 (h1.2.2 11 0 6), vR 2 0]) (as := [vI a1]) (k := 0) dX11_formatOrder_23 rfl (by decide) rfl rfl gw_541 gw_505 gw_506 mb_X6_productOf rfl (Nat.zero_le _) (Nat.le_of_ble_eq_true rfl) rfl (CL.imp k (fun _ h2 k => ?_) (fun _ _ k => k))
    obtain ⟨r3, rfl, k⟩ := oI_of k
    show AW X (d + 1) rb mX11_formatOrder 26 _ [vI r3, vR 1 (h1.2.2 11 0 6), vR 2 0] h2 Qr Qx
    refine aw_callV (M' := mX1_productName) (S := [vR 2 0]) (as := [vI r3]) (k := 0) dX11_formatOrder_26 rfl (by decide) rfl rfl gw_1510 gw_1511 gw_1512 mb_X1_productName rfl (Nat.zero_le _) (Nat.le_of_ble_eq_true rfl) rfl (CL.imp k (fun _ h4 k => ?_) (fun _ _ k => k))
    obtain ⟨r5, rfl, k⟩ := oJ_of k
    show AW X (d + 1) rb mX11_formatOrder 29 _ [vJ r5, vR 2 0] h4 Qr Qx
    refine aw_callV (M' := mX2_begin) (S := []) (as := [vJ r5]) (k := 0) dX11_formatOrder_29 rfl (by decide) rfl rfl gw_1514 gw_1515 gw_1516 mb_X2_begin rfl (Nat.zero_le _) (Nat.le_of_ble_eq_true rfl) rfl (CL.imp k (fun _ h6 k => ?_) (fun _ _ k => k))
    obtain ⟨rfl, k⟩ := oV_of k
    show AW X (d + 1) rb mX11_formatOrder 32 _ [] h6 Qr Qx
    refine aw_aload_n (j := 1) (i := 0) dX11_formatOrder_32 rfl rfl rfl ?_
    refine aw_getf (k := 4) (z := 2) dX11_formatOrder_33 rfl (by decide) rfl rfl rfl cb_11 (by decide) gw_427 ?_
    refine aw_ldcSW (j := 12) dX11_formatOrder_36 rfl rfl ?_
    refine aw_aload_n (j := 0) (i := 2) dX11_formatOrder_39 rfl rfl rfl ?_
    refine aw_iload_n (j := 2) (i := 1) dX11_formatOrder_40 rfl rfl rfl ?_
    refine aw_callV (M' := mX6_quantityOf) (S := [vR 1012 0, vR 2 0]) (as := [vI a1]) (k := 0) dX11_formatOrder_41 rfl (by decide) rfl rfl gw_1271 gw_1272 gw_1273 mb_X6_quantityOf rfl (Nat.zero_le _) (Nat.le_of_ble_eq_true rfl) rfl (CL.imp k (fun _ h7 k => ?_) (fun _ _ k => k))
    obtain ⟨r8, rfl, k⟩ := oI_of k
    show AW X (d + 1) rb mX11_formatOrder 44 _ [vI r8, vR 1012 0, vR 2 0] h7 Qr Qx
    refine aw_callV (M' := mX2_putNumbered) (S := []) (as := [vR 1012 0, vI r8]) (k := 0) dX11_formatOrder_44 rfl (by decide) rfl rfl gw_1527 gw_1528 gw_1529 mb_X2_putNumbered rfl (Nat.zero_le _) (Nat.le_of_ble_eq_true rfl) rfl (CL.imp k (fun _ h9 k => ?_) (fun _ _ k => k))
    obtain ⟨rfl, k⟩ := oV_of k
    show AW X (d + 1) rb mX11_formatOrder 47 _ [] h9 Qr Qx
    refine aw_aload_n (j := 1) (i := 0) dX11_formatOrder_47 rfl rfl rfl ?_
    refine aw_getf (k := 4) (z := 2) dX11_formatOrder_48 rfl (by decide) rfl rfl rfl cb_11 (by decide) gw_427 ?_
    refine aw_ldcSW (j := 13) dX11_formatOrder_51 rfl rfl ?_
    refine aw_aload_n (j := 0) (i := 2) dX11_formatOrder_54 rfl rfl rfl ?_
    refine aw_iload_n (j := 2) (i := 1) dX11_formatOrder_55 rfl rfl rfl ?_
    refine aw_callV (M' := mX6_classOf) (S := [vR 1013 0, vR 2 0]) (as := [vI a1]) (k := 0) dX11_formatOrder_56 rfl (by decide) rfl rfl gw_1275 gw_591 gw_592 mb_X6_classOf rfl (Nat.zero_le _) (Nat.le_of_ble_eq_true rfl) rfl (CL.imp k (fun _ h10 k => ?_) (fun _ _ k => k))
    obtain ⟨r11, rfl, k⟩ := oI_of k
    show AW X (d + 1) rb mX11_formatOrder 59 _ [vI r11, vR 1013 0, vR 2 0] h10 Qr Qx
    refine aw_callV (M' := mX2_putNumbered) (S := []) (as := [vR 1013 0, vI r11]) (k := 0) dX11_formatOrder_59 rfl (by decide) rfl rfl gw_1527 gw_1528 gw_1529 mb_X2_putNumbered rfl (Nat.zero_le _) (Nat.le_of_ble_eq_true rfl) rfl (CL.imp k (fun _ h12 k => ?_) (fun _ _ k => k))
    obtain ⟨rfl, k⟩ := oV_of k
    show AW X (d + 1) rb mX11_formatOrder 62 _ [] h12 Qr Qx
    refine aw_aload_n (j := 1) (i := 0) dX11_formatOrder_62 rfl rfl rfl ?_
    refine aw_getf (k := 4) (z := 2) dX11_formatOrder_63 rfl (by decide) rfl rfl rfl cb_11 (by decide) gw_427 ?_
    refine aw_ldcSW (j := 14) dX11_formatOrder_66 rfl rfl ?_
    refine aw_aload_n (j := 0) (i := 2) dX11_formatOrder_69 rfl rfl rfl ?_
    refine aw_iload_n (j := 2) (i := 1) dX11_formatOrder_70 rfl rfl rfl ?_
    refine aw_callV (M' := mX6_dueOf) (S := [vR 1014 0, vR 2 0]) (as := [vI a1]) (k := 0) dX11_formatOrder_71 rfl (by decide) rfl rfl gw_561 gw_562 gw_563 mb_X6_dueOf rfl (Nat.zero_le _) (Nat.le_of_ble_eq_true rfl) rfl (CL.imp k (fun _ h13 k => ?_) (fun _ _ k => k))
    obtain ⟨r14, rfl, k⟩ := oI_of k
    show AW X (d + 1) rb mX11_formatOrder 74 _ [vI r14, vR 1014 0, vR 2 0] h13 Qr Qx
    refine aw_callV (M' := mX2_putNumbered) (S := []) (as := [vR 1014 0, vI r14]) (k := 0) dX11_formatOrder_74 rfl (by decide) rfl rfl gw_1527 gw_1528 gw_1529 mb_X2_putNumbered rfl (Nat.zero_le _) (Nat.le_of_ble_eq_true rfl) rfl (CL.imp k (fun _ h15 k => ?_) (fun _ _ k => k))
    obtain ⟨rfl, k⟩ := oV_of k
    show AW X (d + 1) rb mX11_formatOrder 77 _ [] h15 Qr Qx
    refine aw_aload_n (j := 0) (i := 2) dX11_formatOrder_77 rfl rfl rfl ?_
    refine aw_iload_n (j := 2) (i := 1) dX11_formatOrder_78 rfl rfl rfl ?_
    refine aw_callV (M' := mX6_isWhole) (S := []) (as := [vI a1]) (k := 0) dX11_formatOrder_79 rfl (by decide) rfl rfl gw_1276 gw_679 gw_680 mb_X6_isWhole rfl (Nat.zero_le _) (Nat.le_of_ble_eq_true rfl) rfl (CL.imp k (fun _ h16 k => ?_) (fun _ _ k => k))
    obtain ⟨r17, rfl, k⟩ := oI_of k
    show AW X (d + 1) rb mX11_formatOrder 82 _ [vI r17] h16 Qr Qx
    refine aw_if_eq 95 dX11_formatOrder_82 rfl rfl (fun c => ?_) (fun c => ?_)
    · replace k := k.1 c
      refine aw_aload_n (j := 1) (i := 0) dX11_formatOrder_95 rfl rfl rfl ?_
      refine aw_getf (k := 4) (z := 2) dX11_formatOrder_96 rfl (by decide) rfl rfl rfl cb_11 (by decide) gw_427 ?_
      refine aw_ldcSW (j := 16) dX11_formatOrder_99 rfl rfl ?_
      refine aw_aload_n (j := 0) (i := 2) dX11_formatOrder_102 rfl rfl rfl ?_
      refine aw_iload_n (j := 2) (i := 1) dX11_formatOrder_103 rfl rfl rfl ?_
      refine aw_callV (M' := mX6_openOf) (S := [vR 1016 0, vR 2 0]) (as := [vI a1]) (k := 0) dX11_formatOrder_104 rfl (by decide) rfl rfl gw_540 gw_500 gw_501 mb_X6_openOf rfl (Nat.zero_le _) (Nat.le_of_ble_eq_true rfl) rfl (CL.imp k (fun _ h18 k => ?_) (fun _ _ k => k))
      obtain ⟨r19, rfl, k⟩ := oI_of k
      show AW X (d + 1) rb mX11_formatOrder 107 _ [vI r19, vR 1016 0, vR 2 0] h18 Qr Qx
      refine aw_callV (M' := mX2_putNumbered) (S := []) (as := [vR 1016 0, vI r19]) (k := 0) dX11_formatOrder_107 rfl (by decide) rfl rfl gw_1527 gw_1528 gw_1529 mb_X2_putNumbered rfl (Nat.zero_le _) (Nat.le_of_ble_eq_true rfl) rfl (CL.imp k (fun _ h20 k => ?_) (fun _ _ k => k))
      obtain ⟨rfl, k⟩ := oV_of k
      show AW X (d + 1) rb mX11_formatOrder 110 _ [] h20 Qr Qx
      refine aw_aload_n (j := 1) (i := 0) dX11_formatOrder_110 rfl rfl rfl ?_
      refine aw_getf (k := 4) (z := 2) dX11_formatOrder_111 rfl (by decide) rfl rfl rfl cb_11 (by decide) gw_427 ?_
      refine aw_ldcSW (j := 17) dX11_formatOrder_114 rfl rfl ?_
      refine aw_aload_n (j := 0) (i := 2) dX11_formatOrder_117 rfl rfl rfl ?_
      refine aw_iload_n (j := 2) (i := 1) dX11_formatOrder_118 rfl rfl rfl ?_
      refine aw_callV (M' := mX6_reservedOf) (S := [vR 1017 0, vR 2 0]) (as := [vI a1]) (k := 0) dX11_formatOrder_119 rfl (by decide) rfl rfl gw_1252 gw_1235 gw_1236 mb_X6_reservedOf rfl (Nat.zero_le _) (Nat.le_of_ble_eq_true rfl) rfl (CL.imp k (fun _ h21 k => ?_) (fun _ _ k => k))
      obtain ⟨r22, rfl, k⟩ := oI_of k
      show AW X (d + 1) rb mX11_formatOrder 122 _ [vI r22, vR 1017 0, vR 2 0] h21 Qr Qx
      refine aw_callV (M' := mX2_putNumbered) (S := []) (as := [vR 1017 0, vI r22]) (k := 0) dX11_formatOrder_122 rfl (by decide) rfl rfl gw_1527 gw_1528 gw_1529 mb_X2_putNumbered rfl (Nat.zero_le _) (Nat.le_of_ble_eq_true rfl) rfl (CL.imp k (fun _ h23 k => ?_) (fun _ _ k => k))
      obtain ⟨rfl, k⟩ := oV_of k
      show AW X (d + 1) rb mX11_formatOrder 125 _ [] h23 Qr Qx
      refine aw_aload_n (j := 1) (i := 0) dX11_formatOrder_125 rfl rfl rfl ?_
      refine aw_getf (k := 4) (z := 2) dX11_formatOrder_126 rfl (by decide) rfl rfl rfl cb_11 (by decide) gw_427 ?_
      refine aw_ldcSW (j := 18) dX11_formatOrder_129 rfl rfl ?_
      refine aw_aload_n (j := 0) (i := 2) dX11_formatOrder_132 rfl rfl rfl ?_
      refine aw_iload_n (j := 2) (i := 1) dX11_formatOrder_133 rfl rfl rfl ?_
      refine aw_callV (M' := mX6_shippedOf) (S := [vR 1018 0, vR 2 0]) (as := [vI a1]) (k := 0) dX11_formatOrder_134 rfl (by decide) rfl rfl gw_1260 gw_1261 gw_1262 mb_X6_shippedOf rfl (Nat.zero_le _) (Nat.le_of_ble_eq_true rfl) rfl (CL.imp k (fun _ h24 k => ?_) (fun _ _ k => k))
      obtain ⟨r25, rfl, k⟩ := oI_of k
      show AW X (d + 1) rb mX11_formatOrder 137 _ [vI r25, vR 1018 0, vR 2 0] h24 Qr Qx
      refine aw_callV (M' := mX2_putNumbered) (S := []) (as := [vR 1018 0, vI r25]) (k := 0) dX11_formatOrder_137 rfl (by decide) rfl rfl gw_1527 gw_1528 gw_1529 mb_X2_putNumbered rfl (Nat.zero_le _) (Nat.le_of_ble_eq_true rfl) rfl (CL.imp k (fun _ h26 k => ?_) (fun _ _ k => k))
      obtain ⟨rfl, k⟩ := oV_of k
      show AW X (d + 1) rb mX11_formatOrder 140 _ [] h26 Qr Qx
      refine aw_aload_n (j := 0) (i := 2) dX11_formatOrder_140 rfl rfl rfl ?_
      refine aw_iload_n (j := 2) (i := 1) dX11_formatOrder_141 rfl rfl rfl ?_
      refine aw_callV (M' := mX6_stateFor) (S := []) (as := [vI a1]) (k := 0) dX11_formatOrder_142 rfl (by decide) rfl rfl gw_1229 gw_1230 gw_1231 mb_X6_stateFor rfl (Nat.zero_le _) (Nat.le_of_ble_eq_true rfl) rfl (CL.imp k (fun _ h27 k => ?_) (fun _ _ k => k))
      obtain ⟨r28, rfl, k⟩ := oI_of k
      show AW X (d + 1) rb mX11_formatOrder 145 _ [vI r28] h27 Qr Qx
      refine aw_iconst (v := 3) dX11_formatOrder_145 rfl (by decide) ?_
      refine aw_icmp_ne 159 dX11_formatOrder_146 rfl rfl (fun c => ?_) (fun c => ?_)
      · replace k := k.1 c
        refine aw_aload_n (j := 1) (i := 0) dX11_formatOrder_159 rfl rfl rfl ?_
        refine aw_getf (k := 4) (z := 2) dX11_formatOrder_160 rfl (by decide) rfl rfl rfl cb_11 (by decide) gw_427 ?_
        refine aw_geti (k := 0) dX11_formatOrder_163 rfl (by decide) rfl rfl cb_2 (by decide) gw_408 ?_
        exact aw_iret dX11_formatOrder_166 rfl k
      · replace k := k.2 c
        refine aw_aload_n (j := 1) (i := 0) dX11_formatOrder_149 rfl rfl rfl ?_
        refine aw_getf (k := 4) (z := 2) dX11_formatOrder_150 rfl (by decide) rfl rfl rfl cb_11 (by decide) gw_427 ?_
        refine aw_ldcSW (j := 19) dX11_formatOrder_153 rfl rfl ?_
        refine aw_callV (M' := mX2_putText) (S := []) (as := [vR 1019 0]) (k := 0) dX11_formatOrder_156 rfl (by decide) rfl rfl gw_1541 gw_1532 gw_1533 mb_X2_putText rfl (Nat.zero_le _) (Nat.le_of_ble_eq_true rfl) rfl (CL.imp k (fun _ h29 k => ?_) (fun _ _ k => k))
        obtain ⟨rfl, k⟩ := oV_of k
        show AW X (d + 1) rb mX11_formatOrder 159 _ [] h29 Qr Qx
        refine aw_aload_n (j := 1) (i := 0) dX11_formatOrder_159 rfl rfl rfl ?_
        refine aw_getf (k := 4) (z := 2) dX11_formatOrder_160 rfl (by decide) rfl rfl rfl cb_11 (by decide) gw_427 ?_
        refine aw_geti (k := 0) dX11_formatOrder_163 rfl (by decide) rfl rfl cb_2 (by decide) gw_408 ?_
        exact aw_iret dX11_formatOrder_166 rfl k
    · replace k := k.2 c
      refine aw_aload_n (j := 1) (i := 0) dX11_formatOrder_85 rfl rfl rfl ?_
      refine aw_getf (k := 4) (z := 2) dX11_formatOrder_86 rfl (by decide) rfl rfl rfl cb_11 (by decide) gw_427 ?_
      refine aw_ldcSW (j := 15) dX11_formatOrder_89 rfl rfl ?_
      refine aw_callV (M' := mX2_putText) (S := []) (as := [vR 1015 0]) (k := 0) dX11_formatOrder_92 rfl (by decide) rfl rfl gw_1541 gw_1532 gw_1533 mb_X2_putText rfl (Nat.zero_le _) (Nat.le_of_ble_eq_true rfl) rfl (CL.imp k (fun _ h30 k => ?_) (fun _ _ k => k))
      obtain ⟨rfl, k⟩ := oV_of k
      show AW X (d + 1) rb mX11_formatOrder 95 _ [] h30 Qr Qx
      refine aw_aload_n (j := 1) (i := 0) dX11_formatOrder_95 rfl rfl rfl ?_
      refine aw_getf (k := 4) (z := 2) dX11_formatOrder_96 rfl (by decide) rfl rfl rfl cb_11 (by decide) gw_427 ?_
      refine aw_ldcSW (j := 16) dX11_formatOrder_99 rfl rfl ?_
      refine aw_aload_n (j := 0) (i := 2) dX11_formatOrder_102 rfl rfl rfl ?_
      refine aw_iload_n (j := 2) (i := 1) dX11_formatOrder_103 rfl rfl rfl ?_
      refine aw_callV (M' := mX6_openOf) (S := [vR 1016 0, vR 2 0]) (as := [vI a1]) (k := 0) dX11_formatOrder_104 rfl (by decide) rfl rfl gw_540 gw_500 gw_501 mb_X6_openOf rfl (Nat.zero_le _) (Nat.le_of_ble_eq_true rfl) rfl (CL.imp k (fun _ h31 k => ?_) (fun _ _ k => k))
      obtain ⟨r32, rfl, k⟩ := oI_of k
      show AW X (d + 1) rb mX11_formatOrder 107 _ [vI r32, vR 1016 0, vR 2 0] h31 Qr Qx
      refine aw_callV (M' := mX2_putNumbered) (S := []) (as := [vR 1016 0, vI r32]) (k := 0) dX11_formatOrder_107 rfl (by decide) rfl rfl gw_1527 gw_1528 gw_1529 mb_X2_putNumbered rfl (Nat.zero_le _) (Nat.le_of_ble_eq_true rfl) rfl (CL.imp k (fun _ h33 k => ?_) (fun _ _ k => k))
      obtain ⟨rfl, k⟩ := oV_of k
      show AW X (d + 1) rb mX11_formatOrder 110 _ [] h33 Qr Qx
      refine aw_aload_n (j := 1) (i := 0) dX11_formatOrder_110 rfl rfl rfl ?_
      refine aw_getf (k := 4) (z := 2) dX11_formatOrder_111 rfl (by decide) rfl rfl rfl cb_11 (by decide) gw_427 ?_
      refine aw_ldcSW (j := 17) dX11_formatOrder_114 rfl rfl ?_
      refine aw_aload_n (j := 0) (i := 2) dX11_formatOrder_117 rfl rfl rfl ?_
      refine aw_iload_n (j := 2) (i := 1) dX11_formatOrder_118 rfl rfl rfl ?_
      refine aw_callV (M' := mX6_reservedOf) (S := [vR 1017 0, vR 2 0]) (as := [vI a1]) (k := 0) dX11_formatOrder_119 rfl (by decide) rfl rfl gw_1252 gw_1235 gw_1236 mb_X6_reservedOf rfl (Nat.zero_le _) (Nat.le_of_ble_eq_true rfl) rfl (CL.imp k (fun _ h34 k => ?_) (fun _ _ k => k))
      obtain ⟨r35, rfl, k⟩ := oI_of k
      show AW X (d + 1) rb mX11_formatOrder 122 _ [vI r35, vR 1017 0, vR 2 0] h34 Qr Qx
      refine aw_callV (M' := mX2_putNumbered) (S := []) (as := [vR 1017 0, vI r35]) (k := 0) dX11_formatOrder_122 rfl (by decide) rfl rfl gw_1527 gw_1528 gw_1529 mb_X2_putNumbered rfl (Nat.zero_le _) (Nat.le_of_ble_eq_true rfl) rfl (CL.imp k (fun _ h36 k => ?_) (fun _ _ k => k))
      obtain ⟨rfl, k⟩ := oV_of k
      show AW X (d + 1) rb mX11_formatOrder 125 _ [] h36 Qr Qx
      refine aw_aload_n (j := 1) (i := 0) dX11_formatOrder_125 rfl rfl rfl ?_
      refine aw_getf (k := 4) (z := 2) dX11_formatOrder_126 rfl (by decide) rfl rfl rfl cb_11 (by decide) gw_427 ?_
      refine aw_ldcSW (j := 18) dX11_formatOrder_129 rfl rfl ?_
      refine aw_aload_n (j := 0) (i := 2) dX11_formatOrder_132 rfl rfl rfl ?_
      refine aw_iload_n (j := 2) (i := 1) dX11_formatOrder_133 rfl rfl rfl ?_
      refine aw_callV (M' := mX6_shippedOf) (S := [vR 1018 0, vR 2 0]) (as := [vI a1]) (k := 0) dX11_formatOrder_134 rfl (by decide) rfl rfl gw_1260 gw_1261 gw_1262 mb_X6_shippedOf rfl (Nat.zero_le _) (Nat.le_of_ble_eq_true rfl) rfl (CL.imp k (fun _ h37 k => ?_) (fun _ _ k => k))
      obtain ⟨r38, rfl, k⟩ := oI_of k
      show AW X (d + 1) rb mX11_formatOrder 137 _ [vI r38, vR 1018 0, vR 2 0] h37 Qr Qx
      refine aw_callV (M' := mX2_putNumbered) (S := []) (as := [vR 1018 0, vI r38]) (k := 0) dX11_formatOrder_137 rfl (by decide) rfl rfl gw_1527 gw_1528 gw_1529 mb_X2_putNumbered rfl (Nat.zero_le _) (Nat.le_of_ble_eq_true rfl) rfl (CL.imp k (fun _ h39 k => ?_) (fun _ _ k => k))
      obtain ⟨rfl, k⟩ := oV_of k
      show AW X (d + 1) rb mX11_formatOrder 140 _ [] h39 Qr Qx
      refine aw_aload_n (j := 0) (i := 2) dX11_formatOrder_140 rfl rfl rfl ?_
      refine aw_iload_n (j := 2) (i := 1) dX11_formatOrder_141 rfl rfl rfl ?_
      refine aw_callV (M' := mX6_stateFor) (S := []) (as := [vI a1]) (k := 0) dX11_formatOrder_142 rfl (by decide) rfl rfl gw_1229 gw_1230 gw_1231 mb_X6_stateFor rfl (Nat.zero_le _) (Nat.le_of_ble_eq_true rfl) rfl (CL.imp k (fun _ h40 k => ?_) (fun _ _ k => k))
      obtain ⟨r41, rfl, k⟩ := oI_of k
      show AW X (d + 1) rb mX11_formatOrder 145 _ [vI r41] h40 Qr Qx
      refine aw_iconst (v := 3) dX11_formatOrder_145 rfl (by decide) ?_
      refine aw_icmp_ne 159 dX11_formatOrder_146 rfl rfl (fun c => ?_) (fun c => ?_)
      · replace k := k.1 c
        refine aw_aload_n (j := 1) (i := 0) dX11_formatOrder_159 rfl rfl rfl ?_
        refine aw_getf (k := 4) (z := 2) dX11_formatOrder_160 rfl (by decide) rfl rfl rfl cb_11 (by decide) gw_427 ?_
        refine aw_geti (k := 0) dX11_formatOrder_163 rfl (by decide) rfl rfl cb_2 (by decide) gw_408 ?_
        exact aw_iret dX11_formatOrder_166 rfl k
      · replace k := k.2 c
        refine aw_aload_n (j := 1) (i := 0) dX11_formatOrder_149 rfl rfl rfl ?_
        refine aw_getf (k := 4) (z := 2) dX11_formatOrder_150 rfl (by decide) rfl rfl rfl cb_11 (by decide) gw_427 ?_
        refine aw_ldcSW (j := 19) dX11_formatOrder_153 rfl rfl ?_
        refine aw_callV (M' := mX2_putText) (S := []) (as := [vR 1019 0]) (k := 0) dX11_formatOrder_156 rfl (by decide) rfl rfl gw_1541 gw_1532 gw_1533 mb_X2_putText rfl (Nat.zero_le _) (Nat.le_of_ble_eq_true rfl) rfl (CL.imp k (fun _ h42 k => ?_) (fun _ _ k => k))
        obtain ⟨rfl, k⟩ := oV_of k
        show AW X (d + 1) rb mX11_formatOrder 159 _ [] h42 Qr Qx
        refine aw_aload_n (j := 1) (i := 0) dX11_formatOrder_159 rfl rfl rfl ?_
        refine aw_getf (k := 4) (z := 2) dX11_formatOrder_160 rfl (by decide) rfl rfl rfl cb_11 (by decide) gw_427 ?_
        refine aw_geti (k := 0) dX11_formatOrder_163 rfl (by decide) rfl rfl cb_2 (by decide) gw_408 ?_
        exact aw_iret dX11_formatOrder_166 rfl k
  · refine aw_callV (M' := mX11_checkOrder) (S := []) (as := [vI a1]) (k := rb) dX11_formatOrder_2 rfl (by decide) rfl rfl gw_1224 gw_1226 gw_24 mb_X11_checkOrder rfl (Nat.le_refl _) (Nat.le_of_ble_eq_true rfl) rfl (CL.imp k (fun _ h1 k => ?_) (fun _ _ k => k))
    exact k.elim
set_option maxHeartbeats 4000000 in
set_option maxRecDepth 100000 in
theorem vc_X11_formatNeeds_0 {X : WD → State → Prop} {d rb : Nat} {h : Hp} {Qr : Option AV → Hp → Prop} {Qx : String → Hp → Prop} {a1 : Int32}  (k : (CL 0 d mX11_checkProduct [vR 11 0, vI a1] h (oV fun h1 => CL 0 d mX1_productName [vR 1 (h1.2.2 11 0 6), vI a1] h1 (oJ fun r3 h2 => CL 0 d mX2_begin [vR 2 0, vJ r3] h2 (oV fun h4 => CL 0 d mX2_putText [vR 2 0, vR 1020 0] h4 (oV fun h5 => AW X (d + 1) rb mX11_formatNeeds 32 [(0, vR 11 0), (1, vI a1), (2, vI 0)] [] h5 Qr Qx) Qx) Qx) Qx) Qx) ∨ (CL rb d mX11_checkProduct [vR 11 0, vI a1] h (fun _ _ => False) Qx)) : AW X (d + 1) rb mX11_formatNeeds 0 [(0, vR 11 0), (1, vI a1)] [] h Qr Qx := by
  refine aw_aload_n (j := 0) (i := 0) dX11_formatNeeds_0 rfl rfl rfl ?_
  refine aw_iload_n (j := 1) (i := 1) dX11_formatNeeds_1 rfl rfl rfl ?_
  rcases k with k | k
  · refine aw_callV (M' := mX11_checkProduct) (S := []) (as := [vI a1]) (k := 0) dX11_formatNeeds_2 rfl (by decide) rfl rfl gw_1049 gw_1051 gw_19 mb_X11_checkProduct rfl (Nat.zero_le _) (Nat.le_of_ble_eq_true rfl) rfl (CL.imp k (fun _ h1 k => ?_) (fun _ _ k => k))
    obtain ⟨rfl, k⟩ := oV_of k
    show AW X (d + 1) rb mX11_formatNeeds 5 _ [] h1 Qr Qx
    refine aw_aload_n (j := 0) (i := 0) dX11_formatNeeds_5 rfl rfl rfl ?_
    refine aw_getf (k := 4) (z := 2) dX11_formatNeeds_6 rfl (by decide) rfl rfl rfl cb_11 (by decide) gw_427 ?_
    refine aw_aload_n (j := 0) (i := 0) dX11_formatNeeds_9 rfl rfl rfl ?_
    refine aw_getm (k := 6) (z := 1) dX11_formatNeeds_10 rfl (by decide) rfl rfl cb_11 (by decide) gw_429 ?_
    refine aw_iload_n (j := 1) (i := 1) dX11_formatNeeds_13 rfl rfl rfl ?_
    refine aw_callV (M' := mX1_productName) (S := [vR 2 0]) (as := [vI a1]) (k := 0) dX11_formatNeeds_14 rfl (by decide) rfl rfl gw_1510 gw_1511 gw_1512 mb_X1_productName rfl (Nat.zero_le _) (Nat.le_of_ble_eq_true rfl) rfl (CL.imp k (fun _ h2 k => ?_) (fun _ _ k => k))
    obtain ⟨r3, rfl, k⟩ := oJ_of k
    show AW X (d + 1) rb mX11_formatNeeds 17 _ [vJ r3, vR 2 0] h2 Qr Qx
    refine aw_callV (M' := mX2_begin) (S := []) (as := [vJ r3]) (k := 0) dX11_formatNeeds_17 rfl (by decide) rfl rfl gw_1514 gw_1515 gw_1516 mb_X2_begin rfl (Nat.zero_le _) (Nat.le_of_ble_eq_true rfl) rfl (CL.imp k (fun _ h4 k => ?_) (fun _ _ k => k))
    obtain ⟨rfl, k⟩ := oV_of k
    show AW X (d + 1) rb mX11_formatNeeds 20 _ [] h4 Qr Qx
    refine aw_aload_n (j := 0) (i := 0) dX11_formatNeeds_20 rfl rfl rfl ?_
    refine aw_getf (k := 4) (z := 2) dX11_formatNeeds_21 rfl (by decide) rfl rfl rfl cb_11 (by decide) gw_427 ?_
    refine aw_ldcSW (j := 20) dX11_formatNeeds_24 rfl rfl ?_
    refine aw_callV (M' := mX2_putText) (S := []) (as := [vR 1020 0]) (k := 0) dX11_formatNeeds_27 rfl (by decide) rfl rfl gw_1541 gw_1532 gw_1533 mb_X2_putText rfl (Nat.zero_le _) (Nat.le_of_ble_eq_true rfl) rfl (CL.imp k (fun _ h5 k => ?_) (fun _ _ k => k))
    obtain ⟨rfl, k⟩ := oV_of k
    show AW X (d + 1) rb mX11_formatNeeds 30 _ [] h5 Qr Qx
    refine aw_iconst (v := 0) dX11_formatNeeds_30 rfl (by decide) ?_
    refine aw_istore_n (i := 2) (L2 := [(2, vI 0), (0, vR 11 0), (1, vI a1)]) dX11_formatNeeds_31 rfl rfl (by decide) rfl ?_
    exact aw_sub [1, 2, 0] rfl k
  · refine aw_callV (M' := mX11_checkProduct) (S := []) (as := [vI a1]) (k := rb) dX11_formatNeeds_2 rfl (by decide) rfl rfl gw_1049 gw_1051 gw_19 mb_X11_checkProduct rfl (Nat.le_refl _) (Nat.le_of_ble_eq_true rfl) rfl (CL.imp k (fun _ h1 k => ?_) (fun _ _ k => k))
    exact k.elim
set_option maxHeartbeats 4000000 in
set_option maxRecDepth 100000 in
theorem vc_X11_formatNeeds_32 {X : WD → State → Prop} {d rb : Nat} {h : Hp} {Qr : Option AV → Hp → Prop} {Qx : String → Hp → Prop} {x1 : Int32} {x2 : Int32}  (k : (((h.1 1 (h.2.2 11 0 6) 0) ≤ x2) → Qr (some (vI (h.1 2 0 0))) h) ∧ ((¬ (h.1 1 (h.2.2 11 0 6) 0) ≤ x2) → CL 0 d mX1_needOf [vR 1 (h.2.2 11 0 6), vI x1, vI x2] h (oI fun r2 h1 => ((r2 ≤ 0) → AW X (d + 1) rb mX11_formatNeeds 32 [(0, vR 11 0), (1, vI x1), (2, vI (x2 + 1))] [] h1 Qr Qx) ∧ ((¬ r2 ≤ 0) → CL 0 d mX2_putNumbered [vR 2 0, vR 1021 0, vI r2] h1 (oV fun h3 => CL 0 d mX1_partName [vR 1 (h3.2.2 11 0 6), vI x2] h3 (oJ fun r5 h4 => CL 0 d mX2_putName [vR 2 0, vJ r5] h4 (oV fun h6 => AW X (d + 1) rb mX11_formatNeeds 32 [(0, vR 11 0), (1, vI x1), (2, vI (x2 + 1))] [] h6 Qr Qx) Qx) Qx) Qx)) Qx)) : AW X (d + 1) rb mX11_formatNeeds 32 [(0, vR 11 0), (1, vI x1), (2, vI x2)] [] h Qr Qx := by
  refine aw_iload_n (j := 2) (i := 2) dX11_formatNeeds_32 rfl rfl rfl ?_
  refine aw_aload_n (j := 0) (i := 0) dX11_formatNeeds_33 rfl rfl rfl ?_
  refine aw_getm (k := 6) (z := 1) dX11_formatNeeds_34 rfl (by decide) rfl rfl cb_11 (by decide) gw_429 ?_
  refine aw_geti (k := 0) dX11_formatNeeds_37 rfl (by decide) rfl rfl cb_1 (by decide) gw_175 ?_
  refine aw_icmp_ge 89 dX11_formatNeeds_40 rfl rfl (fun c => ?_) (fun c => ?_)
  · replace k := k.1 c
    refine aw_aload_n (j := 0) (i := 0) dX11_formatNeeds_89 rfl rfl rfl ?_
    refine aw_getf (k := 4) (z := 2) dX11_formatNeeds_90 rfl (by decide) rfl rfl rfl cb_11 (by decide) gw_427 ?_
    refine aw_geti (k := 0) dX11_formatNeeds_93 rfl (by decide) rfl rfl cb_2 (by decide) gw_408 ?_
    exact aw_iret dX11_formatNeeds_96 rfl k
  · replace k := k.2 c
    refine aw_aload_n (j := 0) (i := 0) dX11_formatNeeds_43 rfl rfl rfl ?_
    refine aw_getm (k := 6) (z := 1) dX11_formatNeeds_44 rfl (by decide) rfl rfl cb_11 (by decide) gw_429 ?_
    refine aw_iload_n (j := 1) (i := 1) dX11_formatNeeds_47 rfl rfl rfl ?_
    refine aw_iload_n (j := 2) (i := 2) dX11_formatNeeds_48 rfl rfl rfl ?_
    refine aw_callV (M' := mX1_needOf) (S := []) (as := [vI x1, vI x2]) (k := 0) dX11_formatNeeds_49 rfl (by decide) rfl rfl gw_546 gw_509 gw_510 mb_X1_needOf rfl (Nat.zero_le _) (Nat.le_of_ble_eq_true rfl) rfl (CL.imp k (fun _ h1 k => ?_) (fun _ _ k => k))
    obtain ⟨r2, rfl, k⟩ := oI_of k
    show AW X (d + 1) rb mX11_formatNeeds 52 _ [vI r2] h1 Qr Qx
    refine aw_istore_n (i := 3) (L2 := [(3, vI r2), (0, vR 11 0), (1, vI x1), (2, vI x2)]) dX11_formatNeeds_52 rfl rfl (by decide) rfl ?_
    refine aw_iload_n (j := 0) (i := 3) dX11_formatNeeds_53 rfl rfl rfl ?_
    refine aw_if_le 83 dX11_formatNeeds_54 rfl rfl (fun c => ?_) (fun c => ?_)
    · replace k := k.1 c
      refine aw_iinc (i := 2) (j := 3) (v := x2 + 1) (L2 := [(2, vI (x2 + 1)), (3, vI r2), (0, vR 11 0), (1, vI x1)]) dX11_formatNeeds_83 rfl (by decide) rfl rfl rfl ?_
      refine aw_goto 32 dX11_formatNeeds_86 rfl ?_
      exact aw_sub [2, 3, 0] rfl k
    · replace k := k.2 c
      refine aw_aload_n (j := 1) (i := 0) dX11_formatNeeds_57 rfl rfl rfl ?_
      refine aw_getf (k := 4) (z := 2) dX11_formatNeeds_58 rfl (by decide) rfl rfl rfl cb_11 (by decide) gw_427 ?_
      refine aw_ldcSW (j := 21) dX11_formatNeeds_61 rfl rfl ?_
      refine aw_iload_n (j := 0) (i := 3) dX11_formatNeeds_64 rfl rfl rfl ?_
      refine aw_callV (M' := mX2_putNumbered) (S := []) (as := [vR 1021 0, vI r2]) (k := 0) dX11_formatNeeds_65 rfl (by decide) rfl rfl gw_1527 gw_1528 gw_1529 mb_X2_putNumbered rfl (Nat.zero_le _) (Nat.le_of_ble_eq_true rfl) rfl (CL.imp k (fun _ h3 k => ?_) (fun _ _ k => k))
      obtain ⟨rfl, k⟩ := oV_of k
      show AW X (d + 1) rb mX11_formatNeeds 68 _ [] h3 Qr Qx
      refine aw_aload_n (j := 1) (i := 0) dX11_formatNeeds_68 rfl rfl rfl ?_
      refine aw_getf (k := 4) (z := 2) dX11_formatNeeds_69 rfl (by decide) rfl rfl rfl cb_11 (by decide) gw_427 ?_
      refine aw_aload_n (j := 1) (i := 0) dX11_formatNeeds_72 rfl rfl rfl ?_
      refine aw_getm (k := 6) (z := 1) dX11_formatNeeds_73 rfl (by decide) rfl rfl cb_11 (by decide) gw_429 ?_
      refine aw_iload_n (j := 3) (i := 2) dX11_formatNeeds_76 rfl rfl rfl ?_
      refine aw_callV (M' := mX1_partName) (S := [vR 2 0]) (as := [vI x2]) (k := 0) dX11_formatNeeds_77 rfl (by decide) rfl rfl gw_1555 gw_1556 gw_1557 mb_X1_partName rfl (Nat.zero_le _) (Nat.le_of_ble_eq_true rfl) rfl (CL.imp k (fun _ h4 k => ?_) (fun _ _ k => k))
      obtain ⟨r5, rfl, k⟩ := oJ_of k
      show AW X (d + 1) rb mX11_formatNeeds 80 _ [vJ r5, vR 2 0] h4 Qr Qx
      refine aw_callV (M' := mX2_putName) (S := []) (as := [vJ r5]) (k := 0) dX11_formatNeeds_80 rfl (by decide) rfl rfl gw_1559 gw_1519 gw_1520 mb_X2_putName rfl (Nat.zero_le _) (Nat.le_of_ble_eq_true rfl) rfl (CL.imp k (fun _ h6 k => ?_) (fun _ _ k => k))
      obtain ⟨rfl, k⟩ := oV_of k
      show AW X (d + 1) rb mX11_formatNeeds 83 _ [] h6 Qr Qx
      refine aw_iinc (i := 2) (j := 3) (v := x2 + 1) (L2 := [(2, vI (x2 + 1)), (3, vI r2), (0, vR 11 0), (1, vI x1)]) dX11_formatNeeds_83 rfl (by decide) rfl rfl rfl ?_
      refine aw_goto 32 dX11_formatNeeds_86 rfl ?_
      exact aw_sub [2, 3, 0] rfl k
set_option maxHeartbeats 4000000 in
set_option maxRecDepth 100000 in
theorem vc_X11_formattedByte_0 {X : WD → State → Prop} {d rb : Nat} {h : Hp} {Qr : Option AV → Hp → Prop} {Qx : String → Hp → Prop} {a1 : Int32}  (k : CL 0 d mX2_byteAt [vR 2 0, vI a1] h (oI fun r2 h1 => Qr (some (vI r2)) h1) Qx) : AW X (d + 1) rb mX11_formattedByte 0 [(0, vR 11 0), (1, vI a1)] [] h Qr Qx := by
  refine aw_aload_n (j := 0) (i := 0) dX11_formattedByte_0 rfl rfl rfl ?_
  refine aw_getf (k := 4) (z := 2) dX11_formattedByte_1 rfl (by decide) rfl rfl rfl cb_11 (by decide) gw_427 ?_
  refine aw_iload_n (j := 1) (i := 1) dX11_formattedByte_4 rfl rfl rfl ?_
  refine aw_callV (M' := mX2_byteAt) (S := []) (as := [vI a1]) (k := 0) dX11_formattedByte_5 rfl (by decide) rfl rfl gw_730 gw_731 gw_732 mb_X2_byteAt rfl (Nat.zero_le _) (Nat.le_of_ble_eq_true rfl) rfl (CL.imp k (fun _ h1 k => ?_) (fun _ _ k => k))
  obtain ⟨r2, rfl, k⟩ := oI_of k
  show AW X (d + 1) rb mX11_formattedByte 8 _ [vI r2] h1 Qr Qx
  exact aw_iret dX11_formattedByte_8 rfl k
set_option maxHeartbeats 4000000 in
set_option maxRecDepth 100000 in
theorem vc_X11_checkPart_0 {X : WD → State → Prop} {d rb : Nat} {h : Hp} {Qr : Option AV → Hp → Prop} {Qx : String → Hp → Prop} {a1 : Int32}  (k : CL 0 d mX11_isInside [vI a1, vI (h.1 1 (h.2.2 11 0 6) 0)] h (oI fun r2 h1 => ((¬ r2 = 0) → Qr none h1) ∧ ((r2 = 0) → AW X (d + 1) rb mX11_checkPart 14 [(0, vR 11 0), (1, vI a1)] [] h1 Qr Qx)) Qx) : AW X (d + 1) rb mX11_checkPart 0 [(0, vR 11 0), (1, vI a1)] [] h Qr Qx := by
  refine aw_iload_n (j := 1) (i := 1) dX11_checkPart_0 rfl rfl rfl ?_
  refine aw_aload_n (j := 0) (i := 0) dX11_checkPart_1 rfl rfl rfl ?_
  refine aw_getm (k := 6) (z := 1) dX11_checkPart_2 rfl (by decide) rfl rfl cb_11 (by decide) gw_429 ?_
  refine aw_geti (k := 0) dX11_checkPart_5 rfl (by decide) rfl rfl cb_1 (by decide) gw_175 ?_
  refine aw_callS (M' := mX11_isInside) (S := []) (as := [vI a1, vI (h.1 1 (h.2.2 11 0 6) 0)]) (k := 0) dX11_checkPart_8 rfl gw_1053 gw_461 mb_X11_isInside rfl (Nat.zero_le _) (Nat.le_of_ble_eq_true rfl) rfl (CL.imp k (fun _ h1 k => ?_) (fun _ _ k => k))
  obtain ⟨r2, rfl, k⟩ := oI_of k
  show AW X (d + 1) rb mX11_checkPart 11 _ [vI r2] h1 Qr Qx
  refine aw_if_ne 25 dX11_checkPart_11 rfl rfl (fun c => ?_) (fun c => ?_)
  · replace k := k.1 c
    exact aw_vret dX11_checkPart_25 rfl k
  · replace k := k.2 c
    exact aw_sub [0, 1] rfl k
set_option maxHeartbeats 4000000 in
set_option maxRecDepth 100000 in
theorem vc_X11_checkPart_14 {X : WD → State → Prop} {d rb : Nat} {h : Hp} {Qr : Option AV → Hp → Prop} {Qx : String → Hp → Prop} {x1 : Int32}  (k : Qx "java/lang/IndexOutOfBoundsException" h) : AW X (d + 6) (rb + 1) mX11_checkPart 14 [(0, vR 11 0), (1, vI x1)] [] h Qr Qx := by
  exact aw_throwW (j := 7) rfl dX11_checkPart_14 dX11_checkPart_17 dX11_checkPart_18 dX11_checkPart_21 dX11_checkPart_24 rfl gw_1054 gw_109 (by decide +kernel) (by decide +kernel) ex_a_394_398_IndexOutOfBoundsException ex_b_394_398_IndexOutOfBoundsException ex_c_394_398_IndexOutOfBoundsException (Nat.le_of_ble_eq_true rfl) k
set_option maxHeartbeats 4000000 in
set_option maxRecDepth 100000 in
theorem vc_X11_checkProduct_0 {X : WD → State → Prop} {d rb : Nat} {h : Hp} {Qr : Option AV → Hp → Prop} {Qx : String → Hp → Prop} {a1 : Int32}  (k : CL 0 d mX11_isInside [vI a1, vI (h.1 1 (h.2.2 11 0 6) 1)] h (oI fun r2 h1 => ((¬ r2 = 0) → Qr none h1) ∧ ((r2 = 0) → AW X (d + 1) rb mX11_checkProduct 14 [(0, vR 11 0), (1, vI a1)] [] h1 Qr Qx)) Qx) : AW X (d + 1) rb mX11_checkProduct 0 [(0, vR 11 0), (1, vI a1)] [] h Qr Qx := by
  refine aw_iload_n (j := 1) (i := 1) dX11_checkProduct_0 rfl rfl rfl ?_
  refine aw_aload_n (j := 0) (i := 0) dX11_checkProduct_1 rfl rfl rfl ?_
  refine aw_getm (k := 6) (z := 1) dX11_checkProduct_2 rfl (by decide) rfl rfl cb_11 (by decide) gw_429 ?_
  refine aw_geti (k := 1) dX11_checkProduct_5 rfl (by decide) rfl rfl cb_1 (by decide) gw_177 ?_
  refine aw_callS (M' := mX11_isInside) (S := []) (as := [vI a1, vI (h.1 1 (h.2.2 11 0 6) 1)]) (k := 0) dX11_checkProduct_8 rfl gw_1053 gw_461 mb_X11_isInside rfl (Nat.zero_le _) (Nat.le_of_ble_eq_true rfl) rfl (CL.imp k (fun _ h1 k => ?_) (fun _ _ k => k))
  obtain ⟨r2, rfl, k⟩ := oI_of k
  show AW X (d + 1) rb mX11_checkProduct 11 _ [vI r2] h1 Qr Qx
  refine aw_if_ne 25 dX11_checkProduct_11 rfl rfl (fun c => ?_) (fun c => ?_)
  · replace k := k.1 c
    exact aw_vret dX11_checkProduct_25 rfl k
  · replace k := k.2 c
    exact aw_sub [0, 1] rfl k
set_option maxHeartbeats 4000000 in
set_option maxRecDepth 100000 in
theorem vc_X11_checkProduct_14 {X : WD → State → Prop} {d rb : Nat} {h : Hp} {Qr : Option AV → Hp → Prop} {Qx : String → Hp → Prop} {x1 : Int32}  (k : Qx "java/lang/IndexOutOfBoundsException" h) : AW X (d + 6) (rb + 1) mX11_checkProduct 14 [(0, vR 11 0), (1, vI x1)] [] h Qr Qx := by
  exact aw_throwW (j := 6) rfl dX11_checkProduct_14 dX11_checkProduct_17 dX11_checkProduct_18 dX11_checkProduct_21 dX11_checkProduct_24 rfl gw_1054 gw_109 (by decide +kernel) (by decide +kernel) ex_a_394_398_IndexOutOfBoundsException ex_b_394_398_IndexOutOfBoundsException ex_c_394_398_IndexOutOfBoundsException (Nat.le_of_ble_eq_true rfl) k
set_option maxHeartbeats 4000000 in
set_option maxRecDepth 100000 in
theorem vc_X11_checkOrder_0 {X : WD → State → Prop} {d rb : Nat} {h : Hp} {Qr : Option AV → Hp → Prop} {Qx : String → Hp → Prop} {a1 : Int32}  (k : CL 0 d mX11_isInside [vI a1, vI (h.1 6 (h.2.2 11 0 7) 0)] h (oI fun r2 h1 => ((¬ r2 = 0) → Qr none h1) ∧ ((r2 = 0) → AW X (d + 1) rb mX11_checkOrder 17 [(0, vR 11 0), (1, vI a1)] [] h1 Qr Qx)) Qx) : AW X (d + 1) rb mX11_checkOrder 0 [(0, vR 11 0), (1, vI a1)] [] h Qr Qx := by
  refine aw_iload_n (j := 1) (i := 1) dX11_checkOrder_0 rfl rfl rfl ?_
  refine aw_aload_n (j := 0) (i := 0) dX11_checkOrder_1 rfl rfl rfl ?_
  refine aw_getm (k := 7) (z := 5) dX11_checkOrder_2 rfl (by decide) rfl rfl cb_11 (by decide) gw_430 ?_
  refine aw_getf (k := 1) (z := 6) dX11_checkOrder_5 rfl (by decide) rfl rfl rfl cb_5 (by decide) gw_327 ?_
  refine aw_geti (k := 0) dX11_checkOrder_8 rfl (by decide) rfl rfl cb_6 (by decide) gw_272 ?_
  refine aw_callS (M' := mX11_isInside) (S := []) (as := [vI a1, vI (h.1 6 (h.2.2 11 0 7) 0)]) (k := 0) dX11_checkOrder_11 rfl gw_1053 gw_461 mb_X11_isInside rfl (Nat.zero_le _) (Nat.le_of_ble_eq_true rfl) rfl (CL.imp k (fun _ h1 k => ?_) (fun _ _ k => k))
  obtain ⟨r2, rfl, k⟩ := oI_of k
  show AW X (d + 1) rb mX11_checkOrder 14 _ [vI r2] h1 Qr Qx
  refine aw_if_ne 28 dX11_checkOrder_14 rfl rfl (fun c => ?_) (fun c => ?_)
  · replace k := k.1 c
    exact aw_vret dX11_checkOrder_28 rfl k
  · replace k := k.2 c
    exact aw_sub [0, 1] rfl k
set_option maxHeartbeats 4000000 in
set_option maxRecDepth 100000 in
theorem vc_X11_checkOrder_17 {X : WD → State → Prop} {d rb : Nat} {h : Hp} {Qr : Option AV → Hp → Prop} {Qx : String → Hp → Prop} {x1 : Int32}  (k : Qx "java/lang/IndexOutOfBoundsException" h) : AW X (d + 6) (rb + 1) mX11_checkOrder 17 [(0, vR 11 0), (1, vI x1)] [] h Qr Qx := by
  exact aw_throwW (j := 9) rfl dX11_checkOrder_17 dX11_checkOrder_20 dX11_checkOrder_21 dX11_checkOrder_24 dX11_checkOrder_27 rfl gw_1054 gw_109 (by decide +kernel) (by decide +kernel) ex_a_394_398_IndexOutOfBoundsException ex_b_394_398_IndexOutOfBoundsException ex_c_394_398_IndexOutOfBoundsException (Nat.le_of_ble_eq_true rfl) k
set_option maxHeartbeats 4000000 in
set_option maxRecDepth 100000 in
theorem vc_X11_checkRung_0 {X : WD → State → Prop} {d rb : Nat} {h : Hp} {Qr : Option AV → Hp → Prop} {Qx : String → Hp → Prop} {a1 : Int32}  (k : CL 0 d mX11_isInside [vI a1, vI (h.1 1 (h.2.2 11 0 6) 2)] h (oI fun r2 h1 => ((¬ r2 = 0) → Qr none h1) ∧ ((r2 = 0) → AW X (d + 1) rb mX11_checkRung 14 [(0, vR 11 0), (1, vI a1)] [] h1 Qr Qx)) Qx) : AW X (d + 1) rb mX11_checkRung 0 [(0, vR 11 0), (1, vI a1)] [] h Qr Qx := by
  refine aw_iload_n (j := 1) (i := 1) dX11_checkRung_0 rfl rfl rfl ?_
  refine aw_aload_n (j := 0) (i := 0) dX11_checkRung_1 rfl rfl rfl ?_
  refine aw_getm (k := 6) (z := 1) dX11_checkRung_2 rfl (by decide) rfl rfl cb_11 (by decide) gw_429 ?_
  refine aw_geti (k := 2) dX11_checkRung_5 rfl (by decide) rfl rfl cb_1 (by decide) gw_182 ?_
  refine aw_callS (M' := mX11_isInside) (S := []) (as := [vI a1, vI (h.1 1 (h.2.2 11 0 6) 2)]) (k := 0) dX11_checkRung_8 rfl gw_1053 gw_461 mb_X11_isInside rfl (Nat.zero_le _) (Nat.le_of_ble_eq_true rfl) rfl (CL.imp k (fun _ h1 k => ?_) (fun _ _ k => k))
  obtain ⟨r2, rfl, k⟩ := oI_of k
  show AW X (d + 1) rb mX11_checkRung 11 _ [vI r2] h1 Qr Qx
  refine aw_if_ne 25 dX11_checkRung_11 rfl rfl (fun c => ?_) (fun c => ?_)
  · replace k := k.1 c
    exact aw_vret dX11_checkRung_25 rfl k
  · replace k := k.2 c
    exact aw_sub [0, 1] rfl k
set_option maxHeartbeats 4000000 in
set_option maxRecDepth 100000 in
theorem vc_X11_checkRung_14 {X : WD → State → Prop} {d rb : Nat} {h : Hp} {Qr : Option AV → Hp → Prop} {Qx : String → Hp → Prop} {x1 : Int32}  (k : Qx "java/lang/IndexOutOfBoundsException" h) : AW X (d + 6) (rb + 1) mX11_checkRung 14 [(0, vR 11 0), (1, vI x1)] [] h Qr Qx := by
  exact aw_throwW (j := 10) rfl dX11_checkRung_14 dX11_checkRung_17 dX11_checkRung_18 dX11_checkRung_21 dX11_checkRung_24 rfl gw_1054 gw_109 (by decide +kernel) (by decide +kernel) ex_a_394_398_IndexOutOfBoundsException ex_b_394_398_IndexOutOfBoundsException ex_c_394_398_IndexOutOfBoundsException (Nat.le_of_ble_eq_true rfl) k
set_option maxHeartbeats 4000000 in
set_option maxRecDepth 100000 in
theorem vc_X11_checkArgument_0 {X : WD → State → Prop} {d rb : Nat} {h : Hp} {Qr : Option AV → Hp → Prop} {Qx : String → Hp → Prop} {a0 : Int32}  (k : ((¬ a0 = 0) → Qr none h) ∧ ((a0 = 0) → AW X (d + 1) rb mX11_checkArgument 4 [(0, vI a0)] [] h Qr Qx)) : AW X (d + 1) rb mX11_checkArgument 0 [(0, vI a0)] [] h Qr Qx := by
  refine aw_iload_n (j := 0) (i := 0) dX11_checkArgument_0 rfl rfl rfl ?_
  refine aw_if_ne 15 dX11_checkArgument_1 rfl rfl (fun c => ?_) (fun c => ?_)
  · replace k := k.1 c
    exact aw_vret dX11_checkArgument_15 rfl k
  · replace k := k.2 c
    exact aw_sub [0] rfl k
set_option maxHeartbeats 4000000 in
set_option maxRecDepth 100000 in
theorem vc_X11_checkArgument_4 {X : WD → State → Prop} {d rb : Nat} {h : Hp} {Qr : Option AV → Hp → Prop} {Qx : String → Hp → Prop} {x0 : Int32}  (k : Qx "java/lang/IllegalArgumentException" h) : AW X (d + 6) (rb + 1) mX11_checkArgument 4 [(0, vI x0)] [] h Qr Qx := by
  exact aw_throwW (j := 8) rfl dX11_checkArgument_4 dX11_checkArgument_7 dX11_checkArgument_8 dX11_checkArgument_11 dX11_checkArgument_14 rfl gw_962 gw_108 (by decide +kernel) (by decide +kernel) ex_a_99_103_IllegalArgumentException ex_b_99_103_IllegalArgumentException ex_c_99_103_IllegalArgumentException (Nat.le_of_ble_eq_true rfl) k
set_option maxHeartbeats 4000000 in
set_option maxRecDepth 100000 in
theorem vc_X11_checkState_0 {X : WD → State → Prop} {d rb : Nat} {h : Hp} {Qr : Option AV → Hp → Prop} {Qx : String → Hp → Prop} {a0 : Int32}  (k : ((¬ a0 = 0) → Qr none h) ∧ ((a0 = 0) → AW X (d + 1) rb mX11_checkState 4 [(0, vI a0)] [] h Qr Qx)) : AW X (d + 1) rb mX11_checkState 0 [(0, vI a0)] [] h Qr Qx := by
  refine aw_iload_n (j := 0) (i := 0) dX11_checkState_0 rfl rfl rfl ?_
  refine aw_if_ne 15 dX11_checkState_1 rfl rfl (fun c => ?_) (fun c => ?_)
  · replace k := k.1 c
    exact aw_vret dX11_checkState_15 rfl k
  · replace k := k.2 c
    exact aw_sub [0] rfl k
set_option maxHeartbeats 4000000 in
set_option maxRecDepth 100000 in
theorem vc_X11_checkState_4 {X : WD → State → Prop} {d rb : Nat} {h : Hp} {Qr : Option AV → Hp → Prop} {Qx : String → Hp → Prop} {x0 : Int32}  (k : Qx "java/lang/IllegalStateException" h) : AW X (d + 6) (rb + 1) mX11_checkState 4 [(0, vI x0)] [] h Qr Qx := by
  exact aw_throwW (j := 11) rfl dX11_checkState_4 dX11_checkState_7 dX11_checkState_8 dX11_checkState_11 dX11_checkState_14 rfl gw_1380 gw_110 (by decide +kernel) (by decide +kernel) ex_a_407_411_IllegalStateException ex_b_407_411_IllegalStateException ex_c_407_411_IllegalStateException (Nat.le_of_ble_eq_true rfl) k
set_option maxHeartbeats 4000000 in
set_option maxRecDepth 100000 in
theorem vc_X11_isInside_0 {X : WD → State → Prop} {d rb : Nat} {h : Hp} {Qr : Option AV → Hp → Prop} {Qx : String → Hp → Prop} {a0 : Int32} {a1 : Int32}  (k : ((if a0 < 0 then (0 : Int32) else (if a1 ≤ a0 then (0 : Int32) else 1)) = 0 ∨ (if a0 < 0 then (0 : Int32) else (if a1 ≤ a0 then (0 : Int32) else 1)) = 1) ∧ Qr (some (vI (if a0 < 0 then (0 : Int32) else (if a1 ≤ a0 then (0 : Int32) else 1)))) h) : AW X (d + 1) rb mX11_isInside 0 [(0, vI a0), (1, vI a1)] [] h Qr Qx := by
  refine aw_iload_n (j := 0) (i := 0) dX11_isInside_0 rfl rfl rfl ?_
  have kk : AW X (d + 1) rb mX11_isInside 14 [(0, vI a0), (1, vI a1)] [vI (if a0 < 0 then (0 : Int32) else (if a1 ≤ a0 then (0 : Int32) else 1))] h Qr Qx := by
    exact aw_zret dX11_isInside_14 rfl k.1 k.2
  refine aw_if_lt 13 dX11_isInside_1 rfl rfl (fun (c0 : a0 < 0) => ?_) (fun (c0 : ¬ a0 < 0) => ?_)
  · refine aw_iconst (v := 0) dX11_isInside_13 rfl (by decide) ?_
    simp only [if_pos c0] at kk
    exact kk
  · refine aw_iload_n (j := 0) (i := 0) dX11_isInside_4 rfl rfl rfl ?_
    refine aw_iload_n (j := 1) (i := 1) dX11_isInside_5 rfl rfl rfl ?_
    refine aw_icmp_ge 13 dX11_isInside_6 rfl rfl (fun (c1 : a1 ≤ a0) => ?_) (fun (c1 : ¬ a1 ≤ a0) => ?_)
    · refine aw_iconst (v := 0) dX11_isInside_13 rfl (by decide) ?_
      simp only [if_neg c0, if_pos c1] at kk
      exact kk
    · refine aw_iconst (v := 1) dX11_isInside_9 rfl (by decide) ?_
      refine aw_goto 14 dX11_isInside_10 rfl ?_
      simp only [if_neg c0, if_neg c1] at kk
      exact kk
set_option maxHeartbeats 4000000 in
set_option maxRecDepth 100000 in
theorem vc_X11_isClosed_0 {X : WD → State → Prop} {d rb : Nat} {h : Hp} {Qr : Option AV → Hp → Prop} {Qx : String → Hp → Prop} {a1 : Int32}  (k : CL 0 d mX6_stateFor [vR 6 (h.2.2 11 0 7), vI a1] h (oI fun r2 h1 => ((if r2 = 2 then (1 : Int32) else (if ¬ r2 = 3 then (0 : Int32) else 1)) = 0 ∨ (if r2 = 2 then (1 : Int32) else (if ¬ r2 = 3 then (0 : Int32) else 1)) = 1) ∧ Qr (some (vI (if r2 = 2 then (1 : Int32) else (if ¬ r2 = 3 then (0 : Int32) else 1)))) h1) Qx) : AW X (d + 1) rb mX11_isClosed 0 [(0, vR 11 0), (1, vI a1)] [] h Qr Qx := by
  refine aw_aload_n (j := 0) (i := 0) dX11_isClosed_0 rfl rfl rfl ?_
  refine aw_getm (k := 7) (z := 5) dX11_isClosed_1 rfl (by decide) rfl rfl cb_11 (by decide) gw_430 ?_
  refine aw_getf (k := 1) (z := 6) dX11_isClosed_4 rfl (by decide) rfl rfl rfl cb_5 (by decide) gw_327 ?_
  refine aw_iload_n (j := 1) (i := 1) dX11_isClosed_7 rfl rfl rfl ?_
  refine aw_callV (M' := mX6_stateFor) (S := []) (as := [vI a1]) (k := 0) dX11_isClosed_8 rfl (by decide) rfl rfl gw_1229 gw_1230 gw_1231 mb_X6_stateFor rfl (Nat.zero_le _) (Nat.le_of_ble_eq_true rfl) rfl (CL.imp k (fun _ h1 k => ?_) (fun _ _ k => k))
  obtain ⟨r2, rfl, k⟩ := oI_of k
  show AW X (d + 1) rb mX11_isClosed 11 _ [vI r2] h1 Qr Qx
  refine aw_istore_n (i := 2) (L2 := [(2, vI r2), (0, vR 11 0), (1, vI a1)]) dX11_isClosed_11 rfl rfl (by decide) rfl ?_
  refine aw_iload_n (j := 0) (i := 2) dX11_isClosed_12 rfl rfl rfl ?_
  refine aw_iconst (v := 2) dX11_isClosed_13 rfl (by decide) ?_
  have kk : AW X (d + 1) rb mX11_isClosed 27 [(2, vI r2), (0, vR 11 0), (1, vI a1)] [vI (if r2 = 2 then (1 : Int32) else (if ¬ r2 = 3 then (0 : Int32) else 1))] h1 Qr Qx := by
    exact aw_zret dX11_isClosed_27 rfl k.1 k.2
  refine aw_icmp_eq 22 dX11_isClosed_14 rfl rfl (fun (c0 : r2 = 2) => ?_) (fun (c0 : ¬ r2 = 2) => ?_)
  · refine aw_iconst (v := 1) dX11_isClosed_22 rfl (by decide) ?_
    refine aw_goto 27 dX11_isClosed_23 rfl ?_
    simp only [if_pos c0] at kk
    exact kk
  · refine aw_iload_n (j := 0) (i := 2) dX11_isClosed_17 rfl rfl rfl ?_
    refine aw_iconst (v := 3) dX11_isClosed_18 rfl (by decide) ?_
    refine aw_icmp_ne 26 dX11_isClosed_19 rfl rfl (fun (c1 : ¬ r2 = 3) => ?_) (fun (c1 : r2 = 3) => ?_)
    · refine aw_iconst (v := 0) dX11_isClosed_26 rfl (by decide) ?_
      simp only [if_neg c0, if_pos c1] at kk
      exact kk
    · refine aw_iconst (v := 1) dX11_isClosed_22 rfl (by decide) ?_
      refine aw_goto 27 dX11_isClosed_23 rfl ?_
      simp only [if_neg c0, if_neg (oa_nn c1)] at kk
      exact kk
set_option maxHeartbeats 4000000 in
set_option maxRecDepth 100000 in
theorem vc_X11_shortageOf_0 {X : WD → State → Prop} {d rb : Nat} {h : Hp} {Qr : Option AV → Hp → Prop} {Qx : String → Hp → Prop} {a1 : Int32} {a2 : Int32}  (k : CL 0 d mX6_openOf [vR 6 (h.2.2 11 0 7), vI a1] h (oI fun r2 h1 => CL 0 d mX6_productOf [vR 6 (h1.2.2 11 0 7), vI a1] h1 (oI fun r4 h3 => CL 0 d mX1_needOf [vR 1 (h1.2.2 11 0 6), vI r4, vI a2] h3 (oI fun r6 h5 => CL 0 d mX10_freeOf [vR 10 (h5.2.2 11 0 7), vI a2] h5 (oI fun r8 h7 => Qr (some (vI (if 0 < ((r2 * r6) - r8) then ((r2 * r6) - r8) else 0))) h7) Qx) Qx) Qx) Qx) : AW X (d + 1) rb mX11_shortageOf 0 [(0, vR 11 0), (1, vI a1), (2, vI a2)] [] h Qr Qx := by
  refine aw_aload_n (j := 0) (i := 0) dX11_shortageOf_0 rfl rfl rfl ?_
  refine aw_getm (k := 7) (z := 5) dX11_shortageOf_1 rfl (by decide) rfl rfl cb_11 (by decide) gw_430 ?_
  refine aw_getf (k := 1) (z := 6) dX11_shortageOf_4 rfl (by decide) rfl rfl rfl cb_5 (by decide) gw_327 ?_
  refine aw_iload_n (j := 1) (i := 1) dX11_shortageOf_7 rfl rfl rfl ?_
  refine aw_callV (M' := mX6_openOf) (S := []) (as := [vI a1]) (k := 0) dX11_shortageOf_8 rfl (by decide) rfl rfl gw_540 gw_500 gw_501 mb_X6_openOf rfl (Nat.zero_le _) (Nat.le_of_ble_eq_true rfl) rfl (CL.imp k (fun _ h1 k => ?_) (fun _ _ k => k))
  obtain ⟨r2, rfl, k⟩ := oI_of k
  show AW X (d + 1) rb mX11_shortageOf 11 _ [vI r2] h1 Qr Qx
  refine aw_aload_n (j := 0) (i := 0) dX11_shortageOf_11 rfl rfl rfl ?_
  refine aw_getm (k := 6) (z := 1) dX11_shortageOf_12 rfl (by decide) rfl rfl cb_11 (by decide) gw_429 ?_
  refine aw_aload_n (j := 0) (i := 0) dX11_shortageOf_15 rfl rfl rfl ?_
  refine aw_getm (k := 7) (z := 5) dX11_shortageOf_16 rfl (by decide) rfl rfl cb_11 (by decide) gw_430 ?_
  refine aw_getf (k := 1) (z := 6) dX11_shortageOf_19 rfl (by decide) rfl rfl rfl cb_5 (by decide) gw_327 ?_
  refine aw_iload_n (j := 1) (i := 1) dX11_shortageOf_22 rfl rfl rfl ?_
  refine aw_callV (M' := mX6_productOf) (S := [vR 1 (h1.2.2 11 0 6), vI r2]) (as := [vI a1]) (k := 0) dX11_shortageOf_23 rfl (by decide) rfl rfl gw_541 gw_505 gw_506 mb_X6_productOf rfl (Nat.zero_le _) (Nat.le_of_ble_eq_true rfl) rfl (CL.imp k (fun _ h3 k => ?_) (fun _ _ k => k))
  obtain ⟨r4, rfl, k⟩ := oI_of k
  show AW X (d + 1) rb mX11_shortageOf 26 _ [vI r4, vR 1 (h1.2.2 11 0 6), vI r2] h3 Qr Qx
  refine aw_iload_n (j := 2) (i := 2) dX11_shortageOf_26 rfl rfl rfl ?_
  refine aw_callV (M' := mX1_needOf) (S := [vI r2]) (as := [vI r4, vI a2]) (k := 0) dX11_shortageOf_27 rfl (by decide) rfl rfl gw_546 gw_509 gw_510 mb_X1_needOf rfl (Nat.zero_le _) (Nat.le_of_ble_eq_true rfl) rfl (CL.imp k (fun _ h5 k => ?_) (fun _ _ k => k))
  obtain ⟨r6, rfl, k⟩ := oI_of k
  show AW X (d + 1) rb mX11_shortageOf 30 _ [vI r6, vI r2] h5 Qr Qx
  refine aw_imul dX11_shortageOf_30 rfl ?_
  refine aw_istore_n (i := 3) (L2 := [(3, vI (r2 * r6)), (0, vR 11 0), (1, vI a1), (2, vI a2)]) dX11_shortageOf_31 rfl rfl (by decide) rfl ?_
  refine aw_iconst (v := 0) dX11_shortageOf_32 rfl (by decide) ?_
  refine aw_iload_n (j := 0) (i := 3) dX11_shortageOf_33 rfl rfl rfl ?_
  refine aw_aload_n (j := 1) (i := 0) dX11_shortageOf_34 rfl rfl rfl ?_
  refine aw_getm (k := 7) (z := 5) dX11_shortageOf_35 rfl (by decide) rfl rfl cb_11 (by decide) gw_430 ?_
  refine aw_getf (k := 0) (z := 10) dX11_shortageOf_38 rfl (by decide) rfl rfl rfl cb_5 (by decide) gw_322 ?_
  refine aw_iload_n (j := 3) (i := 2) dX11_shortageOf_41 rfl rfl rfl ?_
  refine aw_callV (M' := mX10_freeOf) (S := [vI (r2 * r6), vI 0]) (as := [vI a2]) (k := 0) dX11_shortageOf_42 rfl (by decide) rfl rfl gw_512 gw_513 gw_514 mb_X10_freeOf rfl (Nat.zero_le _) (Nat.le_of_ble_eq_true rfl) rfl (CL.imp k (fun _ h7 k => ?_) (fun _ _ k => k))
  obtain ⟨r8, rfl, k⟩ := oI_of k
  show AW X (d + 1) rb mX11_shortageOf 45 _ [vI r8, vI (r2 * r6), vI 0] h7 Qr Qx
  refine aw_isub dX11_shortageOf_45 rfl ?_
  refine aw_max dX11_shortageOf_46 rfl gw_533 gw_534 gw_104 gw_535 (Nat.le_of_ble_eq_true rfl) ?_
  exact aw_iret dX11_shortageOf_49 rfl k
set_option maxHeartbeats 4000000 in
set_option maxRecDepth 100000 in
theorem vc_X11_shortageOfAll_0 {X : WD → State → Prop} {d rb : Nat} {h : Hp} {Qr : Option AV → Hp → Prop} {Qx : String → Hp → Prop} {a1 : Int32}  (k : CL 0 d mX5_openPieces [vR 5 (h.2.2 11 0 7), vR 1 (h.2.2 11 0 6), vI a1] h (oI fun r2 h1 => CL 0 d mX10_freeOf [vR 10 (h.2.2 11 0 7), vI a1] h1 (oI fun r4 h3 => CL 0 d mX10_allArriving [vR 10 (h.2.2 11 0 7), vI a1] h3 (oI fun r6 h5 => Qr (some (vI (if 0 < ((r2 - r4) - r6) then ((r2 - r4) - r6) else 0))) h5) Qx) Qx) Qx) : AW X (d + 1) rb mX11_shortageOfAll 0 [(0, vR 11 0), (1, vI a1)] [] h Qr Qx := by
  refine aw_aload_n (j := 0) (i := 0) dX11_shortageOfAll_0 rfl rfl rfl ?_
  refine aw_getm (k := 7) (z := 5) dX11_shortageOfAll_1 rfl (by decide) rfl rfl cb_11 (by decide) gw_430 ?_
  refine aw_getf (k := 0) (z := 10) dX11_shortageOfAll_4 rfl (by decide) rfl rfl rfl cb_5 (by decide) gw_322 ?_
  refine aw_astore_n (i := 2) (L2 := [(2, vR 10 (h.2.2 11 0 7)), (0, vR 11 0), (1, vI a1)]) dX11_shortageOfAll_7 rfl rfl (by decide) rfl ?_
  refine aw_aload_n (j := 1) (i := 0) dX11_shortageOfAll_8 rfl rfl rfl ?_
  refine aw_getm (k := 7) (z := 5) dX11_shortageOfAll_9 rfl (by decide) rfl rfl cb_11 (by decide) gw_430 ?_
  refine aw_aload_n (j := 1) (i := 0) dX11_shortageOfAll_12 rfl rfl rfl ?_
  refine aw_getm (k := 6) (z := 1) dX11_shortageOfAll_13 rfl (by decide) rfl rfl cb_11 (by decide) gw_429 ?_
  refine aw_iload_n (j := 2) (i := 1) dX11_shortageOfAll_16 rfl rfl rfl ?_
  refine aw_callV (M' := mX5_openPieces) (S := []) (as := [vR 1 (h.2.2 11 0 6), vI a1]) (k := 0) dX11_shortageOfAll_17 rfl (by decide) rfl rfl gw_495 gw_496 gw_497 mb_X5_openPieces rfl (Nat.zero_le _) (Nat.le_of_ble_eq_true rfl) rfl (CL.imp k (fun _ h1 k => ?_) (fun _ _ k => k))
  obtain ⟨r2, rfl, k⟩ := oI_of k
  show AW X (d + 1) rb mX11_shortageOfAll 20 _ [vI r2] h1 Qr Qx
  refine aw_istore_n (i := 3) (L2 := [(3, vI r2), (2, vR 10 (h.2.2 11 0 7)), (0, vR 11 0), (1, vI a1)]) dX11_shortageOfAll_20 rfl rfl (by decide) rfl ?_
  refine aw_iconst (v := 0) dX11_shortageOfAll_21 rfl (by decide) ?_
  refine aw_iload_n (j := 0) (i := 3) dX11_shortageOfAll_22 rfl rfl rfl ?_
  refine aw_aload_n (j := 1) (i := 2) dX11_shortageOfAll_23 rfl rfl rfl ?_
  refine aw_iload_n (j := 3) (i := 1) dX11_shortageOfAll_24 rfl rfl rfl ?_
  refine aw_callV (M' := mX10_freeOf) (S := [vI r2, vI 0]) (as := [vI a1]) (k := 0) dX11_shortageOfAll_25 rfl (by decide) rfl rfl gw_512 gw_513 gw_514 mb_X10_freeOf rfl (Nat.zero_le _) (Nat.le_of_ble_eq_true rfl) rfl (CL.imp k (fun _ h3 k => ?_) (fun _ _ k => k))
  obtain ⟨r4, rfl, k⟩ := oI_of k
  show AW X (d + 1) rb mX11_shortageOfAll 28 _ [vI r4, vI r2, vI 0] h3 Qr Qx
  refine aw_isub dX11_shortageOfAll_28 rfl ?_
  refine aw_aload_n (j := 1) (i := 2) dX11_shortageOfAll_29 rfl rfl rfl ?_
  refine aw_iload_n (j := 3) (i := 1) dX11_shortageOfAll_30 rfl rfl rfl ?_
  refine aw_callV (M' := mX10_allArriving) (S := [vI (r2 - r4), vI 0]) (as := [vI a1]) (k := 0) dX11_shortageOfAll_31 rfl (by decide) rfl rfl gw_525 gw_526 gw_527 mb_X10_allArriving rfl (Nat.zero_le _) (Nat.le_of_ble_eq_true rfl) rfl (CL.imp k (fun _ h5 k => ?_) (fun _ _ k => k))
  obtain ⟨r6, rfl, k⟩ := oI_of k
  show AW X (d + 1) rb mX11_shortageOfAll 34 _ [vI r6, vI (r2 - r4), vI 0] h5 Qr Qx
  refine aw_isub dX11_shortageOfAll_34 rfl ?_
  refine aw_max dX11_shortageOfAll_35 rfl gw_533 gw_534 gw_104 gw_535 (Nat.le_of_ble_eq_true rfl) ?_
  exact aw_iret dX11_shortageOfAll_38 rfl k
set_option maxHeartbeats 4000000 in
set_option maxRecDepth 100000 in
theorem vc_X11_dayOfPart_0 {X : WD → State → Prop} {d rb : Nat} {h : Hp} {Qr : Option AV → Hp → Prop} {Qx : String → Hp → Prop} {a1 : Int32} {a2 : Int32}  (k : CL 0 d mX1_leadTimeOf [vR 1 (h.2.2 11 0 6), vI a1] h (oI fun r2 h1 => CL 0 d mX10_dayFor [vR 10 (h.2.2 11 0 7), vI a1, vI a2, vI r2] h1 (oI fun r4 h3 => Qr (some (vI r4)) h3) Qx) Qx) : AW X (d + 1) rb mX11_dayOfPart 0 [(0, vR 11 0), (1, vI a1), (2, vI a2)] [] h Qr Qx := by
  refine aw_aload_n (j := 0) (i := 0) dX11_dayOfPart_0 rfl rfl rfl ?_
  refine aw_getm (k := 7) (z := 5) dX11_dayOfPart_1 rfl (by decide) rfl rfl cb_11 (by decide) gw_430 ?_
  refine aw_getf (k := 0) (z := 10) dX11_dayOfPart_4 rfl (by decide) rfl rfl rfl cb_5 (by decide) gw_322 ?_
  refine aw_iload_n (j := 1) (i := 1) dX11_dayOfPart_7 rfl rfl rfl ?_
  refine aw_iload_n (j := 2) (i := 2) dX11_dayOfPart_8 rfl rfl rfl ?_
  refine aw_aload_n (j := 0) (i := 0) dX11_dayOfPart_9 rfl rfl rfl ?_
  refine aw_getm (k := 6) (z := 1) dX11_dayOfPart_10 rfl (by decide) rfl rfl cb_11 (by decide) gw_429 ?_
  refine aw_iload_n (j := 1) (i := 1) dX11_dayOfPart_13 rfl rfl rfl ?_
  refine aw_callV (M' := mX1_leadTimeOf) (S := [vI a2, vI a1, vR 10 (h.2.2 11 0 7)]) (as := [vI a1]) (k := 0) dX11_dayOfPart_14 rfl (by decide) rfl rfl gw_551 gw_552 gw_553 mb_X1_leadTimeOf rfl (Nat.zero_le _) (Nat.le_of_ble_eq_true rfl) rfl (CL.imp k (fun _ h1 k => ?_) (fun _ _ k => k))
  obtain ⟨r2, rfl, k⟩ := oI_of k
  show AW X (d + 1) rb mX11_dayOfPart 17 _ [vI r2, vI a2, vI a1, vR 10 (h.2.2 11 0 7)] h1 Qr Qx
  refine aw_callV (M' := mX10_dayFor) (S := []) (as := [vI a1, vI a2, vI r2]) (k := 0) dX11_dayOfPart_17 rfl (by decide) rfl rfl gw_556 gw_557 gw_558 mb_X10_dayFor rfl (Nat.zero_le _) (Nat.le_of_ble_eq_true rfl) rfl (CL.imp k (fun _ h3 k => ?_) (fun _ _ k => k))
  obtain ⟨r4, rfl, k⟩ := oI_of k
  show AW X (d + 1) rb mX11_dayOfPart 20 _ [vI r4] h3 Qr Qx
  exact aw_iret dX11_dayOfPart_20 rfl k
set_option maxHeartbeats 4000000 in
set_option maxRecDepth 100000 in
theorem vc_X11_promiseDate_0 {X : WD → State → Prop} {d rb : Nat} {h : Hp} {Qr : Option AV → Hp → Prop} {Qx : String → Hp → Prop} {a1 : Int32} {a2 : Int32}  (k : AW X (d + 1) rb mX11_promiseDate 14 [(0, vR 11 0), (1, vI a1), (2, vI a2), (3, vI (h.1 10 (h.2.2 11 0 7) 0)), (4, vI 0)] [] h Qr Qx) : AW X (d + 1) rb mX11_promiseDate 0 [(0, vR 11 0), (1, vI a1), (2, vI a2)] [] h Qr Qx := by
  refine aw_aload_n (j := 0) (i := 0) dX11_promiseDate_0 rfl rfl rfl ?_
  refine aw_getm (k := 7) (z := 5) dX11_promiseDate_1 rfl (by decide) rfl rfl cb_11 (by decide) gw_430 ?_
  refine aw_getf (k := 0) (z := 10) dX11_promiseDate_4 rfl (by decide) rfl rfl rfl cb_5 (by decide) gw_322 ?_
  refine aw_geti (k := 0) dX11_promiseDate_7 rfl (by decide) rfl rfl cb_10 (by decide) gw_239 ?_
  refine aw_istore_n (i := 3) (L2 := [(3, vI (h.1 10 (h.2.2 11 0 7) 0)), (0, vR 11 0), (1, vI a1), (2, vI a2)]) dX11_promiseDate_10 rfl rfl (by decide) rfl ?_
  refine aw_iconst (v := 0) dX11_promiseDate_11 rfl (by decide) ?_
  refine aw_istore (i := 4) (L2 := [(4, vI 0), (3, vI (h.1 10 (h.2.2 11 0 7) 0)), (0, vR 11 0), (1, vI a1), (2, vI a2)]) dX11_promiseDate_12 rfl (by decide) rfl ?_
  exact aw_sub [2, 3, 4, 1, 0] rfl k
set_option maxHeartbeats 4000000 in
set_option maxRecDepth 100000 in
theorem vc_X11_promiseDate_14 {X : WD → State → Prop} {d rb : Nat} {h : Hp} {Qr : Option AV → Hp → Prop} {Qx : String → Hp → Prop} {x1 : Int32} {x2 : Int32} {x3 : Int32} {x4 : Int32}  (k : (((h.1 1 (h.2.2 11 0 6) 0) ≤ x4) → Qr (some (vI x3)) h) ∧ ((¬ (h.1 1 (h.2.2 11 0 6) 0) ≤ x4) → CL 0 d mX1_needOf [vR 1 (h.2.2 11 0 6), vI x1, vI x4] h (oI fun r2 h1 => ((r2 ≤ 0) → AW X (d + 1) rb mX11_promiseDate 14 [(0, vR 11 0), (1, vI x1), (2, vI x2), (3, vI x3), (4, vI (x4 + 1))] [] h1 Qr Qx) ∧ ((¬ r2 ≤ 0) → CL 0 d mX11_dayOfPart [vR 11 0, vI x4, vI (x2 * r2)] h1 (oI fun r4 h3 => AW X (d + 1) rb mX11_promiseDate 14 [(0, vR 11 0), (1, vI x1), (2, vI x2), (3, vI (if x3 < r4 then r4 else x3)), (4, vI (x4 + 1))] [] h3 Qr Qx) Qx)) Qx)) : AW X (d + 1) rb mX11_promiseDate 14 [(0, vR 11 0), (1, vI x1), (2, vI x2), (3, vI x3), (4, vI x4)] [] h Qr Qx := by
  refine aw_iload (j := 4) (i := 4) dX11_promiseDate_14 rfl rfl ?_
  refine aw_aload_n (j := 0) (i := 0) dX11_promiseDate_16 rfl rfl rfl ?_
  refine aw_getm (k := 6) (z := 1) dX11_promiseDate_17 rfl (by decide) rfl rfl cb_11 (by decide) gw_429 ?_
  refine aw_geti (k := 0) dX11_promiseDate_20 rfl (by decide) rfl rfl cb_1 (by decide) gw_175 ?_
  refine aw_icmp_ge 64 dX11_promiseDate_23 rfl rfl (fun c => ?_) (fun c => ?_)
  · replace k := k.1 c
    refine aw_iload_n (j := 3) (i := 3) dX11_promiseDate_64 rfl rfl rfl ?_
    exact aw_iret dX11_promiseDate_65 rfl k
  · replace k := k.2 c
    refine aw_aload_n (j := 0) (i := 0) dX11_promiseDate_26 rfl rfl rfl ?_
    refine aw_getm (k := 6) (z := 1) dX11_promiseDate_27 rfl (by decide) rfl rfl cb_11 (by decide) gw_429 ?_
    refine aw_iload_n (j := 1) (i := 1) dX11_promiseDate_30 rfl rfl rfl ?_
    refine aw_iload (j := 4) (i := 4) dX11_promiseDate_31 rfl rfl ?_
    refine aw_callV (M' := mX1_needOf) (S := []) (as := [vI x1, vI x4]) (k := 0) dX11_promiseDate_33 rfl (by decide) rfl rfl gw_546 gw_509 gw_510 mb_X1_needOf rfl (Nat.zero_le _) (Nat.le_of_ble_eq_true rfl) rfl (CL.imp k (fun _ h1 k => ?_) (fun _ _ k => k))
    obtain ⟨r2, rfl, k⟩ := oI_of k
    show AW X (d + 1) rb mX11_promiseDate 36 _ [vI r2] h1 Qr Qx
    refine aw_istore (i := 5) (L2 := [(5, vI r2), (0, vR 11 0), (1, vI x1), (2, vI x2), (3, vI x3), (4, vI x4)]) dX11_promiseDate_36 rfl (by decide) rfl ?_
    refine aw_iload (j := 0) (i := 5) dX11_promiseDate_38 rfl rfl ?_
    refine aw_if_le 58 dX11_promiseDate_40 rfl rfl (fun c => ?_) (fun c => ?_)
    · replace k := k.1 c
      refine aw_iinc (i := 4) (j := 5) (v := x4 + 1) (L2 := [(4, vI (x4 + 1)), (5, vI r2), (0, vR 11 0), (1, vI x1), (2, vI x2), (3, vI x3)]) dX11_promiseDate_58 rfl (by decide) rfl rfl rfl ?_
      refine aw_goto 14 dX11_promiseDate_61 rfl ?_
      exact aw_sub [2, 3, 4, 5, 0] rfl k
    · replace k := k.2 c
      refine aw_iload_n (j := 4) (i := 3) dX11_promiseDate_43 rfl rfl rfl ?_
      refine aw_aload_n (j := 1) (i := 0) dX11_promiseDate_44 rfl rfl rfl ?_
      refine aw_iload (j := 5) (i := 4) dX11_promiseDate_45 rfl rfl ?_
      refine aw_iload_n (j := 3) (i := 2) dX11_promiseDate_47 rfl rfl rfl ?_
      refine aw_iload (j := 0) (i := 5) dX11_promiseDate_48 rfl rfl ?_
      refine aw_imul dX11_promiseDate_50 rfl ?_
      refine aw_callV (M' := mX11_dayOfPart) (S := [vI x3]) (as := [vI x4, vI (x2 * r2)]) (k := 0) dX11_promiseDate_51 rfl (by decide) rfl rfl gw_547 gw_549 gw_3 mb_X11_dayOfPart rfl (Nat.zero_le _) (Nat.le_of_ble_eq_true rfl) rfl (CL.imp k (fun _ h3 k => ?_) (fun _ _ k => k))
      obtain ⟨r4, rfl, k⟩ := oI_of k
      show AW X (d + 1) rb mX11_promiseDate 54 _ [vI r4, vI x3] h3 Qr Qx
      refine aw_max dX11_promiseDate_54 rfl gw_533 gw_534 gw_104 gw_535 (Nat.le_of_ble_eq_true rfl) ?_
      refine aw_istore_n (i := 3) (L2 := [(3, vI (if x3 < r4 then r4 else x3)), (5, vI r2), (0, vR 11 0), (1, vI x1), (2, vI x2), (4, vI x4)]) dX11_promiseDate_57 rfl rfl (by decide) rfl ?_
      refine aw_iinc (i := 4) (j := 5) (v := x4 + 1) (L2 := [(4, vI (x4 + 1)), (3, vI (if x3 < r4 then r4 else x3)), (5, vI r2), (0, vR 11 0), (1, vI x1), (2, vI x2)]) dX11_promiseDate_58 rfl (by decide) rfl rfl rfl ?_
      refine aw_goto 14 dX11_promiseDate_61 rfl ?_
      exact aw_sub [3, 4, 5, 1, 0] rfl k
