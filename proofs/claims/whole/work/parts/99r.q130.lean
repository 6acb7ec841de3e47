/-! making the objects: OrderAssemblerModel (ctor2.py) -/
def fin_X12 (b : Nat) : List Value := [.int 0, .ref (b), .ref (b + 1), .int 0, .int 0, .int 0, .int 0, .int 0, .int 0, .int (-1), .int 0, .ref (b + 2), .ref (b + 3), .int 0, .ref (b + 4), .ref (b + 5), .int 0, .ref (b + 6), .ref (b + 7), .ref (b + 8), .ref (b + 9), .ref (b + 10), .int 0, .ref (b + 11), .int 0]
def bz_sg12 (g : BC) (b : Nat) : List va_E := [.inl (g.2.2 1, (900, .inl fun _ => 0))] ++ [.inl (g.2.2 0, (5, .inl fun _ => 0))] ++ [.inl (g.2.2 0, (506, .inl fun _ => 0))] ++ [.inl (g.2.2 0, (506, .inl fun _ => 0))] ++ [.inl (g.2.2 0, (301, .inl fun _ => 0))] ++ [.inl (g.2.2 0, (3612, .inl fun _ => 0))] ++ [.inl (g.2.2 0, (12, .inl fun _ => 0))] ++ [.inl (g.2.2 0, (12, .inl fun _ => 0))] ++ [.inl (g.2.2 0, (20, .inl fun _ => 0))] ++ [.inl (g.2.2 0, (20, .inl fun _ => 0))] ++ [.inl (g.2.2 0, (6, .inl fun _ => 0))] ++ [.inl (g.2.2 1, (320, .inl fun _ => 0))]
def bz_rd0 : Nat → Int32 := bz_ur (upd (fun _ => 0) 2 1)
def new_X12 (g : BC) (b : Nat) : List va_E := ((bz_sg12 g b).set 3 (va_E_i g 506 bz_rd0)).set 2 (va_E_i g 506 (bz_cp bz_rd0 506))
theorem ct_X12 (g : BC) (d : Nat) : CT g (d + 2) 12 6220 mX12_init 12 [.int 0, .null, .null, .int 0, .int 0, .int 0, .int 0, .int 0, .int 0, .int 0, .int 0, .null, .null, .int 0, .null, .null, .int 0, .null, .null, .null, .null, .null, .int 0, .null, .int 0] fin_X12 (new_X12 g) := by
  refine CT.of (fun b => rfl) (by decide) (Nat.le_of_ble_eq_true rfl) (fun es k hk => ?_)
  refine bw_aload_n (j := 0) (a := g.1 + k) iX12_0 rfl rfl rfl rfl ?_
  refine bw_obj iX12_1 rfl gi_1585 gi_118 gi_119 (Nat.le_of_ble_eq_true rfl) ?_
  refine bw_aload_n (j := 0) (a := g.1 + k) iX12_4 rfl rfl rfl rfl ?_
  refine bw_sipush (v := 900) iX12_5 rfl (by decide) ?_
  refine bn_newa (kc := 11) (ks := 5320) (atype := .byte) (ty := .byte) (j := 1) (N := 900) (a0 := (900, .inl fun _ => 0)) (n0 := 0) iX12_8 rfl gi_147 rfl rfl (fun C h => nomatch h) (fun _ => rfl) (by decide) (by decide) (Nat.le_of_ble_eq_true rfl) rfl ?_
  refine bn_putF (j := 1) iX12_10 rfl cb_12 (by decide) gi_1595 rfl rfl rfl rfl rfl (Nat.le_of_ble_eq_true rfl) hk ?_
  refine bw_aload_n (j := 0) (a := g.1 + k) iX12_13 rfl rfl rfl rfl ?_
  refine bw_iconst (v := 5) iX12_14 rfl (by decide) ?_
  refine bn_newa (kc := 10) (ks := 5315) (atype := .int) (ty := .int) (j := 0) (N := 5) (a0 := (5, .inl fun _ => 0)) (n0 := 1) iX12_15 rfl gi_224 rfl rfl (fun C h => nomatch h) (fun _ => rfl) (by decide) (by decide) (Nat.le_of_ble_eq_true rfl) rfl ?_
  refine bn_putF (j := 2) iX12_17 rfl cb_12 (by decide) gi_1596 rfl rfl rfl rfl rfl (Nat.le_of_ble_eq_true rfl) hk ?_
  refine bw_aload_n (j := 0) (a := g.1 + k) iX12_20 rfl rfl rfl rfl ?_
  refine bw_iconst (v := -1) iX12_21 rfl (by decide) ?_
  refine bn_put (j := 9) iX12_22 rfl cb_12 (by decide) gi_1603 rfl rfl rfl (Nat.le_of_ble_eq_true rfl) hk ?_
  refine bw_aload_n (j := 0) (a := g.1 + k) iX12_25 rfl rfl rfl rfl ?_
  refine bw_sipush (v := 506) iX12_26 rfl (by decide) ?_
  refine bn_newa (kc := 9) (ks := 4809) (atype := .int) (ty := .int) (j := 0) (N := 506) (a0 := (506, .inl fun _ => 0)) (n0 := 2) iX12_29 rfl gi_224 rfl rfl (fun C h => nomatch h) (fun _ => rfl) (by decide) (by decide) (Nat.le_of_ble_eq_true rfl) rfl ?_
  refine bn_putF (j := 11) iX12_31 rfl cb_12 (by decide) gi_1605 rfl rfl rfl rfl rfl (Nat.le_of_ble_eq_true rfl) hk ?_
  refine bw_aload_n (j := 0) (a := g.1 + k) iX12_34 rfl rfl rfl rfl ?_
  refine bw_sipush (v := 506) iX12_35 rfl (by decide) ?_
  refine bn_newa (kc := 8) (ks := 4303) (atype := .int) (ty := .int) (j := 0) (N := 506) (a0 := (506, .inl fun _ => 0)) (n0 := 3) iX12_38 rfl gi_224 rfl rfl (fun C h => nomatch h) (fun _ => rfl) (by decide) (by decide) (Nat.le_of_ble_eq_true rfl) rfl ?_
  refine bn_putF (j := 12) iX12_40 rfl cb_12 (by decide) gi_1606 rfl rfl rfl rfl rfl (Nat.le_of_ble_eq_true rfl) hk ?_
  refine bw_aload_n (j := 0) (a := g.1 + k) iX12_43 rfl rfl rfl rfl ?_
  refine bw_sipush (v := 301) iX12_44 rfl (by decide) ?_
  refine bn_newa (kc := 7) (ks := 4002) (atype := .int) (ty := .int) (j := 0) (N := 301) (a0 := (301, .inl fun _ => 0)) (n0 := 4) iX12_47 rfl gi_224 rfl rfl (fun C h => nomatch h) (fun _ => rfl) (by decide) (by decide) (Nat.le_of_ble_eq_true rfl) rfl ?_
  refine bn_putF (j := 14) iX12_49 rfl cb_12 (by decide) gi_1608 rfl rfl rfl rfl rfl (Nat.le_of_ble_eq_true rfl) hk ?_
  refine bw_aload_n (j := 0) (a := g.1 + k) iX12_52 rfl rfl rfl rfl ?_
  refine bw_sipush (v := 3612) iX12_53 rfl (by decide) ?_
  refine bn_newa (kc := 6) (ks := 390) (atype := .int) (ty := .int) (j := 0) (N := 3612) (a0 := (3612, .inl fun _ => 0)) (n0 := 5) iX12_56 rfl gi_224 rfl rfl (fun C h => nomatch h) (fun _ => rfl) (by decide) (by decide) (Nat.le_of_ble_eq_true rfl) rfl ?_
  refine bn_putF (j := 15) iX12_58 rfl cb_12 (by decide) gi_1609 rfl rfl rfl rfl rfl (Nat.le_of_ble_eq_true rfl) hk ?_
  refine bw_aload_n (j := 0) (a := g.1 + k) iX12_61 rfl rfl rfl rfl ?_
  refine bw_bipush (v := 12) iX12_62 rfl (by decide) ?_
  refine bn_newa (kc := 5) (ks := 378) (atype := .int) (ty := .int) (j := 0) (N := 12) (a0 := (12, .inl fun _ => 0)) (n0 := 6) iX12_64 rfl gi_224 rfl rfl (fun C h => nomatch h) (fun _ => rfl) (by decide) (by decide) (Nat.le_of_ble_eq_true rfl) rfl ?_
  refine bn_putF (j := 17) iX12_66 rfl cb_12 (by decide) gi_1611 rfl rfl rfl rfl rfl (Nat.le_of_ble_eq_true rfl) hk ?_
  refine bw_aload_n (j := 0) (a := g.1 + k) iX12_69 rfl rfl rfl rfl ?_
  refine bw_bipush (v := 12) iX12_70 rfl (by decide) ?_
  refine bn_newa (kc := 4) (ks := 366) (atype := .int) (ty := .int) (j := 0) (N := 12) (a0 := (12, .inl fun _ => 0)) (n0 := 7) iX12_72 rfl gi_224 rfl rfl (fun C h => nomatch h) (fun _ => rfl) (by decide) (by decide) (Nat.le_of_ble_eq_true rfl) rfl ?_
  refine bn_putF (j := 18) iX12_74 rfl cb_12 (by decide) gi_1612 rfl rfl rfl rfl rfl (Nat.le_of_ble_eq_true rfl) hk ?_
  refine bw_aload_n (j := 0) (a := g.1 + k) iX12_77 rfl rfl rfl rfl ?_
  refine bw_bipush (v := 20) iX12_78 rfl (by decide) ?_
  refine bn_newa (kc := 3) (ks := 346) (atype := .int) (ty := .int) (j := 0) (N := 20) (a0 := (20, .inl fun _ => 0)) (n0 := 8) iX12_80 rfl gi_224 rfl rfl (fun C h => nomatch h) (fun _ => rfl) (by decide) (by decide) (Nat.le_of_ble_eq_true rfl) rfl ?_
  refine bn_putF (j := 19) iX12_82 rfl cb_12 (by decide) gi_1613 rfl rfl rfl rfl rfl (Nat.le_of_ble_eq_true rfl) hk ?_
  refine bw_aload_n (j := 0) (a := g.1 + k) iX12_85 rfl rfl rfl rfl ?_
  refine bw_bipush (v := 20) iX12_86 rfl (by decide) ?_
  refine bn_newa (kc := 2) (ks := 326) (atype := .int) (ty := .int) (j := 0) (N := 20) (a0 := (20, .inl fun _ => 0)) (n0 := 9) iX12_88 rfl gi_224 rfl rfl (fun C h => nomatch h) (fun _ => rfl) (by decide) (by decide) (Nat.le_of_ble_eq_true rfl) rfl ?_
  refine bn_putF (j := 20) iX12_90 rfl cb_12 (by decide) gi_1614 rfl rfl rfl rfl rfl (Nat.le_of_ble_eq_true rfl) hk ?_
  refine bw_aload_n (j := 0) (a := g.1 + k) iX12_93 rfl rfl rfl rfl ?_
  refine bw_bipush (v := 6) iX12_94 rfl (by decide) ?_
  refine bn_newa (kc := 1) (ks := 320) (atype := .int) (ty := .int) (j := 0) (N := 6) (a0 := (6, .inl fun _ => 0)) (n0 := 10) iX12_96 rfl gi_224 rfl rfl (fun C h => nomatch h) (fun _ => rfl) (by decide) (by decide) (Nat.le_of_ble_eq_true rfl) rfl ?_
  refine bn_putF (j := 21) iX12_98 rfl cb_12 (by decide) gi_1615 rfl rfl rfl rfl rfl (Nat.le_of_ble_eq_true rfl) hk ?_
  refine bw_aload_n (j := 0) (a := g.1 + k) iX12_101 rfl rfl rfl rfl ?_
  refine bw_sipush (v := 320) iX12_102 rfl (by decide) ?_
  refine bn_newa (kc := 0) (ks := 0) (atype := .byte) (ty := .byte) (j := 1) (N := 320) (a0 := (320, .inl fun _ => 0)) (n0 := 11) iX12_105 rfl gi_147 rfl rfl (fun C h => nomatch h) (fun _ => rfl) (by decide) (by decide) (Nat.le_of_ble_eq_true rfl) rfl ?_
  refine bn_putF (j := 23) iX12_107 rfl cb_12 (by decide) gi_1617 rfl rfl rfl rfl rfl (Nat.le_of_ble_eq_true rfl) hk ?_
  show BW g _ 0 0 _ _ _ _ (es.set k (.inr (12, fin_X12 (g.1 + es.length))) ++ bz_sg12 g (g.1 + es.length)) _
  refine bw_aload_n (j := 0) (a := g.1 + k) iX12_110 rfl rfl rfl rfl ?_
  refine bw_get (k := 12) (v := .ref (g.1 + (es.length + 3))) iX12_111 rfl (bn_at hk) cb_12 (by decide) gi_1606 rfl ?_
  refine bw_iconst (v := 2) iX12_114 rfl (by decide) ?_
  refine bw_iconst (v := 1) iX12_115 rfl (by decide) ?_
  refine bw_iast (N := 506) (f := fun _ => 0) iX12_116 rfl (bn_in rfl) (by unfold vp_in; decide) ?_
  rw [bn_sets]
  refine bw_aload_n (j := 0) (a := g.1 + k) iX12_117 rfl rfl rfl rfl ?_
  refine bw_vcall (M' := mX12_usualRung) (q0 := k) (as := []) (S := []) iX12_118 rfl gw_1586 mb_X12_usualRung rfl rfl gw_1588 gw_30 rfl (bn_at hk) (Nat.le_of_ble_eq_true rfl) rfl (bl_usualRung (d := d) (q := es.length + 3) (f := upd (fun _ => 0) 2 1) (bn_at hk) rfl (bn_in rfl)) (fun es2 h => ?_) (fun es2 h => ?_)
  · rw [h, List.length_set]
  rw [h, bn_sets, List.set_set]
  refine bw_aload_n (j := 0) (a := g.1 + k) iX12_121 rfl rfl rfl rfl ?_
  refine bw_vcall (M' := mX12_takesOver) (q0 := k) (as := []) (S := []) iX12_122 rfl gw_1590 mb_X12_takesOver rfl rfl gw_1592 gw_31 rfl (bn_at hk) (Nat.le_of_ble_eq_true rfl) rfl (bl_takesOver (d := d) (q1 := es.length + 2) (q2 := es.length + 3) (q3 := es.length + 4) (f := bz_rd0) (bn_at hk) rfl rfl rfl rfl (bn_in rfl) (bn_in rfl) (bn_in rfl) (by omega) (by decide) (by decide)) (fun es3 h3 => ?_) (fun es3 h3 => ?_)
  · rw [h3, List.length_set]
  rw [h3, bn_sets]
  exact bw_ret iX12_125 rfl rfl
