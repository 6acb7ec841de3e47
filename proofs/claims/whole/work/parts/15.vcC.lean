set_option maxHeartbeats 4000000 in
set_option maxRecDepth 100000 in
theorem vc_X12_thrown_0 {X : WD → State → Prop} {d rb : Nat} {h : Hp} {Qr : Option AV → Hp → Prop} {Qx : String → Hp → Prop}   (k : Qr (some (vI (h.1 12 0 0))) h) : AW X (d + 1) rb mX12_thrown 0 [(0, vR 12 0)] [] h Qr Qx := by
  refine aw_aload_n (j := 0) (i := 0) dX12_thrown_0 rfl rfl rfl ?_
  refine aw_geti (k := 0) dX12_thrown_1 rfl (by decide) rfl rfl cb_12 (by decide) gw_1594 ?_
  exact aw_iret dX12_thrown_4 rfl k
set_option maxHeartbeats 4000000 in
set_option maxRecDepth 100000 in
theorem vc_X12_throwsIf_0 {X : WD → State → Prop} {d rb : Nat} {h : Hp} {Qr : Option AV → Hp → Prop} {Qx : String → Hp → Prop} {a1 : Int32} {a2 : Int32}  (k : ((a1 = 0) → (a1 = 0 ∨ a1 = 1) ∧ Qr (some (vI a1)) h) ∧ ((¬ a1 = 0) → (a1 = 0 ∨ a1 = 1) ∧ Qr (some (vI a1)) (hp_i h 12 0 0 a2))) : AW X (d + 1) rb mX12_throwsIf 0 [(0, vR 12 0), (1, vI a1), (2, vI a2)] [] h Qr Qx := by
  refine aw_iload_n (j := 1) (i := 1) dX12_throwsIf_0 rfl rfl rfl ?_
  refine aw_if_eq 9 dX12_throwsIf_1 rfl rfl (fun c => ?_) (fun c => ?_)
  · replace k := k.1 c
    refine aw_iload_n (j := 1) (i := 1) dX12_throwsIf_9 rfl rfl rfl ?_
    exact aw_zret dX12_throwsIf_10 rfl k.1 k.2
  · replace k := k.2 c
    refine aw_aload_n (j := 0) (i := 0) dX12_throwsIf_4 rfl rfl rfl ?_
    refine aw_iload_n (j := 2) (i := 2) dX12_throwsIf_5 rfl rfl rfl ?_
    refine aw_puti (k := 0) dX12_throwsIf_6 rfl (by decide) rfl rfl cb_12 (by decide) rfl rfl gw_1594 ?_
    refine aw_iload_n (j := 1) (i := 1) dX12_throwsIf_9 rfl rfl rfl ?_
    exact aw_zret dX12_throwsIf_10 rfl k.1 k.2
set_option maxHeartbeats 4000000 in
set_option maxRecDepth 100000 in
theorem vc_X12_in_0 {X : WD → State → Prop} {d rb : Nat} {h : Hp} {Qr : Option AV → Hp → Prop} {Qx : String → Hp → Prop} {a0 : Int32} {a1 : Int32} {a2 : Int32}  (k : ((if a0 < a1 then (0 : Int32) else (if a2 < a0 then (0 : Int32) else 1)) = 0 ∨ (if a0 < a1 then (0 : Int32) else (if a2 < a0 then (0 : Int32) else 1)) = 1) ∧ Qr (some (vI (if a0 < a1 then (0 : Int32) else (if a2 < a0 then (0 : Int32) else 1)))) h) : AW X (d + 1) rb mX12_in 0 [(0, vI a0), (1, vI a1), (2, vI a2)] [] h Qr Qx := by
  refine aw_iload_n (j := 0) (i := 0) dX12_in_0 rfl rfl rfl ?_
  refine aw_iload_n (j := 1) (i := 1) dX12_in_1 rfl rfl rfl ?_
  have kk : AW X (d + 1) rb mX12_in 15 [(0, vI a0), (1, vI a1), (2, vI a2)] [vI (if a0 < a1 then (0 : Int32) else (if a2 < a0 then (0 : Int32) else 1))] h Qr Qx := by
    exact aw_zret dX12_in_15 rfl k.1 k.2
  refine aw_icmp_lt 14 dX12_in_2 rfl rfl (fun (c0 : a0 < a1) => ?_) (fun (c0 : ¬ a0 < a1) => ?_)
  · refine aw_iconst (v := 0) dX12_in_14 rfl (by decide) ?_
    simp only [if_pos c0] at kk
    exact kk
  · refine aw_iload_n (j := 0) (i := 0) dX12_in_5 rfl rfl rfl ?_
    refine aw_iload_n (j := 2) (i := 2) dX12_in_6 rfl rfl rfl ?_
    refine aw_icmp_gt 14 dX12_in_7 rfl rfl (fun (c1 : a2 < a0) => ?_) (fun (c1 : ¬ a2 < a0) => ?_)
    · refine aw_iconst (v := 0) dX12_in_14 rfl (by decide) ?_
      simp only [if_neg c0, if_pos c1] at kk
      exact kk
    · refine aw_iconst (v := 1) dX12_in_10 rfl (by decide) ?_
      refine aw_goto 15 dX12_in_11 rfl ?_
      simp only [if_neg c0, if_neg c1] at kk
      exact kk
set_option maxHeartbeats 4000000 in
set_option maxRecDepth 100000 in
theorem vc_X12_append_0 {X : WD → State → Prop} {d rb : Nat} {h : Hp} {Qr : Option AV → Hp → Prop} {Qx : String → Hp → Prop} {a1 : Int32} {a2 : Int32} {a3 : Int32} {a4 : Int32} {a5 : Int32}  (k : (((((hp_i h 12 0 0 0).1 12 0 3) + 20) ≤ 900) → AW X (d + 1) rb mX12_append 60 [(0, vR 12 0), (1, vI a1), (2, vI a2), (3, vI a3), (4, vI a4), (5, vI a5), (6, vI 0)] [] (hp_i (hp_i (hp_i (hp_i (hp_i (hp_i h 12 0 0 0) 55 0 0 a1) 55 0 1 a2) 55 0 2 a3) 55 0 3 a4) 55 0 4 a5) Qr Qx) ∧ ((¬ (((hp_i h 12 0 0 0).1 12 0 3) + 20) ≤ 900) → Qr (some (vI (-1))) (hp_i h 12 0 0 0))) : AW X (d + 1) rb mX12_append 0 [(0, vR 12 0), (1, vI a1), (2, vI a2), (3, vI a3), (4, vI a4), (5, vI a5)] [] h Qr Qx := by
  refine aw_aload_n (j := 0) (i := 0) dX12_append_0 rfl rfl rfl ?_
  refine aw_iconst (v := 0) dX12_append_1 rfl (by decide) ?_
  refine aw_puti (k := 0) dX12_append_2 rfl (by decide) rfl rfl cb_12 (by decide) rfl rfl gw_1594 ?_
  refine aw_aload_n (j := 0) (i := 0) dX12_append_5 rfl rfl rfl ?_
  refine aw_geti (k := 3) dX12_append_6 rfl (by decide) rfl rfl cb_12 (by decide) gw_1597 ?_
  refine aw_bipush (v := 20) dX12_append_9 rfl (by decide) ?_
  refine aw_iadd dX12_append_11 rfl ?_
  refine aw_sipush (v := 900) dX12_append_12 rfl (by decide) ?_
  refine aw_icmp_le 20 dX12_append_15 rfl rfl (fun c => ?_) (fun c => ?_)
  · replace k := k.1 c
    refine aw_aload_n (j := 0) (i := 0) dX12_append_20 rfl rfl rfl ?_
    refine aw_getf (k := 2) (z := 55) dX12_append_21 rfl (by decide) rfl rfl rfl cb_12 (by decide) gw_1596 ?_
    refine aw_iconst (v := 0) dX12_append_24 rfl (by decide) ?_
    refine aw_iload_n (j := 1) (i := 1) dX12_append_25 rfl rfl rfl ?_
    refine aw_iast dX12_append_26 rfl (by decide) rfl (by unfold vp_in; decide) ?_
    refine aw_aload_n (j := 0) (i := 0) dX12_append_27 rfl rfl rfl ?_
    refine aw_getf (k := 2) (z := 55) dX12_append_28 rfl (by decide) rfl rfl rfl cb_12 (by decide) gw_1596 ?_
    refine aw_iconst (v := 1) dX12_append_31 rfl (by decide) ?_
    refine aw_iload_n (j := 2) (i := 2) dX12_append_32 rfl rfl rfl ?_
    refine aw_iast dX12_append_33 rfl (by decide) rfl (by unfold vp_in; decide) ?_
    refine aw_aload_n (j := 0) (i := 0) dX12_append_34 rfl rfl rfl ?_
    refine aw_getf (k := 2) (z := 55) dX12_append_35 rfl (by decide) rfl rfl rfl cb_12 (by decide) gw_1596 ?_
    refine aw_iconst (v := 2) dX12_append_38 rfl (by decide) ?_
    refine aw_iload_n (j := 3) (i := 3) dX12_append_39 rfl rfl rfl ?_
    refine aw_iast dX12_append_40 rfl (by decide) rfl (by unfold vp_in; decide) ?_
    refine aw_aload_n (j := 0) (i := 0) dX12_append_41 rfl rfl rfl ?_
    refine aw_getf (k := 2) (z := 55) dX12_append_42 rfl (by decide) rfl rfl rfl cb_12 (by decide) gw_1596 ?_
    refine aw_iconst (v := 3) dX12_append_45 rfl (by decide) ?_
    refine aw_iload (j := 4) (i := 4) dX12_append_46 rfl rfl ?_
    refine aw_iast dX12_append_48 rfl (by decide) rfl (by unfold vp_in; decide) ?_
    refine aw_aload_n (j := 0) (i := 0) dX12_append_49 rfl rfl rfl ?_
    refine aw_getf (k := 2) (z := 55) dX12_append_50 rfl (by decide) rfl rfl rfl cb_12 (by decide) gw_1596 ?_
    refine aw_iconst (v := 4) dX12_append_53 rfl (by decide) ?_
    refine aw_iload (j := 5) (i := 5) dX12_append_54 rfl rfl ?_
    refine aw_iast dX12_append_56 rfl (by decide) rfl (by unfold vp_in; decide) ?_
    refine aw_iconst (v := 0) dX12_append_57 rfl (by decide) ?_
    refine aw_istore (i := 6) (L2 := [(6, vI 0), (0, vR 12 0), (1, vI a1), (2, vI a2), (3, vI a3), (4, vI a4), (5, vI a5)]) dX12_append_58 rfl (by decide) rfl ?_
    exact aw_sub [1, 2, 3, 4, 5, 6, 0] rfl k
  · replace k := k.2 c
    refine aw_iconst (v := (-1)) dX12_append_18 rfl (by decide) ?_
    exact aw_iret dX12_append_19 rfl k
set_option maxHeartbeats 4000000 in
set_option maxRecDepth 100000 in
theorem vc_X12_append_60 {X : WD → State → Prop} {d rb : Nat} {h : Hp} {Qr : Option AV → Hp → Prop} {Qx : String → Hp → Prop} {x1 : Int32} {x2 : Int32} {x3 : Int32} {x4 : Int32} {x5 : Int32} {x6 : Int32}  (k : ((20 ≤ x6) → Qr (some (vI ((hp_i h 12 0 3 ((h.1 12 0 3) + 20)).1 12 0 3))) (hp_i h 12 0 3 ((h.1 12 0 3) + 20))) ∧ ((¬ 20 ≤ x6) → (vp_in (x6 / 4) 5) ∧ (vp_in ((h.1 12 0 3) + x6) 900) ∧ AW X (d + 1) rb mX12_append 60 [(0, vR 12 0), (1, vI x1), (2, vI x2), (3, vI x3), (4, vI x4), (5, vI x5), (6, vI (x6 + 1))] [] (hp_i h 54 0 (((h.1 12 0 3) + x6).toNatClampNeg) (vp_nar .byte (((h.1 55 0 ((x6 / 4).toNatClampNeg)) >>> ((24 - (8 * (x6 - x6 / 4 * 4))) &&& 31)).toInt8.toInt32))) Qr Qx)) : AW X (d + 1) rb mX12_append 60 [(0, vR 12 0), (1, vI x1), (2, vI x2), (3, vI x3), (4, vI x4), (5, vI x5), (6, vI x6)] [] h Qr Qx := by
  refine aw_iload (j := 6) (i := 6) dX12_append_60 rfl rfl ?_
  refine aw_bipush (v := 20) dX12_append_62 rfl (by decide) ?_
  refine aw_icmp_ge 106 dX12_append_64 rfl rfl (fun c => ?_) (fun c => ?_)
  · replace k := k.1 c
    refine aw_aload_n (j := 0) (i := 0) dX12_append_106 rfl rfl rfl ?_
    refine aw_dup dX12_append_107 rfl rfl ?_
    refine aw_geti (k := 3) dX12_append_108 rfl (by decide) rfl rfl cb_12 (by decide) gw_1597 ?_
    refine aw_bipush (v := 20) dX12_append_111 rfl (by decide) ?_
    refine aw_iadd dX12_append_113 rfl ?_
    refine aw_puti (k := 3) dX12_append_114 rfl (by decide) rfl rfl cb_12 (by decide) rfl rfl gw_1597 ?_
    refine aw_aload_n (j := 0) (i := 0) dX12_append_117 rfl rfl rfl ?_
    refine aw_geti (k := 3) dX12_append_118 rfl (by decide) rfl rfl cb_12 (by decide) gw_1597 ?_
    exact aw_iret dX12_append_121 rfl k
  · replace k := k.2 c
    refine aw_aload_n (j := 0) (i := 0) dX12_append_67 rfl rfl rfl ?_
    refine aw_getf (k := 1) (z := 54) dX12_append_68 rfl (by decide) rfl rfl rfl cb_12 (by decide) gw_1595 ?_
    refine aw_aload_n (j := 0) (i := 0) dX12_append_71 rfl rfl rfl ?_
    refine aw_geti (k := 3) dX12_append_72 rfl (by decide) rfl rfl cb_12 (by decide) gw_1597 ?_
    refine aw_iload (j := 6) (i := 6) dX12_append_75 rfl rfl ?_
    refine aw_iadd dX12_append_77 rfl ?_
    refine aw_aload_n (j := 0) (i := 0) dX12_append_78 rfl rfl rfl ?_
    refine aw_getf (k := 2) (z := 55) dX12_append_79 rfl (by decide) rfl rfl rfl cb_12 (by decide) gw_1596 ?_
    refine aw_iload (j := 6) (i := 6) dX12_append_82 rfl rfl ?_
    refine aw_iconst (v := 4) dX12_append_84 rfl (by decide) ?_
    refine aw_idiv dX12_append_85 rfl (by decide) ?_
    refine aw_iald dX12_append_86 rfl (by decide) rfl k.1 ?_
    replace k := k.2
    refine aw_bipush (v := 24) dX12_append_87 rfl (by decide) ?_
    refine aw_bipush (v := 8) dX12_append_89 rfl (by decide) ?_
    refine aw_iload (j := 6) (i := 6) dX12_append_91 rfl rfl ?_
    refine aw_iconst (v := 4) dX12_append_93 rfl (by decide) ?_
    refine aw_irem dX12_append_94 rfl (by decide) ?_
    refine aw_imul dX12_append_95 rfl ?_
    refine aw_isub dX12_append_96 rfl ?_
    refine aw_ishr dX12_append_97 rfl ?_
    refine aw_i2b dX12_append_98 rfl ?_
    refine aw_bast dX12_append_99 rfl (by decide) rfl k.1 ?_
    replace k := k.2
    refine aw_iinc (i := 6) (j := 6) (v := x6 + 1) (L2 := [(6, vI (x6 + 1)), (0, vR 12 0), (1, vI x1), (2, vI x2), (3, vI x3), (4, vI x4), (5, vI x5)]) dX12_append_100 rfl (by decide) rfl rfl rfl ?_
    refine aw_goto 60 dX12_append_103 rfl ?_
    exact aw_sub [1, 2, 3, 4, 5, 6, 0] rfl k
set_option maxHeartbeats 4000000 in
set_option maxRecDepth 100000 in
theorem vc_X12_truncate_0 {X : WD → State → Prop} {d rb : Nat} {h : Hp} {Qr : Option AV → Hp → Prop} {Qx : String → Hp → Prop} {a1 : Int32}  (k : ((a1 < 0) → Qr (some (vI 0)) (hp_i h 12 0 0 0)) ∧ ((¬ a1 < 0) → ((a1 ≤ ((hp_i h 12 0 0 0).1 12 0 3)) → Qr (some (vI 1)) (hp_i (hp_i h 12 0 0 0) 12 0 3 a1)) ∧ ((¬ a1 ≤ ((hp_i h 12 0 0 0).1 12 0 3)) → Qr (some (vI 0)) (hp_i h 12 0 0 0)))) : AW X (d + 1) rb mX12_truncate 0 [(0, vR 12 0), (1, vI a1)] [] h Qr Qx := by
  refine aw_aload_n (j := 0) (i := 0) dX12_truncate_0 rfl rfl rfl ?_
  refine aw_iconst (v := 0) dX12_truncate_1 rfl (by decide) ?_
  refine aw_puti (k := 0) dX12_truncate_2 rfl (by decide) rfl rfl cb_12 (by decide) rfl rfl gw_1594 ?_
  refine aw_iload_n (j := 1) (i := 1) dX12_truncate_5 rfl rfl rfl ?_
  refine aw_if_lt 17 dX12_truncate_6 rfl rfl (fun c => ?_) (fun c => ?_)
  · replace k := k.1 c
    refine aw_iconst (v := 0) dX12_truncate_17 rfl (by decide) ?_
    exact aw_zret dX12_truncate_18 rfl (by decide) k
  · replace k := k.2 c
    refine aw_iload_n (j := 1) (i := 1) dX12_truncate_9 rfl rfl rfl ?_
    refine aw_aload_n (j := 0) (i := 0) dX12_truncate_10 rfl rfl rfl ?_
    refine aw_geti (k := 3) dX12_truncate_11 rfl (by decide) rfl rfl cb_12 (by decide) gw_1597 ?_
    refine aw_icmp_le 19 dX12_truncate_14 rfl rfl (fun c => ?_) (fun c => ?_)
    · replace k := k.1 c
      refine aw_aload_n (j := 0) (i := 0) dX12_truncate_19 rfl rfl rfl ?_
      refine aw_iload_n (j := 1) (i := 1) dX12_truncate_20 rfl rfl rfl ?_
      refine aw_puti (k := 3) dX12_truncate_21 rfl (by decide) rfl rfl cb_12 (by decide) rfl rfl gw_1597 ?_
      refine aw_iconst (v := 1) dX12_truncate_24 rfl (by decide) ?_
      exact aw_zret dX12_truncate_25 rfl (by decide) k
    · replace k := k.2 c
      refine aw_iconst (v := 0) dX12_truncate_17 rfl (by decide) ?_
      exact aw_zret dX12_truncate_18 rfl (by decide) k
set_option maxHeartbeats 4000000 in
set_option maxRecDepth 100000 in
theorem vc_X12_errorOffset_0 {X : WD → State → Prop} {d rb : Nat} {h : Hp} {Qr : Option AV → Hp → Prop} {Qx : String → Hp → Prop}   (k : Qr (some (vI ((hp_i h 12 0 0 0).1 12 0 9))) (hp_i h 12 0 0 0)) : AW X (d + 1) rb mX12_errorOffset 0 [(0, vR 12 0)] [] h Qr Qx := by
  refine aw_aload_n (j := 0) (i := 0) dX12_errorOffset_0 rfl rfl rfl ?_
  refine aw_iconst (v := 0) dX12_errorOffset_1 rfl (by decide) ?_
  refine aw_puti (k := 0) dX12_errorOffset_2 rfl (by decide) rfl rfl cb_12 (by decide) rfl rfl gw_1594 ?_
  refine aw_aload_n (j := 0) (i := 0) dX12_errorOffset_5 rfl rfl rfl ?_
  refine aw_geti (k := 9) dX12_errorOffset_6 rfl (by decide) rfl rfl cb_12 (by decide) gw_1603 ?_
  exact aw_iret dX12_errorOffset_9 rfl k
set_option maxHeartbeats 4000000 in
set_option maxRecDepth 100000 in
theorem vc_X12_errorKind_0 {X : WD → State → Prop} {d rb : Nat} {h : Hp} {Qr : Option AV → Hp → Prop} {Qx : String → Hp → Prop}   (k : Qr (some (vI ((hp_i h 12 0 0 0).1 12 0 10))) (hp_i h 12 0 0 0)) : AW X (d + 1) rb mX12_errorKind 0 [(0, vR 12 0)] [] h Qr Qx := by
  refine aw_aload_n (j := 0) (i := 0) dX12_errorKind_0 rfl rfl rfl ?_
  refine aw_iconst (v := 0) dX12_errorKind_1 rfl (by decide) ?_
  refine aw_puti (k := 0) dX12_errorKind_2 rfl (by decide) rfl rfl cb_12 (by decide) rfl rfl gw_1594 ?_
  refine aw_aload_n (j := 0) (i := 0) dX12_errorKind_5 rfl rfl rfl ?_
  refine aw_geti (k := 10) dX12_errorKind_6 rfl (by decide) rfl rfl cb_12 (by decide) gw_1604 ?_
  exact aw_iret dX12_errorKind_9 rfl k
set_option maxHeartbeats 4000000 in
set_option maxRecDepth 100000 in
theorem vc_X12_hasFailed_0 {X : WD → State → Prop} {d rb : Nat} {h : Hp} {Qr : Option AV → Hp → Prop} {Qx : String → Hp → Prop}   (k : ((if (h.1 12 0 7) = (-1) then (0 : Int32) else 1) = 0 ∨ (if (h.1 12 0 7) = (-1) then (0 : Int32) else 1) = 1) ∧ Qr (some (vI (if (h.1 12 0 7) = (-1) then (0 : Int32) else 1))) h) : AW X (d + 1) rb mX12_hasFailed 0 [(0, vR 12 0)] [] h Qr Qx := by
  refine aw_aload_n (j := 0) (i := 0) dX12_hasFailed_0 rfl rfl rfl ?_
  refine aw_geti (k := 7) dX12_hasFailed_1 rfl (by decide) rfl rfl cb_12 (by decide) gw_1601 ?_
  refine aw_iconst (v := (-1)) dX12_hasFailed_4 rfl (by decide) ?_
  have kk : AW X (d + 1) rb mX12_hasFailed 13 [(0, vR 12 0)] [vI (if (h.1 12 0 7) = (-1) then (0 : Int32) else 1)] h Qr Qx := by
    exact aw_zret dX12_hasFailed_13 rfl k.1 k.2
  refine aw_icmp_eq 12 dX12_hasFailed_5 rfl rfl (fun (c0 : (h.1 12 0 7) = (-1)) => ?_) (fun (c0 : ¬ (h.1 12 0 7) = (-1)) => ?_)
  · refine aw_iconst (v := 0) dX12_hasFailed_12 rfl (by decide) ?_
    simp only [if_pos c0] at kk
    exact kk
  · refine aw_iconst (v := 1) dX12_hasFailed_8 rfl (by decide) ?_
    refine aw_goto 13 dX12_hasFailed_9 rfl ?_
    simp only [if_neg c0] at kk
    exact kk
set_option maxHeartbeats 4000000 in
set_option maxRecDepth 100000 in
theorem vc_X12_isAt_0 {X : WD → State → Prop} {d rb : Nat} {h : Hp} {Qr : Option AV → Hp → Prop} {Qx : String → Hp → Prop} {a1 : Int32} {a2 : Int32}  (k : (((h.1 12 0 6) ≤ (h.1 12 0 4)) → Qr (some (vI 0)) h) ∧ ((¬ (h.1 12 0 6) ≤ (h.1 12 0 4)) → (vp_in (h.1 12 0 4) 900) ∧ (((h.1 54 0 ((h.1 12 0 4).toNatClampNeg)) < a1) → Qr (some (vI 0)) h) ∧ ((¬ (h.1 54 0 ((h.1 12 0 4).toNatClampNeg)) < a1) → (vp_in (h.1 12 0 4) 900) ∧ ((if a2 < (h.1 54 0 ((h.1 12 0 4).toNatClampNeg)) then (0 : Int32) else 1) = 0 ∨ (if a2 < (h.1 54 0 ((h.1 12 0 4).toNatClampNeg)) then (0 : Int32) else 1) = 1) ∧ Qr (some (vI (if a2 < (h.1 54 0 ((h.1 12 0 4).toNatClampNeg)) then (0 : Int32) else 1))) h))) : AW X (d + 1) rb mX12_isAt 0 [(0, vR 12 0), (1, vI a1), (2, vI a2)] [] h Qr Qx := by
  refine aw_aload_n (j := 0) (i := 0) dX12_isAt_0 rfl rfl rfl ?_
  refine aw_geti (k := 4) dX12_isAt_1 rfl (by decide) rfl rfl cb_12 (by decide) gw_1598 ?_
  refine aw_aload_n (j := 0) (i := 0) dX12_isAt_4 rfl rfl rfl ?_
  refine aw_geti (k := 6) dX12_isAt_5 rfl (by decide) rfl rfl cb_12 (by decide) gw_1600 ?_
  refine aw_icmp_ge 41 dX12_isAt_8 rfl rfl (fun c => ?_) (fun c => ?_)
  · replace k := k.1 c
    refine aw_iconst (v := 0) dX12_isAt_41 rfl (by decide) ?_
    exact aw_zret dX12_isAt_42 rfl (by decide) k
  · replace k := k.2 c
    refine aw_aload_n (j := 0) (i := 0) dX12_isAt_11 rfl rfl rfl ?_
    refine aw_getf (k := 1) (z := 54) dX12_isAt_12 rfl (by decide) rfl rfl rfl cb_12 (by decide) gw_1595 ?_
    refine aw_aload_n (j := 0) (i := 0) dX12_isAt_15 rfl rfl rfl ?_
    refine aw_geti (k := 4) dX12_isAt_16 rfl (by decide) rfl rfl cb_12 (by decide) gw_1598 ?_
    refine aw_bald dX12_isAt_19 rfl (by decide) rfl k.1 ?_
    replace k := k.2
    refine aw_iload_n (j := 1) (i := 1) dX12_isAt_20 rfl rfl rfl ?_
    refine aw_icmp_lt 41 dX12_isAt_21 rfl rfl (fun c => ?_) (fun c => ?_)
    · replace k := k.1 c
      refine aw_iconst (v := 0) dX12_isAt_41 rfl (by decide) ?_
      exact aw_zret dX12_isAt_42 rfl (by decide) k
    · replace k := k.2 c
      refine aw_aload_n (j := 0) (i := 0) dX12_isAt_24 rfl rfl rfl ?_
      refine aw_getf (k := 1) (z := 54) dX12_isAt_25 rfl (by decide) rfl rfl rfl cb_12 (by decide) gw_1595 ?_
      refine aw_aload_n (j := 0) (i := 0) dX12_isAt_28 rfl rfl rfl ?_
      refine aw_geti (k := 4) dX12_isAt_29 rfl (by decide) rfl rfl cb_12 (by decide) gw_1598 ?_
      refine aw_bald dX12_isAt_32 rfl (by decide) rfl k.1 ?_
      replace k := k.2
      refine aw_iload_n (j := 2) (i := 2) dX12_isAt_33 rfl rfl rfl ?_
      have kk : AW X (d + 1) rb mX12_isAt 42 [(0, vR 12 0), (1, vI a1), (2, vI a2)] [vI (if a2 < (h.1 54 0 ((h.1 12 0 4).toNatClampNeg)) then (0 : Int32) else 1)] h Qr Qx := by
        exact aw_zret dX12_isAt_42 rfl k.1 k.2
      refine aw_icmp_gt 41 dX12_isAt_34 rfl rfl (fun (c0 : a2 < (h.1 54 0 ((h.1 12 0 4).toNatClampNeg))) => ?_) (fun (c0 : ¬ a2 < (h.1 54 0 ((h.1 12 0 4).toNatClampNeg))) => ?_)
      · refine aw_iconst (v := 0) dX12_isAt_41 rfl (by decide) ?_
        simp only [if_pos c0] at kk
        exact kk
      · refine aw_iconst (v := 1) dX12_isAt_37 rfl (by decide) ?_
        refine aw_goto 42 dX12_isAt_38 rfl ?_
        simp only [if_neg c0] at kk
        exact kk
set_option maxHeartbeats 4000000 in
set_option maxRecDepth 100000 in
theorem vc_X12_blanks_0 {X : WD → State → Prop} {d rb : Nat} {h : Hp} {Qr : Option AV → Hp → Prop} {Qx : String → Hp → Prop}   (k : CL 0 d mX12_isAt [vR 12 0, vI 9, vI 10] h (oI fun r2 h1 => ((¬ r2 = 0) → AW X (d + 1) rb mX12_blanks 0 [(0, vR 12 0)] [] (hp_i h1 12 0 4 ((h1.1 12 0 4) + 1)) Qr Qx) ∧ ((r2 = 0) → CL 0 d mX12_isAt [vR 12 0, vI 32, vI 32] h1 (oI fun r4 h3 => ((r4 = 0) → Qr none (hp_i h3 12 0 5 (h3.1 12 0 4))) ∧ ((¬ r4 = 0) → AW X (d + 1) rb mX12_blanks 0 [(0, vR 12 0)] [] (hp_i h3 12 0 4 ((h3.1 12 0 4) + 1)) Qr Qx)) Qx)) Qx) : AW X (d + 1) rb mX12_blanks 0 [(0, vR 12 0)] [] h Qr Qx := by
  refine aw_aload_n (j := 0) (i := 0) dX12_blanks_0 rfl rfl rfl ?_
  refine aw_bipush (v := 9) dX12_blanks_1 rfl (by decide) ?_
  refine aw_bipush (v := 10) dX12_blanks_3 rfl (by decide) ?_
  refine aw_callV (M' := mX12_isAt) (S := []) (as := [vI 9, vI 10]) (k := 0) dX12_blanks_5 rfl (by decide) rfl rfl gw_1678 gw_1680 gw_33 mb_X12_isAt rfl (Nat.zero_le _) (Nat.le_of_ble_eq_true rfl) rfl (CL.imp k (fun _ h1 k => ?_) (fun _ _ k => k))
  obtain ⟨r2, rfl, k⟩ := oI_of k
  show AW X (d + 1) rb mX12_blanks 8 _ [vI r2] h1 Qr Qx
  refine aw_if_ne 22 dX12_blanks_8 rfl rfl (fun c => ?_) (fun c => ?_)
  · replace k := k.1 c
    refine aw_aload_n (j := 0) (i := 0) dX12_blanks_22 rfl rfl rfl ?_
    refine aw_dup dX12_blanks_23 rfl rfl ?_
    refine aw_geti (k := 4) dX12_blanks_24 rfl (by decide) rfl rfl cb_12 (by decide) gw_1598 ?_
    refine aw_iconst (v := 1) dX12_blanks_27 rfl (by decide) ?_
    refine aw_iadd dX12_blanks_28 rfl ?_
    refine aw_puti (k := 4) dX12_blanks_29 rfl (by decide) rfl rfl cb_12 (by decide) rfl rfl gw_1598 ?_
    refine aw_goto 0 dX12_blanks_32 rfl ?_
    exact aw_sub [0] rfl k
  · replace k := k.2 c
    refine aw_aload_n (j := 0) (i := 0) dX12_blanks_11 rfl rfl rfl ?_
    refine aw_bipush (v := 32) dX12_blanks_12 rfl (by decide) ?_
    refine aw_bipush (v := 32) dX12_blanks_14 rfl (by decide) ?_
    refine aw_callV (M' := mX12_isAt) (S := []) (as := [vI 32, vI 32]) (k := 0) dX12_blanks_16 rfl (by decide) rfl rfl gw_1678 gw_1680 gw_33 mb_X12_isAt rfl (Nat.zero_le _) (Nat.le_of_ble_eq_true rfl) rfl (CL.imp k (fun _ h3 k => ?_) (fun _ _ k => k))
    obtain ⟨r4, rfl, k⟩ := oI_of k
    show AW X (d + 1) rb mX12_blanks 19 _ [vI r4] h3 Qr Qx
    refine aw_if_eq 35 dX12_blanks_19 rfl rfl (fun c => ?_) (fun c => ?_)
    · replace k := k.1 c
      refine aw_aload_n (j := 0) (i := 0) dX12_blanks_35 rfl rfl rfl ?_
      refine aw_aload_n (j := 0) (i := 0) dX12_blanks_36 rfl rfl rfl ?_
      refine aw_geti (k := 4) dX12_blanks_37 rfl (by decide) rfl rfl cb_12 (by decide) gw_1598 ?_
      refine aw_puti (k := 5) dX12_blanks_40 rfl (by decide) rfl rfl cb_12 (by decide) rfl rfl gw_1599 ?_
      exact aw_vret dX12_blanks_43 rfl k
    · replace k := k.2 c
      refine aw_aload_n (j := 0) (i := 0) dX12_blanks_22 rfl rfl rfl ?_
      refine aw_dup dX12_blanks_23 rfl rfl ?_
      refine aw_geti (k := 4) dX12_blanks_24 rfl (by decide) rfl rfl cb_12 (by decide) gw_1598 ?_
      refine aw_iconst (v := 1) dX12_blanks_27 rfl (by decide) ?_
      refine aw_iadd dX12_blanks_28 rfl ?_
      refine aw_puti (k := 4) dX12_blanks_29 rfl (by decide) rfl rfl cb_12 (by decide) rfl rfl gw_1598 ?_
      refine aw_goto 0 dX12_blanks_32 rfl ?_
      exact aw_sub [0] rfl k
set_option maxHeartbeats 4000000 in
set_option maxRecDepth 100000 in
theorem vc_X12_must_0 {X : WD → State → Prop} {d rb : Nat} {h : Hp} {Qr : Option AV → Hp → Prop} {Qx : String → Hp → Prop} {a1 : Int32} {a2 : Int32}  (k : ((¬ a1 = 0) → Qr none h) ∧ ((a1 = 0) → CL 0 d mX12_hasFailed [vR 12 0] h (oI fun r2 h1 => ((r2 = 0) → Qr none (hp_i (hp_i h1 12 0 7 (h1.1 12 0 5)) 12 0 8 a2)) ∧ ((¬ r2 = 0) → Qr none h1)) Qx)) : AW X (d + 1) rb mX12_must 0 [(0, vR 12 0), (1, vI a1), (2, vI a2)] [] h Qr Qx := by
  refine aw_iload_n (j := 1) (i := 1) dX12_must_0 rfl rfl rfl ?_
  refine aw_if_ne 11 dX12_must_1 rfl rfl (fun c => ?_) (fun c => ?_)
  · replace k := k.1 c
    exact aw_vret dX12_must_11 rfl k
  · replace k := k.2 c
    refine aw_aload_n (j := 0) (i := 0) dX12_must_4 rfl rfl rfl ?_
    refine aw_callV (M' := mX12_hasFailed) (S := []) (as := []) (k := 0) dX12_must_5 rfl (by decide) rfl rfl gw_1682 gw_1684 gw_34 mb_X12_hasFailed rfl (Nat.zero_le _) (Nat.le_of_ble_eq_true rfl) rfl (CL.imp k (fun _ h1 k => ?_) (fun _ _ k => k))
    obtain ⟨r2, rfl, k⟩ := oI_of k
    show AW X (d + 1) rb mX12_must 8 _ [vI r2] h1 Qr Qx
    refine aw_if_eq 12 dX12_must_8 rfl rfl (fun c => ?_) (fun c => ?_)
    · replace k := k.1 c
      refine aw_aload_n (j := 0) (i := 0) dX12_must_12 rfl rfl rfl ?_
      refine aw_aload_n (j := 0) (i := 0) dX12_must_13 rfl rfl rfl ?_
      refine aw_geti (k := 5) dX12_must_14 rfl (by decide) rfl rfl cb_12 (by decide) gw_1599 ?_
      refine aw_puti (k := 7) dX12_must_17 rfl (by decide) rfl rfl cb_12 (by decide) rfl rfl gw_1601 ?_
      refine aw_aload_n (j := 0) (i := 0) dX12_must_20 rfl rfl rfl ?_
      refine aw_iload_n (j := 2) (i := 2) dX12_must_21 rfl rfl rfl ?_
      refine aw_puti (k := 8) dX12_must_22 rfl (by decide) rfl rfl cb_12 (by decide) rfl rfl gw_1602 ?_
      exact aw_vret dX12_must_25 rfl k
    · replace k := k.2 c
      exact aw_vret dX12_must_11 rfl k
set_option maxHeartbeats 4000000 in
set_option maxRecDepth 100000 in
theorem vc_X12_letters_0 {X : WD → State → Prop} {d rb : Nat} {h : Hp} {Qr : Option AV → Hp → Prop} {Qx : String → Hp → Prop}   (k : CL 0 d mX12_blanks [vR 12 0] h (oV fun h1 => AW X (d + 1) rb mX12_letters 9 [(0, vR 12 0), (1, vI (h1.1 12 0 4))] [] h1 Qr Qx) Qx) : AW X (d + 1) rb mX12_letters 0 [(0, vR 12 0)] [] h Qr Qx := by
  refine aw_aload_n (j := 0) (i := 0) dX12_letters_0 rfl rfl rfl ?_
  refine aw_callV (M' := mX12_blanks) (S := []) (as := []) (k := 0) dX12_letters_1 rfl (by decide) rfl rfl gw_1674 gw_1676 gw_32 mb_X12_blanks rfl (Nat.zero_le _) (Nat.le_of_ble_eq_true rfl) rfl (CL.imp k (fun _ h1 k => ?_) (fun _ _ k => k))
  obtain ⟨rfl, k⟩ := oV_of k
  show AW X (d + 1) rb mX12_letters 4 _ [] h1 Qr Qx
  refine aw_aload_n (j := 0) (i := 0) dX12_letters_4 rfl rfl rfl ?_
  refine aw_geti (k := 4) dX12_letters_5 rfl (by decide) rfl rfl cb_12 (by decide) gw_1598 ?_
  refine aw_istore_n (i := 1) (L2 := [(1, vI (h1.1 12 0 4)), (0, vR 12 0)]) dX12_letters_8 rfl rfl (by decide) rfl ?_
  exact aw_sub [1, 0] rfl k
set_option maxHeartbeats 4000000 in
set_option maxRecDepth 100000 in
theorem vc_X12_letters_9 {X : WD → State → Prop} {d rb : Nat} {h : Hp} {Qr : Option AV → Hp → Prop} {Qx : String → Hp → Prop} {x1 : Int32}  (k : (((h.1 12 0 6) ≤ x1) → Qr (some (vI (x1 - (h.1 12 0 4)))) h) ∧ ((¬ (h.1 12 0 6) ≤ x1) → (vp_in x1 900) ∧ (((h.1 54 0 x1.toNatClampNeg) < 97) → Qr (some (vI (x1 - (h.1 12 0 4)))) h) ∧ ((¬ (h.1 54 0 x1.toNatClampNeg) < 97) → (vp_in x1 900) ∧ ((122 < (h.1 54 0 x1.toNatClampNeg)) → Qr (some (vI (x1 - (h.1 12 0 4)))) h) ∧ ((¬ 122 < (h.1 54 0 x1.toNatClampNeg)) → AW X (d + 1) rb mX12_letters 9 [(0, vR 12 0), (1, vI (x1 + 1))] [] h Qr Qx)))) : AW X (d + 1) rb mX12_letters 9 [(0, vR 12 0), (1, vI x1)] [] h Qr Qx := by
  refine aw_iload_n (j := 1) (i := 1) dX12_letters_9 rfl rfl rfl ?_
  refine aw_aload_n (j := 0) (i := 0) dX12_letters_10 rfl rfl rfl ?_
  refine aw_geti (k := 6) dX12_letters_11 rfl (by decide) rfl rfl cb_12 (by decide) gw_1600 ?_
  refine aw_icmp_ge 45 dX12_letters_14 rfl rfl (fun c => ?_) (fun c => ?_)
  · replace k := k.1 c
    refine aw_iload_n (j := 1) (i := 1) dX12_letters_45 rfl rfl rfl ?_
    refine aw_aload_n (j := 0) (i := 0) dX12_letters_46 rfl rfl rfl ?_
    refine aw_geti (k := 4) dX12_letters_47 rfl (by decide) rfl rfl cb_12 (by decide) gw_1598 ?_
    refine aw_isub dX12_letters_50 rfl ?_
    exact aw_iret dX12_letters_51 rfl k
  · replace k := k.2 c
    refine aw_aload_n (j := 0) (i := 0) dX12_letters_17 rfl rfl rfl ?_
    refine aw_getf (k := 1) (z := 54) dX12_letters_18 rfl (by decide) rfl rfl rfl cb_12 (by decide) gw_1595 ?_
    refine aw_iload_n (j := 1) (i := 1) dX12_letters_21 rfl rfl rfl ?_
    refine aw_bald dX12_letters_22 rfl (by decide) rfl k.1 ?_
    replace k := k.2
    refine aw_bipush (v := 97) dX12_letters_23 rfl (by decide) ?_
    refine aw_icmp_lt 45 dX12_letters_25 rfl rfl (fun c => ?_) (fun c => ?_)
    · replace k := k.1 c
      refine aw_iload_n (j := 1) (i := 1) dX12_letters_45 rfl rfl rfl ?_
      refine aw_aload_n (j := 0) (i := 0) dX12_letters_46 rfl rfl rfl ?_
      refine aw_geti (k := 4) dX12_letters_47 rfl (by decide) rfl rfl cb_12 (by decide) gw_1598 ?_
      refine aw_isub dX12_letters_50 rfl ?_
      exact aw_iret dX12_letters_51 rfl k
    · replace k := k.2 c
      refine aw_aload_n (j := 0) (i := 0) dX12_letters_28 rfl rfl rfl ?_
      refine aw_getf (k := 1) (z := 54) dX12_letters_29 rfl (by decide) rfl rfl rfl cb_12 (by decide) gw_1595 ?_
      refine aw_iload_n (j := 1) (i := 1) dX12_letters_32 rfl rfl rfl ?_
      refine aw_bald dX12_letters_33 rfl (by decide) rfl k.1 ?_
      replace k := k.2
      refine aw_bipush (v := 122) dX12_letters_34 rfl (by decide) ?_
      refine aw_icmp_gt 45 dX12_letters_36 rfl rfl (fun c => ?_) (fun c => ?_)
      · replace k := k.1 c
        refine aw_iload_n (j := 1) (i := 1) dX12_letters_45 rfl rfl rfl ?_
        refine aw_aload_n (j := 0) (i := 0) dX12_letters_46 rfl rfl rfl ?_
        refine aw_geti (k := 4) dX12_letters_47 rfl (by decide) rfl rfl cb_12 (by decide) gw_1598 ?_
        refine aw_isub dX12_letters_50 rfl ?_
        exact aw_iret dX12_letters_51 rfl k
      · replace k := k.2 c
        refine aw_iinc (i := 1) (j := 1) (v := x1 + 1) (L2 := [(1, vI (x1 + 1)), (0, vR 12 0)]) dX12_letters_39 rfl (by decide) rfl rfl rfl ?_
        refine aw_goto 9 dX12_letters_42 rfl ?_
        exact aw_sub [1, 0] rfl k
set_option maxHeartbeats 4000000 in
set_option maxRecDepth 100000 in
theorem vc_X12_isWord_0 {X : WD → State → Prop} {d rb : Nat} {h : Hp} {Qr : Option AV → Hp → Prop} {Qx : String → Hp → Prop} {j1 : Nat} (hj1 : j1 < 36) (k : CL 0 d mX12_hasFailed [vR 12 0] h (oI fun r2 h1 => ((¬ r2 = 0) → AW X (d + 1) rb mX12_isWord 26 [(0, vR 12 0), (1, vR (1000 + j1) 0), (2, vI 0), (3, vI 0)] [] h1 Qr Qx) ∧ ((r2 = 0) → CL 0 d mX12_letters [vR 12 0] h1 (oI fun r4 h3 => CL 0 d mJ0_length_8abf5 [vR (1000 + j1) 0] h3 (oI fun r6 h5 => AW X (d + 1) rb mX12_isWord 26 [(0, vR 12 0), (1, vR (1000 + j1) 0), (2, vI (if ¬ r4 = r6 then (0 : Int32) else 1)), (3, vI 0)] [] h5 Qr Qx) Qx) Qx)) Qx) : AW X (d + 1) rb mX12_isWord 0 [(0, vR 12 0), (1, vR (1000 + j1) 0)] [] h Qr Qx := by
  refine aw_aload_n (j := 0) (i := 0) dX12_isWord_0 rfl rfl rfl ?_
  refine aw_callV (M' := mX12_hasFailed) (S := []) (as := []) (k := 0) dX12_isWord_1 rfl (by decide) rfl rfl gw_1682 gw_1684 gw_34 mb_X12_hasFailed rfl (Nat.zero_le _) (Nat.le_of_ble_eq_true rfl) rfl (CL.imp k (fun _ h1 k => ?_) (fun _ _ k => k))
  obtain ⟨r2, rfl, k⟩ := oI_of k
  show AW X (d + 1) rb mX12_isWord 4 _ [vI r2] h1 Qr Qx
  refine aw_if_ne 22 dX12_isWord_4 rfl rfl (fun c => ?_) (fun c => ?_)
  · replace k := k.1 c
    refine aw_iconst (v := 0) dX12_isWord_22 rfl (by decide) ?_
    refine aw_istore_n (i := 2) (L2 := [(2, vI 0), (0, vR 12 0), (1, vR (1000 + j1) 0)]) dX12_isWord_23 rfl rfl (by decide) rfl ?_
    refine aw_iconst (v := 0) dX12_isWord_24 rfl (by decide) ?_
    refine aw_istore_n (i := 3) (L2 := [(3, vI 0), (2, vI 0), (0, vR 12 0), (1, vR (1000 + j1) 0)]) dX12_isWord_25 rfl rfl (by decide) rfl ?_
    exact aw_sub [2, 3, 1, 0] rfl k
  · replace k := k.2 c
    refine aw_aload_n (j := 0) (i := 0) dX12_isWord_7 rfl rfl rfl ?_
    refine aw_callV (M' := mX12_letters) (S := []) (as := []) (k := 0) dX12_isWord_8 rfl (by decide) rfl rfl gw_1691 gw_1693 gw_36 mb_X12_letters rfl (Nat.zero_le _) (Nat.le_of_ble_eq_true rfl) rfl (CL.imp k (fun _ h3 k => ?_) (fun _ _ k => k))
    obtain ⟨r4, rfl, k⟩ := oI_of k
    show AW X (d + 1) rb mX12_isWord 11 _ [vI r4] h3 Qr Qx
    refine aw_aload_n (j := 1) (i := 1) dX12_isWord_11 rfl rfl rfl ?_
    refine aw_callStr (M' := mJ0_length_8abf5) (S := [vI r4]) (as := []) (k := 0) dX12_isWord_12 rfl gw_1695 gw_797 gw_798 mb_J0_length_8abf5 rfl (Nat.zero_le _) (Nat.le_of_ble_eq_true rfl) rfl hj1 rfl (CL.imp k (fun _ h5 k => ?_) (fun _ _ k => k))
    obtain ⟨r6, rfl, k⟩ := oI_of k
    show AW X (d + 1) rb mX12_isWord 15 _ [vI r6, vI r4] h5 Qr Qx
    have kk : AW X (d + 1) rb mX12_isWord 23 [(0, vR 12 0), (1, vR (1000 + j1) 0)] [vI (if ¬ r4 = r6 then (0 : Int32) else 1)] h5 Qr Qx := by
      refine aw_istore_n (i := 2) (L2 := [(2, vI (if ¬ r4 = r6 then (0 : Int32) else 1)), (0, vR 12 0), (1, vR (1000 + j1) 0)]) dX12_isWord_23 rfl rfl (by decide) rfl ?_
      refine aw_iconst (v := 0) dX12_isWord_24 rfl (by decide) ?_
      refine aw_istore_n (i := 3) (L2 := [(3, vI 0), (2, vI (if ¬ r4 = r6 then (0 : Int32) else 1)), (0, vR 12 0), (1, vR (1000 + j1) 0)]) dX12_isWord_25 rfl rfl (by decide) rfl ?_
      exact aw_sub [2, 3, 1, 0] rfl k
    refine aw_icmp_ne 22 dX12_isWord_15 rfl rfl (fun (c0 : ¬ r4 = r6) => ?_) (fun (c0 : r4 = r6) => ?_)
    · refine aw_iconst (v := 0) dX12_isWord_22 rfl (by decide) ?_
      simp only [if_pos c0] at kk
      exact kk
    · refine aw_iconst (v := 1) dX12_isWord_18 rfl (by decide) ?_
      refine aw_goto 23 dX12_isWord_19 rfl ?_
      simp only [if_neg (oa_nn c0)] at kk
      exact kk
set_option maxHeartbeats 4000000 in
set_option maxRecDepth 100000 in
theorem vc_X12_isWord_26 {X : WD → State → Prop} {d rb : Nat} {h : Hp} {Qr : Option AV → Hp → Prop} {Qx : String → Hp → Prop} {j1 : Nat} {x2 : Int32} {x3 : Int32} (hj1 : j1 < 36) (k : ((x2 = 0) → (x2 = 0 ∨ x2 = 1) ∧ Qr (some (vI x2)) h) ∧ ((¬ x2 = 0) → CL 0 d mJ0_length_8abf5 [vR (1000 + j1) 0] h (oI fun r2 h1 => ((r2 ≤ x3) → (x2 = 0 ∨ x2 = 1) ∧ Qr (some (vI x2)) h1) ∧ ((¬ r2 ≤ x3) → (vp_in ((h1.1 12 0 4) + x3) 900) ∧ CL 0 d mJ0_charAt_5068e [vR (1000 + j1) 0, vI x3] h1 (oI fun r4 h3 => AW X (d + 1) rb mX12_isWord 26 [(0, vR 12 0), (1, vR (1000 + j1) 0), (2, vI (if ¬ (h1.1 54 0 (((h1.1 12 0 4) + x3).toNatClampNeg)) = r4 then (0 : Int32) else 1)), (3, vI (x3 + 1))] [] h3 Qr Qx) Qx)) Qx)) : AW X (d + 1) rb mX12_isWord 26 [(0, vR 12 0), (1, vR (1000 + j1) 0), (2, vI x2), (3, vI x3)] [] h Qr Qx := by
  refine aw_iload_n (j := 2) (i := 2) dX12_isWord_26 rfl rfl rfl ?_
  refine aw_if_eq 69 dX12_isWord_27 rfl rfl (fun c => ?_) (fun c => ?_)
  · replace k := k.1 c
    refine aw_iload_n (j := 2) (i := 2) dX12_isWord_69 rfl rfl rfl ?_
    exact aw_zret dX12_isWord_70 rfl k.1 k.2
  · replace k := k.2 c
    refine aw_iload_n (j := 3) (i := 3) dX12_isWord_30 rfl rfl rfl ?_
    refine aw_aload_n (j := 1) (i := 1) dX12_isWord_31 rfl rfl rfl ?_
    refine aw_callStr (M' := mJ0_length_8abf5) (S := [vI x3]) (as := []) (k := 0) dX12_isWord_32 rfl gw_1695 gw_797 gw_798 mb_J0_length_8abf5 rfl (Nat.zero_le _) (Nat.le_of_ble_eq_true rfl) rfl hj1 rfl (CL.imp k (fun _ h1 k => ?_) (fun _ _ k => k))
    obtain ⟨r2, rfl, k⟩ := oI_of k
    show AW X (d + 1) rb mX12_isWord 35 _ [vI r2, vI x3] h1 Qr Qx
    refine aw_icmp_ge 69 dX12_isWord_35 rfl rfl (fun c => ?_) (fun c => ?_)
    · replace k := k.1 c
      refine aw_iload_n (j := 2) (i := 2) dX12_isWord_69 rfl rfl rfl ?_
      exact aw_zret dX12_isWord_70 rfl k.1 k.2
    · replace k := k.2 c
      refine aw_aload_n (j := 0) (i := 0) dX12_isWord_38 rfl rfl rfl ?_
      refine aw_getf (k := 1) (z := 54) dX12_isWord_39 rfl (by decide) rfl rfl rfl cb_12 (by decide) gw_1595 ?_
      refine aw_aload_n (j := 0) (i := 0) dX12_isWord_42 rfl rfl rfl ?_
      refine aw_geti (k := 4) dX12_isWord_43 rfl (by decide) rfl rfl cb_12 (by decide) gw_1598 ?_
      refine aw_iload_n (j := 3) (i := 3) dX12_isWord_46 rfl rfl rfl ?_
      refine aw_iadd dX12_isWord_47 rfl ?_
      refine aw_bald dX12_isWord_48 rfl (by decide) rfl k.1 ?_
      replace k := k.2
      refine aw_aload_n (j := 1) (i := 1) dX12_isWord_49 rfl rfl rfl ?_
      refine aw_iload_n (j := 3) (i := 3) dX12_isWord_50 rfl rfl rfl ?_
      refine aw_callStr (M' := mJ0_charAt_5068e) (S := [vI (h1.1 54 0 (((h1.1 12 0 4) + x3).toNatClampNeg))]) (as := [vI x3]) (k := 0) dX12_isWord_51 rfl gw_1696 gw_807 gw_808 mb_J0_charAt_5068e rfl (Nat.zero_le _) (Nat.le_of_ble_eq_true rfl) rfl hj1 rfl (CL.imp k (fun _ h3 k => ?_) (fun _ _ k => k))
      obtain ⟨r4, rfl, k⟩ := oI_of k
      show AW X (d + 1) rb mX12_isWord 54 _ [vI r4, vI (h1.1 54 0 (((h1.1 12 0 4) + x3).toNatClampNeg))] h3 Qr Qx
      have kk : AW X (d + 1) rb mX12_isWord 62 [(0, vR 12 0), (1, vR (1000 + j1) 0), (2, vI x2), (3, vI x3)] [vI (if ¬ (h1.1 54 0 (((h1.1 12 0 4) + x3).toNatClampNeg)) = r4 then (0 : Int32) else 1)] h3 Qr Qx := by
        refine aw_istore_n (i := 2) (L2 := [(2, vI (if ¬ (h1.1 54 0 (((h1.1 12 0 4) + x3).toNatClampNeg)) = r4 then (0 : Int32) else 1)), (0, vR 12 0), (1, vR (1000 + j1) 0), (3, vI x3)]) dX12_isWord_62 rfl rfl (by decide) rfl ?_
        refine aw_iinc (i := 3) (j := 3) (v := x3 + 1) (L2 := [(3, vI (x3 + 1)), (2, vI (if ¬ (h1.1 54 0 (((h1.1 12 0 4) + x3).toNatClampNeg)) = r4 then (0 : Int32) else 1)), (0, vR 12 0), (1, vR (1000 + j1) 0)]) dX12_isWord_63 rfl (by decide) rfl rfl rfl ?_
        refine aw_goto 26 dX12_isWord_66 rfl ?_
        exact aw_sub [2, 3, 1, 0] rfl k
      refine aw_icmp_ne 61 dX12_isWord_54 rfl rfl (fun (c0 : ¬ (h1.1 54 0 (((h1.1 12 0 4) + x3).toNatClampNeg)) = r4) => ?_) (fun (c0 : (h1.1 54 0 (((h1.1 12 0 4) + x3).toNatClampNeg)) = r4) => ?_)
      · refine aw_iconst (v := 0) dX12_isWord_61 rfl (by decide) ?_
        simp only [if_pos c0] at kk
        exact kk
      · refine aw_iconst (v := 1) dX12_isWord_57 rfl (by decide) ?_
        refine aw_goto 62 dX12_isWord_58 rfl ?_
        simp only [if_neg (oa_nn c0)] at kk
        exact kk
set_option maxHeartbeats 4000000 in
set_option maxRecDepth 100000 in
theorem vc_X12_takes_0 {X : WD → State → Prop} {d rb : Nat} {h : Hp} {Qr : Option AV → Hp → Prop} {Qx : String → Hp → Prop} {j1 : Nat} (hj1 : j1 < 36) (k : CL 0 d mX12_isWord [vR 12 0, vR (1000 + j1) 0] h (oI fun r2 h1 => ((r2 = 0) → (r2 = 0 ∨ r2 = 1) ∧ Qr (some (vI r2)) h1) ∧ ((¬ r2 = 0) → CL 0 d mJ0_length_8abf5 [vR (1000 + j1) 0] h1 (oI fun r4 h3 => (r2 = 0 ∨ r2 = 1) ∧ Qr (some (vI r2)) (hp_i h3 12 0 4 ((h1.1 12 0 4) + r4))) Qx)) Qx) : AW X (d + 1) rb mX12_takes 0 [(0, vR 12 0), (1, vR (1000 + j1) 0)] [] h Qr Qx := by
  refine aw_aload_n (j := 0) (i := 0) dX12_takes_0 rfl rfl rfl ?_
  refine aw_aload_n (j := 1) (i := 1) dX12_takes_1 rfl rfl rfl ?_
  refine aw_callV (M' := mX12_isWord) (S := []) (as := [vR (1000 + j1) 0]) (k := 0) dX12_takes_2 rfl (by decide) rfl rfl gw_1687 gw_1689 gw_35 mb_X12_isWord rfl (Nat.zero_le _) (Nat.le_of_ble_eq_true rfl) rfl (CL.imp k (fun _ h1 k => ?_) (fun _ _ k => k))
  obtain ⟨r2, rfl, k⟩ := oI_of k
  show AW X (d + 1) rb mX12_takes 5 _ [vI r2] h1 Qr Qx
  refine aw_istore_n (i := 2) (L2 := [(2, vI r2), (0, vR 12 0), (1, vR (1000 + j1) 0)]) dX12_takes_5 rfl rfl (by decide) rfl ?_
  refine aw_iload_n (j := 0) (i := 2) dX12_takes_6 rfl rfl rfl ?_
  refine aw_if_eq 23 dX12_takes_7 rfl rfl (fun c => ?_) (fun c => ?_)
  · replace k := k.1 c
    refine aw_iload_n (j := 0) (i := 2) dX12_takes_23 rfl rfl rfl ?_
    exact aw_zret dX12_takes_24 rfl k.1 k.2
  · replace k := k.2 c
    refine aw_aload_n (j := 1) (i := 0) dX12_takes_10 rfl rfl rfl ?_
    refine aw_dup dX12_takes_11 rfl rfl ?_
    refine aw_geti (k := 4) dX12_takes_12 rfl (by decide) rfl rfl cb_12 (by decide) gw_1598 ?_
    refine aw_aload_n (j := 2) (i := 1) dX12_takes_15 rfl rfl rfl ?_
    refine aw_callStr (M' := mJ0_length_8abf5) (S := [vI (h1.1 12 0 4), vR 12 0]) (as := []) (k := 0) dX12_takes_16 rfl gw_1695 gw_797 gw_798 mb_J0_length_8abf5 rfl (Nat.zero_le _) (Nat.le_of_ble_eq_true rfl) rfl hj1 rfl (CL.imp k (fun _ h3 k => ?_) (fun _ _ k => k))
    obtain ⟨r4, rfl, k⟩ := oI_of k
    show AW X (d + 1) rb mX12_takes 19 _ [vI r4, vI (h1.1 12 0 4), vR 12 0] h3 Qr Qx
    refine aw_iadd dX12_takes_19 rfl ?_
    refine aw_puti (k := 4) dX12_takes_20 rfl (by decide) rfl rfl cb_12 (by decide) rfl rfl gw_1598 ?_
    refine aw_iload_n (j := 0) (i := 2) dX12_takes_23 rfl rfl rfl ?_
    exact aw_zret dX12_takes_24 rfl k.1 k.2
set_option maxHeartbeats 4000000 in
set_option maxRecDepth 100000 in
theorem vc_X12_number_0 {X : WD → State → Prop} {d rb : Nat} {h : Hp} {Qr : Option AV → Hp → Prop} {Qx : String → Hp → Prop} {a1 : Int32} {a2 : Int32}  (k : CL 0 d mX12_hasFailed [vR 12 0] h (oI fun r2 h1 => ((r2 = 0) → CL 0 d mX12_blanks [vR 12 0] h1 (oV fun h3 => CL 0 d mX12_isAt [vR 12 0, vI 48, vI 57] h3 (oI fun r5 h4 => CL 0 d mX12_must [vR 12 0, vI r5, vI 1] h4 (oV fun h6 => AW X (d + 1) rb mX12_number 28 [(0, vR 12 0), (1, vI a1), (2, vI a2), (3, vI 0)] [] h6 Qr Qx) Qx) Qx) Qx) ∧ ((¬ r2 = 0) → Qr (some (vI a1)) h1)) Qx) : AW X (d + 1) rb mX12_number 0 [(0, vR 12 0), (1, vI a1), (2, vI a2)] [] h Qr Qx := by
  refine aw_aload_n (j := 0) (i := 0) dX12_number_0 rfl rfl rfl ?_
  refine aw_callV (M' := mX12_hasFailed) (S := []) (as := []) (k := 0) dX12_number_1 rfl (by decide) rfl rfl gw_1682 gw_1684 gw_34 mb_X12_hasFailed rfl (Nat.zero_le _) (Nat.le_of_ble_eq_true rfl) rfl (CL.imp k (fun _ h1 k => ?_) (fun _ _ k => k))
  obtain ⟨r2, rfl, k⟩ := oI_of k
  show AW X (d + 1) rb mX12_number 4 _ [vI r2] h1 Qr Qx
  refine aw_if_eq 9 dX12_number_4 rfl rfl (fun c => ?_) (fun c => ?_)
  · replace k := k.1 c
    refine aw_aload_n (j := 0) (i := 0) dX12_number_9 rfl rfl rfl ?_
    refine aw_callV (M' := mX12_blanks) (S := []) (as := []) (k := 0) dX12_number_10 rfl (by decide) rfl rfl gw_1674 gw_1676 gw_32 mb_X12_blanks rfl (Nat.zero_le _) (Nat.le_of_ble_eq_true rfl) rfl (CL.imp k (fun _ h3 k => ?_) (fun _ _ k => k))
    obtain ⟨rfl, k⟩ := oV_of k
    show AW X (d + 1) rb mX12_number 13 _ [] h3 Qr Qx
    refine aw_aload_n (j := 0) (i := 0) dX12_number_13 rfl rfl rfl ?_
    refine aw_aload_n (j := 0) (i := 0) dX12_number_14 rfl rfl rfl ?_
    refine aw_bipush (v := 48) dX12_number_15 rfl (by decide) ?_
    refine aw_bipush (v := 57) dX12_number_17 rfl (by decide) ?_
    refine aw_callV (M' := mX12_isAt) (S := [vR 12 0]) (as := [vI 48, vI 57]) (k := 0) dX12_number_19 rfl (by decide) rfl rfl gw_1678 gw_1680 gw_33 mb_X12_isAt rfl (Nat.zero_le _) (Nat.le_of_ble_eq_true rfl) rfl (CL.imp k (fun _ h4 k => ?_) (fun _ _ k => k))
    obtain ⟨r5, rfl, k⟩ := oI_of k
    show AW X (d + 1) rb mX12_number 22 _ [vI r5, vR 12 0] h4 Qr Qx
    refine aw_iconst (v := 1) dX12_number_22 rfl (by decide) ?_
    refine aw_callV (M' := mX12_must) (S := []) (as := [vI r5, vI 1]) (k := 0) dX12_number_23 rfl (by decide) rfl rfl gw_1701 gw_1703 gw_38 mb_X12_must rfl (Nat.zero_le _) (Nat.le_of_ble_eq_true rfl) rfl (CL.imp k (fun _ h6 k => ?_) (fun _ _ k => k))
    obtain ⟨rfl, k⟩ := oV_of k
    show AW X (d + 1) rb mX12_number 26 _ [] h6 Qr Qx
    refine aw_iconst (v := 0) dX12_number_26 rfl (by decide) ?_
    refine aw_istore_n (i := 3) (L2 := [(3, vI 0), (0, vR 12 0), (1, vI a1), (2, vI a2)]) dX12_number_27 rfl rfl (by decide) rfl ?_
    exact aw_sub [1, 2, 3, 0] rfl k
  · replace k := k.2 c
    refine aw_iload_n (j := 1) (i := 1) dX12_number_7 rfl rfl rfl ?_
    exact aw_iret dX12_number_8 rfl k
set_option maxHeartbeats 4000000 in
set_option maxRecDepth 100000 in
theorem vc_X12_number_28 {X : WD → State → Prop} {d rb : Nat} {h : Hp} {Qr : Option AV → Hp → Prop} {Qx : String → Hp → Prop} {x1 : Int32} {x2 : Int32} {x3 : Int32}  (k : CL 0 d mX12_isAt [vR 12 0, vI 48, vI 57] h (oI fun r2 h1 => ((r2 = 0) → ((4 < ((h1.1 12 0 4) - (h1.1 12 0 5))) → CL 0 d mX12_must [vR 12 0, vI 0, vI 2] h1 (oV fun h3 => CL 0 d mX12_hasFailed [vR 12 0] h3 (oI fun r5 h4 => Qr (some (vI (if r5 = 0 then (x3 : Int32) else x1))) h4) Qx) Qx) ∧ ((¬ 4 < ((h1.1 12 0 4) - (h1.1 12 0 5))) → CL 0 d mX12_in [vI x3, vI x1, vI x2] h1 (oI fun r7 h6 => CL 0 d mX12_must [vR 12 0, vI (if r7 = 0 then (0 : Int32) else 1), vI 2] h6 (oV fun h8 => CL 0 d mX12_hasFailed [vR 12 0] h8 (oI fun r10 h9 => Qr (some (vI (if r10 = 0 then (x3 : Int32) else x1))) h9) Qx) Qx) Qx)) ∧ ((¬ r2 = 0) → ((4 ≤ ((h1.1 12 0 4) - (h1.1 12 0 5))) → AW X (d + 1) rb mX12_number 28 [(0, vR 12 0), (1, vI x1), (2, vI x2), (3, vI x3)] [] (hp_i h1 12 0 4 ((h1.1 12 0 4) + 1)) Qr Qx) ∧ ((¬ 4 ≤ ((h1.1 12 0 4) - (h1.1 12 0 5))) → (vp_in (h1.1 12 0 4) 900) ∧ AW X (d + 1) rb mX12_number 28 [(0, vR 12 0), (1, vI x1), (2, vI x2), (3, vI (((10 * x3) + (h1.1 54 0 ((h1.1 12 0 4).toNatClampNeg))) - 48))] [] (hp_i h1 12 0 4 ((h1.1 12 0 4) + 1)) Qr Qx))) Qx) : AW X (d + 1) rb mX12_number 28 [(0, vR 12 0), (1, vI x1), (2, vI x2), (3, vI x3)] [] h Qr Qx := by
  refine aw_aload_n (j := 0) (i := 0) dX12_number_28 rfl rfl rfl ?_
  refine aw_bipush (v := 48) dX12_number_29 rfl (by decide) ?_
  refine aw_bipush (v := 57) dX12_number_31 rfl (by decide) ?_
  refine aw_callV (M' := mX12_isAt) (S := []) (as := [vI 48, vI 57]) (k := 0) dX12_number_33 rfl (by decide) rfl rfl gw_1678 gw_1680 gw_33 mb_X12_isAt rfl (Nat.zero_le _) (Nat.le_of_ble_eq_true rfl) rfl (CL.imp k (fun _ h1 k => ?_) (fun _ _ k => k))
  obtain ⟨r2, rfl, k⟩ := oI_of k
  show AW X (d + 1) rb mX12_number 36 _ [vI r2] h1 Qr Qx
  refine aw_if_eq 83 dX12_number_36 rfl rfl (fun c => ?_) (fun c => ?_)
  · replace k := k.1 c
    refine aw_aload_n (j := 0) (i := 0) dX12_number_83 rfl rfl rfl ?_
    refine aw_aload_n (j := 0) (i := 0) dX12_number_84 rfl rfl rfl ?_
    refine aw_geti (k := 4) dX12_number_85 rfl (by decide) rfl rfl cb_12 (by decide) gw_1598 ?_
    refine aw_aload_n (j := 0) (i := 0) dX12_number_88 rfl rfl rfl ?_
    refine aw_geti (k := 5) dX12_number_89 rfl (by decide) rfl rfl cb_12 (by decide) gw_1599 ?_
    refine aw_isub dX12_number_92 rfl ?_
    refine aw_iconst (v := 4) dX12_number_93 rfl (by decide) ?_
    refine aw_icmp_gt 110 dX12_number_94 rfl rfl (fun c => ?_) (fun c => ?_)
    · replace k := k.1 c
      refine aw_iconst (v := 0) dX12_number_110 rfl (by decide) ?_
      refine aw_iconst (v := 2) dX12_number_111 rfl (by decide) ?_
      refine aw_callV (M' := mX12_must) (S := []) (as := [vI 0, vI 2]) (k := 0) dX12_number_112 rfl (by decide) rfl rfl gw_1701 gw_1703 gw_38 mb_X12_must rfl (Nat.zero_le _) (Nat.le_of_ble_eq_true rfl) rfl (CL.imp k (fun _ h3 k => ?_) (fun _ _ k => k))
      obtain ⟨rfl, k⟩ := oV_of k
      show AW X (d + 1) rb mX12_number 115 _ [] h3 Qr Qx
      refine aw_aload_n (j := 0) (i := 0) dX12_number_115 rfl rfl rfl ?_
      refine aw_callV (M' := mX12_hasFailed) (S := []) (as := []) (k := 0) dX12_number_116 rfl (by decide) rfl rfl gw_1682 gw_1684 gw_34 mb_X12_hasFailed rfl (Nat.zero_le _) (Nat.le_of_ble_eq_true rfl) rfl (CL.imp k (fun _ h4 k => ?_) (fun _ _ k => k))
      obtain ⟨r5, rfl, k⟩ := oI_of k
      show AW X (d + 1) rb mX12_number 119 _ [vI r5] h4 Qr Qx
      have kk : AW X (d + 1) rb mX12_number 127 [(0, vR 12 0), (1, vI x1), (2, vI x2), (3, vI x3)] [vI (if r5 = 0 then (x3 : Int32) else x1)] h4 Qr Qx := by
        exact aw_iret dX12_number_127 rfl k
      refine aw_if_eq 126 dX12_number_119 rfl rfl (fun (c0 : r5 = 0) => ?_) (fun (c0 : ¬ r5 = 0) => ?_)
      · refine aw_iload_n (j := 3) (i := 3) dX12_number_126 rfl rfl rfl ?_
        simp only [if_pos c0] at kk
        exact kk
      · refine aw_iload_n (j := 1) (i := 1) dX12_number_122 rfl rfl rfl ?_
        refine aw_goto 127 dX12_number_123 rfl ?_
        simp only [if_neg c0] at kk
        exact kk
    · replace k := k.2 c
      refine aw_iload_n (j := 3) (i := 3) dX12_number_97 rfl rfl rfl ?_
      refine aw_iload_n (j := 1) (i := 1) dX12_number_98 rfl rfl rfl ?_
      refine aw_iload_n (j := 2) (i := 2) dX12_number_99 rfl rfl rfl ?_
      refine aw_callS (M' := mX12_in) (S := [vR 12 0]) (as := [vI x3, vI x1, vI x2]) (k := 0) dX12_number_100 rfl gw_1713 gw_1714 mb_X12_in rfl (Nat.zero_le _) (Nat.le_of_ble_eq_true rfl) rfl (CL.imp k (fun _ h6 k => ?_) (fun _ _ k => k))
      obtain ⟨r7, rfl, k⟩ := oI_of k
      show AW X (d + 1) rb mX12_number 103 _ [vI r7, vR 12 0] h6 Qr Qx
      have kk : AW X (d + 1) rb mX12_number 111 [(0, vR 12 0), (1, vI x1), (2, vI x2), (3, vI x3)] [vI (if r7 = 0 then (0 : Int32) else 1), vR 12 0] h6 Qr Qx := by
        refine aw_iconst (v := 2) dX12_number_111 rfl (by decide) ?_
        refine aw_callV (M' := mX12_must) (S := []) (as := [vI (if r7 = 0 then (0 : Int32) else 1), vI 2]) (k := 0) dX12_number_112 rfl (by decide) rfl rfl gw_1701 gw_1703 gw_38 mb_X12_must rfl (Nat.zero_le _) (Nat.le_of_ble_eq_true rfl) rfl (CL.imp k (fun _ h8 k => ?_) (fun _ _ k => k))
        obtain ⟨rfl, k⟩ := oV_of k
        show AW X (d + 1) rb mX12_number 115 _ [] h8 Qr Qx
        refine aw_aload_n (j := 0) (i := 0) dX12_number_115 rfl rfl rfl ?_
        refine aw_callV (M' := mX12_hasFailed) (S := []) (as := []) (k := 0) dX12_number_116 rfl (by decide) rfl rfl gw_1682 gw_1684 gw_34 mb_X12_hasFailed rfl (Nat.zero_le _) (Nat.le_of_ble_eq_true rfl) rfl (CL.imp k (fun _ h9 k => ?_) (fun _ _ k => k))
        obtain ⟨r10, rfl, k⟩ := oI_of k
        show AW X (d + 1) rb mX12_number 119 _ [vI r10] h9 Qr Qx
        have kk : AW X (d + 1) rb mX12_number 127 [(0, vR 12 0), (1, vI x1), (2, vI x2), (3, vI x3)] [vI (if r10 = 0 then (x3 : Int32) else x1)] h9 Qr Qx := by
          exact aw_iret dX12_number_127 rfl k
        refine aw_if_eq 126 dX12_number_119 rfl rfl (fun (c0 : r10 = 0) => ?_) (fun (c0 : ¬ r10 = 0) => ?_)
        · refine aw_iload_n (j := 3) (i := 3) dX12_number_126 rfl rfl rfl ?_
          simp only [if_pos c0] at kk
          exact kk
        · refine aw_iload_n (j := 1) (i := 1) dX12_number_122 rfl rfl rfl ?_
          refine aw_goto 127 dX12_number_123 rfl ?_
          simp only [if_neg c0] at kk
          exact kk
      refine aw_if_eq 110 dX12_number_103 rfl rfl (fun (c0 : r7 = 0) => ?_) (fun (c0 : ¬ r7 = 0) => ?_)
      · refine aw_iconst (v := 0) dX12_number_110 rfl (by decide) ?_
        simp only [if_pos c0] at kk
        exact kk
      · refine aw_iconst (v := 1) dX12_number_106 rfl (by decide) ?_
        refine aw_goto 111 dX12_number_107 rfl ?_
        simp only [if_neg c0] at kk
        exact kk
  · replace k := k.2 c
    refine aw_aload_n (j := 0) (i := 0) dX12_number_39 rfl rfl rfl ?_
    refine aw_geti (k := 4) dX12_number_40 rfl (by decide) rfl rfl cb_12 (by decide) gw_1598 ?_
    refine aw_aload_n (j := 0) (i := 0) dX12_number_43 rfl rfl rfl ?_
    refine aw_geti (k := 5) dX12_number_44 rfl (by decide) rfl rfl cb_12 (by decide) gw_1599 ?_
    refine aw_isub dX12_number_47 rfl ?_
    refine aw_iconst (v := 4) dX12_number_48 rfl (by decide) ?_
    refine aw_icmp_ge 70 dX12_number_49 rfl rfl (fun c => ?_) (fun c => ?_)
    · replace k := k.1 c
      refine aw_aload_n (j := 0) (i := 0) dX12_number_70 rfl rfl rfl ?_
      refine aw_dup dX12_number_71 rfl rfl ?_
      refine aw_geti (k := 4) dX12_number_72 rfl (by decide) rfl rfl cb_12 (by decide) gw_1598 ?_
      refine aw_iconst (v := 1) dX12_number_75 rfl (by decide) ?_
      refine aw_iadd dX12_number_76 rfl ?_
      refine aw_puti (k := 4) dX12_number_77 rfl (by decide) rfl rfl cb_12 (by decide) rfl rfl gw_1598 ?_
      refine aw_goto 28 dX12_number_80 rfl ?_
      exact aw_sub [0, 1, 2, 3] rfl k
    · replace k := k.2 c
      refine aw_bipush (v := 10) dX12_number_52 rfl (by decide) ?_
      refine aw_iload_n (j := 3) (i := 3) dX12_number_54 rfl rfl rfl ?_
      refine aw_imul dX12_number_55 rfl ?_
      refine aw_aload_n (j := 0) (i := 0) dX12_number_56 rfl rfl rfl ?_
      refine aw_getf (k := 1) (z := 54) dX12_number_57 rfl (by decide) rfl rfl rfl cb_12 (by decide) gw_1595 ?_
      refine aw_aload_n (j := 0) (i := 0) dX12_number_60 rfl rfl rfl ?_
      refine aw_geti (k := 4) dX12_number_61 rfl (by decide) rfl rfl cb_12 (by decide) gw_1598 ?_
      refine aw_bald dX12_number_64 rfl (by decide) rfl k.1 ?_
      replace k := k.2
      refine aw_iadd dX12_number_65 rfl ?_
      refine aw_bipush (v := 48) dX12_number_66 rfl (by decide) ?_
      refine aw_isub dX12_number_68 rfl ?_
      refine aw_istore_n (i := 3) (L2 := [(3, vI (((10 * x3) + (h1.1 54 0 ((h1.1 12 0 4).toNatClampNeg))) - 48)), (0, vR 12 0), (1, vI x1), (2, vI x2)]) dX12_number_69 rfl rfl (by decide) rfl ?_
      refine aw_aload_n (j := 1) (i := 0) dX12_number_70 rfl rfl rfl ?_
      refine aw_dup dX12_number_71 rfl rfl ?_
      refine aw_geti (k := 4) dX12_number_72 rfl (by decide) rfl rfl cb_12 (by decide) gw_1598 ?_
      refine aw_iconst (v := 1) dX12_number_75 rfl (by decide) ?_
      refine aw_iadd dX12_number_76 rfl ?_
      refine aw_puti (k := 4) dX12_number_77 rfl (by decide) rfl rfl cb_12 (by decide) rfl rfl gw_1598 ?_
      refine aw_goto 28 dX12_number_80 rfl ?_
      exact aw_sub [1, 2, 3, 0] rfl k
set_option maxHeartbeats 4000000 in
set_option maxRecDepth 100000 in
theorem vc_X12_usualRung_0 {X : WD → State → Prop} {d rb : Nat} {h : Hp} {Qr : Option AV → Hp → Prop} {Qx : String → Hp → Prop}   (k : Qr none (hp_i (hp_i (hp_i (hp_i h 57 0 2 1) 57 0 388 0) 57 0 389 9) 57 0 390 100)) : AW X (d + 1) rb mX12_usualRung 0 [(0, vR 12 0)] [] h Qr Qx := by
  refine aw_aload_n (j := 0) (i := 0) dX12_usualRung_0 rfl rfl rfl ?_
  refine aw_getf (k := 12) (z := 57) dX12_usualRung_1 rfl (by decide) rfl rfl rfl cb_12 (by decide) gw_1606 ?_
  refine aw_iconst (v := 2) dX12_usualRung_4 rfl (by decide) ?_
  refine aw_iconst (v := 1) dX12_usualRung_5 rfl (by decide) ?_
  refine aw_iast dX12_usualRung_6 rfl (by decide) rfl (by unfold vp_in; decide) ?_
  refine aw_aload_n (j := 0) (i := 0) dX12_usualRung_7 rfl rfl rfl ?_
  refine aw_getf (k := 12) (z := 57) dX12_usualRung_8 rfl (by decide) rfl rfl rfl cb_12 (by decide) gw_1606 ?_
  refine aw_sipush (v := 388) dX12_usualRung_11 rfl (by decide) ?_
  refine aw_iconst (v := 0) dX12_usualRung_14 rfl (by decide) ?_
  refine aw_iast dX12_usualRung_15 rfl (by decide) rfl (by unfold vp_in; decide) ?_
  refine aw_aload_n (j := 0) (i := 0) dX12_usualRung_16 rfl rfl rfl ?_
  refine aw_getf (k := 12) (z := 57) dX12_usualRung_17 rfl (by decide) rfl rfl rfl cb_12 (by decide) gw_1606 ?_
  refine aw_sipush (v := 389) dX12_usualRung_20 rfl (by decide) ?_
  refine aw_bipush (v := 9) dX12_usualRung_23 rfl (by decide) ?_
  refine aw_iast dX12_usualRung_25 rfl (by decide) rfl (by unfold vp_in; decide) ?_
  refine aw_aload_n (j := 0) (i := 0) dX12_usualRung_26 rfl rfl rfl ?_
  refine aw_getf (k := 12) (z := 57) dX12_usualRung_27 rfl (by decide) rfl rfl rfl cb_12 (by decide) gw_1606 ?_
  refine aw_sipush (v := 390) dX12_usualRung_30 rfl (by decide) ?_
  refine aw_bipush (v := 100) dX12_usualRung_33 rfl (by decide) ?_
  refine aw_iast dX12_usualRung_35 rfl (by decide) rfl (by unfold vp_in; decide) ?_
  exact aw_vret dX12_usualRung_36 rfl k
set_option maxHeartbeats 4000000 in
set_option maxRecDepth 100000 in
theorem vc_X12_named_0 {X : WD → State → Prop} {d rb : Nat} {h : Hp} {Qr : Option AV → Hp → Prop} {Qx : String → Hp → Prop}   (k : CL 0 d mX12_letters [vR 12 0] h (oI fun r2 h1 => CL 0 d mX12_in [vI r2, vI 1, vI 8] h1 (oI fun r4 h3 => CL 0 d mX12_must [vR 12 0, vI r4, vI 1] h3 (oV fun h5 => AW X (d + 1) rb mX12_named 19 [(0, vR 12 0), (1, vI r2), (2, vI 0)] [] h5 Qr Qx) Qx) Qx) Qx) : AW X (d + 1) rb mX12_named 0 [(0, vR 12 0)] [] h Qr Qx := by
  refine aw_aload_n (j := 0) (i := 0) dX12_named_0 rfl rfl rfl ?_
  refine aw_callV (M' := mX12_letters) (S := []) (as := []) (k := 0) dX12_named_1 rfl (by decide) rfl rfl gw_1691 gw_1693 gw_36 mb_X12_letters rfl (Nat.zero_le _) (Nat.le_of_ble_eq_true rfl) rfl (CL.imp k (fun _ h1 k => ?_) (fun _ _ k => k))
  obtain ⟨r2, rfl, k⟩ := oI_of k
  show AW X (d + 1) rb mX12_named 4 _ [vI r2] h1 Qr Qx
  refine aw_istore_n (i := 1) (L2 := [(1, vI r2), (0, vR 12 0)]) dX12_named_4 rfl rfl (by decide) rfl ?_
  refine aw_aload_n (j := 1) (i := 0) dX12_named_5 rfl rfl rfl ?_
  refine aw_iload_n (j := 0) (i := 1) dX12_named_6 rfl rfl rfl ?_
  refine aw_iconst (v := 1) dX12_named_7 rfl (by decide) ?_
  refine aw_bipush (v := 8) dX12_named_8 rfl (by decide) ?_
  refine aw_callS (M' := mX12_in) (S := [vR 12 0]) (as := [vI r2, vI 1, vI 8]) (k := 0) dX12_named_10 rfl gw_1713 gw_1714 mb_X12_in rfl (Nat.zero_le _) (Nat.le_of_ble_eq_true rfl) rfl (CL.imp k (fun _ h3 k => ?_) (fun _ _ k => k))
  obtain ⟨r4, rfl, k⟩ := oI_of k
  show AW X (d + 1) rb mX12_named 13 _ [vI r4, vR 12 0] h3 Qr Qx
  refine aw_iconst (v := 1) dX12_named_13 rfl (by decide) ?_
  refine aw_callV (M' := mX12_must) (S := []) (as := [vI r4, vI 1]) (k := 0) dX12_named_14 rfl (by decide) rfl rfl gw_1701 gw_1703 gw_38 mb_X12_must rfl (Nat.zero_le _) (Nat.le_of_ble_eq_true rfl) rfl (CL.imp k (fun _ h5 k => ?_) (fun _ _ k => k))
  obtain ⟨rfl, k⟩ := oV_of k
  show AW X (d + 1) rb mX12_named 17 _ [] h5 Qr Qx
  refine aw_iconst (v := 0) dX12_named_17 rfl (by decide) ?_
  refine aw_istore_n (i := 2) (L2 := [(2, vI 0), (1, vI r2), (0, vR 12 0)]) dX12_named_18 rfl rfl (by decide) rfl ?_
  exact aw_sub [2, 1, 0] rfl k
set_option maxHeartbeats 4000000 in
set_option maxRecDepth 100000 in
theorem vc_X12_named_19 {X : WD → State → Prop} {d rb : Nat} {h : Hp} {Qr : Option AV → Hp → Prop} {Qx : String → Hp → Prop} {x1 : Int32} {x2 : Int32}  (k : ((20 ≤ x2) → Qr (some (vI (-1))) h) ∧ ((¬ 20 ≤ x2) → CL 0 d mX12_hasFailed [vR 12 0] h (oI fun r2 h1 => ((¬ r2 = 0) → Qr (some (vI (-1))) h1) ∧ ((r2 = 0) → ((12 ≤ x2) → AW X (d + 1) rb mX12_named 78 [(0, vR 12 0), (1, vI x1), (2, vI x2), (3, vI (if (h1.1 57 0 1) ≤ (x2 - 12) then (0 : Int32) else 1)), (4, vI 0)] [] h1 Qr Qx) ∧ ((¬ 12 ≤ x2) → AW X (d + 1) rb mX12_named 78 [(0, vR 12 0), (1, vI x1), (2, vI x2), (3, vI (if (h1.1 57 0 0) ≤ x2 then (0 : Int32) else 1)), (4, vI 0)] [] h1 Qr Qx))) Qx)) : AW X (d + 1) rb mX12_named 19 [(0, vR 12 0), (1, vI x1), (2, vI x2)] [] h Qr Qx := by
  refine aw_iload_n (j := 2) (i := 2) dX12_named_19 rfl rfl rfl ?_
  refine aw_bipush (v := 20) dX12_named_20 rfl (by decide) ?_
  refine aw_icmp_ge 152 dX12_named_22 rfl rfl (fun c => ?_) (fun c => ?_)
  · replace k := k.1 c
    refine aw_iconst (v := (-1)) dX12_named_152 rfl (by decide) ?_
    exact aw_iret dX12_named_153 rfl k
  · replace k := k.2 c
    refine aw_aload_n (j := 0) (i := 0) dX12_named_25 rfl rfl rfl ?_
    refine aw_callV (M' := mX12_hasFailed) (S := []) (as := []) (k := 0) dX12_named_26 rfl (by decide) rfl rfl gw_1682 gw_1684 gw_34 mb_X12_hasFailed rfl (Nat.zero_le _) (Nat.le_of_ble_eq_true rfl) rfl (CL.imp k (fun _ h1 k => ?_) (fun _ _ k => k))
    obtain ⟨r2, rfl, k⟩ := oI_of k
    show AW X (d + 1) rb mX12_named 29 _ [vI r2] h1 Qr Qx
    refine aw_if_ne 152 dX12_named_29 rfl rfl (fun c => ?_) (fun c => ?_)
    · replace k := k.1 c
      refine aw_iconst (v := (-1)) dX12_named_152 rfl (by decide) ?_
      exact aw_iret dX12_named_153 rfl k
    · replace k := k.2 c
      refine aw_iload_n (j := 2) (i := 2) dX12_named_32 rfl rfl rfl ?_
      refine aw_bipush (v := 12) dX12_named_33 rfl (by decide) ?_
      refine aw_icmp_ge 56 dX12_named_35 rfl rfl (fun c => ?_) (fun c => ?_)
      · replace k := k.1 c
        refine aw_iload_n (j := 2) (i := 2) dX12_named_56 rfl rfl rfl ?_
        refine aw_bipush (v := 12) dX12_named_57 rfl (by decide) ?_
        refine aw_isub dX12_named_59 rfl ?_
        refine aw_aload_n (j := 0) (i := 0) dX12_named_60 rfl rfl rfl ?_
        refine aw_getf (k := 12) (z := 57) dX12_named_61 rfl (by decide) rfl rfl rfl cb_12 (by decide) gw_1606 ?_
        refine aw_iconst (v := 1) dX12_named_64 rfl (by decide) ?_
        refine aw_iald dX12_named_65 rfl (by decide) rfl (by unfold vp_in; decide) ?_
        have kk : AW X (d + 1) rb mX12_named 74 [(0, vR 12 0), (1, vI x1), (2, vI x2)] [vI (if (h1.1 57 0 1) ≤ (x2 - 12) then (0 : Int32) else 1)] h1 Qr Qx := by
          refine aw_istore_n (i := 3) (L2 := [(3, vI (if (h1.1 57 0 1) ≤ (x2 - 12) then (0 : Int32) else 1)), (0, vR 12 0), (1, vI x1), (2, vI x2)]) dX12_named_74 rfl rfl (by decide) rfl ?_
          refine aw_iconst (v := 0) dX12_named_75 rfl (by decide) ?_
          refine aw_istore (i := 4) (L2 := [(4, vI 0), (3, vI (if (h1.1 57 0 1) ≤ (x2 - 12) then (0 : Int32) else 1)), (0, vR 12 0), (1, vI x1), (2, vI x2)]) dX12_named_76 rfl (by decide) rfl ?_
          exact aw_sub [2, 3, 4, 1, 0] rfl k
        refine aw_icmp_ge 73 dX12_named_66 rfl rfl (fun (c0 : (h1.1 57 0 1) ≤ (x2 - 12)) => ?_) (fun (c0 : ¬ (h1.1 57 0 1) ≤ (x2 - 12)) => ?_)
        · refine aw_iconst (v := 0) dX12_named_73 rfl (by decide) ?_
          simp only [if_pos c0] at kk
          exact kk
        · refine aw_iconst (v := 1) dX12_named_69 rfl (by decide) ?_
          refine aw_goto 74 dX12_named_70 rfl ?_
          simp only [if_neg c0] at kk
          exact kk
      · replace k := k.2 c
        refine aw_iload_n (j := 2) (i := 2) dX12_named_38 rfl rfl rfl ?_
        refine aw_aload_n (j := 0) (i := 0) dX12_named_39 rfl rfl rfl ?_
        refine aw_getf (k := 12) (z := 57) dX12_named_40 rfl (by decide) rfl rfl rfl cb_12 (by decide) gw_1606 ?_
        refine aw_iconst (v := 0) dX12_named_43 rfl (by decide) ?_
        refine aw_iald dX12_named_44 rfl (by decide) rfl (by unfold vp_in; decide) ?_
        have kk : AW X (d + 1) rb mX12_named 74 [(0, vR 12 0), (1, vI x1), (2, vI x2)] [vI (if (h1.1 57 0 0) ≤ x2 then (0 : Int32) else 1)] h1 Qr Qx := by
          refine aw_istore_n (i := 3) (L2 := [(3, vI (if (h1.1 57 0 0) ≤ x2 then (0 : Int32) else 1)), (0, vR 12 0), (1, vI x1), (2, vI x2)]) dX12_named_74 rfl rfl (by decide) rfl ?_
          refine aw_iconst (v := 0) dX12_named_75 rfl (by decide) ?_
          refine aw_istore (i := 4) (L2 := [(4, vI 0), (3, vI (if (h1.1 57 0 0) ≤ x2 then (0 : Int32) else 1)), (0, vR 12 0), (1, vI x1), (2, vI x2)]) dX12_named_76 rfl (by decide) rfl ?_
          exact aw_sub [2, 3, 4, 1, 0] rfl k
        refine aw_icmp_ge 52 dX12_named_45 rfl rfl (fun (c0 : (h1.1 57 0 0) ≤ x2) => ?_) (fun (c0 : ¬ (h1.1 57 0 0) ≤ x2) => ?_)
        · refine aw_iconst (v := 0) dX12_named_52 rfl (by decide) ?_
          refine aw_goto 74 dX12_named_53 rfl ?_
          simp only [if_pos c0] at kk
          exact kk
        · refine aw_iconst (v := 1) dX12_named_48 rfl (by decide) ?_
          refine aw_goto 74 dX12_named_49 rfl ?_
          simp only [if_neg c0] at kk
          exact kk
set_option maxHeartbeats 4000000 in
set_option maxRecDepth 100000 in
theorem vc_X12_named_78 {X : WD → State → Prop} {d rb : Nat} {h : Hp} {Qr : Option AV → Hp → Prop} {Qx : String → Hp → Prop} {x1 : Int32} {x2 : Int32} {x3 : Int32} {x4 : Int32}  (k : ((8 ≤ x4) → AW X (d + 1) rb mX12_named 140 [(0, vR 12 0), (1, vI x1), (2, vI x2), (3, vI x3), (4, vI x4)] [] h Qr Qx) ∧ ((¬ 8 ≤ x4) → ((x3 = 0) → AW X (d + 1) rb mX12_named 78 [(0, vR 12 0), (1, vI x1), (2, vI x2), (3, vI 0), (4, vI (x4 + 1))] [] h Qr Qx) ∧ ((¬ x3 = 0) → (vp_in ((4 + (8 * x2)) + x4) 506) ∧ ((x1 ≤ x4) → AW X (d + 1) rb mX12_named 78 [(0, vR 12 0), (1, vI x1), (2, vI x2), (3, vI (if ¬ (h.1 57 0 (((4 + (8 * x2)) + x4).toNatClampNeg)) = 0 then (0 : Int32) else 1)), (4, vI (x4 + 1))] [] h Qr Qx) ∧ ((¬ x1 ≤ x4) → (vp_in ((h.1 12 0 4) + x4) 900) ∧ AW X (d + 1) rb mX12_named 78 [(0, vR 12 0), (1, vI x1), (2, vI x2), (3, vI (if ¬ (h.1 57 0 (((4 + (8 * x2)) + x4).toNatClampNeg)) = (h.1 54 0 (((h.1 12 0 4) + x4).toNatClampNeg)) then (0 : Int32) else 1)), (4, vI (x4 + 1))] [] h Qr Qx)))) : AW X (d + 1) rb mX12_named 78 [(0, vR 12 0), (1, vI x1), (2, vI x2), (3, vI x3), (4, vI x4)] [] h Qr Qx := by
  refine aw_iload (j := 4) (i := 4) dX12_named_78 rfl rfl ?_
  refine aw_bipush (v := 8) dX12_named_80 rfl (by decide) ?_
  refine aw_icmp_ge 140 dX12_named_82 rfl rfl (fun c => ?_) (fun c => ?_)
  · replace k := k.1 c
    exact aw_sub [0, 1, 2, 3, 4] rfl k
  · replace k := k.2 c
    refine aw_iload_n (j := 3) (i := 3) dX12_named_85 rfl rfl rfl ?_
    refine aw_if_eq 132 dX12_named_86 rfl rfl (fun c => ?_) (fun c => ?_)
    · replace k := k.1 c
      refine aw_iconst (v := 0) dX12_named_132 rfl (by decide) ?_
      refine aw_istore_n (i := 3) (L2 := [(3, vI 0), (0, vR 12 0), (1, vI x1), (2, vI x2), (4, vI x4)]) dX12_named_133 rfl rfl (by decide) rfl ?_
      refine aw_iinc (i := 4) (j := 4) (v := x4 + 1) (L2 := [(4, vI (x4 + 1)), (3, vI 0), (0, vR 12 0), (1, vI x1), (2, vI x2)]) dX12_named_134 rfl (by decide) rfl rfl rfl ?_
      refine aw_goto 78 dX12_named_137 rfl ?_
      exact aw_sub [2, 3, 4, 1, 0] rfl k
    · replace k := k.2 c
      refine aw_aload_n (j := 0) (i := 0) dX12_named_89 rfl rfl rfl ?_
      refine aw_getf (k := 12) (z := 57) dX12_named_90 rfl (by decide) rfl rfl rfl cb_12 (by decide) gw_1606 ?_
      refine aw_iconst (v := 4) dX12_named_93 rfl (by decide) ?_
      refine aw_bipush (v := 8) dX12_named_94 rfl (by decide) ?_
      refine aw_iload_n (j := 2) (i := 2) dX12_named_96 rfl rfl rfl ?_
      refine aw_imul dX12_named_97 rfl ?_
      refine aw_iadd dX12_named_98 rfl ?_
      refine aw_iload (j := 4) (i := 4) dX12_named_99 rfl rfl ?_
      refine aw_iadd dX12_named_101 rfl ?_
      refine aw_iald dX12_named_102 rfl (by decide) rfl k.1 ?_
      replace k := k.2
      refine aw_iload (j := 4) (i := 4) dX12_named_103 rfl rfl ?_
      refine aw_iload_n (j := 1) (i := 1) dX12_named_105 rfl rfl rfl ?_
      refine aw_icmp_ge 124 dX12_named_106 rfl rfl (fun c => ?_) (fun c => ?_)
      · replace k := k.1 c
        refine aw_iconst (v := 0) dX12_named_124 rfl (by decide) ?_
        have kk : AW X (d + 1) rb mX12_named 133 [(0, vR 12 0), (1, vI x1), (2, vI x2), (3, vI x3), (4, vI x4)] [vI (if ¬ (h.1 57 0 (((4 + (8 * x2)) + x4).toNatClampNeg)) = 0 then (0 : Int32) else 1)] h Qr Qx := by
          refine aw_istore_n (i := 3) (L2 := [(3, vI (if ¬ (h.1 57 0 (((4 + (8 * x2)) + x4).toNatClampNeg)) = 0 then (0 : Int32) else 1)), (0, vR 12 0), (1, vI x1), (2, vI x2), (4, vI x4)]) dX12_named_133 rfl rfl (by decide) rfl ?_
          refine aw_iinc (i := 4) (j := 4) (v := x4 + 1) (L2 := [(4, vI (x4 + 1)), (3, vI (if ¬ (h.1 57 0 (((4 + (8 * x2)) + x4).toNatClampNeg)) = 0 then (0 : Int32) else 1)), (0, vR 12 0), (1, vI x1), (2, vI x2)]) dX12_named_134 rfl (by decide) rfl rfl rfl ?_
          refine aw_goto 78 dX12_named_137 rfl ?_
          exact aw_sub [2, 3, 4, 1, 0] rfl k
        refine aw_icmp_ne 132 dX12_named_125 rfl rfl (fun (c0 : ¬ (h.1 57 0 (((4 + (8 * x2)) + x4).toNatClampNeg)) = 0) => ?_) (fun (c0 : (h.1 57 0 (((4 + (8 * x2)) + x4).toNatClampNeg)) = 0) => ?_)
        · refine aw_iconst (v := 0) dX12_named_132 rfl (by decide) ?_
          simp only [if_pos c0] at kk
          exact kk
        · refine aw_iconst (v := 1) dX12_named_128 rfl (by decide) ?_
          refine aw_goto 133 dX12_named_129 rfl ?_
          simp only [if_neg (oa_nn c0)] at kk
          exact kk
      · replace k := k.2 c
        refine aw_aload_n (j := 0) (i := 0) dX12_named_109 rfl rfl rfl ?_
        refine aw_getf (k := 1) (z := 54) dX12_named_110 rfl (by decide) rfl rfl rfl cb_12 (by decide) gw_1595 ?_
        refine aw_aload_n (j := 0) (i := 0) dX12_named_113 rfl rfl rfl ?_
        refine aw_geti (k := 4) dX12_named_114 rfl (by decide) rfl rfl cb_12 (by decide) gw_1598 ?_
        refine aw_iload (j := 4) (i := 4) dX12_named_117 rfl rfl ?_
        refine aw_iadd dX12_named_119 rfl ?_
        refine aw_bald dX12_named_120 rfl (by decide) rfl k.1 ?_
        replace k := k.2
        refine aw_goto 125 dX12_named_121 rfl ?_
        have kk : AW X (d + 1) rb mX12_named 133 [(0, vR 12 0), (1, vI x1), (2, vI x2), (3, vI x3), (4, vI x4)] [vI (if ¬ (h.1 57 0 (((4 + (8 * x2)) + x4).toNatClampNeg)) = (h.1 54 0 (((h.1 12 0 4) + x4).toNatClampNeg)) then (0 : Int32) else 1)] h Qr Qx := by
          refine aw_istore_n (i := 3) (L2 := [(3, vI (if ¬ (h.1 57 0 (((4 + (8 * x2)) + x4).toNatClampNeg)) = (h.1 54 0 (((h.1 12 0 4) + x4).toNatClampNeg)) then (0 : Int32) else 1)), (0, vR 12 0), (1, vI x1), (2, vI x2), (4, vI x4)]) dX12_named_133 rfl rfl (by decide) rfl ?_
          refine aw_iinc (i := 4) (j := 4) (v := x4 + 1) (L2 := [(4, vI (x4 + 1)), (3, vI (if ¬ (h.1 57 0 (((4 + (8 * x2)) + x4).toNatClampNeg)) = (h.1 54 0 (((h.1 12 0 4) + x4).toNatClampNeg)) then (0 : Int32) else 1)), (0, vR 12 0), (1, vI x1), (2, vI x2)]) dX12_named_134 rfl (by decide) rfl rfl rfl ?_
          refine aw_goto 78 dX12_named_137 rfl ?_
          exact aw_sub [2, 3, 4, 1, 0] rfl k
        refine aw_icmp_ne 132 dX12_named_125 rfl rfl (fun (c0 : ¬ (h.1 57 0 (((4 + (8 * x2)) + x4).toNatClampNeg)) = (h.1 54 0 (((h.1 12 0 4) + x4).toNatClampNeg))) => ?_) (fun (c0 : (h.1 57 0 (((4 + (8 * x2)) + x4).toNatClampNeg)) = (h.1 54 0 (((h.1 12 0 4) + x4).toNatClampNeg))) => ?_)
        · refine aw_iconst (v := 0) dX12_named_132 rfl (by decide) ?_
          simp only [if_pos c0] at kk
          exact kk
        · refine aw_iconst (v := 1) dX12_named_128 rfl (by decide) ?_
          refine aw_goto 133 dX12_named_129 rfl ?_
          simp only [if_neg (oa_nn c0)] at kk
          exact kk
set_option maxHeartbeats 4000000 in
set_option maxRecDepth 100000 in
theorem vc_X12_named_140 {X : WD → State → Prop} {d rb : Nat} {h : Hp} {Qr : Option AV → Hp → Prop} {Qx : String → Hp → Prop} {x1 : Int32} {x2 : Int32} {x3 : Int32} {x4 : Int32}  (k : ((x3 = 0) → AW X (d + 1) rb mX12_named 19 [(0, vR 12 0), (1, vI x1), (2, vI (x2 + 1))] [] h Qr Qx) ∧ ((¬ x3 = 0) → Qr (some (vI x2)) h)) : AW X (d + 1) rb mX12_named 140 [(0, vR 12 0), (1, vI x1), (2, vI x2), (3, vI x3), (4, vI x4)] [] h Qr Qx := by
  refine aw_iload_n (j := 3) (i := 3) dX12_named_140 rfl rfl rfl ?_
  refine aw_if_eq 146 dX12_named_141 rfl rfl (fun c => ?_) (fun c => ?_)
  · replace k := k.1 c
    refine aw_iinc (i := 2) (j := 2) (v := x2 + 1) (L2 := [(2, vI (x2 + 1)), (0, vR 12 0), (1, vI x1), (3, vI x3), (4, vI x4)]) dX12_named_146 rfl (by decide) rfl rfl rfl ?_
    refine aw_goto 19 dX12_named_149 rfl ?_
    exact aw_sub [1, 2, 0] rfl k
  · replace k := k.2 c
    refine aw_iload_n (j := 2) (i := 2) dX12_named_144 rfl rfl rfl ?_
    exact aw_iret dX12_named_145 rfl k
set_option maxHeartbeats 4000000 in
set_option maxRecDepth 100000 in
theorem vc_X12_newName_0 {X : WD → State → Prop} {d rb : Nat} {h : Hp} {Qr : Option AV → Hp → Prop} {Qx : String → Hp → Prop} {a1 : Int32}  (k : CL 0 d mX12_hasFailed [vR 12 0] h (oI fun r2 h1 => ((r2 = 0) → CL 0 d mX12_named [vR 12 0] h1 (oI fun r4 h3 => CL 0 d mX12_must [vR 12 0, vI (if ¬ r4 = (-1) then (0 : Int32) else 1), vI 3] h3 (oV fun h5 => CL 0 d mX12_hasFailed [vR 12 0] h5 (oI fun r7 h6 => ((r7 = 0) → CL 0 d mX12_letters [vR 12 0] h6 (oI fun r9 h8 => AW X (d + 1) rb mX12_newName 47 [(0, vR 12 0), (1, vI a1), (2, vI r4), (3, vI r9), (4, vI 0)] [] h8 Qr Qx) Qx) ∧ ((¬ r7 = 0) → Qr none h6)) Qx) Qx) Qx) ∧ ((¬ r2 = 0) → CL 0 d mX12_must [vR 12 0, vI 1, vI 3] h1 (oV fun h10 => CL 0 d mX12_hasFailed [vR 12 0] h10 (oI fun r12 h11 => ((r12 = 0) → CL 0 d mX12_letters [vR 12 0] h11 (oI fun r14 h13 => AW X (d + 1) rb mX12_newName 47 [(0, vR 12 0), (1, vI a1), (2, vI (-1)), (3, vI r14), (4, vI 0)] [] h13 Qr Qx) Qx) ∧ ((¬ r12 = 0) → Qr none h11)) Qx) Qx)) Qx) : AW X (d + 1) rb mX12_newName 0 [(0, vR 12 0), (1, vI a1)] [] h Qr Qx := by
  refine aw_aload_n (j := 0) (i := 0) dX12_newName_0 rfl rfl rfl ?_
  refine aw_callV (M' := mX12_hasFailed) (S := []) (as := []) (k := 0) dX12_newName_1 rfl (by decide) rfl rfl gw_1682 gw_1684 gw_34 mb_X12_hasFailed rfl (Nat.zero_le _) (Nat.le_of_ble_eq_true rfl) rfl (CL.imp k (fun _ h1 k => ?_) (fun _ _ k => k))
  obtain ⟨r2, rfl, k⟩ := oI_of k
  show AW X (d + 1) rb mX12_newName 4 _ [vI r2] h1 Qr Qx
  refine aw_if_eq 11 dX12_newName_4 rfl rfl (fun c => ?_) (fun c => ?_)
  · replace k := k.1 c
    refine aw_aload_n (j := 0) (i := 0) dX12_newName_11 rfl rfl rfl ?_
    refine aw_callV (M' := mX12_named) (S := []) (as := []) (k := 0) dX12_newName_12 rfl (by decide) rfl rfl gw_1709 gw_1711 gw_40 mb_X12_named rfl (Nat.zero_le _) (Nat.le_of_ble_eq_true rfl) rfl (CL.imp k (fun _ h3 k => ?_) (fun _ _ k => k))
    obtain ⟨r4, rfl, k⟩ := oI_of k
    show AW X (d + 1) rb mX12_newName 15 _ [vI r4] h3 Qr Qx
    refine aw_istore_n (i := 2) (L2 := [(2, vI r4), (0, vR 12 0), (1, vI a1)]) dX12_newName_15 rfl rfl (by decide) rfl ?_
    refine aw_aload_n (j := 1) (i := 0) dX12_newName_16 rfl rfl rfl ?_
    refine aw_iload_n (j := 0) (i := 2) dX12_newName_17 rfl rfl rfl ?_
    refine aw_iconst (v := (-1)) dX12_newName_18 rfl (by decide) ?_
    have kk : AW X (d + 1) rb mX12_newName 27 [(2, vI r4), (0, vR 12 0), (1, vI a1)] [vI (if ¬ r4 = (-1) then (0 : Int32) else 1), vR 12 0] h3 Qr Qx := by
      refine aw_iconst (v := 3) dX12_newName_27 rfl (by decide) ?_
      refine aw_callV (M' := mX12_must) (S := []) (as := [vI (if ¬ r4 = (-1) then (0 : Int32) else 1), vI 3]) (k := 0) dX12_newName_28 rfl (by decide) rfl rfl gw_1701 gw_1703 gw_38 mb_X12_must rfl (Nat.zero_le _) (Nat.le_of_ble_eq_true rfl) rfl (CL.imp k (fun _ h5 k => ?_) (fun _ _ k => k))
      obtain ⟨rfl, k⟩ := oV_of k
      show AW X (d + 1) rb mX12_newName 31 _ [] h5 Qr Qx
      refine aw_aload_n (j := 1) (i := 0) dX12_newName_31 rfl rfl rfl ?_
      refine aw_callV (M' := mX12_hasFailed) (S := []) (as := []) (k := 0) dX12_newName_32 rfl (by decide) rfl rfl gw_1682 gw_1684 gw_34 mb_X12_hasFailed rfl (Nat.zero_le _) (Nat.le_of_ble_eq_true rfl) rfl (CL.imp k (fun _ h6 k => ?_) (fun _ _ k => k))
      obtain ⟨r7, rfl, k⟩ := oI_of k
      show AW X (d + 1) rb mX12_newName 35 _ [vI r7] h6 Qr Qx
      refine aw_if_eq 39 dX12_newName_35 rfl rfl (fun c => ?_) (fun c => ?_)
      · replace k := k.1 c
        refine aw_aload_n (j := 1) (i := 0) dX12_newName_39 rfl rfl rfl ?_
        refine aw_callV (M' := mX12_letters) (S := []) (as := []) (k := 0) dX12_newName_40 rfl (by decide) rfl rfl gw_1691 gw_1693 gw_36 mb_X12_letters rfl (Nat.zero_le _) (Nat.le_of_ble_eq_true rfl) rfl (CL.imp k (fun _ h8 k => ?_) (fun _ _ k => k))
        obtain ⟨r9, rfl, k⟩ := oI_of k
        show AW X (d + 1) rb mX12_newName 43 _ [vI r9] h8 Qr Qx
        refine aw_istore_n (i := 3) (L2 := [(3, vI r9), (2, vI r4), (0, vR 12 0), (1, vI a1)]) dX12_newName_43 rfl rfl (by decide) rfl ?_
        refine aw_iconst (v := 0) dX12_newName_44 rfl (by decide) ?_
        refine aw_istore (i := 4) (L2 := [(4, vI 0), (3, vI r9), (2, vI r4), (0, vR 12 0), (1, vI a1)]) dX12_newName_45 rfl (by decide) rfl ?_
        exact aw_sub [3, 4, 2, 1, 0] rfl k
      · replace k := k.2 c
        exact aw_vret dX12_newName_38 rfl k
    refine aw_icmp_ne 26 dX12_newName_19 rfl rfl (fun (c0 : ¬ r4 = (-1)) => ?_) (fun (c0 : r4 = (-1)) => ?_)
    · refine aw_iconst (v := 0) dX12_newName_26 rfl (by decide) ?_
      simp only [if_pos c0] at kk
      exact kk
    · refine aw_iconst (v := 1) dX12_newName_22 rfl (by decide) ?_
      refine aw_goto 27 dX12_newName_23 rfl ?_
      simp only [if_neg (oa_nn c0)] at kk
      exact kk
  · replace k := k.2 c
    refine aw_iconst (v := (-1)) dX12_newName_7 rfl (by decide) ?_
    refine aw_goto 15 dX12_newName_8 rfl ?_
    refine aw_istore_n (i := 2) (L2 := [(2, vI (-1)), (0, vR 12 0), (1, vI a1)]) dX12_newName_15 rfl rfl (by decide) rfl ?_
    refine aw_aload_n (j := 1) (i := 0) dX12_newName_16 rfl rfl rfl ?_
    refine aw_iload_n (j := 0) (i := 2) dX12_newName_17 rfl rfl rfl ?_
    refine aw_iconst (v := (-1)) dX12_newName_18 rfl (by decide) ?_
    refine aw_icmp_ne 26 dX12_newName_19 rfl rfl (fun z => absurd z (by decide)) (fun _ => ?_)
    refine aw_iconst (v := 1) dX12_newName_22 rfl (by decide) ?_
    refine aw_goto 27 dX12_newName_23 rfl ?_
    refine aw_iconst (v := 3) dX12_newName_27 rfl (by decide) ?_
    refine aw_callV (M' := mX12_must) (S := []) (as := [vI 1, vI 3]) (k := 0) dX12_newName_28 rfl (by decide) rfl rfl gw_1701 gw_1703 gw_38 mb_X12_must rfl (Nat.zero_le _) (Nat.le_of_ble_eq_true rfl) rfl (CL.imp k (fun _ h10 k => ?_) (fun _ _ k => k))
    obtain ⟨rfl, k⟩ := oV_of k
    show AW X (d + 1) rb mX12_newName 31 _ [] h10 Qr Qx
    refine aw_aload_n (j := 1) (i := 0) dX12_newName_31 rfl rfl rfl ?_
    refine aw_callV (M' := mX12_hasFailed) (S := []) (as := []) (k := 0) dX12_newName_32 rfl (by decide) rfl rfl gw_1682 gw_1684 gw_34 mb_X12_hasFailed rfl (Nat.zero_le _) (Nat.le_of_ble_eq_true rfl) rfl (CL.imp k (fun _ h11 k => ?_) (fun _ _ k => k))
    obtain ⟨r12, rfl, k⟩ := oI_of k
    show AW X (d + 1) rb mX12_newName 35 _ [vI r12] h11 Qr Qx
    refine aw_if_eq 39 dX12_newName_35 rfl rfl (fun c => ?_) (fun c => ?_)
    · replace k := k.1 c
      refine aw_aload_n (j := 1) (i := 0) dX12_newName_39 rfl rfl rfl ?_
      refine aw_callV (M' := mX12_letters) (S := []) (as := []) (k := 0) dX12_newName_40 rfl (by decide) rfl rfl gw_1691 gw_1693 gw_36 mb_X12_letters rfl (Nat.zero_le _) (Nat.le_of_ble_eq_true rfl) rfl (CL.imp k (fun _ h13 k => ?_) (fun _ _ k => k))
      obtain ⟨r14, rfl, k⟩ := oI_of k
      show AW X (d + 1) rb mX12_newName 43 _ [vI r14] h13 Qr Qx
      refine aw_istore_n (i := 3) (L2 := [(3, vI r14), (2, vI (-1)), (0, vR 12 0), (1, vI a1)]) dX12_newName_43 rfl rfl (by decide) rfl ?_
      refine aw_iconst (v := 0) dX12_newName_44 rfl (by decide) ?_
      refine aw_istore (i := 4) (L2 := [(4, vI 0), (3, vI r14), (2, vI (-1)), (0, vR 12 0), (1, vI a1)]) dX12_newName_45 rfl (by decide) rfl ?_
      exact aw_sub [3, 4, 2, 1, 0] rfl k
    · replace k := k.2 c
      exact aw_vret dX12_newName_38 rfl k
set_option maxHeartbeats 4000000 in
set_option maxRecDepth 100000 in
theorem vc_X12_newName_47 {X : WD → State → Prop} {d rb : Nat} {h : Hp} {Qr : Option AV → Hp → Prop} {Qx : String → Hp → Prop} {x1 : Int32} {x2 : Int32} {x3 : Int32} {x4 : Int32}  (k : ((8 ≤ x4) → Qr none (hp_i h 12 0 4 ((h.1 12 0 4) + x3))) ∧ ((¬ 8 ≤ x4) → ((x3 ≤ x4) → (vp_in ((4 + (8 * x1)) + x4) 506) ∧ AW X (d + 1) rb mX12_newName 47 [(0, vR 12 0), (1, vI x1), (2, vI x2), (3, vI x3), (4, vI (x4 + 1))] [] (hp_i h 57 0 (((4 + (8 * x1)) + x4).toNatClampNeg) 0) Qr Qx) ∧ ((¬ x3 ≤ x4) → (vp_in ((h.1 12 0 4) + x4) 900) ∧ (vp_in ((4 + (8 * x1)) + x4) 506) ∧ AW X (d + 1) rb mX12_newName 47 [(0, vR 12 0), (1, vI x1), (2, vI x2), (3, vI x3), (4, vI (x4 + 1))] [] (hp_i h 57 0 (((4 + (8 * x1)) + x4).toNatClampNeg) (h.1 54 0 (((h.1 12 0 4) + x4).toNatClampNeg))) Qr Qx))) : AW X (d + 1) rb mX12_newName 47 [(0, vR 12 0), (1, vI x1), (2, vI x2), (3, vI x3), (4, vI x4)] [] h Qr Qx := by
  refine aw_iload (j := 4) (i := 4) dX12_newName_47 rfl rfl ?_
  refine aw_bipush (v := 8) dX12_newName_49 rfl (by decide) ?_
  refine aw_icmp_ge 96 dX12_newName_51 rfl rfl (fun c => ?_) (fun c => ?_)
  · replace k := k.1 c
    refine aw_aload_n (j := 0) (i := 0) dX12_newName_96 rfl rfl rfl ?_
    refine aw_dup dX12_newName_97 rfl rfl ?_
    refine aw_geti (k := 4) dX12_newName_98 rfl (by decide) rfl rfl cb_12 (by decide) gw_1598 ?_
    refine aw_iload_n (j := 3) (i := 3) dX12_newName_101 rfl rfl rfl ?_
    refine aw_iadd dX12_newName_102 rfl ?_
    refine aw_puti (k := 4) dX12_newName_103 rfl (by decide) rfl rfl cb_12 (by decide) rfl rfl gw_1598 ?_
    exact aw_vret dX12_newName_106 rfl k
  · replace k := k.2 c
    refine aw_aload_n (j := 0) (i := 0) dX12_newName_54 rfl rfl rfl ?_
    refine aw_getf (k := 12) (z := 57) dX12_newName_55 rfl (by decide) rfl rfl rfl cb_12 (by decide) gw_1606 ?_
    refine aw_iconst (v := 4) dX12_newName_58 rfl (by decide) ?_
    refine aw_bipush (v := 8) dX12_newName_59 rfl (by decide) ?_
    refine aw_iload_n (j := 1) (i := 1) dX12_newName_61 rfl rfl rfl ?_
    refine aw_imul dX12_newName_62 rfl ?_
    refine aw_iadd dX12_newName_63 rfl ?_
    refine aw_iload (j := 4) (i := 4) dX12_newName_64 rfl rfl ?_
    refine aw_iadd dX12_newName_66 rfl ?_
    refine aw_iload (j := 4) (i := 4) dX12_newName_67 rfl rfl ?_
    refine aw_iload_n (j := 3) (i := 3) dX12_newName_69 rfl rfl rfl ?_
    refine aw_icmp_ge 88 dX12_newName_70 rfl rfl (fun c => ?_) (fun c => ?_)
    · replace k := k.1 c
      refine aw_iconst (v := 0) dX12_newName_88 rfl (by decide) ?_
      refine aw_iast dX12_newName_89 rfl (by decide) rfl k.1 ?_
      replace k := k.2
      refine aw_iinc (i := 4) (j := 4) (v := x4 + 1) (L2 := [(4, vI (x4 + 1)), (0, vR 12 0), (1, vI x1), (2, vI x2), (3, vI x3)]) dX12_newName_90 rfl (by decide) rfl rfl rfl ?_
      refine aw_goto 47 dX12_newName_93 rfl ?_
      exact aw_sub [1, 2, 3, 4, 0] rfl k
    · replace k := k.2 c
      refine aw_aload_n (j := 0) (i := 0) dX12_newName_73 rfl rfl rfl ?_
      refine aw_getf (k := 1) (z := 54) dX12_newName_74 rfl (by decide) rfl rfl rfl cb_12 (by decide) gw_1595 ?_
      refine aw_aload_n (j := 0) (i := 0) dX12_newName_77 rfl rfl rfl ?_
      refine aw_geti (k := 4) dX12_newName_78 rfl (by decide) rfl rfl cb_12 (by decide) gw_1598 ?_
      refine aw_iload (j := 4) (i := 4) dX12_newName_81 rfl rfl ?_
      refine aw_iadd dX12_newName_83 rfl ?_
      refine aw_bald dX12_newName_84 rfl (by decide) rfl k.1 ?_
      replace k := k.2
      refine aw_goto 89 dX12_newName_85 rfl ?_
      refine aw_iast dX12_newName_89 rfl (by decide) rfl k.1 ?_
      replace k := k.2
      refine aw_iinc (i := 4) (j := 4) (v := x4 + 1) (L2 := [(4, vI (x4 + 1)), (0, vR 12 0), (1, vI x1), (2, vI x2), (3, vI x3)]) dX12_newName_90 rfl (by decide) rfl rfl rfl ?_
      refine aw_goto 47 dX12_newName_93 rfl ?_
      exact aw_sub [1, 2, 3, 4, 0] rfl k
set_option maxHeartbeats 4000000 in
set_option maxRecDepth 100000 in
theorem vc_X12_part_0 {X : WD → State → Prop} {d rb : Nat} {h : Hp} {Qr : Option AV → Hp → Prop} {Qx : String → Hp → Prop}   (k : CL 0 d mX12_must [vR 12 0, vI (if 12 ≤ (h.1 57 0 0) then (0 : Int32) else 1), vI 4] h (oV fun h1 => CL 0 d mX12_hasFailed [vR 12 0] h1 (oI fun r3 h2 => ((r3 = 0) → CL 0 d mX12_newName [vR 12 0, vI (h.1 57 0 0)] (hp_i h2 12 0 4 ((h2.1 12 0 4) + 4)) (oV fun h4 => CL 0 d mX12_number [vR 12 0, vI 0, vI 9999] h4 (oI fun r6 h5 => (vp_in (164 + (h.1 57 0 0)) 506) ∧ CL 0 d mX12_number [vR 12 0, vI 1, vI 60] (hp_i h5 57 0 ((164 + (h.1 57 0 0)).toNatClampNeg) r6) (oI fun r8 h7 => (vp_in (176 + (h.1 57 0 0)) 506) ∧ Qr none (hp_i (hp_i h7 57 0 ((176 + (h.1 57 0 0)).toNatClampNeg) r8) 57 0 0 (((hp_i h7 57 0 ((176 + (h.1 57 0 0)).toNatClampNeg) r8).1 57 0 0) + 1))) Qx) Qx) Qx) ∧ ((¬ r3 = 0) → Qr none h2)) Qx) Qx) : AW X (d + 1) rb mX12_part 0 [(0, vR 12 0)] [] h Qr Qx := by
  refine aw_aload_n (j := 0) (i := 0) dX12_part_0 rfl rfl rfl ?_
  refine aw_getf (k := 12) (z := 57) dX12_part_1 rfl (by decide) rfl rfl rfl cb_12 (by decide) gw_1606 ?_
  refine aw_iconst (v := 0) dX12_part_4 rfl (by decide) ?_
  refine aw_iald dX12_part_5 rfl (by decide) rfl (by unfold vp_in; decide) ?_
  refine aw_istore_n (i := 1) (L2 := [(1, vI (h.1 57 0 0)), (0, vR 12 0)]) dX12_part_6 rfl rfl (by decide) rfl ?_
  refine aw_aload_n (j := 1) (i := 0) dX12_part_7 rfl rfl rfl ?_
  refine aw_iload_n (j := 0) (i := 1) dX12_part_8 rfl rfl rfl ?_
  refine aw_bipush (v := 12) dX12_part_9 rfl (by decide) ?_
  have kk : AW X (d + 1) rb mX12_part 19 [(1, vI (h.1 57 0 0)), (0, vR 12 0)] [vI (if 12 ≤ (h.1 57 0 0) then (0 : Int32) else 1), vR 12 0] h Qr Qx := by
    refine aw_iconst (v := 4) dX12_part_19 rfl (by decide) ?_
    refine aw_callV (M' := mX12_must) (S := []) (as := [vI (if 12 ≤ (h.1 57 0 0) then (0 : Int32) else 1), vI 4]) (k := 0) dX12_part_20 rfl (by decide) rfl rfl gw_1701 gw_1703 gw_38 mb_X12_must rfl (Nat.zero_le _) (Nat.le_of_ble_eq_true rfl) rfl (CL.imp k (fun _ h1 k => ?_) (fun _ _ k => k))
    obtain ⟨rfl, k⟩ := oV_of k
    show AW X (d + 1) rb mX12_part 23 _ [] h1 Qr Qx
    refine aw_aload_n (j := 1) (i := 0) dX12_part_23 rfl rfl rfl ?_
    refine aw_callV (M' := mX12_hasFailed) (S := []) (as := []) (k := 0) dX12_part_24 rfl (by decide) rfl rfl gw_1682 gw_1684 gw_34 mb_X12_hasFailed rfl (Nat.zero_le _) (Nat.le_of_ble_eq_true rfl) rfl (CL.imp k (fun _ h2 k => ?_) (fun _ _ k => k))
    obtain ⟨r3, rfl, k⟩ := oI_of k
    show AW X (d + 1) rb mX12_part 27 _ [vI r3] h2 Qr Qx
    refine aw_if_eq 31 dX12_part_27 rfl rfl (fun c => ?_) (fun c => ?_)
    · replace k := k.1 c
      refine aw_aload_n (j := 1) (i := 0) dX12_part_31 rfl rfl rfl ?_
      refine aw_dup dX12_part_32 rfl rfl ?_
      refine aw_geti (k := 4) dX12_part_33 rfl (by decide) rfl rfl cb_12 (by decide) gw_1598 ?_
      refine aw_iconst (v := 4) dX12_part_36 rfl (by decide) ?_
      refine aw_iadd dX12_part_37 rfl ?_
      refine aw_puti (k := 4) dX12_part_38 rfl (by decide) rfl rfl cb_12 (by decide) rfl rfl gw_1598 ?_
      refine aw_aload_n (j := 1) (i := 0) dX12_part_41 rfl rfl rfl ?_
      refine aw_iload_n (j := 0) (i := 1) dX12_part_42 rfl rfl rfl ?_
      refine aw_callV (M' := mX12_newName) (S := []) (as := [vI (h.1 57 0 0)]) (k := 0) dX12_part_43 rfl (by decide) rfl rfl gw_1705 gw_1707 gw_39 mb_X12_newName rfl (Nat.zero_le _) (Nat.le_of_ble_eq_true rfl) rfl (CL.imp k (fun _ h4 k => ?_) (fun _ _ k => k))
      obtain ⟨rfl, k⟩ := oV_of k
      show AW X (d + 1) rb mX12_part 46 _ [] h4 Qr Qx
      refine aw_aload_n (j := 1) (i := 0) dX12_part_46 rfl rfl rfl ?_
      refine aw_getf (k := 12) (z := 57) dX12_part_47 rfl (by decide) rfl rfl rfl cb_12 (by decide) gw_1606 ?_
      refine aw_sipush (v := 164) dX12_part_50 rfl (by decide) ?_
      refine aw_iload_n (j := 0) (i := 1) dX12_part_53 rfl rfl rfl ?_
      refine aw_iadd dX12_part_54 rfl ?_
      refine aw_aload_n (j := 1) (i := 0) dX12_part_55 rfl rfl rfl ?_
      refine aw_iconst (v := 0) dX12_part_56 rfl (by decide) ?_
      refine aw_sipush (v := 9999) dX12_part_57 rfl (by decide) ?_
      refine aw_callV (M' := mX12_number) (S := [vI (164 + (h.1 57 0 0)), vR 57 0]) (as := [vI 0, vI 9999]) (k := 0) dX12_part_60 rfl (by decide) rfl rfl gw_1716 gw_1718 gw_41 mb_X12_number rfl (Nat.zero_le _) (Nat.le_of_ble_eq_true rfl) rfl (CL.imp k (fun _ h5 k => ?_) (fun _ _ k => k))
      obtain ⟨r6, rfl, k⟩ := oI_of k
      show AW X (d + 1) rb mX12_part 63 _ [vI r6, vI (164 + (h.1 57 0 0)), vR 57 0] h5 Qr Qx
      refine aw_iast dX12_part_63 rfl (by decide) rfl k.1 ?_
      replace k := k.2
      refine aw_aload_n (j := 1) (i := 0) dX12_part_64 rfl rfl rfl ?_
      refine aw_getf (k := 12) (z := 57) dX12_part_65 rfl (by decide) rfl rfl rfl cb_12 (by decide) gw_1606 ?_
      refine aw_sipush (v := 176) dX12_part_68 rfl (by decide) ?_
      refine aw_iload_n (j := 0) (i := 1) dX12_part_71 rfl rfl rfl ?_
      refine aw_iadd dX12_part_72 rfl ?_
      refine aw_aload_n (j := 1) (i := 0) dX12_part_73 rfl rfl rfl ?_
      refine aw_iconst (v := 1) dX12_part_74 rfl (by decide) ?_
      refine aw_bipush (v := 60) dX12_part_75 rfl (by decide) ?_
      refine aw_callV (M' := mX12_number) (S := [vI (176 + (h.1 57 0 0)), vR 57 0]) (as := [vI 1, vI 60]) (k := 0) dX12_part_77 rfl (by decide) rfl rfl gw_1716 gw_1718 gw_41 mb_X12_number rfl (Nat.zero_le _) (Nat.le_of_ble_eq_true rfl) rfl (CL.imp k (fun _ h7 k => ?_) (fun _ _ k => k))
      obtain ⟨r8, rfl, k⟩ := oI_of k
      show AW X (d + 1) rb mX12_part 80 _ [vI r8, vI (176 + (h.1 57 0 0)), vR 57 0] h7 Qr Qx
      refine aw_iast dX12_part_80 rfl (by decide) rfl k.1 ?_
      replace k := k.2
      refine aw_aload_n (j := 1) (i := 0) dX12_part_81 rfl rfl rfl ?_
      refine aw_getf (k := 12) (z := 57) dX12_part_82 rfl (by decide) rfl rfl rfl cb_12 (by decide) gw_1606 ?_
      refine aw_iconst (v := 0) dX12_part_85 rfl (by decide) ?_
      refine aw_dup2 dX12_part_86 rfl rfl rfl ?_
      refine aw_iald dX12_part_87 rfl (by decide) rfl (by unfold vp_in; decide) ?_
      refine aw_iconst (v := 1) dX12_part_88 rfl (by decide) ?_
      refine aw_iadd dX12_part_89 rfl ?_
      refine aw_iast dX12_part_90 rfl (by decide) rfl (by unfold vp_in; decide) ?_
      exact aw_vret dX12_part_91 rfl k
    · replace k := k.2 c
      exact aw_vret dX12_part_30 rfl k
  refine aw_icmp_ge 18 dX12_part_11 rfl rfl (fun (c0 : 12 ≤ (h.1 57 0 0)) => ?_) (fun (c0 : ¬ 12 ≤ (h.1 57 0 0)) => ?_)
  · refine aw_iconst (v := 0) dX12_part_18 rfl (by decide) ?_
    simp only [if_pos c0] at kk
    exact kk
  · refine aw_iconst (v := 1) dX12_part_14 rfl (by decide) ?_
    refine aw_goto 19 dX12_part_15 rfl ?_
    simp only [if_neg c0] at kk
    exact kk
set_option maxHeartbeats 4000000 in
set_option maxRecDepth 100000 in
theorem vc_X12_product_0 {X : WD → State → Prop} {d rb : Nat} {h : Hp} {Qr : Option AV → Hp → Prop} {Qx : String → Hp → Prop}   (k : CL 0 d mX12_must [vR 12 0, vI (if 8 ≤ (h.1 57 0 1) then (0 : Int32) else 1), vI 4] h (oV fun h1 => CL 0 d mX12_hasFailed [vR 12 0] h1 (oI fun r3 h2 => ((r3 = 0) → CL 0 d mX12_newName [vR 12 0, vI (12 + (h.1 57 0 1))] (hp_i h2 12 0 4 ((h2.1 12 0 4) + 7)) (oV fun h4 => AW X (d + 1) rb mX12_product 52 [(0, vR 12 0), (1, vI (h.1 57 0 1)), (2, vI 0)] [] h4 Qr Qx) Qx) ∧ ((¬ r3 = 0) → Qr none h2)) Qx) Qx) : AW X (d + 1) rb mX12_product 0 [(0, vR 12 0)] [] h Qr Qx := by
  refine aw_aload_n (j := 0) (i := 0) dX12_product_0 rfl rfl rfl ?_
  refine aw_getf (k := 12) (z := 57) dX12_product_1 rfl (by decide) rfl rfl rfl cb_12 (by decide) gw_1606 ?_
  refine aw_iconst (v := 1) dX12_product_4 rfl (by decide) ?_
  refine aw_iald dX12_product_5 rfl (by decide) rfl (by unfold vp_in; decide) ?_
  refine aw_istore_n (i := 1) (L2 := [(1, vI (h.1 57 0 1)), (0, vR 12 0)]) dX12_product_6 rfl rfl (by decide) rfl ?_
  refine aw_aload_n (j := 1) (i := 0) dX12_product_7 rfl rfl rfl ?_
  refine aw_iload_n (j := 0) (i := 1) dX12_product_8 rfl rfl rfl ?_
  refine aw_bipush (v := 8) dX12_product_9 rfl (by decide) ?_
  have kk : AW X (d + 1) rb mX12_product 19 [(1, vI (h.1 57 0 1)), (0, vR 12 0)] [vI (if 8 ≤ (h.1 57 0 1) then (0 : Int32) else 1), vR 12 0] h Qr Qx := by
    refine aw_iconst (v := 4) dX12_product_19 rfl (by decide) ?_
    refine aw_callV (M' := mX12_must) (S := []) (as := [vI (if 8 ≤ (h.1 57 0 1) then (0 : Int32) else 1), vI 4]) (k := 0) dX12_product_20 rfl (by decide) rfl rfl gw_1701 gw_1703 gw_38 mb_X12_must rfl (Nat.zero_le _) (Nat.le_of_ble_eq_true rfl) rfl (CL.imp k (fun _ h1 k => ?_) (fun _ _ k => k))
    obtain ⟨rfl, k⟩ := oV_of k
    show AW X (d + 1) rb mX12_product 23 _ [] h1 Qr Qx
    refine aw_aload_n (j := 1) (i := 0) dX12_product_23 rfl rfl rfl ?_
    refine aw_callV (M' := mX12_hasFailed) (S := []) (as := []) (k := 0) dX12_product_24 rfl (by decide) rfl rfl gw_1682 gw_1684 gw_34 mb_X12_hasFailed rfl (Nat.zero_le _) (Nat.le_of_ble_eq_true rfl) rfl (CL.imp k (fun _ h2 k => ?_) (fun _ _ k => k))
    obtain ⟨r3, rfl, k⟩ := oI_of k
    show AW X (d + 1) rb mX12_product 27 _ [vI r3] h2 Qr Qx
    refine aw_if_eq 31 dX12_product_27 rfl rfl (fun c => ?_) (fun c => ?_)
    · replace k := k.1 c
      refine aw_aload_n (j := 1) (i := 0) dX12_product_31 rfl rfl rfl ?_
      refine aw_dup dX12_product_32 rfl rfl ?_
      refine aw_geti (k := 4) dX12_product_33 rfl (by decide) rfl rfl cb_12 (by decide) gw_1598 ?_
      refine aw_bipush (v := 7) dX12_product_36 rfl (by decide) ?_
      refine aw_iadd dX12_product_38 rfl ?_
      refine aw_puti (k := 4) dX12_product_39 rfl (by decide) rfl rfl cb_12 (by decide) rfl rfl gw_1598 ?_
      refine aw_aload_n (j := 1) (i := 0) dX12_product_42 rfl rfl rfl ?_
      refine aw_bipush (v := 12) dX12_product_43 rfl (by decide) ?_
      refine aw_iload_n (j := 0) (i := 1) dX12_product_45 rfl rfl rfl ?_
      refine aw_iadd dX12_product_46 rfl ?_
      refine aw_callV (M' := mX12_newName) (S := []) (as := [vI (12 + (h.1 57 0 1))]) (k := 0) dX12_product_47 rfl (by decide) rfl rfl gw_1705 gw_1707 gw_39 mb_X12_newName rfl (Nat.zero_le _) (Nat.le_of_ble_eq_true rfl) rfl (CL.imp k (fun _ h4 k => ?_) (fun _ _ k => k))
      obtain ⟨rfl, k⟩ := oV_of k
      show AW X (d + 1) rb mX12_product 50 _ [] h4 Qr Qx
      refine aw_iconst (v := 0) dX12_product_50 rfl (by decide) ?_
      refine aw_istore_n (i := 2) (L2 := [(2, vI 0), (1, vI (h.1 57 0 1)), (0, vR 12 0)]) dX12_product_51 rfl rfl (by decide) rfl ?_
      exact aw_sub [2, 1, 0] rfl k
    · replace k := k.2 c
      exact aw_vret dX12_product_30 rfl k
  refine aw_icmp_ge 18 dX12_product_11 rfl rfl (fun (c0 : 8 ≤ (h.1 57 0 1)) => ?_) (fun (c0 : ¬ 8 ≤ (h.1 57 0 1)) => ?_)
  · refine aw_iconst (v := 0) dX12_product_18 rfl (by decide) ?_
    simp only [if_pos c0] at kk
    exact kk
  · refine aw_iconst (v := 1) dX12_product_14 rfl (by decide) ?_
    refine aw_goto 19 dX12_product_15 rfl ?_
    simp only [if_neg c0] at kk
    exact kk
set_option maxHeartbeats 4000000 in
set_option maxRecDepth 100000 in
theorem vc_X12_product_52 {X : WD → State → Prop} {d rb : Nat} {h : Hp} {Qr : Option AV → Hp → Prop} {Qx : String → Hp → Prop} {x1 : Int32} {x2 : Int32}  (k : ((12 ≤ x2) → AW X (d + 1) rb mX12_product 84 [(0, vR 12 0), (1, vI x1), (2, vI 0), (3, vI 1)] [] h Qr Qx) ∧ ((¬ 12 ≤ x2) → (vp_in ((292 + (12 * x1)) + x2) 506) ∧ AW X (d + 1) rb mX12_product 52 [(0, vR 12 0), (1, vI x1), (2, vI (x2 + 1))] [] (hp_i h 57 0 (((292 + (12 * x1)) + x2).toNatClampNeg) 0) Qr Qx)) : AW X (d + 1) rb mX12_product 52 [(0, vR 12 0), (1, vI x1), (2, vI x2)] [] h Qr Qx := by
  refine aw_iload_n (j := 2) (i := 2) dX12_product_52 rfl rfl rfl ?_
  refine aw_bipush (v := 12) dX12_product_53 rfl (by decide) ?_
  refine aw_icmp_ge 80 dX12_product_55 rfl rfl (fun c => ?_) (fun c => ?_)
  · replace k := k.1 c
    refine aw_iconst (v := 0) dX12_product_80 rfl (by decide) ?_
    refine aw_istore_n (i := 2) (L2 := [(2, vI 0), (0, vR 12 0), (1, vI x1)]) dX12_product_81 rfl rfl (by decide) rfl ?_
    refine aw_iconst (v := 1) dX12_product_82 rfl (by decide) ?_
    refine aw_istore_n (i := 3) (L2 := [(3, vI 1), (2, vI 0), (0, vR 12 0), (1, vI x1)]) dX12_product_83 rfl rfl (by decide) rfl ?_
    exact aw_sub [2, 3, 1, 0] rfl k
  · replace k := k.2 c
    refine aw_aload_n (j := 0) (i := 0) dX12_product_58 rfl rfl rfl ?_
    refine aw_getf (k := 12) (z := 57) dX12_product_59 rfl (by decide) rfl rfl rfl cb_12 (by decide) gw_1606 ?_
    refine aw_sipush (v := 292) dX12_product_62 rfl (by decide) ?_
    refine aw_bipush (v := 12) dX12_product_65 rfl (by decide) ?_
    refine aw_iload_n (j := 1) (i := 1) dX12_product_67 rfl rfl rfl ?_
    refine aw_imul dX12_product_68 rfl ?_
    refine aw_iadd dX12_product_69 rfl ?_
    refine aw_iload_n (j := 2) (i := 2) dX12_product_70 rfl rfl rfl ?_
    refine aw_iadd dX12_product_71 rfl ?_
    refine aw_iconst (v := 0) dX12_product_72 rfl (by decide) ?_
    refine aw_iast dX12_product_73 rfl (by decide) rfl k.1 ?_
    replace k := k.2
    refine aw_iinc (i := 2) (j := 2) (v := x2 + 1) (L2 := [(2, vI (x2 + 1)), (0, vR 12 0), (1, vI x1)]) dX12_product_74 rfl (by decide) rfl rfl rfl ?_
    refine aw_goto 52 dX12_product_77 rfl ?_
    exact aw_sub [1, 2, 0] rfl k
set_option maxHeartbeats 4000000 in
set_option maxRecDepth 100000 in
theorem vc_X12_product_84 {X : WD → State → Prop} {d rb : Nat} {h : Hp} {Qr : Option AV → Hp → Prop} {Qx : String → Hp → Prop} {x1 : Int32} {x2 : Int32} {x3 : Int32}  (k : ((x3 = 0) → (vp_in (188 + x1) 506) ∧ Qr none (hp_i (hp_i h 57 0 ((188 + x1).toNatClampNeg) x2) 57 0 1 (((hp_i h 57 0 ((188 + x1).toNatClampNeg) x2).1 57 0 1) + 1))) ∧ ((¬ x3 = 0) → CL 0 d mX12_hasFailed [vR 12 0] h (oI fun r2 h1 => ((¬ r2 = 0) → (vp_in (188 + x1) 506) ∧ Qr none (hp_i (hp_i h1 57 0 ((188 + x1).toNatClampNeg) x2) 57 0 1 (((hp_i h1 57 0 ((188 + x1).toNatClampNeg) x2).1 57 0 1) + 1))) ∧ ((r2 = 0) → CL 0 d mX12_line [vR 12 0, vI x1, vI x2] h1 (oV fun h3 => CL 0 d mX12_blanks0 [vR 12 0] h3 (oV fun h4 => CL 0 d mX12_isAt [vR 12 0, vI 48, vI 57] h4 (oI fun r6 h5 => AW X (d + 1) rb mX12_product 84 [(0, vR 12 0), (1, vI x1), (2, vI (x2 + 1)), (3, vI r6)] [] h5 Qr Qx) Qx) Qx) Qx)) Qx)) : AW X (d + 1) rb mX12_product 84 [(0, vR 12 0), (1, vI x1), (2, vI x2), (3, vI x3)] [] h Qr Qx := by
  refine aw_iload_n (j := 3) (i := 3) dX12_product_84 rfl rfl rfl ?_
  refine aw_if_eq 120 dX12_product_85 rfl rfl (fun c => ?_) (fun c => ?_)
  · replace k := k.1 c
    refine aw_aload_n (j := 0) (i := 0) dX12_product_120 rfl rfl rfl ?_
    refine aw_getf (k := 12) (z := 57) dX12_product_121 rfl (by decide) rfl rfl rfl cb_12 (by decide) gw_1606 ?_
    refine aw_sipush (v := 188) dX12_product_124 rfl (by decide) ?_
    refine aw_iload_n (j := 1) (i := 1) dX12_product_127 rfl rfl rfl ?_
    refine aw_iadd dX12_product_128 rfl ?_
    refine aw_iload_n (j := 2) (i := 2) dX12_product_129 rfl rfl rfl ?_
    refine aw_iast dX12_product_130 rfl (by decide) rfl k.1 ?_
    replace k := k.2
    refine aw_aload_n (j := 0) (i := 0) dX12_product_131 rfl rfl rfl ?_
    refine aw_getf (k := 12) (z := 57) dX12_product_132 rfl (by decide) rfl rfl rfl cb_12 (by decide) gw_1606 ?_
    refine aw_iconst (v := 1) dX12_product_135 rfl (by decide) ?_
    refine aw_dup2 dX12_product_136 rfl rfl rfl ?_
    refine aw_iald dX12_product_137 rfl (by decide) rfl (by unfold vp_in; decide) ?_
    refine aw_iconst (v := 1) dX12_product_138 rfl (by decide) ?_
    refine aw_iadd dX12_product_139 rfl ?_
    refine aw_iast dX12_product_140 rfl (by decide) rfl (by unfold vp_in; decide) ?_
    exact aw_vret dX12_product_141 rfl k
  · replace k := k.2 c
    refine aw_aload_n (j := 0) (i := 0) dX12_product_88 rfl rfl rfl ?_
    refine aw_callV (M' := mX12_hasFailed) (S := []) (as := []) (k := 0) dX12_product_89 rfl (by decide) rfl rfl gw_1682 gw_1684 gw_34 mb_X12_hasFailed rfl (Nat.zero_le _) (Nat.le_of_ble_eq_true rfl) rfl (CL.imp k (fun _ h1 k => ?_) (fun _ _ k => k))
    obtain ⟨r2, rfl, k⟩ := oI_of k
    show AW X (d + 1) rb mX12_product 92 _ [vI r2] h1 Qr Qx
    refine aw_if_ne 120 dX12_product_92 rfl rfl (fun c => ?_) (fun c => ?_)
    · replace k := k.1 c
      refine aw_aload_n (j := 0) (i := 0) dX12_product_120 rfl rfl rfl ?_
      refine aw_getf (k := 12) (z := 57) dX12_product_121 rfl (by decide) rfl rfl rfl cb_12 (by decide) gw_1606 ?_
      refine aw_sipush (v := 188) dX12_product_124 rfl (by decide) ?_
      refine aw_iload_n (j := 1) (i := 1) dX12_product_127 rfl rfl rfl ?_
      refine aw_iadd dX12_product_128 rfl ?_
      refine aw_iload_n (j := 2) (i := 2) dX12_product_129 rfl rfl rfl ?_
      refine aw_iast dX12_product_130 rfl (by decide) rfl k.1 ?_
      replace k := k.2
      refine aw_aload_n (j := 0) (i := 0) dX12_product_131 rfl rfl rfl ?_
      refine aw_getf (k := 12) (z := 57) dX12_product_132 rfl (by decide) rfl rfl rfl cb_12 (by decide) gw_1606 ?_
      refine aw_iconst (v := 1) dX12_product_135 rfl (by decide) ?_
      refine aw_dup2 dX12_product_136 rfl rfl rfl ?_
      refine aw_iald dX12_product_137 rfl (by decide) rfl (by unfold vp_in; decide) ?_
      refine aw_iconst (v := 1) dX12_product_138 rfl (by decide) ?_
      refine aw_iadd dX12_product_139 rfl ?_
      refine aw_iast dX12_product_140 rfl (by decide) rfl (by unfold vp_in; decide) ?_
      exact aw_vret dX12_product_141 rfl k
    · replace k := k.2 c
      refine aw_aload_n (j := 0) (i := 0) dX12_product_95 rfl rfl rfl ?_
      refine aw_iload_n (j := 1) (i := 1) dX12_product_96 rfl rfl rfl ?_
      refine aw_iload_n (j := 2) (i := 2) dX12_product_97 rfl rfl rfl ?_
      refine aw_callV (M' := mX12_line) (S := []) (as := [vI x1, vI x2]) (k := 0) dX12_product_98 rfl (by decide) rfl rfl gw_1725 gw_1727 gw_43 mb_X12_line rfl (Nat.zero_le _) (Nat.le_of_ble_eq_true rfl) rfl (CL.imp k (fun _ h3 k => ?_) (fun _ _ k => k))
      obtain ⟨rfl, k⟩ := oV_of k
      show AW X (d + 1) rb mX12_product 101 _ [] h3 Qr Qx
      refine aw_iinc (i := 2) (j := 2) (v := x2 + 1) (L2 := [(2, vI (x2 + 1)), (0, vR 12 0), (1, vI x1), (3, vI x3)]) dX12_product_101 rfl (by decide) rfl rfl rfl ?_
      refine aw_aload_n (j := 1) (i := 0) dX12_product_104 rfl rfl rfl ?_
      refine aw_callV (M' := mX12_blanks0) (S := []) (as := []) (k := 0) dX12_product_105 rfl (by decide) rfl rfl gw_1729 gw_1731 gw_44 mb_X12_blanks0 rfl (Nat.zero_le _) (Nat.le_of_ble_eq_true rfl) rfl (CL.imp k (fun _ h4 k => ?_) (fun _ _ k => k))
      obtain ⟨rfl, k⟩ := oV_of k
      show AW X (d + 1) rb mX12_product 108 _ [] h4 Qr Qx
      refine aw_aload_n (j := 1) (i := 0) dX12_product_108 rfl rfl rfl ?_
      refine aw_bipush (v := 48) dX12_product_109 rfl (by decide) ?_
      refine aw_bipush (v := 57) dX12_product_111 rfl (by decide) ?_
      refine aw_callV (M' := mX12_isAt) (S := []) (as := [vI 48, vI 57]) (k := 0) dX12_product_113 rfl (by decide) rfl rfl gw_1678 gw_1680 gw_33 mb_X12_isAt rfl (Nat.zero_le _) (Nat.le_of_ble_eq_true rfl) rfl (CL.imp k (fun _ h5 k => ?_) (fun _ _ k => k))
      obtain ⟨r6, rfl, k⟩ := oI_of k
      show AW X (d + 1) rb mX12_product 116 _ [vI r6] h5 Qr Qx
      refine aw_istore_n (i := 3) (L2 := [(3, vI r6), (2, vI (x2 + 1)), (0, vR 12 0), (1, vI x1)]) dX12_product_116 rfl rfl (by decide) rfl ?_
      refine aw_goto 84 dX12_product_117 rfl ?_
      exact aw_sub [2, 3, 1, 0] rfl k
set_option maxHeartbeats 4000000 in
set_option maxRecDepth 100000 in
theorem vc_X12_blanks0_0 {X : WD → State → Prop} {d rb : Nat} {h : Hp} {Qr : Option AV → Hp → Prop} {Qx : String → Hp → Prop}   (k : CL 0 d mX12_hasFailed [vR 12 0] h (oI fun r2 h1 => ((¬ r2 = 0) → Qr none h1) ∧ ((r2 = 0) → CL 0 d mX12_blanks [vR 12 0] h1 (oV fun h3 => Qr none h3) Qx)) Qx) : AW X (d + 1) rb mX12_blanks0 0 [(0, vR 12 0)] [] h Qr Qx := by
  refine aw_aload_n (j := 0) (i := 0) dX12_blanks0_0 rfl rfl rfl ?_
  refine aw_callV (M' := mX12_hasFailed) (S := []) (as := []) (k := 0) dX12_blanks0_1 rfl (by decide) rfl rfl gw_1682 gw_1684 gw_34 mb_X12_hasFailed rfl (Nat.zero_le _) (Nat.le_of_ble_eq_true rfl) rfl (CL.imp k (fun _ h1 k => ?_) (fun _ _ k => k))
  obtain ⟨r2, rfl, k⟩ := oI_of k
  show AW X (d + 1) rb mX12_blanks0 4 _ [vI r2] h1 Qr Qx
  refine aw_if_ne 11 dX12_blanks0_4 rfl rfl (fun c => ?_) (fun c => ?_)
  · replace k := k.1 c
    exact aw_vret dX12_blanks0_11 rfl k
  · replace k := k.2 c
    refine aw_aload_n (j := 0) (i := 0) dX12_blanks0_7 rfl rfl rfl ?_
    refine aw_callV (M' := mX12_blanks) (S := []) (as := []) (k := 0) dX12_blanks0_8 rfl (by decide) rfl rfl gw_1674 gw_1676 gw_32 mb_X12_blanks rfl (Nat.zero_le _) (Nat.le_of_ble_eq_true rfl) rfl (CL.imp k (fun _ h3 k => ?_) (fun _ _ k => k))
    obtain ⟨rfl, k⟩ := oV_of k
    show AW X (d + 1) rb mX12_blanks0 11 _ [] h3 Qr Qx
    exact aw_vret dX12_blanks0_11 rfl k
set_option maxHeartbeats 4000000 in
set_option maxRecDepth 100000 in
theorem vc_X12_line_0 {X : WD → State → Prop} {d rb : Nat} {h : Hp} {Qr : Option AV → Hp → Prop} {Qx : String → Hp → Prop} {a1 : Int32} {a2 : Int32}  (k : CL 0 d mX12_blanks [vR 12 0] h (oV fun h1 => ((a2 < 6) → CL 0 d mX12_must [vR 12 0, vI 1, vI 4] h1 (oV fun h2 => CL 0 d mX12_number [vR 12 0, vI 1, vI 20] h2 (oI fun r4 h3 => CL 0 d mX12_hasFailed [vR 12 0] h3 (oI fun r6 h5 => ((r6 = 0) → CL 0 d mX12_named [vR 12 0] h5 (oI fun r8 h7 => CL 0 d mX12_must [vR 12 0, vI (if r8 = (-1) then (0 : Int32) else 1), vI 3] h7 (oV fun h9 => AW X (d + 1) rb mX12_line 72 [(0, vR 12 0), (1, vI a1), (2, vI a2), (3, vI r4), (4, vI r8), (5, vI 0)] [] h9 Qr Qx) Qx) Qx) ∧ ((¬ r6 = 0) → Qr none h5)) Qx) Qx) Qx) ∧ ((¬ a2 < 6) → CL 0 d mX12_isAt [vR 12 0, vI 48, vI 57] h1 (oI fun r11 h10 => CL 0 d mX12_must [vR 12 0, vI (if ¬ r11 = 0 then (0 : Int32) else 1), vI 4] h10 (oV fun h12 => CL 0 d mX12_number [vR 12 0, vI 1, vI 20] h12 (oI fun r14 h13 => CL 0 d mX12_hasFailed [vR 12 0] h13 (oI fun r16 h15 => ((r16 = 0) → CL 0 d mX12_named [vR 12 0] h15 (oI fun r18 h17 => CL 0 d mX12_must [vR 12 0, vI (if r18 = (-1) then (0 : Int32) else 1), vI 3] h17 (oV fun h19 => AW X (d + 1) rb mX12_line 72 [(0, vR 12 0), (1, vI a1), (2, vI a2), (3, vI r14), (4, vI r18), (5, vI 0)] [] h19 Qr Qx) Qx) Qx) ∧ ((¬ r16 = 0) → Qr none h15)) Qx) Qx) Qx) Qx)) Qx) : AW X (d + 1) rb mX12_line 0 [(0, vR 12 0), (1, vI a1), (2, vI a2)] [] h Qr Qx := by
  refine aw_aload_n (j := 0) (i := 0) dX12_line_0 rfl rfl rfl ?_
  refine aw_callV (M' := mX12_blanks) (S := []) (as := []) (k := 0) dX12_line_1 rfl (by decide) rfl rfl gw_1674 gw_1676 gw_32 mb_X12_blanks rfl (Nat.zero_le _) (Nat.le_of_ble_eq_true rfl) rfl (CL.imp k (fun _ h1 k => ?_) (fun _ _ k => k))
  obtain ⟨rfl, k⟩ := oV_of k
  show AW X (d + 1) rb mX12_line 4 _ [] h1 Qr Qx
  refine aw_aload_n (j := 0) (i := 0) dX12_line_4 rfl rfl rfl ?_
  refine aw_iload_n (j := 2) (i := 2) dX12_line_5 rfl rfl rfl ?_
  refine aw_bipush (v := 6) dX12_line_6 rfl (by decide) ?_
  refine aw_icmp_lt 22 dX12_line_8 rfl rfl (fun c => ?_) (fun c => ?_)
  · replace k := k.1 c
    refine aw_iconst (v := 1) dX12_line_22 rfl (by decide) ?_
    refine aw_goto 27 dX12_line_23 rfl ?_
    refine aw_iconst (v := 4) dX12_line_27 rfl (by decide) ?_
    refine aw_callV (M' := mX12_must) (S := []) (as := [vI 1, vI 4]) (k := 0) dX12_line_28 rfl (by decide) rfl rfl gw_1701 gw_1703 gw_38 mb_X12_must rfl (Nat.zero_le _) (Nat.le_of_ble_eq_true rfl) rfl (CL.imp k (fun _ h2 k => ?_) (fun _ _ k => k))
    obtain ⟨rfl, k⟩ := oV_of k
    show AW X (d + 1) rb mX12_line 31 _ [] h2 Qr Qx
    refine aw_aload_n (j := 0) (i := 0) dX12_line_31 rfl rfl rfl ?_
    refine aw_iconst (v := 1) dX12_line_32 rfl (by decide) ?_
    refine aw_bipush (v := 20) dX12_line_33 rfl (by decide) ?_
    refine aw_callV (M' := mX12_number) (S := []) (as := [vI 1, vI 20]) (k := 0) dX12_line_35 rfl (by decide) rfl rfl gw_1716 gw_1718 gw_41 mb_X12_number rfl (Nat.zero_le _) (Nat.le_of_ble_eq_true rfl) rfl (CL.imp k (fun _ h3 k => ?_) (fun _ _ k => k))
    obtain ⟨r4, rfl, k⟩ := oI_of k
    show AW X (d + 1) rb mX12_line 38 _ [vI r4] h3 Qr Qx
    refine aw_istore_n (i := 3) (L2 := [(3, vI r4), (0, vR 12 0), (1, vI a1), (2, vI a2)]) dX12_line_38 rfl rfl (by decide) rfl ?_
    refine aw_aload_n (j := 1) (i := 0) dX12_line_39 rfl rfl rfl ?_
    refine aw_callV (M' := mX12_hasFailed) (S := []) (as := []) (k := 0) dX12_line_40 rfl (by decide) rfl rfl gw_1682 gw_1684 gw_34 mb_X12_hasFailed rfl (Nat.zero_le _) (Nat.le_of_ble_eq_true rfl) rfl (CL.imp k (fun _ h5 k => ?_) (fun _ _ k => k))
    obtain ⟨r6, rfl, k⟩ := oI_of k
    show AW X (d + 1) rb mX12_line 43 _ [vI r6] h5 Qr Qx
    refine aw_if_eq 47 dX12_line_43 rfl rfl (fun c => ?_) (fun c => ?_)
    · replace k := k.1 c
      refine aw_aload_n (j := 1) (i := 0) dX12_line_47 rfl rfl rfl ?_
      refine aw_callV (M' := mX12_named) (S := []) (as := []) (k := 0) dX12_line_48 rfl (by decide) rfl rfl gw_1709 gw_1711 gw_40 mb_X12_named rfl (Nat.zero_le _) (Nat.le_of_ble_eq_true rfl) rfl (CL.imp k (fun _ h7 k => ?_) (fun _ _ k => k))
      obtain ⟨r8, rfl, k⟩ := oI_of k
      show AW X (d + 1) rb mX12_line 51 _ [vI r8] h7 Qr Qx
      refine aw_istore (i := 4) (L2 := [(4, vI r8), (3, vI r4), (0, vR 12 0), (1, vI a1), (2, vI a2)]) dX12_line_51 rfl (by decide) rfl ?_
      refine aw_aload_n (j := 2) (i := 0) dX12_line_53 rfl rfl rfl ?_
      refine aw_iload (j := 0) (i := 4) dX12_line_54 rfl rfl ?_
      refine aw_iconst (v := (-1)) dX12_line_56 rfl (by decide) ?_
      have kk : AW X (d + 1) rb mX12_line 65 [(4, vI r8), (3, vI r4), (0, vR 12 0), (1, vI a1), (2, vI a2)] [vI (if r8 = (-1) then (0 : Int32) else 1), vR 12 0] h7 Qr Qx := by
        refine aw_iconst (v := 3) dX12_line_65 rfl (by decide) ?_
        refine aw_callV (M' := mX12_must) (S := []) (as := [vI (if r8 = (-1) then (0 : Int32) else 1), vI 3]) (k := 0) dX12_line_66 rfl (by decide) rfl rfl gw_1701 gw_1703 gw_38 mb_X12_must rfl (Nat.zero_le _) (Nat.le_of_ble_eq_true rfl) rfl (CL.imp k (fun _ h9 k => ?_) (fun _ _ k => k))
        obtain ⟨rfl, k⟩ := oV_of k
        show AW X (d + 1) rb mX12_line 69 _ [] h9 Qr Qx
        refine aw_iconst (v := 0) dX12_line_69 rfl (by decide) ?_
        refine aw_istore (i := 5) (L2 := [(5, vI 0), (4, vI r8), (3, vI r4), (0, vR 12 0), (1, vI a1), (2, vI a2)]) dX12_line_70 rfl (by decide) rfl ?_
        exact aw_sub [3, 4, 5, 2, 1, 0] rfl k
      refine aw_icmp_eq 64 dX12_line_57 rfl rfl (fun (c0 : r8 = (-1)) => ?_) (fun (c0 : ¬ r8 = (-1)) => ?_)
      · refine aw_iconst (v := 0) dX12_line_64 rfl (by decide) ?_
        simp only [if_pos c0] at kk
        exact kk
      · refine aw_iconst (v := 1) dX12_line_60 rfl (by decide) ?_
        refine aw_goto 65 dX12_line_61 rfl ?_
        simp only [if_neg c0] at kk
        exact kk
    · replace k := k.2 c
      exact aw_vret dX12_line_46 rfl k
  · replace k := k.2 c
    refine aw_aload_n (j := 0) (i := 0) dX12_line_11 rfl rfl rfl ?_
    refine aw_bipush (v := 48) dX12_line_12 rfl (by decide) ?_
    refine aw_bipush (v := 57) dX12_line_14 rfl (by decide) ?_
    refine aw_callV (M' := mX12_isAt) (S := [vR 12 0]) (as := [vI 48, vI 57]) (k := 0) dX12_line_16 rfl (by decide) rfl rfl gw_1678 gw_1680 gw_33 mb_X12_isAt rfl (Nat.zero_le _) (Nat.le_of_ble_eq_true rfl) rfl (CL.imp k (fun _ h10 k => ?_) (fun _ _ k => k))
    obtain ⟨r11, rfl, k⟩ := oI_of k
    show AW X (d + 1) rb mX12_line 19 _ [vI r11, vR 12 0] h10 Qr Qx
    have kk : AW X (d + 1) rb mX12_line 27 [(0, vR 12 0), (1, vI a1), (2, vI a2)] [vI (if ¬ r11 = 0 then (0 : Int32) else 1), vR 12 0] h10 Qr Qx := by
      refine aw_iconst (v := 4) dX12_line_27 rfl (by decide) ?_
      refine aw_callV (M' := mX12_must) (S := []) (as := [vI (if ¬ r11 = 0 then (0 : Int32) else 1), vI 4]) (k := 0) dX12_line_28 rfl (by decide) rfl rfl gw_1701 gw_1703 gw_38 mb_X12_must rfl (Nat.zero_le _) (Nat.le_of_ble_eq_true rfl) rfl (CL.imp k (fun _ h12 k => ?_) (fun _ _ k => k))
      obtain ⟨rfl, k⟩ := oV_of k
      show AW X (d + 1) rb mX12_line 31 _ [] h12 Qr Qx
      refine aw_aload_n (j := 0) (i := 0) dX12_line_31 rfl rfl rfl ?_
      refine aw_iconst (v := 1) dX12_line_32 rfl (by decide) ?_
      refine aw_bipush (v := 20) dX12_line_33 rfl (by decide) ?_
      refine aw_callV (M' := mX12_number) (S := []) (as := [vI 1, vI 20]) (k := 0) dX12_line_35 rfl (by decide) rfl rfl gw_1716 gw_1718 gw_41 mb_X12_number rfl (Nat.zero_le _) (Nat.le_of_ble_eq_true rfl) rfl (CL.imp k (fun _ h13 k => ?_) (fun _ _ k => k))
      obtain ⟨r14, rfl, k⟩ := oI_of k
      show AW X (d + 1) rb mX12_line 38 _ [vI r14] h13 Qr Qx
      refine aw_istore_n (i := 3) (L2 := [(3, vI r14), (0, vR 12 0), (1, vI a1), (2, vI a2)]) dX12_line_38 rfl rfl (by decide) rfl ?_
      refine aw_aload_n (j := 1) (i := 0) dX12_line_39 rfl rfl rfl ?_
      refine aw_callV (M' := mX12_hasFailed) (S := []) (as := []) (k := 0) dX12_line_40 rfl (by decide) rfl rfl gw_1682 gw_1684 gw_34 mb_X12_hasFailed rfl (Nat.zero_le _) (Nat.le_of_ble_eq_true rfl) rfl (CL.imp k (fun _ h15 k => ?_) (fun _ _ k => k))
      obtain ⟨r16, rfl, k⟩ := oI_of k
      show AW X (d + 1) rb mX12_line 43 _ [vI r16] h15 Qr Qx
      refine aw_if_eq 47 dX12_line_43 rfl rfl (fun c => ?_) (fun c => ?_)
      · replace k := k.1 c
        refine aw_aload_n (j := 1) (i := 0) dX12_line_47 rfl rfl rfl ?_
        refine aw_callV (M' := mX12_named) (S := []) (as := []) (k := 0) dX12_line_48 rfl (by decide) rfl rfl gw_1709 gw_1711 gw_40 mb_X12_named rfl (Nat.zero_le _) (Nat.le_of_ble_eq_true rfl) rfl (CL.imp k (fun _ h17 k => ?_) (fun _ _ k => k))
        obtain ⟨r18, rfl, k⟩ := oI_of k
        show AW X (d + 1) rb mX12_line 51 _ [vI r18] h17 Qr Qx
        refine aw_istore (i := 4) (L2 := [(4, vI r18), (3, vI r14), (0, vR 12 0), (1, vI a1), (2, vI a2)]) dX12_line_51 rfl (by decide) rfl ?_
        refine aw_aload_n (j := 2) (i := 0) dX12_line_53 rfl rfl rfl ?_
        refine aw_iload (j := 0) (i := 4) dX12_line_54 rfl rfl ?_
        refine aw_iconst (v := (-1)) dX12_line_56 rfl (by decide) ?_
        have kk : AW X (d + 1) rb mX12_line 65 [(4, vI r18), (3, vI r14), (0, vR 12 0), (1, vI a1), (2, vI a2)] [vI (if r18 = (-1) then (0 : Int32) else 1), vR 12 0] h17 Qr Qx := by
          refine aw_iconst (v := 3) dX12_line_65 rfl (by decide) ?_
          refine aw_callV (M' := mX12_must) (S := []) (as := [vI (if r18 = (-1) then (0 : Int32) else 1), vI 3]) (k := 0) dX12_line_66 rfl (by decide) rfl rfl gw_1701 gw_1703 gw_38 mb_X12_must rfl (Nat.zero_le _) (Nat.le_of_ble_eq_true rfl) rfl (CL.imp k (fun _ h19 k => ?_) (fun _ _ k => k))
          obtain ⟨rfl, k⟩ := oV_of k
          show AW X (d + 1) rb mX12_line 69 _ [] h19 Qr Qx
          refine aw_iconst (v := 0) dX12_line_69 rfl (by decide) ?_
          refine aw_istore (i := 5) (L2 := [(5, vI 0), (4, vI r18), (3, vI r14), (0, vR 12 0), (1, vI a1), (2, vI a2)]) dX12_line_70 rfl (by decide) rfl ?_
          exact aw_sub [3, 4, 5, 2, 1, 0] rfl k
        refine aw_icmp_eq 64 dX12_line_57 rfl rfl (fun (c0 : r18 = (-1)) => ?_) (fun (c0 : ¬ r18 = (-1)) => ?_)
        · refine aw_iconst (v := 0) dX12_line_64 rfl (by decide) ?_
          simp only [if_pos c0] at kk
          exact kk
        · refine aw_iconst (v := 1) dX12_line_60 rfl (by decide) ?_
          refine aw_goto 65 dX12_line_61 rfl ?_
          simp only [if_neg c0] at kk
          exact kk
      · replace k := k.2 c
        exact aw_vret dX12_line_46 rfl k
    refine aw_if_ne 26 dX12_line_19 rfl rfl (fun (c0 : ¬ r11 = 0) => ?_) (fun (c0 : r11 = 0) => ?_)
    · refine aw_iconst (v := 0) dX12_line_26 rfl (by decide) ?_
      simp only [if_pos c0] at kk
      exact kk
    · refine aw_iconst (v := 1) dX12_line_22 rfl (by decide) ?_
      refine aw_goto 27 dX12_line_23 rfl ?_
      simp only [if_neg (oa_nn c0)] at kk
      exact kk
set_option maxHeartbeats 4000000 in
set_option maxRecDepth 100000 in
theorem vc_X12_line_72 {X : WD → State → Prop} {d rb : Nat} {h : Hp} {Qr : Option AV → Hp → Prop} {Qx : String → Hp → Prop} {x1 : Int32} {x2 : Int32} {x3 : Int32} {x4 : Int32} {x5 : Int32}  (k : ((x2 ≤ x5) → AW X (d + 1) rb mX12_line 118 [(0, vR 12 0), (1, vI x1), (2, vI x2), (3, vI x3), (4, vI x4), (5, vI 0)] [] h Qr Qx) ∧ ((¬ x2 ≤ x5) → (vp_in ((196 + (6 * x1)) + x5) 506) ∧ CL 0 d mX12_must [vR 12 0, vI (if (h.1 57 0 (((196 + (6 * x1)) + x5).toNatClampNeg)) = x4 then (0 : Int32) else 1), vI 3] h (oV fun h1 => AW X (d + 1) rb mX12_line 72 [(0, vR 12 0), (1, vI x1), (2, vI x2), (3, vI x3), (4, vI x4), (5, vI (x5 + 1))] [] h1 Qr Qx) Qx)) : AW X (d + 1) rb mX12_line 72 [(0, vR 12 0), (1, vI x1), (2, vI x2), (3, vI x3), (4, vI x4), (5, vI x5)] [] h Qr Qx := by
  refine aw_iload (j := 5) (i := 5) dX12_line_72 rfl rfl ?_
  refine aw_iload_n (j := 2) (i := 2) dX12_line_74 rfl rfl rfl ?_
  refine aw_icmp_ge 115 dX12_line_75 rfl rfl (fun c => ?_) (fun c => ?_)
  · replace k := k.1 c
    refine aw_iconst (v := 0) dX12_line_115 rfl (by decide) ?_
    refine aw_istore (i := 5) (L2 := [(5, vI 0), (0, vR 12 0), (1, vI x1), (2, vI x2), (3, vI x3), (4, vI x4)]) dX12_line_116 rfl (by decide) rfl ?_
    exact aw_sub [1, 2, 3, 4, 5, 0] rfl k
  · replace k := k.2 c
    refine aw_aload_n (j := 0) (i := 0) dX12_line_78 rfl rfl rfl ?_
    refine aw_aload_n (j := 0) (i := 0) dX12_line_79 rfl rfl rfl ?_
    refine aw_getf (k := 12) (z := 57) dX12_line_80 rfl (by decide) rfl rfl rfl cb_12 (by decide) gw_1606 ?_
    refine aw_sipush (v := 196) dX12_line_83 rfl (by decide) ?_
    refine aw_bipush (v := 6) dX12_line_86 rfl (by decide) ?_
    refine aw_iload_n (j := 1) (i := 1) dX12_line_88 rfl rfl rfl ?_
    refine aw_imul dX12_line_89 rfl ?_
    refine aw_iadd dX12_line_90 rfl ?_
    refine aw_iload (j := 5) (i := 5) dX12_line_91 rfl rfl ?_
    refine aw_iadd dX12_line_93 rfl ?_
    refine aw_iald dX12_line_94 rfl (by decide) rfl k.1 ?_
    replace k := k.2
    refine aw_iload (j := 4) (i := 4) dX12_line_95 rfl rfl ?_
    have kk : AW X (d + 1) rb mX12_line 105 [(0, vR 12 0), (1, vI x1), (2, vI x2), (3, vI x3), (4, vI x4), (5, vI x5)] [vI (if (h.1 57 0 (((196 + (6 * x1)) + x5).toNatClampNeg)) = x4 then (0 : Int32) else 1), vR 12 0] h Qr Qx := by
      refine aw_iconst (v := 3) dX12_line_105 rfl (by decide) ?_
      refine aw_callV (M' := mX12_must) (S := []) (as := [vI (if (h.1 57 0 (((196 + (6 * x1)) + x5).toNatClampNeg)) = x4 then (0 : Int32) else 1), vI 3]) (k := 0) dX12_line_106 rfl (by decide) rfl rfl gw_1701 gw_1703 gw_38 mb_X12_must rfl (Nat.zero_le _) (Nat.le_of_ble_eq_true rfl) rfl (CL.imp k (fun _ h1 k => ?_) (fun _ _ k => k))
      obtain ⟨rfl, k⟩ := oV_of k
      show AW X (d + 1) rb mX12_line 109 _ [] h1 Qr Qx
      refine aw_iinc (i := 5) (j := 5) (v := x5 + 1) (L2 := [(5, vI (x5 + 1)), (0, vR 12 0), (1, vI x1), (2, vI x2), (3, vI x3), (4, vI x4)]) dX12_line_109 rfl (by decide) rfl rfl rfl ?_
      refine aw_goto 72 dX12_line_112 rfl ?_
      exact aw_sub [1, 2, 3, 4, 5, 0] rfl k
    refine aw_icmp_eq 104 dX12_line_97 rfl rfl (fun (c0 : (h.1 57 0 (((196 + (6 * x1)) + x5).toNatClampNeg)) = x4) => ?_) (fun (c0 : ¬ (h.1 57 0 (((196 + (6 * x1)) + x5).toNatClampNeg)) = x4) => ?_)
    · refine aw_iconst (v := 0) dX12_line_104 rfl (by decide) ?_
      simp only [if_pos c0] at kk
      exact kk
    · refine aw_iconst (v := 1) dX12_line_100 rfl (by decide) ?_
      refine aw_goto 105 dX12_line_101 rfl ?_
      simp only [if_neg c0] at kk
      exact kk
set_option maxHeartbeats 4000000 in
set_option maxRecDepth 100000 in
theorem vc_X12_line_118 {X : WD → State → Prop} {d rb : Nat} {h : Hp} {Qr : Option AV → Hp → Prop} {Qx : String → Hp → Prop} {x1 : Int32} {x2 : Int32} {x3 : Int32} {x4 : Int32} {x5 : Int32}  (k : ((12 ≤ x5) → CL 0 d mX12_hasFailed [vR 12 0] h (oI fun r2 h1 => ((r2 = 0) → CL 0 d mX12_letters [vR 12 0] h1 (oI fun r4 h3 => (vp_in ((196 + (6 * x1)) + x2) 506) ∧ (vp_in ((244 + (6 * x1)) + x2) 506) ∧ Qr none (hp_i (hp_i (hp_i h3 12 0 4 ((h1.1 12 0 4) + r4)) 57 0 (((196 + (6 * x1)) + x2).toNatClampNeg) x4) 57 0 (((244 + (6 * x1)) + x2).toNatClampNeg) x3)) Qx) ∧ ((¬ r2 = 0) → Qr none h1)) Qx) ∧ ((¬ 12 ≤ x5) → CL 0 d mX12_hasFailed [vR 12 0] h (oI fun r6 h5 => ((¬ r6 = 0) → CL 0 d mX12_hasFailed [vR 12 0] h5 (oI fun r8 h7 => ((r8 = 0) → CL 0 d mX12_letters [vR 12 0] h7 (oI fun r10 h9 => (vp_in ((196 + (6 * x1)) + x2) 506) ∧ (vp_in ((244 + (6 * x1)) + x2) 506) ∧ Qr none (hp_i (hp_i (hp_i h9 12 0 4 ((h7.1 12 0 4) + r10)) 57 0 (((196 + (6 * x1)) + x2).toNatClampNeg) x4) 57 0 (((244 + (6 * x1)) + x2).toNatClampNeg) x3)) Qx) ∧ ((¬ r8 = 0) → Qr none h7)) Qx) ∧ ((r6 = 0) → (vp_in ((292 + (12 * x1)) + x5) 506) ∧ ((12 ≤ x4) → (vp_in ((292 + (12 * (x4 - 12))) + x5) 506) ∧ (vp_in ((292 + (12 * x1)) + x5) 506) ∧ (vp_in ((292 + (12 * x1)) + x5) 506) ∧ CL 0 d mX12_must [vR 12 0, vI (if 9999 < ((hp_i h5 57 0 (((292 + (12 * x1)) + x5).toNatClampNeg) ((h5.1 57 0 (((292 + (12 * x1)) + x5).toNatClampNeg)) + (x3 * (h5.1 57 0 (((292 + (12 * (x4 - 12))) + x5).toNatClampNeg))))).1 57 0 (((292 + (12 * x1)) + x5).toNatClampNeg)) then (0 : Int32) else 1), vI 5] (hp_i h5 57 0 (((292 + (12 * x1)) + x5).toNatClampNeg) ((h5.1 57 0 (((292 + (12 * x1)) + x5).toNatClampNeg)) + (x3 * (h5.1 57 0 (((292 + (12 * (x4 - 12))) + x5).toNatClampNeg))))) (oV fun h11 => AW X (d + 1) rb mX12_line 118 [(0, vR 12 0), (1, vI x1), (2, vI x2), (3, vI x3), (4, vI x4), (5, vI (x5 + 1))] [] h11 Qr Qx) Qx) ∧ ((¬ 12 ≤ x4) → (vp_in ((292 + (12 * x1)) + x5) 506) ∧ (vp_in ((292 + (12 * x1)) + x5) 506) ∧ CL 0 d mX12_must [vR 12 0, vI (if 9999 < ((hp_i h5 57 0 (((292 + (12 * x1)) + x5).toNatClampNeg) ((h5.1 57 0 (((292 + (12 * x1)) + x5).toNatClampNeg)) + (x3 * (if ¬ x4 = x5 then (0 : Int32) else 1)))).1 57 0 (((292 + (12 * x1)) + x5).toNatClampNeg)) then (0 : Int32) else 1), vI 5] (hp_i h5 57 0 (((292 + (12 * x1)) + x5).toNatClampNeg) ((h5.1 57 0 (((292 + (12 * x1)) + x5).toNatClampNeg)) + (x3 * (if ¬ x4 = x5 then (0 : Int32) else 1)))) (oV fun h12 => AW X (d + 1) rb mX12_line 118 [(0, vR 12 0), (1, vI x1), (2, vI x2), (3, vI x3), (4, vI x4), (5, vI (x5 + 1))] [] h12 Qr Qx) Qx))) Qx)) : AW X (d + 1) rb mX12_line 118 [(0, vR 12 0), (1, vI x1), (2, vI x2), (3, vI x3), (4, vI x4), (5, vI x5)] [] h Qr Qx := by
  refine aw_iload (j := 5) (i := 5) dX12_line_118 rfl rfl ?_
  refine aw_bipush (v := 12) dX12_line_120 rfl (by decide) ?_
  refine aw_icmp_ge 233 dX12_line_122 rfl rfl (fun c => ?_) (fun c => ?_)
  · replace k := k.1 c
    refine aw_aload_n (j := 0) (i := 0) dX12_line_233 rfl rfl rfl ?_
    refine aw_callV (M' := mX12_hasFailed) (S := []) (as := []) (k := 0) dX12_line_234 rfl (by decide) rfl rfl gw_1682 gw_1684 gw_34 mb_X12_hasFailed rfl (Nat.zero_le _) (Nat.le_of_ble_eq_true rfl) rfl (CL.imp k (fun _ h1 k => ?_) (fun _ _ k => k))
    obtain ⟨r2, rfl, k⟩ := oI_of k
    show AW X (d + 1) rb mX12_line 237 _ [vI r2] h1 Qr Qx
    refine aw_if_eq 241 dX12_line_237 rfl rfl (fun c => ?_) (fun c => ?_)
    · replace k := k.1 c
      refine aw_aload_n (j := 0) (i := 0) dX12_line_241 rfl rfl rfl ?_
      refine aw_dup dX12_line_242 rfl rfl ?_
      refine aw_geti (k := 4) dX12_line_243 rfl (by decide) rfl rfl cb_12 (by decide) gw_1598 ?_
      refine aw_aload_n (j := 0) (i := 0) dX12_line_246 rfl rfl rfl ?_
      refine aw_callV (M' := mX12_letters) (S := [vI (h1.1 12 0 4), vR 12 0]) (as := []) (k := 0) dX12_line_247 rfl (by decide) rfl rfl gw_1691 gw_1693 gw_36 mb_X12_letters rfl (Nat.zero_le _) (Nat.le_of_ble_eq_true rfl) rfl (CL.imp k (fun _ h3 k => ?_) (fun _ _ k => k))
      obtain ⟨r4, rfl, k⟩ := oI_of k
      show AW X (d + 1) rb mX12_line 250 _ [vI r4, vI (h1.1 12 0 4), vR 12 0] h3 Qr Qx
      refine aw_iadd dX12_line_250 rfl ?_
      refine aw_puti (k := 4) dX12_line_251 rfl (by decide) rfl rfl cb_12 (by decide) rfl rfl gw_1598 ?_
      refine aw_aload_n (j := 0) (i := 0) dX12_line_254 rfl rfl rfl ?_
      refine aw_getf (k := 12) (z := 57) dX12_line_255 rfl (by decide) rfl rfl rfl cb_12 (by decide) gw_1606 ?_
      refine aw_sipush (v := 196) dX12_line_258 rfl (by decide) ?_
      refine aw_bipush (v := 6) dX12_line_261 rfl (by decide) ?_
      refine aw_iload_n (j := 1) (i := 1) dX12_line_263 rfl rfl rfl ?_
      refine aw_imul dX12_line_264 rfl ?_
      refine aw_iadd dX12_line_265 rfl ?_
      refine aw_iload_n (j := 2) (i := 2) dX12_line_266 rfl rfl rfl ?_
      refine aw_iadd dX12_line_267 rfl ?_
      refine aw_iload (j := 4) (i := 4) dX12_line_268 rfl rfl ?_
      refine aw_iast dX12_line_270 rfl (by decide) rfl k.1 ?_
      replace k := k.2
      refine aw_aload_n (j := 0) (i := 0) dX12_line_271 rfl rfl rfl ?_
      refine aw_getf (k := 12) (z := 57) dX12_line_272 rfl (by decide) rfl rfl rfl cb_12 (by decide) gw_1606 ?_
      refine aw_sipush (v := 244) dX12_line_275 rfl (by decide) ?_
      refine aw_bipush (v := 6) dX12_line_278 rfl (by decide) ?_
      refine aw_iload_n (j := 1) (i := 1) dX12_line_280 rfl rfl rfl ?_
      refine aw_imul dX12_line_281 rfl ?_
      refine aw_iadd dX12_line_282 rfl ?_
      refine aw_iload_n (j := 2) (i := 2) dX12_line_283 rfl rfl rfl ?_
      refine aw_iadd dX12_line_284 rfl ?_
      refine aw_iload_n (j := 3) (i := 3) dX12_line_285 rfl rfl rfl ?_
      refine aw_iast dX12_line_286 rfl (by decide) rfl k.1 ?_
      replace k := k.2
      exact aw_vret dX12_line_287 rfl k
    · replace k := k.2 c
      exact aw_vret dX12_line_240 rfl k
  · replace k := k.2 c
    refine aw_aload_n (j := 0) (i := 0) dX12_line_125 rfl rfl rfl ?_
    refine aw_callV (M' := mX12_hasFailed) (S := []) (as := []) (k := 0) dX12_line_126 rfl (by decide) rfl rfl gw_1682 gw_1684 gw_34 mb_X12_hasFailed rfl (Nat.zero_le _) (Nat.le_of_ble_eq_true rfl) rfl (CL.imp k (fun _ h5 k => ?_) (fun _ _ k => k))
    obtain ⟨r6, rfl, k⟩ := oI_of k
    show AW X (d + 1) rb mX12_line 129 _ [vI r6] h5 Qr Qx
    refine aw_if_ne 233 dX12_line_129 rfl rfl (fun c => ?_) (fun c => ?_)
    · replace k := k.1 c
      refine aw_aload_n (j := 0) (i := 0) dX12_line_233 rfl rfl rfl ?_
      refine aw_callV (M' := mX12_hasFailed) (S := []) (as := []) (k := 0) dX12_line_234 rfl (by decide) rfl rfl gw_1682 gw_1684 gw_34 mb_X12_hasFailed rfl (Nat.zero_le _) (Nat.le_of_ble_eq_true rfl) rfl (CL.imp k (fun _ h7 k => ?_) (fun _ _ k => k))
      obtain ⟨r8, rfl, k⟩ := oI_of k
      show AW X (d + 1) rb mX12_line 237 _ [vI r8] h7 Qr Qx
      refine aw_if_eq 241 dX12_line_237 rfl rfl (fun c => ?_) (fun c => ?_)
      · replace k := k.1 c
        refine aw_aload_n (j := 0) (i := 0) dX12_line_241 rfl rfl rfl ?_
        refine aw_dup dX12_line_242 rfl rfl ?_
        refine aw_geti (k := 4) dX12_line_243 rfl (by decide) rfl rfl cb_12 (by decide) gw_1598 ?_
        refine aw_aload_n (j := 0) (i := 0) dX12_line_246 rfl rfl rfl ?_
        refine aw_callV (M' := mX12_letters) (S := [vI (h7.1 12 0 4), vR 12 0]) (as := []) (k := 0) dX12_line_247 rfl (by decide) rfl rfl gw_1691 gw_1693 gw_36 mb_X12_letters rfl (Nat.zero_le _) (Nat.le_of_ble_eq_true rfl) rfl (CL.imp k (fun _ h9 k => ?_) (fun _ _ k => k))
        obtain ⟨r10, rfl, k⟩ := oI_of k
        show AW X (d + 1) rb mX12_line 250 _ [vI r10, vI (h7.1 12 0 4), vR 12 0] h9 Qr Qx
        refine aw_iadd dX12_line_250 rfl ?_
        refine aw_puti (k := 4) dX12_line_251 rfl (by decide) rfl rfl cb_12 (by decide) rfl rfl gw_1598 ?_
        refine aw_aload_n (j := 0) (i := 0) dX12_line_254 rfl rfl rfl ?_
        refine aw_getf (k := 12) (z := 57) dX12_line_255 rfl (by decide) rfl rfl rfl cb_12 (by decide) gw_1606 ?_
        refine aw_sipush (v := 196) dX12_line_258 rfl (by decide) ?_
        refine aw_bipush (v := 6) dX12_line_261 rfl (by decide) ?_
        refine aw_iload_n (j := 1) (i := 1) dX12_line_263 rfl rfl rfl ?_
        refine aw_imul dX12_line_264 rfl ?_
        refine aw_iadd dX12_line_265 rfl ?_
        refine aw_iload_n (j := 2) (i := 2) dX12_line_266 rfl rfl rfl ?_
        refine aw_iadd dX12_line_267 rfl ?_
        refine aw_iload (j := 4) (i := 4) dX12_line_268 rfl rfl ?_
        refine aw_iast dX12_line_270 rfl (by decide) rfl k.1 ?_
        replace k := k.2
        refine aw_aload_n (j := 0) (i := 0) dX12_line_271 rfl rfl rfl ?_
        refine aw_getf (k := 12) (z := 57) dX12_line_272 rfl (by decide) rfl rfl rfl cb_12 (by decide) gw_1606 ?_
        refine aw_sipush (v := 244) dX12_line_275 rfl (by decide) ?_
        refine aw_bipush (v := 6) dX12_line_278 rfl (by decide) ?_
        refine aw_iload_n (j := 1) (i := 1) dX12_line_280 rfl rfl rfl ?_
        refine aw_imul dX12_line_281 rfl ?_
        refine aw_iadd dX12_line_282 rfl ?_
        refine aw_iload_n (j := 2) (i := 2) dX12_line_283 rfl rfl rfl ?_
        refine aw_iadd dX12_line_284 rfl ?_
        refine aw_iload_n (j := 3) (i := 3) dX12_line_285 rfl rfl rfl ?_
        refine aw_iast dX12_line_286 rfl (by decide) rfl k.1 ?_
        replace k := k.2
        exact aw_vret dX12_line_287 rfl k
      · replace k := k.2 c
        exact aw_vret dX12_line_240 rfl k
    · replace k := k.2 c
      refine aw_aload_n (j := 0) (i := 0) dX12_line_132 rfl rfl rfl ?_
      refine aw_getf (k := 12) (z := 57) dX12_line_133 rfl (by decide) rfl rfl rfl cb_12 (by decide) gw_1606 ?_
      refine aw_sipush (v := 292) dX12_line_136 rfl (by decide) ?_
      refine aw_bipush (v := 12) dX12_line_139 rfl (by decide) ?_
      refine aw_iload_n (j := 1) (i := 1) dX12_line_141 rfl rfl rfl ?_
      refine aw_imul dX12_line_142 rfl ?_
      refine aw_iadd dX12_line_143 rfl ?_
      refine aw_iload (j := 5) (i := 5) dX12_line_144 rfl rfl ?_
      refine aw_iadd dX12_line_146 rfl ?_
      refine aw_dup2 dX12_line_147 rfl rfl rfl ?_
      refine aw_iald dX12_line_148 rfl (by decide) rfl k.1 ?_
      replace k := k.2
      refine aw_iload_n (j := 3) (i := 3) dX12_line_149 rfl rfl rfl ?_
      refine aw_iload (j := 4) (i := 4) dX12_line_150 rfl rfl ?_
      refine aw_bipush (v := 12) dX12_line_152 rfl (by decide) ?_
      refine aw_icmp_ge 172 dX12_line_154 rfl rfl (fun c => ?_) (fun c => ?_)
      · replace k := k.1 c
        refine aw_aload_n (j := 0) (i := 0) dX12_line_172 rfl rfl rfl ?_
        refine aw_getf (k := 12) (z := 57) dX12_line_173 rfl (by decide) rfl rfl rfl cb_12 (by decide) gw_1606 ?_
        refine aw_sipush (v := 292) dX12_line_176 rfl (by decide) ?_
        refine aw_bipush (v := 12) dX12_line_179 rfl (by decide) ?_
        refine aw_iload (j := 4) (i := 4) dX12_line_181 rfl rfl ?_
        refine aw_bipush (v := 12) dX12_line_183 rfl (by decide) ?_
        refine aw_isub dX12_line_185 rfl ?_
        refine aw_imul dX12_line_186 rfl ?_
        refine aw_iadd dX12_line_187 rfl ?_
        refine aw_iload (j := 5) (i := 5) dX12_line_188 rfl rfl ?_
        refine aw_iadd dX12_line_190 rfl ?_
        refine aw_iald dX12_line_191 rfl (by decide) rfl k.1 ?_
        replace k := k.2
        refine aw_imul dX12_line_192 rfl ?_
        refine aw_iadd dX12_line_193 rfl ?_
        refine aw_iast dX12_line_194 rfl (by decide) rfl k.1 ?_
        replace k := k.2
        refine aw_aload_n (j := 0) (i := 0) dX12_line_195 rfl rfl rfl ?_
        refine aw_aload_n (j := 0) (i := 0) dX12_line_196 rfl rfl rfl ?_
        refine aw_getf (k := 12) (z := 57) dX12_line_197 rfl (by decide) rfl rfl rfl cb_12 (by decide) gw_1606 ?_
        refine aw_sipush (v := 292) dX12_line_200 rfl (by decide) ?_
        refine aw_bipush (v := 12) dX12_line_203 rfl (by decide) ?_
        refine aw_iload_n (j := 1) (i := 1) dX12_line_205 rfl rfl rfl ?_
        refine aw_imul dX12_line_206 rfl ?_
        refine aw_iadd dX12_line_207 rfl ?_
        refine aw_iload (j := 5) (i := 5) dX12_line_208 rfl rfl ?_
        refine aw_iadd dX12_line_210 rfl ?_
        refine aw_iald dX12_line_211 rfl (by decide) rfl k.1 ?_
        replace k := k.2
        refine aw_sipush (v := 9999) dX12_line_212 rfl (by decide) ?_
        have kk : AW X (d + 1) rb mX12_line 223 [(0, vR 12 0), (1, vI x1), (2, vI x2), (3, vI x3), (4, vI x4), (5, vI x5)] [vI (if 9999 < ((hp_i h5 57 0 (((292 + (12 * x1)) + x5).toNatClampNeg) ((h5.1 57 0 (((292 + (12 * x1)) + x5).toNatClampNeg)) + (x3 * (h5.1 57 0 (((292 + (12 * (x4 - 12))) + x5).toNatClampNeg))))).1 57 0 (((292 + (12 * x1)) + x5).toNatClampNeg)) then (0 : Int32) else 1), vR 12 0] (hp_i h5 57 0 (((292 + (12 * x1)) + x5).toNatClampNeg) ((h5.1 57 0 (((292 + (12 * x1)) + x5).toNatClampNeg)) + (x3 * (h5.1 57 0 (((292 + (12 * (x4 - 12))) + x5).toNatClampNeg))))) Qr Qx := by
          refine aw_iconst (v := 5) dX12_line_223 rfl (by decide) ?_
          refine aw_callV (M' := mX12_must) (S := []) (as := [vI (if 9999 < ((hp_i h5 57 0 (((292 + (12 * x1)) + x5).toNatClampNeg) ((h5.1 57 0 (((292 + (12 * x1)) + x5).toNatClampNeg)) + (x3 * (h5.1 57 0 (((292 + (12 * (x4 - 12))) + x5).toNatClampNeg))))).1 57 0 (((292 + (12 * x1)) + x5).toNatClampNeg)) then (0 : Int32) else 1), vI 5]) (k := 0) dX12_line_224 rfl (by decide) rfl rfl gw_1701 gw_1703 gw_38 mb_X12_must rfl (Nat.zero_le _) (Nat.le_of_ble_eq_true rfl) rfl (CL.imp k (fun _ h11 k => ?_) (fun _ _ k => k))
          obtain ⟨rfl, k⟩ := oV_of k
          show AW X (d + 1) rb mX12_line 227 _ [] h11 Qr Qx
          refine aw_iinc (i := 5) (j := 5) (v := x5 + 1) (L2 := [(5, vI (x5 + 1)), (0, vR 12 0), (1, vI x1), (2, vI x2), (3, vI x3), (4, vI x4)]) dX12_line_227 rfl (by decide) rfl rfl rfl ?_
          refine aw_goto 118 dX12_line_230 rfl ?_
          exact aw_sub [1, 2, 3, 4, 5, 0] rfl k
        refine aw_icmp_gt 222 dX12_line_215 rfl rfl (fun (c0 : 9999 < ((hp_i h5 57 0 (((292 + (12 * x1)) + x5).toNatClampNeg) ((h5.1 57 0 (((292 + (12 * x1)) + x5).toNatClampNeg)) + (x3 * (h5.1 57 0 (((292 + (12 * (x4 - 12))) + x5).toNatClampNeg))))).1 57 0 (((292 + (12 * x1)) + x5).toNatClampNeg))) => ?_) (fun (c0 : ¬ 9999 < ((hp_i h5 57 0 (((292 + (12 * x1)) + x5).toNatClampNeg) ((h5.1 57 0 (((292 + (12 * x1)) + x5).toNatClampNeg)) + (x3 * (h5.1 57 0 (((292 + (12 * (x4 - 12))) + x5).toNatClampNeg))))).1 57 0 (((292 + (12 * x1)) + x5).toNatClampNeg))) => ?_)
        · refine aw_iconst (v := 0) dX12_line_222 rfl (by decide) ?_
          simp only [if_pos c0] at kk
          exact kk
        · refine aw_iconst (v := 1) dX12_line_218 rfl (by decide) ?_
          refine aw_goto 223 dX12_line_219 rfl ?_
          simp only [if_neg c0] at kk
          exact kk
      · replace k := k.2 c
        refine aw_iload (j := 4) (i := 4) dX12_line_157 rfl rfl ?_
        refine aw_iload (j := 5) (i := 5) dX12_line_159 rfl rfl ?_
        have kk : AW X (d + 1) rb mX12_line 192 [(0, vR 12 0), (1, vI x1), (2, vI x2), (3, vI x3), (4, vI x4), (5, vI x5)] [vI (if ¬ x4 = x5 then (0 : Int32) else 1), vI x3, vI (h5.1 57 0 (((292 + (12 * x1)) + x5).toNatClampNeg)), vI ((292 + (12 * x1)) + x5), vR 57 0] h5 Qr Qx := by
          refine aw_imul dX12_line_192 rfl ?_
          refine aw_iadd dX12_line_193 rfl ?_
          refine aw_iast dX12_line_194 rfl (by decide) rfl k.1 ?_
          replace k := k.2
          refine aw_aload_n (j := 0) (i := 0) dX12_line_195 rfl rfl rfl ?_
          refine aw_aload_n (j := 0) (i := 0) dX12_line_196 rfl rfl rfl ?_
          refine aw_getf (k := 12) (z := 57) dX12_line_197 rfl (by decide) rfl rfl rfl cb_12 (by decide) gw_1606 ?_
          refine aw_sipush (v := 292) dX12_line_200 rfl (by decide) ?_
          refine aw_bipush (v := 12) dX12_line_203 rfl (by decide) ?_
          refine aw_iload_n (j := 1) (i := 1) dX12_line_205 rfl rfl rfl ?_
          refine aw_imul dX12_line_206 rfl ?_
          refine aw_iadd dX12_line_207 rfl ?_
          refine aw_iload (j := 5) (i := 5) dX12_line_208 rfl rfl ?_
          refine aw_iadd dX12_line_210 rfl ?_
          refine aw_iald dX12_line_211 rfl (by decide) rfl k.1 ?_
          replace k := k.2
          refine aw_sipush (v := 9999) dX12_line_212 rfl (by decide) ?_
          have kk : AW X (d + 1) rb mX12_line 223 [(0, vR 12 0), (1, vI x1), (2, vI x2), (3, vI x3), (4, vI x4), (5, vI x5)] [vI (if 9999 < ((hp_i h5 57 0 (((292 + (12 * x1)) + x5).toNatClampNeg) ((h5.1 57 0 (((292 + (12 * x1)) + x5).toNatClampNeg)) + (x3 * (if ¬ x4 = x5 then (0 : Int32) else 1)))).1 57 0 (((292 + (12 * x1)) + x5).toNatClampNeg)) then (0 : Int32) else 1), vR 12 0] (hp_i h5 57 0 (((292 + (12 * x1)) + x5).toNatClampNeg) ((h5.1 57 0 (((292 + (12 * x1)) + x5).toNatClampNeg)) + (x3 * (if ¬ x4 = x5 then (0 : Int32) else 1)))) Qr Qx := by
            refine aw_iconst (v := 5) dX12_line_223 rfl (by decide) ?_
            refine aw_callV (M' := mX12_must) (S := []) (as := [vI (if 9999 < ((hp_i h5 57 0 (((292 + (12 * x1)) + x5).toNatClampNeg) ((h5.1 57 0 (((292 + (12 * x1)) + x5).toNatClampNeg)) + (x3 * (if ¬ x4 = x5 then (0 : Int32) else 1)))).1 57 0 (((292 + (12 * x1)) + x5).toNatClampNeg)) then (0 : Int32) else 1), vI 5]) (k := 0) dX12_line_224 rfl (by decide) rfl rfl gw_1701 gw_1703 gw_38 mb_X12_must rfl (Nat.zero_le _) (Nat.le_of_ble_eq_true rfl) rfl (CL.imp k (fun _ h12 k => ?_) (fun _ _ k => k))
            obtain ⟨rfl, k⟩ := oV_of k
            show AW X (d + 1) rb mX12_line 227 _ [] h12 Qr Qx
            refine aw_iinc (i := 5) (j := 5) (v := x5 + 1) (L2 := [(5, vI (x5 + 1)), (0, vR 12 0), (1, vI x1), (2, vI x2), (3, vI x3), (4, vI x4)]) dX12_line_227 rfl (by decide) rfl rfl rfl ?_
            refine aw_goto 118 dX12_line_230 rfl ?_
            exact aw_sub [1, 2, 3, 4, 5, 0] rfl k
          refine aw_icmp_gt 222 dX12_line_215 rfl rfl (fun (c0 : 9999 < ((hp_i h5 57 0 (((292 + (12 * x1)) + x5).toNatClampNeg) ((h5.1 57 0 (((292 + (12 * x1)) + x5).toNatClampNeg)) + (x3 * (if ¬ x4 = x5 then (0 : Int32) else 1)))).1 57 0 (((292 + (12 * x1)) + x5).toNatClampNeg))) => ?_) (fun (c0 : ¬ 9999 < ((hp_i h5 57 0 (((292 + (12 * x1)) + x5).toNatClampNeg) ((h5.1 57 0 (((292 + (12 * x1)) + x5).toNatClampNeg)) + (x3 * (if ¬ x4 = x5 then (0 : Int32) else 1)))).1 57 0 (((292 + (12 * x1)) + x5).toNatClampNeg))) => ?_)
          · refine aw_iconst (v := 0) dX12_line_222 rfl (by decide) ?_
            simp only [if_pos c0] at kk
            exact kk
          · refine aw_iconst (v := 1) dX12_line_218 rfl (by decide) ?_
            refine aw_goto 223 dX12_line_219 rfl ?_
            simp only [if_neg c0] at kk
            exact kk
        refine aw_icmp_ne 168 dX12_line_161 rfl rfl (fun (c0 : ¬ x4 = x5) => ?_) (fun (c0 : x4 = x5) => ?_)
        · refine aw_iconst (v := 0) dX12_line_168 rfl (by decide) ?_
          refine aw_goto 192 dX12_line_169 rfl ?_
          simp only [if_pos c0] at kk
          exact kk
        · refine aw_iconst (v := 1) dX12_line_164 rfl (by decide) ?_
          refine aw_goto 192 dX12_line_165 rfl ?_
          simp only [if_neg (oa_nn c0)] at kk
          exact kk
set_option maxHeartbeats 4000000 in
set_option maxRecDepth 100000 in
theorem vc_X12_rung_0 {X : WD → State → Prop} {d rb : Nat} {h : Hp} {Qr : Option AV → Hp → Prop} {Qx : String → Hp → Prop}   (k : CL 0 d mX12_must [vR 12 0, vI (if 6 ≤ (h.1 12 0 13) then (0 : Int32) else 1), vI 4] h (oV fun h1 => CL 0 d mX12_hasFailed [vR 12 0] h1 (oI fun r3 h2 => ((r3 = 0) → CL 0 d mX12_number [vR 12 0, vI 0, vI 9] (hp_i h2 12 0 4 ((h2.1 12 0 4) + 4)) (oI fun r5 h4 => (vp_in (388 + (3 * ((hp_i h2 12 0 4 ((h2.1 12 0 4) + 4)).1 12 0 13))) 506) ∧ (vp_in (388 + (3 * ((hp_i h2 12 0 4 ((h2.1 12 0 4) + 4)).1 12 0 13))) 506) ∧ CL 0 d mX12_number [vR 12 0, vI ((hp_i h4 57 0 ((388 + (3 * ((hp_i h2 12 0 4 ((h2.1 12 0 4) + 4)).1 12 0 13))).toNatClampNeg) r5).1 57 0 ((388 + (3 * ((hp_i h2 12 0 4 ((h2.1 12 0 4) + 4)).1 12 0 13))).toNatClampNeg)), vI 9] (hp_i h4 57 0 ((388 + (3 * ((hp_i h2 12 0 4 ((h2.1 12 0 4) + 4)).1 12 0 13))).toNatClampNeg) r5) (oI fun r7 h6 => (vp_in ((388 + (3 * ((hp_i h2 12 0 4 ((h2.1 12 0 4) + 4)).1 12 0 13))) + 1) 506) ∧ CL 0 d mX12_number [vR 12 0, vI 1, vI 100] (hp_i h6 57 0 (((388 + (3 * ((hp_i h2 12 0 4 ((h2.1 12 0 4) + 4)).1 12 0 13))) + 1).toNatClampNeg) r7) (oI fun r9 h8 => (vp_in ((388 + (3 * ((hp_i h2 12 0 4 ((h2.1 12 0 4) + 4)).1 12 0 13))) + 2) 506) ∧ Qr none (hp_i (hp_i (hp_i h8 57 0 (((388 + (3 * ((hp_i h2 12 0 4 ((h2.1 12 0 4) + 4)).1 12 0 13))) + 2).toNatClampNeg) r9) 12 0 13 ((h8.1 12 0 13) + 1)) 57 0 2 ((hp_i (hp_i h8 57 0 (((388 + (3 * ((hp_i h2 12 0 4 ((h2.1 12 0 4) + 4)).1 12 0 13))) + 2).toNatClampNeg) r9) 12 0 13 ((h8.1 12 0 13) + 1)).1 12 0 13))) Qx) Qx) Qx) ∧ ((¬ r3 = 0) → Qr none h2)) Qx) Qx) : AW X (d + 1) rb mX12_rung 0 [(0, vR 12 0)] [] h Qr Qx := by
  refine aw_aload_n (j := 0) (i := 0) dX12_rung_0 rfl rfl rfl ?_
  refine aw_aload_n (j := 0) (i := 0) dX12_rung_1 rfl rfl rfl ?_
  refine aw_geti (k := 13) dX12_rung_2 rfl (by decide) rfl rfl cb_12 (by decide) gw_1607 ?_
  refine aw_bipush (v := 6) dX12_rung_5 rfl (by decide) ?_
  have kk : AW X (d + 1) rb mX12_rung 15 [(0, vR 12 0)] [vI (if 6 ≤ (h.1 12 0 13) then (0 : Int32) else 1), vR 12 0] h Qr Qx := by
    refine aw_iconst (v := 4) dX12_rung_15 rfl (by decide) ?_
    refine aw_callV (M' := mX12_must) (S := []) (as := [vI (if 6 ≤ (h.1 12 0 13) then (0 : Int32) else 1), vI 4]) (k := 0) dX12_rung_16 rfl (by decide) rfl rfl gw_1701 gw_1703 gw_38 mb_X12_must rfl (Nat.zero_le _) (Nat.le_of_ble_eq_true rfl) rfl (CL.imp k (fun _ h1 k => ?_) (fun _ _ k => k))
    obtain ⟨rfl, k⟩ := oV_of k
    show AW X (d + 1) rb mX12_rung 19 _ [] h1 Qr Qx
    refine aw_aload_n (j := 0) (i := 0) dX12_rung_19 rfl rfl rfl ?_
    refine aw_callV (M' := mX12_hasFailed) (S := []) (as := []) (k := 0) dX12_rung_20 rfl (by decide) rfl rfl gw_1682 gw_1684 gw_34 mb_X12_hasFailed rfl (Nat.zero_le _) (Nat.le_of_ble_eq_true rfl) rfl (CL.imp k (fun _ h2 k => ?_) (fun _ _ k => k))
    obtain ⟨r3, rfl, k⟩ := oI_of k
    show AW X (d + 1) rb mX12_rung 23 _ [vI r3] h2 Qr Qx
    refine aw_if_eq 27 dX12_rung_23 rfl rfl (fun c => ?_) (fun c => ?_)
    · replace k := k.1 c
      refine aw_aload_n (j := 0) (i := 0) dX12_rung_27 rfl rfl rfl ?_
      refine aw_dup dX12_rung_28 rfl rfl ?_
      refine aw_geti (k := 4) dX12_rung_29 rfl (by decide) rfl rfl cb_12 (by decide) gw_1598 ?_
      refine aw_iconst (v := 4) dX12_rung_32 rfl (by decide) ?_
      refine aw_iadd dX12_rung_33 rfl ?_
      refine aw_puti (k := 4) dX12_rung_34 rfl (by decide) rfl rfl cb_12 (by decide) rfl rfl gw_1598 ?_
      refine aw_sipush (v := 388) dX12_rung_37 rfl (by decide) ?_
      refine aw_iconst (v := 3) dX12_rung_40 rfl (by decide) ?_
      refine aw_aload_n (j := 0) (i := 0) dX12_rung_41 rfl rfl rfl ?_
      refine aw_geti (k := 13) dX12_rung_42 rfl (by decide) rfl rfl cb_12 (by decide) gw_1607 ?_
      refine aw_imul dX12_rung_45 rfl ?_
      refine aw_iadd dX12_rung_46 rfl ?_
      refine aw_istore_n (i := 1) (L2 := [(1, vI (388 + (3 * ((hp_i h2 12 0 4 ((h2.1 12 0 4) + 4)).1 12 0 13)))), (0, vR 12 0)]) dX12_rung_47 rfl rfl (by decide) rfl ?_
      refine aw_aload_n (j := 1) (i := 0) dX12_rung_48 rfl rfl rfl ?_
      refine aw_getf (k := 12) (z := 57) dX12_rung_49 rfl (by decide) rfl rfl rfl cb_12 (by decide) gw_1606 ?_
      refine aw_iload_n (j := 0) (i := 1) dX12_rung_52 rfl rfl rfl ?_
      refine aw_aload_n (j := 1) (i := 0) dX12_rung_53 rfl rfl rfl ?_
      refine aw_iconst (v := 0) dX12_rung_54 rfl (by decide) ?_
      refine aw_bipush (v := 9) dX12_rung_55 rfl (by decide) ?_
      refine aw_callV (M' := mX12_number) (S := [vI (388 + (3 * ((hp_i h2 12 0 4 ((h2.1 12 0 4) + 4)).1 12 0 13))), vR 57 0]) (as := [vI 0, vI 9]) (k := 0) dX12_rung_57 rfl (by decide) rfl rfl gw_1716 gw_1718 gw_41 mb_X12_number rfl (Nat.zero_le _) (Nat.le_of_ble_eq_true rfl) rfl (CL.imp k (fun _ h4 k => ?_) (fun _ _ k => k))
      obtain ⟨r5, rfl, k⟩ := oI_of k
      show AW X (d + 1) rb mX12_rung 60 _ [vI r5, vI (388 + (3 * ((hp_i h2 12 0 4 ((h2.1 12 0 4) + 4)).1 12 0 13))), vR 57 0] h4 Qr Qx
      refine aw_iast dX12_rung_60 rfl (by decide) rfl k.1 ?_
      replace k := k.2
      refine aw_aload_n (j := 1) (i := 0) dX12_rung_61 rfl rfl rfl ?_
      refine aw_getf (k := 12) (z := 57) dX12_rung_62 rfl (by decide) rfl rfl rfl cb_12 (by decide) gw_1606 ?_
      refine aw_iload_n (j := 0) (i := 1) dX12_rung_65 rfl rfl rfl ?_
      refine aw_iconst (v := 1) dX12_rung_66 rfl (by decide) ?_
      refine aw_iadd dX12_rung_67 rfl ?_
      refine aw_aload_n (j := 1) (i := 0) dX12_rung_68 rfl rfl rfl ?_
      refine aw_aload_n (j := 1) (i := 0) dX12_rung_69 rfl rfl rfl ?_
      refine aw_getf (k := 12) (z := 57) dX12_rung_70 rfl (by decide) rfl rfl rfl cb_12 (by decide) gw_1606 ?_
      refine aw_iload_n (j := 0) (i := 1) dX12_rung_73 rfl rfl rfl ?_
      refine aw_iald dX12_rung_74 rfl (by decide) rfl k.1 ?_
      replace k := k.2
      refine aw_bipush (v := 9) dX12_rung_75 rfl (by decide) ?_
      refine aw_callV (M' := mX12_number) (S := [vI ((388 + (3 * ((hp_i h2 12 0 4 ((h2.1 12 0 4) + 4)).1 12 0 13))) + 1), vR 57 0]) (as := [vI ((hp_i h4 57 0 ((388 + (3 * ((hp_i h2 12 0 4 ((h2.1 12 0 4) + 4)).1 12 0 13))).toNatClampNeg) r5).1 57 0 ((388 + (3 * ((hp_i h2 12 0 4 ((h2.1 12 0 4) + 4)).1 12 0 13))).toNatClampNeg)), vI 9]) (k := 0) dX12_rung_77 rfl (by decide) rfl rfl gw_1716 gw_1718 gw_41 mb_X12_number rfl (Nat.zero_le _) (Nat.le_of_ble_eq_true rfl) rfl (CL.imp k (fun _ h6 k => ?_) (fun _ _ k => k))
      obtain ⟨r7, rfl, k⟩ := oI_of k
      show AW X (d + 1) rb mX12_rung 80 _ [vI r7, vI ((388 + (3 * ((hp_i h2 12 0 4 ((h2.1 12 0 4) + 4)).1 12 0 13))) + 1), vR 57 0] h6 Qr Qx
      refine aw_iast dX12_rung_80 rfl (by decide) rfl k.1 ?_
      replace k := k.2
      refine aw_aload_n (j := 1) (i := 0) dX12_rung_81 rfl rfl rfl ?_
      refine aw_getf (k := 12) (z := 57) dX12_rung_82 rfl (by decide) rfl rfl rfl cb_12 (by decide) gw_1606 ?_
      refine aw_iload_n (j := 0) (i := 1) dX12_rung_85 rfl rfl rfl ?_
      refine aw_iconst (v := 2) dX12_rung_86 rfl (by decide) ?_
      refine aw_iadd dX12_rung_87 rfl ?_
      refine aw_aload_n (j := 1) (i := 0) dX12_rung_88 rfl rfl rfl ?_
      refine aw_iconst (v := 1) dX12_rung_89 rfl (by decide) ?_
      refine aw_bipush (v := 100) dX12_rung_90 rfl (by decide) ?_
      refine aw_callV (M' := mX12_number) (S := [vI ((388 + (3 * ((hp_i h2 12 0 4 ((h2.1 12 0 4) + 4)).1 12 0 13))) + 2), vR 57 0]) (as := [vI 1, vI 100]) (k := 0) dX12_rung_92 rfl (by decide) rfl rfl gw_1716 gw_1718 gw_41 mb_X12_number rfl (Nat.zero_le _) (Nat.le_of_ble_eq_true rfl) rfl (CL.imp k (fun _ h8 k => ?_) (fun _ _ k => k))
      obtain ⟨r9, rfl, k⟩ := oI_of k
      show AW X (d + 1) rb mX12_rung 95 _ [vI r9, vI ((388 + (3 * ((hp_i h2 12 0 4 ((h2.1 12 0 4) + 4)).1 12 0 13))) + 2), vR 57 0] h8 Qr Qx
      refine aw_iast dX12_rung_95 rfl (by decide) rfl k.1 ?_
      replace k := k.2
      refine aw_aload_n (j := 1) (i := 0) dX12_rung_96 rfl rfl rfl ?_
      refine aw_dup dX12_rung_97 rfl rfl ?_
      refine aw_geti (k := 13) dX12_rung_98 rfl (by decide) rfl rfl cb_12 (by decide) gw_1607 ?_
      refine aw_iconst (v := 1) dX12_rung_101 rfl (by decide) ?_
      refine aw_iadd dX12_rung_102 rfl ?_
      refine aw_puti (k := 13) dX12_rung_103 rfl (by decide) rfl rfl cb_12 (by decide) rfl rfl gw_1607 ?_
      refine aw_aload_n (j := 1) (i := 0) dX12_rung_106 rfl rfl rfl ?_
      refine aw_getf (k := 12) (z := 57) dX12_rung_107 rfl (by decide) rfl rfl rfl cb_12 (by decide) gw_1606 ?_
      refine aw_iconst (v := 2) dX12_rung_110 rfl (by decide) ?_
      refine aw_aload_n (j := 1) (i := 0) dX12_rung_111 rfl rfl rfl ?_
      refine aw_geti (k := 13) dX12_rung_112 rfl (by decide) rfl rfl cb_12 (by decide) gw_1607 ?_
      refine aw_iast dX12_rung_115 rfl (by decide) rfl (by unfold vp_in; decide) ?_
      exact aw_vret dX12_rung_116 rfl k
    · replace k := k.2 c
      exact aw_vret dX12_rung_26 rfl k
  refine aw_icmp_ge 14 dX12_rung_7 rfl rfl (fun (c0 : 6 ≤ (h.1 12 0 13)) => ?_) (fun (c0 : ¬ 6 ≤ (h.1 12 0 13)) => ?_)
  · refine aw_iconst (v := 0) dX12_rung_14 rfl (by decide) ?_
    simp only [if_pos c0] at kk
    exact kk
  · refine aw_iconst (v := 1) dX12_rung_10 rfl (by decide) ?_
    refine aw_goto 15 dX12_rung_11 rfl ?_
    simp only [if_neg c0] at kk
    exact kk
set_option maxHeartbeats 4000000 in
set_option maxRecDepth 100000 in
theorem vc_X12_order_0 {X : WD → State → Prop} {d rb : Nat} {h : Hp} {Qr : Option AV → Hp → Prop} {Qx : String → Hp → Prop}   (k : CL 0 d mX12_must [vR 12 0, vI (if 20 ≤ (h.1 57 0 3) then (0 : Int32) else 1), vI 4] h (oV fun h1 => CL 0 d mX12_hasFailed [vR 12 0] h1 (oI fun r3 h2 => ((r3 = 0) → CL 0 d mX12_named [vR 12 0] (hp_i h2 12 0 4 ((h2.1 12 0 4) + 5)) (oI fun r5 h4 => CL 0 d mX12_must [vR 12 0, vI (if r5 < 12 then (0 : Int32) else 1), vI 3] h4 (oV fun h6 => CL 0 d mX12_hasFailed [vR 12 0] h6 (oI fun r8 h7 => ((r8 = 0) → CL 0 d mX12_letters [vR 12 0] h7 (oI fun r10 h9 => (vp_in (406 + (5 * (h9.1 57 0 3))) 506) ∧ CL 0 d mX12_number [vR 12 0, vI 1, vI 99] (hp_i (hp_i h9 12 0 4 ((h7.1 12 0 4) + r10)) 57 0 ((406 + (5 * (h9.1 57 0 3))).toNatClampNeg) (r5 - 12)) (oI fun r12 h11 => (vp_in ((406 + (5 * (h9.1 57 0 3))) + 1) 506) ∧ CL 0 d mX12_number [vR 12 0, vI 0, vI 9] (hp_i h11 57 0 (((406 + (5 * (h9.1 57 0 3))) + 1).toNatClampNeg) r12) (oI fun r14 h13 => (vp_in ((406 + (5 * (h9.1 57 0 3))) + 2) 506) ∧ CL 0 d mX12_number [vR 12 0, vI 0, vI 999] (hp_i h13 57 0 (((406 + (5 * (h9.1 57 0 3))) + 2).toNatClampNeg) r14) (oI fun r16 h15 => (vp_in ((406 + (5 * (h9.1 57 0 3))) + 3) 506) ∧ CL 0 d mX12_takes [vR 12 0, vR 1026 0] (hp_i h15 57 0 (((406 + (5 * (h9.1 57 0 3))) + 3).toNatClampNeg) r16) (oI fun r18 h17 => (vp_in ((406 + (5 * (h9.1 57 0 3))) + 4) 506) ∧ Qr none (hp_i (hp_i h17 57 0 (((406 + (5 * (h9.1 57 0 3))) + 4).toNatClampNeg) (if r18 = 0 then (0 : Int32) else 1)) 57 0 3 (((hp_i h17 57 0 (((406 + (5 * (h9.1 57 0 3))) + 4).toNatClampNeg) (if r18 = 0 then (0 : Int32) else 1)).1 57 0 3) + 1))) Qx) Qx) Qx) Qx) Qx) ∧ ((¬ r8 = 0) → Qr none h7)) Qx) Qx) Qx) ∧ ((¬ r3 = 0) → Qr none h2)) Qx) Qx) : AW X (d + 1) rb mX12_order 0 [(0, vR 12 0)] [] h Qr Qx := by
  refine aw_aload_n (j := 0) (i := 0) dX12_order_0 rfl rfl rfl ?_
  refine aw_aload_n (j := 0) (i := 0) dX12_order_1 rfl rfl rfl ?_
  refine aw_getf (k := 12) (z := 57) dX12_order_2 rfl (by decide) rfl rfl rfl cb_12 (by decide) gw_1606 ?_
  refine aw_iconst (v := 3) dX12_order_5 rfl (by decide) ?_
  refine aw_iald dX12_order_6 rfl (by decide) rfl (by unfold vp_in; decide) ?_
  refine aw_bipush (v := 20) dX12_order_7 rfl (by decide) ?_
  have kk : AW X (d + 1) rb mX12_order 17 [(0, vR 12 0)] [vI (if 20 ≤ (h.1 57 0 3) then (0 : Int32) else 1), vR 12 0] h Qr Qx := by
    refine aw_iconst (v := 4) dX12_order_17 rfl (by decide) ?_
    refine aw_callV (M' := mX12_must) (S := []) (as := [vI (if 20 ≤ (h.1 57 0 3) then (0 : Int32) else 1), vI 4]) (k := 0) dX12_order_18 rfl (by decide) rfl rfl gw_1701 gw_1703 gw_38 mb_X12_must rfl (Nat.zero_le _) (Nat.le_of_ble_eq_true rfl) rfl (CL.imp k (fun _ h1 k => ?_) (fun _ _ k => k))
    obtain ⟨rfl, k⟩ := oV_of k
    show AW X (d + 1) rb mX12_order 21 _ [] h1 Qr Qx
    refine aw_aload_n (j := 0) (i := 0) dX12_order_21 rfl rfl rfl ?_
    refine aw_callV (M' := mX12_hasFailed) (S := []) (as := []) (k := 0) dX12_order_22 rfl (by decide) rfl rfl gw_1682 gw_1684 gw_34 mb_X12_hasFailed rfl (Nat.zero_le _) (Nat.le_of_ble_eq_true rfl) rfl (CL.imp k (fun _ h2 k => ?_) (fun _ _ k => k))
    obtain ⟨r3, rfl, k⟩ := oI_of k
    show AW X (d + 1) rb mX12_order 25 _ [vI r3] h2 Qr Qx
    refine aw_if_eq 29 dX12_order_25 rfl rfl (fun c => ?_) (fun c => ?_)
    · replace k := k.1 c
      refine aw_aload_n (j := 0) (i := 0) dX12_order_29 rfl rfl rfl ?_
      refine aw_dup dX12_order_30 rfl rfl ?_
      refine aw_geti (k := 4) dX12_order_31 rfl (by decide) rfl rfl cb_12 (by decide) gw_1598 ?_
      refine aw_iconst (v := 5) dX12_order_34 rfl (by decide) ?_
      refine aw_iadd dX12_order_35 rfl ?_
      refine aw_puti (k := 4) dX12_order_36 rfl (by decide) rfl rfl cb_12 (by decide) rfl rfl gw_1598 ?_
      refine aw_aload_n (j := 0) (i := 0) dX12_order_39 rfl rfl rfl ?_
      refine aw_callV (M' := mX12_named) (S := []) (as := []) (k := 0) dX12_order_40 rfl (by decide) rfl rfl gw_1709 gw_1711 gw_40 mb_X12_named rfl (Nat.zero_le _) (Nat.le_of_ble_eq_true rfl) rfl (CL.imp k (fun _ h4 k => ?_) (fun _ _ k => k))
      obtain ⟨r5, rfl, k⟩ := oI_of k
      show AW X (d + 1) rb mX12_order 43 _ [vI r5] h4 Qr Qx
      refine aw_istore_n (i := 1) (L2 := [(1, vI r5), (0, vR 12 0)]) dX12_order_43 rfl rfl (by decide) rfl ?_
      refine aw_aload_n (j := 1) (i := 0) dX12_order_44 rfl rfl rfl ?_
      refine aw_iload_n (j := 0) (i := 1) dX12_order_45 rfl rfl rfl ?_
      refine aw_bipush (v := 12) dX12_order_46 rfl (by decide) ?_
      have kk : AW X (d + 1) rb mX12_order 56 [(1, vI r5), (0, vR 12 0)] [vI (if r5 < 12 then (0 : Int32) else 1), vR 12 0] h4 Qr Qx := by
        refine aw_iconst (v := 3) dX12_order_56 rfl (by decide) ?_
        refine aw_callV (M' := mX12_must) (S := []) (as := [vI (if r5 < 12 then (0 : Int32) else 1), vI 3]) (k := 0) dX12_order_57 rfl (by decide) rfl rfl gw_1701 gw_1703 gw_38 mb_X12_must rfl (Nat.zero_le _) (Nat.le_of_ble_eq_true rfl) rfl (CL.imp k (fun _ h6 k => ?_) (fun _ _ k => k))
        obtain ⟨rfl, k⟩ := oV_of k
        show AW X (d + 1) rb mX12_order 60 _ [] h6 Qr Qx
        refine aw_aload_n (j := 1) (i := 0) dX12_order_60 rfl rfl rfl ?_
        refine aw_callV (M' := mX12_hasFailed) (S := []) (as := []) (k := 0) dX12_order_61 rfl (by decide) rfl rfl gw_1682 gw_1684 gw_34 mb_X12_hasFailed rfl (Nat.zero_le _) (Nat.le_of_ble_eq_true rfl) rfl (CL.imp k (fun _ h7 k => ?_) (fun _ _ k => k))
        obtain ⟨r8, rfl, k⟩ := oI_of k
        show AW X (d + 1) rb mX12_order 64 _ [vI r8] h7 Qr Qx
        refine aw_if_eq 68 dX12_order_64 rfl rfl (fun c => ?_) (fun c => ?_)
        · replace k := k.1 c
          refine aw_aload_n (j := 1) (i := 0) dX12_order_68 rfl rfl rfl ?_
          refine aw_dup dX12_order_69 rfl rfl ?_
          refine aw_geti (k := 4) dX12_order_70 rfl (by decide) rfl rfl cb_12 (by decide) gw_1598 ?_
          refine aw_aload_n (j := 1) (i := 0) dX12_order_73 rfl rfl rfl ?_
          refine aw_callV (M' := mX12_letters) (S := [vI (h7.1 12 0 4), vR 12 0]) (as := []) (k := 0) dX12_order_74 rfl (by decide) rfl rfl gw_1691 gw_1693 gw_36 mb_X12_letters rfl (Nat.zero_le _) (Nat.le_of_ble_eq_true rfl) rfl (CL.imp k (fun _ h9 k => ?_) (fun _ _ k => k))
          obtain ⟨r10, rfl, k⟩ := oI_of k
          show AW X (d + 1) rb mX12_order 77 _ [vI r10, vI (h7.1 12 0 4), vR 12 0] h9 Qr Qx
          refine aw_iadd dX12_order_77 rfl ?_
          refine aw_puti (k := 4) dX12_order_78 rfl (by decide) rfl rfl cb_12 (by decide) rfl rfl gw_1598 ?_
          refine aw_sipush (v := 406) dX12_order_81 rfl (by decide) ?_
          refine aw_iconst (v := 5) dX12_order_84 rfl (by decide) ?_
          refine aw_aload_n (j := 1) (i := 0) dX12_order_85 rfl rfl rfl ?_
          refine aw_getf (k := 12) (z := 57) dX12_order_86 rfl (by decide) rfl rfl rfl cb_12 (by decide) gw_1606 ?_
          refine aw_iconst (v := 3) dX12_order_89 rfl (by decide) ?_
          refine aw_iald dX12_order_90 rfl (by decide) rfl (by unfold vp_in; decide) ?_
          refine aw_imul dX12_order_91 rfl ?_
          refine aw_iadd dX12_order_92 rfl ?_
          refine aw_istore_n (i := 2) (L2 := [(2, vI (406 + (5 * (h9.1 57 0 3)))), (1, vI r5), (0, vR 12 0)]) dX12_order_93 rfl rfl (by decide) rfl ?_
          refine aw_aload_n (j := 2) (i := 0) dX12_order_94 rfl rfl rfl ?_
          refine aw_getf (k := 12) (z := 57) dX12_order_95 rfl (by decide) rfl rfl rfl cb_12 (by decide) gw_1606 ?_
          refine aw_iload_n (j := 0) (i := 2) dX12_order_98 rfl rfl rfl ?_
          refine aw_iload_n (j := 1) (i := 1) dX12_order_99 rfl rfl rfl ?_
          refine aw_bipush (v := 12) dX12_order_100 rfl (by decide) ?_
          refine aw_isub dX12_order_102 rfl ?_
          refine aw_iast dX12_order_103 rfl (by decide) rfl k.1 ?_
          replace k := k.2
          refine aw_aload_n (j := 2) (i := 0) dX12_order_104 rfl rfl rfl ?_
          refine aw_getf (k := 12) (z := 57) dX12_order_105 rfl (by decide) rfl rfl rfl cb_12 (by decide) gw_1606 ?_
          refine aw_iload_n (j := 0) (i := 2) dX12_order_108 rfl rfl rfl ?_
          refine aw_iconst (v := 1) dX12_order_109 rfl (by decide) ?_
          refine aw_iadd dX12_order_110 rfl ?_
          refine aw_aload_n (j := 2) (i := 0) dX12_order_111 rfl rfl rfl ?_
          refine aw_iconst (v := 1) dX12_order_112 rfl (by decide) ?_
          refine aw_bipush (v := 99) dX12_order_113 rfl (by decide) ?_
          refine aw_callV (M' := mX12_number) (S := [vI ((406 + (5 * (h9.1 57 0 3))) + 1), vR 57 0]) (as := [vI 1, vI 99]) (k := 0) dX12_order_115 rfl (by decide) rfl rfl gw_1716 gw_1718 gw_41 mb_X12_number rfl (Nat.zero_le _) (Nat.le_of_ble_eq_true rfl) rfl (CL.imp k (fun _ h11 k => ?_) (fun _ _ k => k))
          obtain ⟨r12, rfl, k⟩ := oI_of k
          show AW X (d + 1) rb mX12_order 118 _ [vI r12, vI ((406 + (5 * (h9.1 57 0 3))) + 1), vR 57 0] h11 Qr Qx
          refine aw_iast dX12_order_118 rfl (by decide) rfl k.1 ?_
          replace k := k.2
          refine aw_aload_n (j := 2) (i := 0) dX12_order_119 rfl rfl rfl ?_
          refine aw_getf (k := 12) (z := 57) dX12_order_120 rfl (by decide) rfl rfl rfl cb_12 (by decide) gw_1606 ?_
          refine aw_iload_n (j := 0) (i := 2) dX12_order_123 rfl rfl rfl ?_
          refine aw_iconst (v := 2) dX12_order_124 rfl (by decide) ?_
          refine aw_iadd dX12_order_125 rfl ?_
          refine aw_aload_n (j := 2) (i := 0) dX12_order_126 rfl rfl rfl ?_
          refine aw_iconst (v := 0) dX12_order_127 rfl (by decide) ?_
          refine aw_bipush (v := 9) dX12_order_128 rfl (by decide) ?_
          refine aw_callV (M' := mX12_number) (S := [vI ((406 + (5 * (h9.1 57 0 3))) + 2), vR 57 0]) (as := [vI 0, vI 9]) (k := 0) dX12_order_130 rfl (by decide) rfl rfl gw_1716 gw_1718 gw_41 mb_X12_number rfl (Nat.zero_le _) (Nat.le_of_ble_eq_true rfl) rfl (CL.imp k (fun _ h13 k => ?_) (fun _ _ k => k))
          obtain ⟨r14, rfl, k⟩ := oI_of k
          show AW X (d + 1) rb mX12_order 133 _ [vI r14, vI ((406 + (5 * (h9.1 57 0 3))) + 2), vR 57 0] h13 Qr Qx
          refine aw_iast dX12_order_133 rfl (by decide) rfl k.1 ?_
          replace k := k.2
          refine aw_aload_n (j := 2) (i := 0) dX12_order_134 rfl rfl rfl ?_
          refine aw_getf (k := 12) (z := 57) dX12_order_135 rfl (by decide) rfl rfl rfl cb_12 (by decide) gw_1606 ?_
          refine aw_iload_n (j := 0) (i := 2) dX12_order_138 rfl rfl rfl ?_
          refine aw_iconst (v := 3) dX12_order_139 rfl (by decide) ?_
          refine aw_iadd dX12_order_140 rfl ?_
          refine aw_aload_n (j := 2) (i := 0) dX12_order_141 rfl rfl rfl ?_
          refine aw_iconst (v := 0) dX12_order_142 rfl (by decide) ?_
          refine aw_sipush (v := 999) dX12_order_143 rfl (by decide) ?_
          refine aw_callV (M' := mX12_number) (S := [vI ((406 + (5 * (h9.1 57 0 3))) + 3), vR 57 0]) (as := [vI 0, vI 999]) (k := 0) dX12_order_146 rfl (by decide) rfl rfl gw_1716 gw_1718 gw_41 mb_X12_number rfl (Nat.zero_le _) (Nat.le_of_ble_eq_true rfl) rfl (CL.imp k (fun _ h15 k => ?_) (fun _ _ k => k))
          obtain ⟨r16, rfl, k⟩ := oI_of k
          show AW X (d + 1) rb mX12_order 149 _ [vI r16, vI ((406 + (5 * (h9.1 57 0 3))) + 3), vR 57 0] h15 Qr Qx
          refine aw_iast dX12_order_149 rfl (by decide) rfl k.1 ?_
          replace k := k.2
          refine aw_aload_n (j := 2) (i := 0) dX12_order_150 rfl rfl rfl ?_
          refine aw_getf (k := 12) (z := 57) dX12_order_151 rfl (by decide) rfl rfl rfl cb_12 (by decide) gw_1606 ?_
          refine aw_iload_n (j := 0) (i := 2) dX12_order_154 rfl rfl rfl ?_
          refine aw_iconst (v := 4) dX12_order_155 rfl (by decide) ?_
          refine aw_iadd dX12_order_156 rfl ?_
          refine aw_aload_n (j := 2) (i := 0) dX12_order_157 rfl rfl rfl ?_
          refine aw_ldcS (j := 26) dX12_order_158 rfl rfl ?_
          refine aw_callV (M' := mX12_takes) (S := [vI ((406 + (5 * (h9.1 57 0 3))) + 4), vR 57 0]) (as := [vR 1026 0]) (k := 0) dX12_order_160 rfl (by decide) rfl rfl gw_1744 gw_1746 gw_47 mb_X12_takes rfl (Nat.zero_le _) (Nat.le_of_ble_eq_true rfl) rfl (CL.imp k (fun _ h17 k => ?_) (fun _ _ k => k))
          obtain ⟨r18, rfl, k⟩ := oI_of k
          show AW X (d + 1) rb mX12_order 163 _ [vI r18, vI ((406 + (5 * (h9.1 57 0 3))) + 4), vR 57 0] h17 Qr Qx
          have kk : AW X (d + 1) rb mX12_order 171 [(2, vI (406 + (5 * (h9.1 57 0 3)))), (1, vI r5), (0, vR 12 0)] [vI (if r18 = 0 then (0 : Int32) else 1), vI ((406 + (5 * (h9.1 57 0 3))) + 4), vR 57 0] h17 Qr Qx := by
            refine aw_iast dX12_order_171 rfl (by decide) rfl k.1 ?_
            replace k := k.2
            refine aw_aload_n (j := 2) (i := 0) dX12_order_172 rfl rfl rfl ?_
            refine aw_getf (k := 12) (z := 57) dX12_order_173 rfl (by decide) rfl rfl rfl cb_12 (by decide) gw_1606 ?_
            refine aw_iconst (v := 3) dX12_order_176 rfl (by decide) ?_
            refine aw_dup2 dX12_order_177 rfl rfl rfl ?_
            refine aw_iald dX12_order_178 rfl (by decide) rfl (by unfold vp_in; decide) ?_
            refine aw_iconst (v := 1) dX12_order_179 rfl (by decide) ?_
            refine aw_iadd dX12_order_180 rfl ?_
            refine aw_iast dX12_order_181 rfl (by decide) rfl (by unfold vp_in; decide) ?_
            exact aw_vret dX12_order_182 rfl k
          refine aw_if_eq 170 dX12_order_163 rfl rfl (fun (c0 : r18 = 0) => ?_) (fun (c0 : ¬ r18 = 0) => ?_)
          · refine aw_iconst (v := 0) dX12_order_170 rfl (by decide) ?_
            simp only [if_pos c0] at kk
            exact kk
          · refine aw_iconst (v := 1) dX12_order_166 rfl (by decide) ?_
            refine aw_goto 171 dX12_order_167 rfl ?_
            simp only [if_neg c0] at kk
            exact kk
        · replace k := k.2 c
          exact aw_vret dX12_order_67 rfl k
      refine aw_icmp_lt 55 dX12_order_48 rfl rfl (fun (c0 : r5 < 12) => ?_) (fun (c0 : ¬ r5 < 12) => ?_)
      · refine aw_iconst (v := 0) dX12_order_55 rfl (by decide) ?_
        simp only [if_pos c0] at kk
        exact kk
      · refine aw_iconst (v := 1) dX12_order_51 rfl (by decide) ?_
        refine aw_goto 56 dX12_order_52 rfl ?_
        simp only [if_neg c0] at kk
        exact kk
    · replace k := k.2 c
      exact aw_vret dX12_order_28 rfl k
  refine aw_icmp_ge 16 dX12_order_9 rfl rfl (fun (c0 : 20 ≤ (h.1 57 0 3)) => ?_) (fun (c0 : ¬ 20 ≤ (h.1 57 0 3)) => ?_)
  · refine aw_iconst (v := 0) dX12_order_16 rfl (by decide) ?_
    simp only [if_pos c0] at kk
    exact kk
  · refine aw_iconst (v := 1) dX12_order_12 rfl (by decide) ?_
    refine aw_goto 17 dX12_order_13 rfl ?_
    simp only [if_neg c0] at kk
    exact kk
set_option maxHeartbeats 4000000 in
set_option maxRecDepth 100000 in
theorem vc_X12_load_0 {X : WD → State → Prop} {d rb : Nat} {h : Hp} {Qr : Option AV → Hp → Prop} {Qx : String → Hp → Prop}   (k : AW X (d + 1) rb mX12_load 40 [(0, vR 12 0), (1, vI 0)] [] (hp_i (hp_i (hp_i (hp_i (hp_i (hp_i (hp_i h 12 0 0 0) 12 0 6 ((hp_i h 12 0 0 0).1 12 0 3)) 12 0 3 0) 12 0 4 0) 12 0 7 (-1)) 12 0 8 0) 12 0 13 0) Qr Qx) : AW X (d + 1) rb mX12_load 0 [(0, vR 12 0)] [] h Qr Qx := by
  refine aw_aload_n (j := 0) (i := 0) dX12_load_0 rfl rfl rfl ?_
  refine aw_iconst (v := 0) dX12_load_1 rfl (by decide) ?_
  refine aw_puti (k := 0) dX12_load_2 rfl (by decide) rfl rfl cb_12 (by decide) rfl rfl gw_1594 ?_
  refine aw_aload_n (j := 0) (i := 0) dX12_load_5 rfl rfl rfl ?_
  refine aw_aload_n (j := 0) (i := 0) dX12_load_6 rfl rfl rfl ?_
  refine aw_geti (k := 3) dX12_load_7 rfl (by decide) rfl rfl cb_12 (by decide) gw_1597 ?_
  refine aw_puti (k := 6) dX12_load_10 rfl (by decide) rfl rfl cb_12 (by decide) rfl rfl gw_1600 ?_
  refine aw_aload_n (j := 0) (i := 0) dX12_load_13 rfl rfl rfl ?_
  refine aw_iconst (v := 0) dX12_load_14 rfl (by decide) ?_
  refine aw_puti (k := 3) dX12_load_15 rfl (by decide) rfl rfl cb_12 (by decide) rfl rfl gw_1597 ?_
  refine aw_aload_n (j := 0) (i := 0) dX12_load_18 rfl rfl rfl ?_
  refine aw_iconst (v := 0) dX12_load_19 rfl (by decide) ?_
  refine aw_puti (k := 4) dX12_load_20 rfl (by decide) rfl rfl cb_12 (by decide) rfl rfl gw_1598 ?_
  refine aw_aload_n (j := 0) (i := 0) dX12_load_23 rfl rfl rfl ?_
  refine aw_iconst (v := (-1)) dX12_load_24 rfl (by decide) ?_
  refine aw_puti (k := 7) dX12_load_25 rfl (by decide) rfl rfl cb_12 (by decide) rfl rfl gw_1601 ?_
  refine aw_aload_n (j := 0) (i := 0) dX12_load_28 rfl rfl rfl ?_
  refine aw_iconst (v := 0) dX12_load_29 rfl (by decide) ?_
  refine aw_puti (k := 8) dX12_load_30 rfl (by decide) rfl rfl cb_12 (by decide) rfl rfl gw_1602 ?_
  refine aw_aload_n (j := 0) (i := 0) dX12_load_33 rfl rfl rfl ?_
  refine aw_iconst (v := 0) dX12_load_34 rfl (by decide) ?_
  refine aw_puti (k := 13) dX12_load_35 rfl (by decide) rfl rfl cb_12 (by decide) rfl rfl gw_1607 ?_
  refine aw_iconst (v := 0) dX12_load_38 rfl (by decide) ?_
  refine aw_istore_n (i := 1) (L2 := [(1, vI 0), (0, vR 12 0)]) dX12_load_39 rfl rfl (by decide) rfl ?_
  exact aw_sub [1, 0] rfl k
set_option maxHeartbeats 4000000 in
set_option maxRecDepth 100000 in
theorem vc_X12_load_40 {X : WD → State → Prop} {d rb : Nat} {h : Hp} {Qr : Option AV → Hp → Prop} {Qx : String → Hp → Prop} {x1 : Int32}  (k : ((506 ≤ x1) → CL 0 d mX12_usualRung [vR 12 0] h (oV fun h1 => CL 0 d mX12_blanks [vR 12 0] h1 (oV fun h2 => AW X (d + 1) rb mX12_load 68 [(0, vR 12 0), (1, vI x1)] [] h2 Qr Qx) Qx) Qx) ∧ ((¬ 506 ≤ x1) → (vp_in x1 506) ∧ AW X (d + 1) rb mX12_load 40 [(0, vR 12 0), (1, vI (x1 + 1))] [] (hp_i h 57 0 x1.toNatClampNeg 0) Qr Qx)) : AW X (d + 1) rb mX12_load 40 [(0, vR 12 0), (1, vI x1)] [] h Qr Qx := by
  refine aw_iload_n (j := 1) (i := 1) dX12_load_40 rfl rfl rfl ?_
  refine aw_sipush (v := 506) dX12_load_41 rfl (by decide) ?_
  refine aw_icmp_ge 60 dX12_load_44 rfl rfl (fun c => ?_) (fun c => ?_)
  · replace k := k.1 c
    refine aw_aload_n (j := 0) (i := 0) dX12_load_60 rfl rfl rfl ?_
    refine aw_callV (M' := mX12_usualRung) (S := []) (as := []) (k := 0) dX12_load_61 rfl (by decide) rfl rfl gw_1586 gw_1588 gw_30 mb_X12_usualRung rfl (Nat.zero_le _) (Nat.le_of_ble_eq_true rfl) rfl (CL.imp k (fun _ h1 k => ?_) (fun _ _ k => k))
    obtain ⟨rfl, k⟩ := oV_of k
    show AW X (d + 1) rb mX12_load 64 _ [] h1 Qr Qx
    refine aw_aload_n (j := 0) (i := 0) dX12_load_64 rfl rfl rfl ?_
    refine aw_callV (M' := mX12_blanks) (S := []) (as := []) (k := 0) dX12_load_65 rfl (by decide) rfl rfl gw_1674 gw_1676 gw_32 mb_X12_blanks rfl (Nat.zero_le _) (Nat.le_of_ble_eq_true rfl) rfl (CL.imp k (fun _ h2 k => ?_) (fun _ _ k => k))
    obtain ⟨rfl, k⟩ := oV_of k
    show AW X (d + 1) rb mX12_load 68 _ [] h2 Qr Qx
    exact aw_sub [0, 1] rfl k
  · replace k := k.2 c
    refine aw_aload_n (j := 0) (i := 0) dX12_load_47 rfl rfl rfl ?_
    refine aw_getf (k := 12) (z := 57) dX12_load_48 rfl (by decide) rfl rfl rfl cb_12 (by decide) gw_1606 ?_
    refine aw_iload_n (j := 1) (i := 1) dX12_load_51 rfl rfl rfl ?_
    refine aw_iconst (v := 0) dX12_load_52 rfl (by decide) ?_
    refine aw_iast dX12_load_53 rfl (by decide) rfl k.1 ?_
    replace k := k.2
    refine aw_iinc (i := 1) (j := 1) (v := x1 + 1) (L2 := [(1, vI (x1 + 1)), (0, vR 12 0)]) dX12_load_54 rfl (by decide) rfl rfl rfl ?_
    refine aw_goto 40 dX12_load_57 rfl ?_
    exact aw_sub [1, 0] rfl k
set_option maxHeartbeats 4000000 in
set_option maxRecDepth 100000 in
theorem vc_X12_load_68 {X : WD → State → Prop} {d rb : Nat} {h : Hp} {Qr : Option AV → Hp → Prop} {Qx : String → Hp → Prop} {x1 : Int32}  (k : CL 0 d mX12_hasFailed [vR 12 0] h (oI fun r2 h1 => ((¬ r2 = 0) → CL 0 d mX12_hasFailed [vR 12 0] (hp_i (hp_i h1 12 0 9 (h1.1 12 0 7)) 12 0 10 ((hp_i h1 12 0 9 (h1.1 12 0 7)).1 12 0 8)) (oI fun r4 h3 => CL 0 d mX12_throwsIf [vR 12 0, vI r4, vI 1] h3 (oI fun r6 h5 => ((r6 = 0) → CL 0 d mX12_takesOver [vR 12 0] h5 (oV fun h7 => Qr (some (vI (h7.1 56 0 1))) h7) Qx) ∧ ((¬ r6 = 0) → Qr (some (vI 0)) h5)) Qx) Qx) ∧ ((r2 = 0) → (((h1.1 12 0 6) ≤ (h1.1 12 0 4)) → CL 0 d mX12_hasFailed [vR 12 0] (hp_i (hp_i h1 12 0 9 (h1.1 12 0 7)) 12 0 10 ((hp_i h1 12 0 9 (h1.1 12 0 7)).1 12 0 8)) (oI fun r9 h8 => CL 0 d mX12_throwsIf [vR 12 0, vI r9, vI 1] h8 (oI fun r11 h10 => ((r11 = 0) → CL 0 d mX12_takesOver [vR 12 0] h10 (oV fun h12 => Qr (some (vI (h12.1 56 0 1))) h12) Qx) ∧ ((¬ r11 = 0) → Qr (some (vI 0)) h10)) Qx) Qx) ∧ ((¬ (h1.1 12 0 6) ≤ (h1.1 12 0 4)) → CL 0 d mX12_isWord [vR 12 0, vR 1022 0] h1 (oI fun r14 h13 => ((r14 = 0) → CL 0 d mX12_isWord [vR 12 0, vR 1023 0] h13 (oI fun r16 h15 => ((r16 = 0) → CL 0 d mX12_isWord [vR 12 0, vR 1024 0] h15 (oI fun r18 h17 => ((r18 = 0) → CL 0 d mX12_isWord [vR 12 0, vR 1025 0] h17 (oI fun r20 h19 => ((r20 = 0) → CL 0 d mX12_must [vR 12 0, vI 0, vI 1] h19 (oV fun h21 => CL 0 d mX12_blanks0 [vR 12 0] h21 (oV fun h22 => CL 0 d mX12_isAt [vR 12 0, vI 59, vI 59] h22 (oI fun r24 h23 => CL 0 d mX12_must [vR 12 0, vI r24, vI 1] h23 (oV fun h25 => CL 0 d mX12_blanks0 [vR 12 0] (hp_i h25 12 0 4 ((h25.1 12 0 4) + 1)) (oV fun h26 => AW X (d + 1) rb mX12_load 68 [(0, vR 12 0), (1, vI x1)] [] h26 Qr Qx) Qx) Qx) Qx) Qx) Qx) ∧ ((¬ r20 = 0) → CL 0 d mX12_order [vR 12 0] h19 (oV fun h27 => CL 0 d mX12_blanks0 [vR 12 0] h27 (oV fun h28 => CL 0 d mX12_isAt [vR 12 0, vI 59, vI 59] h28 (oI fun r30 h29 => CL 0 d mX12_must [vR 12 0, vI r30, vI 1] h29 (oV fun h31 => CL 0 d mX12_blanks0 [vR 12 0] (hp_i h31 12 0 4 ((h31.1 12 0 4) + 1)) (oV fun h32 => AW X (d + 1) rb mX12_load 68 [(0, vR 12 0), (1, vI x1)] [] h32 Qr Qx) Qx) Qx) Qx) Qx) Qx)) Qx) ∧ ((¬ r18 = 0) → CL 0 d mX12_rung [vR 12 0] h17 (oV fun h33 => CL 0 d mX12_blanks0 [vR 12 0] h33 (oV fun h34 => CL 0 d mX12_isAt [vR 12 0, vI 59, vI 59] h34 (oI fun r36 h35 => CL 0 d mX12_must [vR 12 0, vI r36, vI 1] h35 (oV fun h37 => CL 0 d mX12_blanks0 [vR 12 0] (hp_i h37 12 0 4 ((h37.1 12 0 4) + 1)) (oV fun h38 => AW X (d + 1) rb mX12_load 68 [(0, vR 12 0), (1, vI x1)] [] h38 Qr Qx) Qx) Qx) Qx) Qx) Qx)) Qx) ∧ ((¬ r16 = 0) → CL 0 d mX12_product [vR 12 0] h15 (oV fun h39 => CL 0 d mX12_blanks0 [vR 12 0] h39 (oV fun h40 => CL 0 d mX12_isAt [vR 12 0, vI 59, vI 59] h40 (oI fun r42 h41 => CL 0 d mX12_must [vR 12 0, vI r42, vI 1] h41 (oV fun h43 => CL 0 d mX12_blanks0 [vR 12 0] (hp_i h43 12 0 4 ((h43.1 12 0 4) + 1)) (oV fun h44 => AW X (d + 1) rb mX12_load 68 [(0, vR 12 0), (1, vI x1)] [] h44 Qr Qx) Qx) Qx) Qx) Qx) Qx)) Qx) ∧ ((¬ r14 = 0) → CL 0 d mX12_part [vR 12 0] h13 (oV fun h45 => CL 0 d mX12_blanks0 [vR 12 0] h45 (oV fun h46 => CL 0 d mX12_isAt [vR 12 0, vI 59, vI 59] h46 (oI fun r48 h47 => CL 0 d mX12_must [vR 12 0, vI r48, vI 1] h47 (oV fun h49 => CL 0 d mX12_blanks0 [vR 12 0] (hp_i h49 12 0 4 ((h49.1 12 0 4) + 1)) (oV fun h50 => AW X (d + 1) rb mX12_load 68 [(0, vR 12 0), (1, vI x1)] [] h50 Qr Qx) Qx) Qx) Qx) Qx) Qx)) Qx))) Qx) : AW X (d + 1) rb mX12_load 68 [(0, vR 12 0), (1, vI x1)] [] h Qr Qx := by
  refine aw_aload_n (j := 0) (i := 0) dX12_load_68 rfl rfl rfl ?_
  refine aw_callV (M' := mX12_hasFailed) (S := []) (as := []) (k := 0) dX12_load_69 rfl (by decide) rfl rfl gw_1682 gw_1684 gw_34 mb_X12_hasFailed rfl (Nat.zero_le _) (Nat.le_of_ble_eq_true rfl) rfl (CL.imp k (fun _ h1 k => ?_) (fun _ _ k => k))
  obtain ⟨r2, rfl, k⟩ := oI_of k
  show AW X (d + 1) rb mX12_load 72 _ [vI r2] h1 Qr Qx
  refine aw_if_ne 190 dX12_load_72 rfl rfl (fun c => ?_) (fun c => ?_)
  · replace k := k.1 c
    refine aw_aload_n (j := 0) (i := 0) dX12_load_190 rfl rfl rfl ?_
    refine aw_aload_n (j := 0) (i := 0) dX12_load_191 rfl rfl rfl ?_
    refine aw_geti (k := 7) dX12_load_192 rfl (by decide) rfl rfl cb_12 (by decide) gw_1601 ?_
    refine aw_puti (k := 9) dX12_load_195 rfl (by decide) rfl rfl cb_12 (by decide) rfl rfl gw_1603 ?_
    refine aw_aload_n (j := 0) (i := 0) dX12_load_198 rfl rfl rfl ?_
    refine aw_aload_n (j := 0) (i := 0) dX12_load_199 rfl rfl rfl ?_
    refine aw_geti (k := 8) dX12_load_200 rfl (by decide) rfl rfl cb_12 (by decide) gw_1602 ?_
    refine aw_puti (k := 10) dX12_load_203 rfl (by decide) rfl rfl cb_12 (by decide) rfl rfl gw_1604 ?_
    refine aw_aload_n (j := 0) (i := 0) dX12_load_206 rfl rfl rfl ?_
    refine aw_aload_n (j := 0) (i := 0) dX12_load_207 rfl rfl rfl ?_
    refine aw_callV (M' := mX12_hasFailed) (S := [vR 12 0]) (as := []) (k := 0) dX12_load_208 rfl (by decide) rfl rfl gw_1682 gw_1684 gw_34 mb_X12_hasFailed rfl (Nat.zero_le _) (Nat.le_of_ble_eq_true rfl) rfl (CL.imp k (fun _ h3 k => ?_) (fun _ _ k => k))
    obtain ⟨r4, rfl, k⟩ := oI_of k
    show AW X (d + 1) rb mX12_load 211 _ [vI r4, vR 12 0] h3 Qr Qx
    refine aw_iconst (v := 1) dX12_load_211 rfl (by decide) ?_
    refine aw_callV (M' := mX12_throwsIf) (S := []) (as := [vI r4, vI 1]) (k := 0) dX12_load_212 rfl (by decide) rfl rfl gw_1748 gw_1750 gw_48 mb_X12_throwsIf rfl (Nat.zero_le _) (Nat.le_of_ble_eq_true rfl) rfl (CL.imp k (fun _ h5 k => ?_) (fun _ _ k => k))
    obtain ⟨r6, rfl, k⟩ := oI_of k
    show AW X (d + 1) rb mX12_load 215 _ [vI r6] h5 Qr Qx
    refine aw_if_eq 220 dX12_load_215 rfl rfl (fun c => ?_) (fun c => ?_)
    · replace k := k.1 c
      refine aw_aload_n (j := 0) (i := 0) dX12_load_220 rfl rfl rfl ?_
      refine aw_callV (M' := mX12_takesOver) (S := []) (as := []) (k := 0) dX12_load_221 rfl (by decide) rfl rfl gw_1590 gw_1592 gw_31 mb_X12_takesOver rfl (Nat.zero_le _) (Nat.le_of_ble_eq_true rfl) rfl (CL.imp k (fun _ h7 k => ?_) (fun _ _ k => k))
      obtain ⟨rfl, k⟩ := oV_of k
      show AW X (d + 1) rb mX12_load 224 _ [] h7 Qr Qx
      refine aw_aload_n (j := 0) (i := 0) dX12_load_224 rfl rfl rfl ?_
      refine aw_getf (k := 11) (z := 56) dX12_load_225 rfl (by decide) rfl rfl rfl cb_12 (by decide) gw_1605 ?_
      refine aw_iconst (v := 1) dX12_load_228 rfl (by decide) ?_
      refine aw_iald dX12_load_229 rfl (by decide) rfl (by unfold vp_in; decide) ?_
      exact aw_iret dX12_load_230 rfl k
    · replace k := k.2 c
      refine aw_iconst (v := 0) dX12_load_218 rfl (by decide) ?_
      exact aw_iret dX12_load_219 rfl k
  · replace k := k.2 c
    refine aw_aload_n (j := 0) (i := 0) dX12_load_75 rfl rfl rfl ?_
    refine aw_geti (k := 4) dX12_load_76 rfl (by decide) rfl rfl cb_12 (by decide) gw_1598 ?_
    refine aw_aload_n (j := 0) (i := 0) dX12_load_79 rfl rfl rfl ?_
    refine aw_geti (k := 6) dX12_load_80 rfl (by decide) rfl rfl cb_12 (by decide) gw_1600 ?_
    refine aw_icmp_ge 190 dX12_load_83 rfl rfl (fun c => ?_) (fun c => ?_)
    · replace k := k.1 c
      refine aw_aload_n (j := 0) (i := 0) dX12_load_190 rfl rfl rfl ?_
      refine aw_aload_n (j := 0) (i := 0) dX12_load_191 rfl rfl rfl ?_
      refine aw_geti (k := 7) dX12_load_192 rfl (by decide) rfl rfl cb_12 (by decide) gw_1601 ?_
      refine aw_puti (k := 9) dX12_load_195 rfl (by decide) rfl rfl cb_12 (by decide) rfl rfl gw_1603 ?_
      refine aw_aload_n (j := 0) (i := 0) dX12_load_198 rfl rfl rfl ?_
      refine aw_aload_n (j := 0) (i := 0) dX12_load_199 rfl rfl rfl ?_
      refine aw_geti (k := 8) dX12_load_200 rfl (by decide) rfl rfl cb_12 (by decide) gw_1602 ?_
      refine aw_puti (k := 10) dX12_load_203 rfl (by decide) rfl rfl cb_12 (by decide) rfl rfl gw_1604 ?_
      refine aw_aload_n (j := 0) (i := 0) dX12_load_206 rfl rfl rfl ?_
      refine aw_aload_n (j := 0) (i := 0) dX12_load_207 rfl rfl rfl ?_
      refine aw_callV (M' := mX12_hasFailed) (S := [vR 12 0]) (as := []) (k := 0) dX12_load_208 rfl (by decide) rfl rfl gw_1682 gw_1684 gw_34 mb_X12_hasFailed rfl (Nat.zero_le _) (Nat.le_of_ble_eq_true rfl) rfl (CL.imp k (fun _ h8 k => ?_) (fun _ _ k => k))
      obtain ⟨r9, rfl, k⟩ := oI_of k
      show AW X (d + 1) rb mX12_load 211 _ [vI r9, vR 12 0] h8 Qr Qx
      refine aw_iconst (v := 1) dX12_load_211 rfl (by decide) ?_
      refine aw_callV (M' := mX12_throwsIf) (S := []) (as := [vI r9, vI 1]) (k := 0) dX12_load_212 rfl (by decide) rfl rfl gw_1748 gw_1750 gw_48 mb_X12_throwsIf rfl (Nat.zero_le _) (Nat.le_of_ble_eq_true rfl) rfl (CL.imp k (fun _ h10 k => ?_) (fun _ _ k => k))
      obtain ⟨r11, rfl, k⟩ := oI_of k
      show AW X (d + 1) rb mX12_load 215 _ [vI r11] h10 Qr Qx
      refine aw_if_eq 220 dX12_load_215 rfl rfl (fun c => ?_) (fun c => ?_)
      · replace k := k.1 c
        refine aw_aload_n (j := 0) (i := 0) dX12_load_220 rfl rfl rfl ?_
        refine aw_callV (M' := mX12_takesOver) (S := []) (as := []) (k := 0) dX12_load_221 rfl (by decide) rfl rfl gw_1590 gw_1592 gw_31 mb_X12_takesOver rfl (Nat.zero_le _) (Nat.le_of_ble_eq_true rfl) rfl (CL.imp k (fun _ h12 k => ?_) (fun _ _ k => k))
        obtain ⟨rfl, k⟩ := oV_of k
        show AW X (d + 1) rb mX12_load 224 _ [] h12 Qr Qx
        refine aw_aload_n (j := 0) (i := 0) dX12_load_224 rfl rfl rfl ?_
        refine aw_getf (k := 11) (z := 56) dX12_load_225 rfl (by decide) rfl rfl rfl cb_12 (by decide) gw_1605 ?_
        refine aw_iconst (v := 1) dX12_load_228 rfl (by decide) ?_
        refine aw_iald dX12_load_229 rfl (by decide) rfl (by unfold vp_in; decide) ?_
        exact aw_iret dX12_load_230 rfl k
      · replace k := k.2 c
        refine aw_iconst (v := 0) dX12_load_218 rfl (by decide) ?_
        exact aw_iret dX12_load_219 rfl k
    · replace k := k.2 c
      refine aw_aload_n (j := 0) (i := 0) dX12_load_86 rfl rfl rfl ?_
      refine aw_ldcS (j := 22) dX12_load_87 rfl rfl ?_
      refine aw_callV (M' := mX12_isWord) (S := []) (as := [vR 1022 0]) (k := 0) dX12_load_89 rfl (by decide) rfl rfl gw_1687 gw_1689 gw_35 mb_X12_isWord rfl (Nat.zero_le _) (Nat.le_of_ble_eq_true rfl) rfl (CL.imp k (fun _ h13 k => ?_) (fun _ _ k => k))
      obtain ⟨r14, rfl, k⟩ := oI_of k
      show AW X (d + 1) rb mX12_load 92 _ [vI r14] h13 Qr Qx
      refine aw_if_eq 102 dX12_load_92 rfl rfl (fun c => ?_) (fun c => ?_)
      · replace k := k.1 c
        refine aw_aload_n (j := 0) (i := 0) dX12_load_102 rfl rfl rfl ?_
        refine aw_ldcS (j := 23) dX12_load_103 rfl rfl ?_
        refine aw_callV (M' := mX12_isWord) (S := []) (as := [vR 1023 0]) (k := 0) dX12_load_105 rfl (by decide) rfl rfl gw_1687 gw_1689 gw_35 mb_X12_isWord rfl (Nat.zero_le _) (Nat.le_of_ble_eq_true rfl) rfl (CL.imp k (fun _ h15 k => ?_) (fun _ _ k => k))
        obtain ⟨r16, rfl, k⟩ := oI_of k
        show AW X (d + 1) rb mX12_load 108 _ [vI r16] h15 Qr Qx
        refine aw_if_eq 118 dX12_load_108 rfl rfl (fun c => ?_) (fun c => ?_)
        · replace k := k.1 c
          refine aw_aload_n (j := 0) (i := 0) dX12_load_118 rfl rfl rfl ?_
          refine aw_ldcS (j := 24) dX12_load_119 rfl rfl ?_
          refine aw_callV (M' := mX12_isWord) (S := []) (as := [vR 1024 0]) (k := 0) dX12_load_121 rfl (by decide) rfl rfl gw_1687 gw_1689 gw_35 mb_X12_isWord rfl (Nat.zero_le _) (Nat.le_of_ble_eq_true rfl) rfl (CL.imp k (fun _ h17 k => ?_) (fun _ _ k => k))
          obtain ⟨r18, rfl, k⟩ := oI_of k
          show AW X (d + 1) rb mX12_load 124 _ [vI r18] h17 Qr Qx
          refine aw_if_eq 134 dX12_load_124 rfl rfl (fun c => ?_) (fun c => ?_)
          · replace k := k.1 c
            refine aw_aload_n (j := 0) (i := 0) dX12_load_134 rfl rfl rfl ?_
            refine aw_ldcS (j := 25) dX12_load_135 rfl rfl ?_
            refine aw_callV (M' := mX12_isWord) (S := []) (as := [vR 1025 0]) (k := 0) dX12_load_137 rfl (by decide) rfl rfl gw_1687 gw_1689 gw_35 mb_X12_isWord rfl (Nat.zero_le _) (Nat.le_of_ble_eq_true rfl) rfl (CL.imp k (fun _ h19 k => ?_) (fun _ _ k => k))
            obtain ⟨r20, rfl, k⟩ := oI_of k
            show AW X (d + 1) rb mX12_load 140 _ [vI r20] h19 Qr Qx
            refine aw_if_eq 150 dX12_load_140 rfl rfl (fun c => ?_) (fun c => ?_)
            · replace k := k.1 c
              refine aw_aload_n (j := 0) (i := 0) dX12_load_150 rfl rfl rfl ?_
              refine aw_iconst (v := 0) dX12_load_151 rfl (by decide) ?_
              refine aw_iconst (v := 1) dX12_load_152 rfl (by decide) ?_
              refine aw_callV (M' := mX12_must) (S := []) (as := [vI 0, vI 1]) (k := 0) dX12_load_153 rfl (by decide) rfl rfl gw_1701 gw_1703 gw_38 mb_X12_must rfl (Nat.zero_le _) (Nat.le_of_ble_eq_true rfl) rfl (CL.imp k (fun _ h21 k => ?_) (fun _ _ k => k))
              obtain ⟨rfl, k⟩ := oV_of k
              show AW X (d + 1) rb mX12_load 156 _ [] h21 Qr Qx
              refine aw_aload_n (j := 0) (i := 0) dX12_load_156 rfl rfl rfl ?_
              refine aw_callV (M' := mX12_blanks0) (S := []) (as := []) (k := 0) dX12_load_157 rfl (by decide) rfl rfl gw_1729 gw_1731 gw_44 mb_X12_blanks0 rfl (Nat.zero_le _) (Nat.le_of_ble_eq_true rfl) rfl (CL.imp k (fun _ h22 k => ?_) (fun _ _ k => k))
              obtain ⟨rfl, k⟩ := oV_of k
              show AW X (d + 1) rb mX12_load 160 _ [] h22 Qr Qx
              refine aw_aload_n (j := 0) (i := 0) dX12_load_160 rfl rfl rfl ?_
              refine aw_aload_n (j := 0) (i := 0) dX12_load_161 rfl rfl rfl ?_
              refine aw_bipush (v := 59) dX12_load_162 rfl (by decide) ?_
              refine aw_bipush (v := 59) dX12_load_164 rfl (by decide) ?_
              refine aw_callV (M' := mX12_isAt) (S := [vR 12 0]) (as := [vI 59, vI 59]) (k := 0) dX12_load_166 rfl (by decide) rfl rfl gw_1678 gw_1680 gw_33 mb_X12_isAt rfl (Nat.zero_le _) (Nat.le_of_ble_eq_true rfl) rfl (CL.imp k (fun _ h23 k => ?_) (fun _ _ k => k))
              obtain ⟨r24, rfl, k⟩ := oI_of k
              show AW X (d + 1) rb mX12_load 169 _ [vI r24, vR 12 0] h23 Qr Qx
              refine aw_iconst (v := 1) dX12_load_169 rfl (by decide) ?_
              refine aw_callV (M' := mX12_must) (S := []) (as := [vI r24, vI 1]) (k := 0) dX12_load_170 rfl (by decide) rfl rfl gw_1701 gw_1703 gw_38 mb_X12_must rfl (Nat.zero_le _) (Nat.le_of_ble_eq_true rfl) rfl (CL.imp k (fun _ h25 k => ?_) (fun _ _ k => k))
              obtain ⟨rfl, k⟩ := oV_of k
              show AW X (d + 1) rb mX12_load 173 _ [] h25 Qr Qx
              refine aw_aload_n (j := 0) (i := 0) dX12_load_173 rfl rfl rfl ?_
              refine aw_dup dX12_load_174 rfl rfl ?_
              refine aw_geti (k := 4) dX12_load_175 rfl (by decide) rfl rfl cb_12 (by decide) gw_1598 ?_
              refine aw_iconst (v := 1) dX12_load_178 rfl (by decide) ?_
              refine aw_iadd dX12_load_179 rfl ?_
              refine aw_puti (k := 4) dX12_load_180 rfl (by decide) rfl rfl cb_12 (by decide) rfl rfl gw_1598 ?_
              refine aw_aload_n (j := 0) (i := 0) dX12_load_183 rfl rfl rfl ?_
              refine aw_callV (M' := mX12_blanks0) (S := []) (as := []) (k := 0) dX12_load_184 rfl (by decide) rfl rfl gw_1729 gw_1731 gw_44 mb_X12_blanks0 rfl (Nat.zero_le _) (Nat.le_of_ble_eq_true rfl) rfl (CL.imp k (fun _ h26 k => ?_) (fun _ _ k => k))
              obtain ⟨rfl, k⟩ := oV_of k
              show AW X (d + 1) rb mX12_load 187 _ [] h26 Qr Qx
              refine aw_goto 68 dX12_load_187 rfl ?_
              exact aw_sub [0, 1] rfl k
            · replace k := k.2 c
              refine aw_aload_n (j := 0) (i := 0) dX12_load_143 rfl rfl rfl ?_
              refine aw_callV (M' := mX12_order) (S := []) (as := []) (k := 0) dX12_load_144 rfl (by decide) rfl rfl gw_1739 gw_1741 gw_46 mb_X12_order rfl (Nat.zero_le _) (Nat.le_of_ble_eq_true rfl) rfl (CL.imp k (fun _ h27 k => ?_) (fun _ _ k => k))
              obtain ⟨rfl, k⟩ := oV_of k
              show AW X (d + 1) rb mX12_load 147 _ [] h27 Qr Qx
              refine aw_goto 156 dX12_load_147 rfl ?_
              refine aw_aload_n (j := 0) (i := 0) dX12_load_156 rfl rfl rfl ?_
              refine aw_callV (M' := mX12_blanks0) (S := []) (as := []) (k := 0) dX12_load_157 rfl (by decide) rfl rfl gw_1729 gw_1731 gw_44 mb_X12_blanks0 rfl (Nat.zero_le _) (Nat.le_of_ble_eq_true rfl) rfl (CL.imp k (fun _ h28 k => ?_) (fun _ _ k => k))
              obtain ⟨rfl, k⟩ := oV_of k
              show AW X (d + 1) rb mX12_load 160 _ [] h28 Qr Qx
              refine aw_aload_n (j := 0) (i := 0) dX12_load_160 rfl rfl rfl ?_
              refine aw_aload_n (j := 0) (i := 0) dX12_load_161 rfl rfl rfl ?_
              refine aw_bipush (v := 59) dX12_load_162 rfl (by decide) ?_
              refine aw_bipush (v := 59) dX12_load_164 rfl (by decide) ?_
              refine aw_callV (M' := mX12_isAt) (S := [vR 12 0]) (as := [vI 59, vI 59]) (k := 0) dX12_load_166 rfl (by decide) rfl rfl gw_1678 gw_1680 gw_33 mb_X12_isAt rfl (Nat.zero_le _) (Nat.le_of_ble_eq_true rfl) rfl (CL.imp k (fun _ h29 k => ?_) (fun _ _ k => k))
              obtain ⟨r30, rfl, k⟩ := oI_of k
              show AW X (d + 1) rb mX12_load 169 _ [vI r30, vR 12 0] h29 Qr Qx
              refine aw_iconst (v := 1) dX12_load_169 rfl (by decide) ?_
              refine aw_callV (M' := mX12_must) (S := []) (as := [vI r30, vI 1]) (k := 0) dX12_load_170 rfl (by decide) rfl rfl gw_1701 gw_1703 gw_38 mb_X12_must rfl (Nat.zero_le _) (Nat.le_of_ble_eq_true rfl) rfl (CL.imp k (fun _ h31 k => ?_) (fun _ _ k => k))
              obtain ⟨rfl, k⟩ := oV_of k
              show AW X (d + 1) rb mX12_load 173 _ [] h31 Qr Qx
              refine aw_aload_n (j := 0) (i := 0) dX12_load_173 rfl rfl rfl ?_
              refine aw_dup dX12_load_174 rfl rfl ?_
              refine aw_geti (k := 4) dX12_load_175 rfl (by decide) rfl rfl cb_12 (by decide) gw_1598 ?_
              refine aw_iconst (v := 1) dX12_load_178 rfl (by decide) ?_
              refine aw_iadd dX12_load_179 rfl ?_
              refine aw_puti (k := 4) dX12_load_180 rfl (by decide) rfl rfl cb_12 (by decide) rfl rfl gw_1598 ?_
              refine aw_aload_n (j := 0) (i := 0) dX12_load_183 rfl rfl rfl ?_
              refine aw_callV (M' := mX12_blanks0) (S := []) (as := []) (k := 0) dX12_load_184 rfl (by decide) rfl rfl gw_1729 gw_1731 gw_44 mb_X12_blanks0 rfl (Nat.zero_le _) (Nat.le_of_ble_eq_true rfl) rfl (CL.imp k (fun _ h32 k => ?_) (fun _ _ k => k))
              obtain ⟨rfl, k⟩ := oV_of k
              show AW X (d + 1) rb mX12_load 187 _ [] h32 Qr Qx
              refine aw_goto 68 dX12_load_187 rfl ?_
              exact aw_sub [0, 1] rfl k
          · replace k := k.2 c
            refine aw_aload_n (j := 0) (i := 0) dX12_load_127 rfl rfl rfl ?_
            refine aw_callV (M' := mX12_rung) (S := []) (as := []) (k := 0) dX12_load_128 rfl (by decide) rfl rfl gw_1734 gw_1736 gw_45 mb_X12_rung rfl (Nat.zero_le _) (Nat.le_of_ble_eq_true rfl) rfl (CL.imp k (fun _ h33 k => ?_) (fun _ _ k => k))
            obtain ⟨rfl, k⟩ := oV_of k
            show AW X (d + 1) rb mX12_load 131 _ [] h33 Qr Qx
            refine aw_goto 156 dX12_load_131 rfl ?_
            refine aw_aload_n (j := 0) (i := 0) dX12_load_156 rfl rfl rfl ?_
            refine aw_callV (M' := mX12_blanks0) (S := []) (as := []) (k := 0) dX12_load_157 rfl (by decide) rfl rfl gw_1729 gw_1731 gw_44 mb_X12_blanks0 rfl (Nat.zero_le _) (Nat.le_of_ble_eq_true rfl) rfl (CL.imp k (fun _ h34 k => ?_) (fun _ _ k => k))
            obtain ⟨rfl, k⟩ := oV_of k
            show AW X (d + 1) rb mX12_load 160 _ [] h34 Qr Qx
            refine aw_aload_n (j := 0) (i := 0) dX12_load_160 rfl rfl rfl ?_
            refine aw_aload_n (j := 0) (i := 0) dX12_load_161 rfl rfl rfl ?_
            refine aw_bipush (v := 59) dX12_load_162 rfl (by decide) ?_
            refine aw_bipush (v := 59) dX12_load_164 rfl (by decide) ?_
            refine aw_callV (M' := mX12_isAt) (S := [vR 12 0]) (as := [vI 59, vI 59]) (k := 0) dX12_load_166 rfl (by decide) rfl rfl gw_1678 gw_1680 gw_33 mb_X12_isAt rfl (Nat.zero_le _) (Nat.le_of_ble_eq_true rfl) rfl (CL.imp k (fun _ h35 k => ?_) (fun _ _ k => k))
            obtain ⟨r36, rfl, k⟩ := oI_of k
            show AW X (d + 1) rb mX12_load 169 _ [vI r36, vR 12 0] h35 Qr Qx
            refine aw_iconst (v := 1) dX12_load_169 rfl (by decide) ?_
            refine aw_callV (M' := mX12_must) (S := []) (as := [vI r36, vI 1]) (k := 0) dX12_load_170 rfl (by decide) rfl rfl gw_1701 gw_1703 gw_38 mb_X12_must rfl (Nat.zero_le _) (Nat.le_of_ble_eq_true rfl) rfl (CL.imp k (fun _ h37 k => ?_) (fun _ _ k => k))
            obtain ⟨rfl, k⟩ := oV_of k
            show AW X (d + 1) rb mX12_load 173 _ [] h37 Qr Qx
            refine aw_aload_n (j := 0) (i := 0) dX12_load_173 rfl rfl rfl ?_
            refine aw_dup dX12_load_174 rfl rfl ?_
            refine aw_geti (k := 4) dX12_load_175 rfl (by decide) rfl rfl cb_12 (by decide) gw_1598 ?_
            refine aw_iconst (v := 1) dX12_load_178 rfl (by decide) ?_
            refine aw_iadd dX12_load_179 rfl ?_
            refine aw_puti (k := 4) dX12_load_180 rfl (by decide) rfl rfl cb_12 (by decide) rfl rfl gw_1598 ?_
            refine aw_aload_n (j := 0) (i := 0) dX12_load_183 rfl rfl rfl ?_
            refine aw_callV (M' := mX12_blanks0) (S := []) (as := []) (k := 0) dX12_load_184 rfl (by decide) rfl rfl gw_1729 gw_1731 gw_44 mb_X12_blanks0 rfl (Nat.zero_le _) (Nat.le_of_ble_eq_true rfl) rfl (CL.imp k (fun _ h38 k => ?_) (fun _ _ k => k))
            obtain ⟨rfl, k⟩ := oV_of k
            show AW X (d + 1) rb mX12_load 187 _ [] h38 Qr Qx
            refine aw_goto 68 dX12_load_187 rfl ?_
            exact aw_sub [0, 1] rfl k
        · replace k := k.2 c
          refine aw_aload_n (j := 0) (i := 0) dX12_load_111 rfl rfl rfl ?_
          refine aw_callV (M' := mX12_product) (S := []) (as := []) (k := 0) dX12_load_112 rfl (by decide) rfl rfl gw_1721 gw_1723 gw_42 mb_X12_product rfl (Nat.zero_le _) (Nat.le_of_ble_eq_true rfl) rfl (CL.imp k (fun _ h39 k => ?_) (fun _ _ k => k))
          obtain ⟨rfl, k⟩ := oV_of k
          show AW X (d + 1) rb mX12_load 115 _ [] h39 Qr Qx
          refine aw_goto 156 dX12_load_115 rfl ?_
          refine aw_aload_n (j := 0) (i := 0) dX12_load_156 rfl rfl rfl ?_
          refine aw_callV (M' := mX12_blanks0) (S := []) (as := []) (k := 0) dX12_load_157 rfl (by decide) rfl rfl gw_1729 gw_1731 gw_44 mb_X12_blanks0 rfl (Nat.zero_le _) (Nat.le_of_ble_eq_true rfl) rfl (CL.imp k (fun _ h40 k => ?_) (fun _ _ k => k))
          obtain ⟨rfl, k⟩ := oV_of k
          show AW X (d + 1) rb mX12_load 160 _ [] h40 Qr Qx
          refine aw_aload_n (j := 0) (i := 0) dX12_load_160 rfl rfl rfl ?_
          refine aw_aload_n (j := 0) (i := 0) dX12_load_161 rfl rfl rfl ?_
          refine aw_bipush (v := 59) dX12_load_162 rfl (by decide) ?_
          refine aw_bipush (v := 59) dX12_load_164 rfl (by decide) ?_
          refine aw_callV (M' := mX12_isAt) (S := [vR 12 0]) (as := [vI 59, vI 59]) (k := 0) dX12_load_166 rfl (by decide) rfl rfl gw_1678 gw_1680 gw_33 mb_X12_isAt rfl (Nat.zero_le _) (Nat.le_of_ble_eq_true rfl) rfl (CL.imp k (fun _ h41 k => ?_) (fun _ _ k => k))
          obtain ⟨r42, rfl, k⟩ := oI_of k
          show AW X (d + 1) rb mX12_load 169 _ [vI r42, vR 12 0] h41 Qr Qx
          refine aw_iconst (v := 1) dX12_load_169 rfl (by decide) ?_
          refine aw_callV (M' := mX12_must) (S := []) (as := [vI r42, vI 1]) (k := 0) dX12_load_170 rfl (by decide) rfl rfl gw_1701 gw_1703 gw_38 mb_X12_must rfl (Nat.zero_le _) (Nat.le_of_ble_eq_true rfl) rfl (CL.imp k (fun _ h43 k => ?_) (fun _ _ k => k))
          obtain ⟨rfl, k⟩ := oV_of k
          show AW X (d + 1) rb mX12_load 173 _ [] h43 Qr Qx
          refine aw_aload_n (j := 0) (i := 0) dX12_load_173 rfl rfl rfl ?_
          refine aw_dup dX12_load_174 rfl rfl ?_
          refine aw_geti (k := 4) dX12_load_175 rfl (by decide) rfl rfl cb_12 (by decide) gw_1598 ?_
          refine aw_iconst (v := 1) dX12_load_178 rfl (by decide) ?_
          refine aw_iadd dX12_load_179 rfl ?_
          refine aw_puti (k := 4) dX12_load_180 rfl (by decide) rfl rfl cb_12 (by decide) rfl rfl gw_1598 ?_
          refine aw_aload_n (j := 0) (i := 0) dX12_load_183 rfl rfl rfl ?_
          refine aw_callV (M' := mX12_blanks0) (S := []) (as := []) (k := 0) dX12_load_184 rfl (by decide) rfl rfl gw_1729 gw_1731 gw_44 mb_X12_blanks0 rfl (Nat.zero_le _) (Nat.le_of_ble_eq_true rfl) rfl (CL.imp k (fun _ h44 k => ?_) (fun _ _ k => k))
          obtain ⟨rfl, k⟩ := oV_of k
          show AW X (d + 1) rb mX12_load 187 _ [] h44 Qr Qx
          refine aw_goto 68 dX12_load_187 rfl ?_
          exact aw_sub [0, 1] rfl k
      · replace k := k.2 c
        refine aw_aload_n (j := 0) (i := 0) dX12_load_95 rfl rfl rfl ?_
        refine aw_callV (M' := mX12_part) (S := []) (as := []) (k := 0) dX12_load_96 rfl (by decide) rfl rfl gw_1697 gw_1699 gw_37 mb_X12_part rfl (Nat.zero_le _) (Nat.le_of_ble_eq_true rfl) rfl (CL.imp k (fun _ h45 k => ?_) (fun _ _ k => k))
        obtain ⟨rfl, k⟩ := oV_of k
        show AW X (d + 1) rb mX12_load 99 _ [] h45 Qr Qx
        refine aw_goto 156 dX12_load_99 rfl ?_
        refine aw_aload_n (j := 0) (i := 0) dX12_load_156 rfl rfl rfl ?_
        refine aw_callV (M' := mX12_blanks0) (S := []) (as := []) (k := 0) dX12_load_157 rfl (by decide) rfl rfl gw_1729 gw_1731 gw_44 mb_X12_blanks0 rfl (Nat.zero_le _) (Nat.le_of_ble_eq_true rfl) rfl (CL.imp k (fun _ h46 k => ?_) (fun _ _ k => k))
        obtain ⟨rfl, k⟩ := oV_of k
        show AW X (d + 1) rb mX12_load 160 _ [] h46 Qr Qx
        refine aw_aload_n (j := 0) (i := 0) dX12_load_160 rfl rfl rfl ?_
        refine aw_aload_n (j := 0) (i := 0) dX12_load_161 rfl rfl rfl ?_
        refine aw_bipush (v := 59) dX12_load_162 rfl (by decide) ?_
        refine aw_bipush (v := 59) dX12_load_164 rfl (by decide) ?_
        refine aw_callV (M' := mX12_isAt) (S := [vR 12 0]) (as := [vI 59, vI 59]) (k := 0) dX12_load_166 rfl (by decide) rfl rfl gw_1678 gw_1680 gw_33 mb_X12_isAt rfl (Nat.zero_le _) (Nat.le_of_ble_eq_true rfl) rfl (CL.imp k (fun _ h47 k => ?_) (fun _ _ k => k))
        obtain ⟨r48, rfl, k⟩ := oI_of k
        show AW X (d + 1) rb mX12_load 169 _ [vI r48, vR 12 0] h47 Qr Qx
        refine aw_iconst (v := 1) dX12_load_169 rfl (by decide) ?_
        refine aw_callV (M' := mX12_must) (S := []) (as := [vI r48, vI 1]) (k := 0) dX12_load_170 rfl (by decide) rfl rfl gw_1701 gw_1703 gw_38 mb_X12_must rfl (Nat.zero_le _) (Nat.le_of_ble_eq_true rfl) rfl (CL.imp k (fun _ h49 k => ?_) (fun _ _ k => k))
        obtain ⟨rfl, k⟩ := oV_of k
        show AW X (d + 1) rb mX12_load 173 _ [] h49 Qr Qx
        refine aw_aload_n (j := 0) (i := 0) dX12_load_173 rfl rfl rfl ?_
        refine aw_dup dX12_load_174 rfl rfl ?_
        refine aw_geti (k := 4) dX12_load_175 rfl (by decide) rfl rfl cb_12 (by decide) gw_1598 ?_
        refine aw_iconst (v := 1) dX12_load_178 rfl (by decide) ?_
        refine aw_iadd dX12_load_179 rfl ?_
        refine aw_puti (k := 4) dX12_load_180 rfl (by decide) rfl rfl cb_12 (by decide) rfl rfl gw_1598 ?_
        refine aw_aload_n (j := 0) (i := 0) dX12_load_183 rfl rfl rfl ?_
        refine aw_callV (M' := mX12_blanks0) (S := []) (as := []) (k := 0) dX12_load_184 rfl (by decide) rfl rfl gw_1729 gw_1731 gw_44 mb_X12_blanks0 rfl (Nat.zero_le _) (Nat.le_of_ble_eq_true rfl) rfl (CL.imp k (fun _ h50 k => ?_) (fun _ _ k => k))
        obtain ⟨rfl, k⟩ := oV_of k
        show AW X (d + 1) rb mX12_load 187 _ [] h50 Qr Qx
        refine aw_goto 68 dX12_load_187 rfl ?_
        exact aw_sub [0, 1] rfl k
set_option maxHeartbeats 4000000 in
set_option maxRecDepth 100000 in
theorem vc_X12_takesOver_0 {X : WD → State → Prop} {d rb : Nat} {h : Hp} {Qr : Option AV → Hp → Prop} {Qx : String → Hp → Prop}   (k : AW X (d + 1) rb mX12_takesOver 2 [(0, vR 12 0), (1, vI 0)] [] h Qr Qx) : AW X (d + 1) rb mX12_takesOver 0 [(0, vR 12 0)] [] h Qr Qx := by
  refine aw_iconst (v := 0) dX12_takesOver_0 rfl (by decide) ?_
  refine aw_istore_n (i := 1) (L2 := [(1, vI 0), (0, vR 12 0)]) dX12_takesOver_1 rfl rfl (by decide) rfl ?_
  exact aw_sub [1, 0] rfl k
set_option maxHeartbeats 4000000 in
set_option maxRecDepth 100000 in
theorem vc_X12_takesOver_2 {X : WD → State → Prop} {d rb : Nat} {h : Hp} {Qr : Option AV → Hp → Prop} {Qx : String → Hp → Prop} {x1 : Int32}  (k : ((506 ≤ x1) → AW X (d + 1) rb mX12_takesOver 29 [(0, vR 12 0), (1, vI 0)] [] h Qr Qx) ∧ ((¬ 506 ≤ x1) → (vp_in x1 506) ∧ (vp_in x1 506) ∧ AW X (d + 1) rb mX12_takesOver 2 [(0, vR 12 0), (1, vI (x1 + 1))] [] (hp_i h 56 0 x1.toNatClampNeg (h.1 57 0 x1.toNatClampNeg)) Qr Qx)) : AW X (d + 1) rb mX12_takesOver 2 [(0, vR 12 0), (1, vI x1)] [] h Qr Qx := by
  refine aw_iload_n (j := 1) (i := 1) dX12_takesOver_2 rfl rfl rfl ?_
  refine aw_sipush (v := 506) dX12_takesOver_3 rfl (by decide) ?_
  refine aw_icmp_ge 27 dX12_takesOver_6 rfl rfl (fun c => ?_) (fun c => ?_)
  · replace k := k.1 c
    refine aw_iconst (v := 0) dX12_takesOver_27 rfl (by decide) ?_
    refine aw_istore_n (i := 1) (L2 := [(1, vI 0), (0, vR 12 0)]) dX12_takesOver_28 rfl rfl (by decide) rfl ?_
    exact aw_sub [1, 0] rfl k
  · replace k := k.2 c
    refine aw_aload_n (j := 0) (i := 0) dX12_takesOver_9 rfl rfl rfl ?_
    refine aw_getf (k := 11) (z := 56) dX12_takesOver_10 rfl (by decide) rfl rfl rfl cb_12 (by decide) gw_1605 ?_
    refine aw_iload_n (j := 1) (i := 1) dX12_takesOver_13 rfl rfl rfl ?_
    refine aw_aload_n (j := 0) (i := 0) dX12_takesOver_14 rfl rfl rfl ?_
    refine aw_getf (k := 12) (z := 57) dX12_takesOver_15 rfl (by decide) rfl rfl rfl cb_12 (by decide) gw_1606 ?_
    refine aw_iload_n (j := 1) (i := 1) dX12_takesOver_18 rfl rfl rfl ?_
    refine aw_iald dX12_takesOver_19 rfl (by decide) rfl k.1 ?_
    replace k := k.2
    refine aw_iast dX12_takesOver_20 rfl (by decide) rfl k.1 ?_
    replace k := k.2
    refine aw_iinc (i := 1) (j := 1) (v := x1 + 1) (L2 := [(1, vI (x1 + 1)), (0, vR 12 0)]) dX12_takesOver_21 rfl (by decide) rfl rfl rfl ?_
    refine aw_goto 2 dX12_takesOver_24 rfl ?_
    exact aw_sub [1, 0] rfl k
set_option maxHeartbeats 4000000 in
set_option maxRecDepth 100000 in
theorem vc_X12_takesOver_29 {X : WD → State → Prop} {d rb : Nat} {h : Hp} {Qr : Option AV → Hp → Prop} {Qx : String → Hp → Prop} {x1 : Int32}  (k : ((301 ≤ x1) → AW X (d + 1) rb mX12_takesOver 51 [(0, vR 12 0), (1, vI 0)] [] h Qr Qx) ∧ ((¬ 301 ≤ x1) → (vp_in x1 301) ∧ AW X (d + 1) rb mX12_takesOver 29 [(0, vR 12 0), (1, vI (x1 + 1))] [] (hp_i h 58 0 x1.toNatClampNeg 0) Qr Qx)) : AW X (d + 1) rb mX12_takesOver 29 [(0, vR 12 0), (1, vI x1)] [] h Qr Qx := by
  refine aw_iload_n (j := 1) (i := 1) dX12_takesOver_29 rfl rfl rfl ?_
  refine aw_sipush (v := 301) dX12_takesOver_30 rfl (by decide) ?_
  refine aw_icmp_ge 49 dX12_takesOver_33 rfl rfl (fun c => ?_) (fun c => ?_)
  · replace k := k.1 c
    refine aw_iconst (v := 0) dX12_takesOver_49 rfl (by decide) ?_
    refine aw_istore_n (i := 1) (L2 := [(1, vI 0), (0, vR 12 0)]) dX12_takesOver_50 rfl rfl (by decide) rfl ?_
    exact aw_sub [1, 0] rfl k
  · replace k := k.2 c
    refine aw_aload_n (j := 0) (i := 0) dX12_takesOver_36 rfl rfl rfl ?_
    refine aw_getf (k := 14) (z := 58) dX12_takesOver_37 rfl (by decide) rfl rfl rfl cb_12 (by decide) gw_1608 ?_
    refine aw_iload_n (j := 1) (i := 1) dX12_takesOver_40 rfl rfl rfl ?_
    refine aw_iconst (v := 0) dX12_takesOver_41 rfl (by decide) ?_
    refine aw_iast dX12_takesOver_42 rfl (by decide) rfl k.1 ?_
    replace k := k.2
    refine aw_iinc (i := 1) (j := 1) (v := x1 + 1) (L2 := [(1, vI (x1 + 1)), (0, vR 12 0)]) dX12_takesOver_43 rfl (by decide) rfl rfl rfl ?_
    refine aw_goto 29 dX12_takesOver_46 rfl ?_
    exact aw_sub [1, 0] rfl k
set_option maxHeartbeats 4000000 in
set_option maxRecDepth 100000 in
theorem vc_X12_takesOver_51 {X : WD → State → Prop} {d rb : Nat} {h : Hp} {Qr : Option AV → Hp → Prop} {Qx : String → Hp → Prop} {x1 : Int32}  (k : ((12 ≤ x1) → AW X (d + 1) rb mX12_takesOver 96 [(0, vR 12 0), (1, vI 0)] [] (hp_i h 58 0 1 (h.1 56 0 3)) Qr Qx) ∧ ((¬ 12 ≤ x1) → (vp_in (164 + x1) 506) ∧ (vp_in (9 + x1) 301) ∧ AW X (d + 1) rb mX12_takesOver 51 [(0, vR 12 0), (1, vI (x1 + 1))] [] (hp_i h 58 0 ((9 + x1).toNatClampNeg) (h.1 56 0 ((164 + x1).toNatClampNeg))) Qr Qx)) : AW X (d + 1) rb mX12_takesOver 51 [(0, vR 12 0), (1, vI x1)] [] h Qr Qx := by
  refine aw_iload_n (j := 1) (i := 1) dX12_takesOver_51 rfl rfl rfl ?_
  refine aw_bipush (v := 12) dX12_takesOver_52 rfl (by decide) ?_
  refine aw_icmp_ge 82 dX12_takesOver_54 rfl rfl (fun c => ?_) (fun c => ?_)
  · replace k := k.1 c
    refine aw_aload_n (j := 0) (i := 0) dX12_takesOver_82 rfl rfl rfl ?_
    refine aw_getf (k := 14) (z := 58) dX12_takesOver_83 rfl (by decide) rfl rfl rfl cb_12 (by decide) gw_1608 ?_
    refine aw_iconst (v := 1) dX12_takesOver_86 rfl (by decide) ?_
    refine aw_aload_n (j := 0) (i := 0) dX12_takesOver_87 rfl rfl rfl ?_
    refine aw_getf (k := 11) (z := 56) dX12_takesOver_88 rfl (by decide) rfl rfl rfl cb_12 (by decide) gw_1605 ?_
    refine aw_iconst (v := 3) dX12_takesOver_91 rfl (by decide) ?_
    refine aw_iald dX12_takesOver_92 rfl (by decide) rfl (by unfold vp_in; decide) ?_
    refine aw_iast dX12_takesOver_93 rfl (by decide) rfl (by unfold vp_in; decide) ?_
    refine aw_iconst (v := 0) dX12_takesOver_94 rfl (by decide) ?_
    refine aw_istore_n (i := 1) (L2 := [(1, vI 0), (0, vR 12 0)]) dX12_takesOver_95 rfl rfl (by decide) rfl ?_
    exact aw_sub [1, 0] rfl k
  · replace k := k.2 c
    refine aw_aload_n (j := 0) (i := 0) dX12_takesOver_57 rfl rfl rfl ?_
    refine aw_getf (k := 14) (z := 58) dX12_takesOver_58 rfl (by decide) rfl rfl rfl cb_12 (by decide) gw_1608 ?_
    refine aw_bipush (v := 9) dX12_takesOver_61 rfl (by decide) ?_
    refine aw_iload_n (j := 1) (i := 1) dX12_takesOver_63 rfl rfl rfl ?_
    refine aw_iadd dX12_takesOver_64 rfl ?_
    refine aw_aload_n (j := 0) (i := 0) dX12_takesOver_65 rfl rfl rfl ?_
    refine aw_getf (k := 11) (z := 56) dX12_takesOver_66 rfl (by decide) rfl rfl rfl cb_12 (by decide) gw_1605 ?_
    refine aw_sipush (v := 164) dX12_takesOver_69 rfl (by decide) ?_
    refine aw_iload_n (j := 1) (i := 1) dX12_takesOver_72 rfl rfl rfl ?_
    refine aw_iadd dX12_takesOver_73 rfl ?_
    refine aw_iald dX12_takesOver_74 rfl (by decide) rfl k.1 ?_
    replace k := k.2
    refine aw_iast dX12_takesOver_75 rfl (by decide) rfl k.1 ?_
    replace k := k.2
    refine aw_iinc (i := 1) (j := 1) (v := x1 + 1) (L2 := [(1, vI (x1 + 1)), (0, vR 12 0)]) dX12_takesOver_76 rfl (by decide) rfl rfl rfl ?_
    refine aw_goto 51 dX12_takesOver_79 rfl ?_
    exact aw_sub [1, 0] rfl k
set_option maxHeartbeats 4000000 in
set_option maxRecDepth 100000 in
theorem vc_X12_takesOver_96 {X : WD → State → Prop} {d rb : Nat} {h : Hp} {Qr : Option AV → Hp → Prop} {Qx : String → Hp → Prop} {x1 : Int32}  (k : (((h.1 56 0 3) ≤ x1) → Qr none (hp_i h 12 0 16 0)) ∧ ((¬ (h.1 56 0 3) ≤ x1) → AW X (d + 1) rb mX12_takesOver 108 [(0, vR 12 0), (1, vI x1), (2, vI 0)] [] h Qr Qx)) : AW X (d + 1) rb mX12_takesOver 96 [(0, vR 12 0), (1, vI x1)] [] h Qr Qx := by
  refine aw_iload_n (j := 1) (i := 1) dX12_takesOver_96 rfl rfl rfl ?_
  refine aw_aload_n (j := 0) (i := 0) dX12_takesOver_97 rfl rfl rfl ?_
  refine aw_getf (k := 11) (z := 56) dX12_takesOver_98 rfl (by decide) rfl rfl rfl cb_12 (by decide) gw_1605 ?_
  refine aw_iconst (v := 3) dX12_takesOver_101 rfl (by decide) ?_
  refine aw_iald dX12_takesOver_102 rfl (by decide) rfl (by unfold vp_in; decide) ?_
  refine aw_icmp_ge 153 dX12_takesOver_103 rfl rfl (fun c => ?_) (fun c => ?_)
  · replace k := k.1 c
    refine aw_aload_n (j := 0) (i := 0) dX12_takesOver_153 rfl rfl rfl ?_
    refine aw_iconst (v := 0) dX12_takesOver_154 rfl (by decide) ?_
    refine aw_puti (k := 16) dX12_takesOver_155 rfl (by decide) rfl rfl cb_12 (by decide) rfl rfl gw_1610 ?_
    exact aw_vret dX12_takesOver_158 rfl k
  · replace k := k.2 c
    refine aw_iconst (v := 0) dX12_takesOver_106 rfl (by decide) ?_
    refine aw_istore_n (i := 2) (L2 := [(2, vI 0), (0, vR 12 0), (1, vI x1)]) dX12_takesOver_107 rfl rfl (by decide) rfl ?_
    exact aw_sub [1, 2, 0] rfl k
set_option maxHeartbeats 4000000 in
set_option maxRecDepth 100000 in
theorem vc_X12_takesOver_108 {X : WD → State → Prop} {d rb : Nat} {h : Hp} {Qr : Option AV → Hp → Prop} {Qx : String → Hp → Prop} {x1 : Int32} {x2 : Int32}  (k : ((5 ≤ x2) → AW X (d + 1) rb mX12_takesOver 147 [(0, vR 12 0), (1, vI x1), (2, vI x2)] [] h Qr Qx) ∧ ((¬ 5 ≤ x2) → (vp_in ((406 + (5 * x1)) + x2) 506) ∧ (vp_in ((93 + (8 * x1)) + x2) 301) ∧ AW X (d + 1) rb mX12_takesOver 108 [(0, vR 12 0), (1, vI x1), (2, vI (x2 + 1))] [] (hp_i h 58 0 (((93 + (8 * x1)) + x2).toNatClampNeg) (h.1 56 0 (((406 + (5 * x1)) + x2).toNatClampNeg))) Qr Qx)) : AW X (d + 1) rb mX12_takesOver 108 [(0, vR 12 0), (1, vI x1), (2, vI x2)] [] h Qr Qx := by
  refine aw_iload_n (j := 2) (i := 2) dX12_takesOver_108 rfl rfl rfl ?_
  refine aw_iconst (v := 5) dX12_takesOver_109 rfl (by decide) ?_
  refine aw_icmp_ge 147 dX12_takesOver_110 rfl rfl (fun c => ?_) (fun c => ?_)
  · replace k := k.1 c
    exact aw_sub [0, 1, 2] rfl k
  · replace k := k.2 c
    refine aw_aload_n (j := 0) (i := 0) dX12_takesOver_113 rfl rfl rfl ?_
    refine aw_getf (k := 14) (z := 58) dX12_takesOver_114 rfl (by decide) rfl rfl rfl cb_12 (by decide) gw_1608 ?_
    refine aw_bipush (v := 93) dX12_takesOver_117 rfl (by decide) ?_
    refine aw_bipush (v := 8) dX12_takesOver_119 rfl (by decide) ?_
    refine aw_iload_n (j := 1) (i := 1) dX12_takesOver_121 rfl rfl rfl ?_
    refine aw_imul dX12_takesOver_122 rfl ?_
    refine aw_iadd dX12_takesOver_123 rfl ?_
    refine aw_iload_n (j := 2) (i := 2) dX12_takesOver_124 rfl rfl rfl ?_
    refine aw_iadd dX12_takesOver_125 rfl ?_
    refine aw_aload_n (j := 0) (i := 0) dX12_takesOver_126 rfl rfl rfl ?_
    refine aw_getf (k := 11) (z := 56) dX12_takesOver_127 rfl (by decide) rfl rfl rfl cb_12 (by decide) gw_1605 ?_
    refine aw_sipush (v := 406) dX12_takesOver_130 rfl (by decide) ?_
    refine aw_iconst (v := 5) dX12_takesOver_133 rfl (by decide) ?_
    refine aw_iload_n (j := 1) (i := 1) dX12_takesOver_134 rfl rfl rfl ?_
    refine aw_imul dX12_takesOver_135 rfl ?_
    refine aw_iadd dX12_takesOver_136 rfl ?_
    refine aw_iload_n (j := 2) (i := 2) dX12_takesOver_137 rfl rfl rfl ?_
    refine aw_iadd dX12_takesOver_138 rfl ?_
    refine aw_iald dX12_takesOver_139 rfl (by decide) rfl k.1 ?_
    replace k := k.2
    refine aw_iast dX12_takesOver_140 rfl (by decide) rfl k.1 ?_
    replace k := k.2
    refine aw_iinc (i := 2) (j := 2) (v := x2 + 1) (L2 := [(2, vI (x2 + 1)), (0, vR 12 0), (1, vI x1)]) dX12_takesOver_141 rfl (by decide) rfl rfl rfl ?_
    refine aw_goto 108 dX12_takesOver_144 rfl ?_
    exact aw_sub [1, 2, 0] rfl k
set_option maxHeartbeats 4000000 in
set_option maxRecDepth 100000 in
theorem vc_X12_takesOver_147 {X : WD → State → Prop} {d rb : Nat} {h : Hp} {Qr : Option AV → Hp → Prop} {Qx : String → Hp → Prop} {x1 : Int32} {x2 : Int32}  (k : AW X (d + 1) rb mX12_takesOver 96 [(0, vR 12 0), (1, vI (x1 + 1))] [] h Qr Qx) : AW X (d + 1) rb mX12_takesOver 147 [(0, vR 12 0), (1, vI x1), (2, vI x2)] [] h Qr Qx := by
  refine aw_iinc (i := 1) (j := 1) (v := x1 + 1) (L2 := [(1, vI (x1 + 1)), (0, vR 12 0), (2, vI x2)]) dX12_takesOver_147 rfl (by decide) rfl rfl rfl ?_
  refine aw_goto 96 dX12_takesOver_150 rfl ?_
  exact aw_sub [1, 0] rfl k
set_option maxHeartbeats 4000000 in
set_option maxRecDepth 100000 in
theorem vc_X12_keeps_0 {X : WD → State → Prop} {d rb : Nat} {h : Hp} {Qr : Option AV → Hp → Prop} {Qx : String → Hp → Prop}   (k : ((¬ (h.1 12 0 16) = 12) → AW X (d + 1) rb mX12_keeps 54 [(0, vR 12 0), (1, vI 0)] [] h Qr Qx) ∧ (((h.1 12 0 16) = 12) → AW X (d + 1) rb mX12_keeps 13 [(0, vR 12 0), (1, vI 301)] [] h Qr Qx)) : AW X (d + 1) rb mX12_keeps 0 [(0, vR 12 0)] [] h Qr Qx := by
  refine aw_aload_n (j := 0) (i := 0) dX12_keeps_0 rfl rfl rfl ?_
  refine aw_geti (k := 16) dX12_keeps_1 rfl (by decide) rfl rfl cb_12 (by decide) gw_1610 ?_
  refine aw_bipush (v := 12) dX12_keeps_4 rfl (by decide) ?_
  refine aw_icmp_ne 52 dX12_keeps_6 rfl rfl (fun c => ?_) (fun c => ?_)
  · replace k := k.1 c
    refine aw_iconst (v := 0) dX12_keeps_52 rfl (by decide) ?_
    refine aw_istore_n (i := 1) (L2 := [(1, vI 0), (0, vR 12 0)]) dX12_keeps_53 rfl rfl (by decide) rfl ?_
    exact aw_sub [1, 0] rfl k
  · replace k := k.2 c
    refine aw_sipush (v := 301) dX12_keeps_9 rfl (by decide) ?_
    refine aw_istore_n (i := 1) (L2 := [(1, vI 301), (0, vR 12 0)]) dX12_keeps_12 rfl rfl (by decide) rfl ?_
    exact aw_sub [1, 0] rfl k
set_option maxHeartbeats 4000000 in
set_option maxRecDepth 100000 in
theorem vc_X12_keeps_54 {X : WD → State → Prop} {d rb : Nat} {h : Hp} {Qr : Option AV → Hp → Prop} {Qx : String → Hp → Prop} {x1 : Int32}  (k : ((301 ≤ x1) → Qr none (hp_i h 12 0 16 ((h.1 12 0 16) + 1))) ∧ ((¬ 301 ≤ x1) → (vp_in x1 301) ∧ (vp_in ((301 * (h.1 12 0 16)) + x1) 3612) ∧ AW X (d + 1) rb mX12_keeps 54 [(0, vR 12 0), (1, vI (x1 + 1))] [] (hp_i h 59 0 (((301 * (h.1 12 0 16)) + x1).toNatClampNeg) (h.1 58 0 x1.toNatClampNeg)) Qr Qx)) : AW X (d + 1) rb mX12_keeps 54 [(0, vR 12 0), (1, vI x1)] [] h Qr Qx := by
  refine aw_iload_n (j := 1) (i := 1) dX12_keeps_54 rfl rfl rfl ?_
  refine aw_sipush (v := 301) dX12_keeps_55 rfl (by decide) ?_
  refine aw_icmp_ge 88 dX12_keeps_58 rfl rfl (fun c => ?_) (fun c => ?_)
  · replace k := k.1 c
    refine aw_aload_n (j := 0) (i := 0) dX12_keeps_88 rfl rfl rfl ?_
    refine aw_dup dX12_keeps_89 rfl rfl ?_
    refine aw_geti (k := 16) dX12_keeps_90 rfl (by decide) rfl rfl cb_12 (by decide) gw_1610 ?_
    refine aw_iconst (v := 1) dX12_keeps_93 rfl (by decide) ?_
    refine aw_iadd dX12_keeps_94 rfl ?_
    refine aw_puti (k := 16) dX12_keeps_95 rfl (by decide) rfl rfl cb_12 (by decide) rfl rfl gw_1610 ?_
    exact aw_vret dX12_keeps_98 rfl k
  · replace k := k.2 c
    refine aw_aload_n (j := 0) (i := 0) dX12_keeps_61 rfl rfl rfl ?_
    refine aw_getf (k := 15) (z := 59) dX12_keeps_62 rfl (by decide) rfl rfl rfl cb_12 (by decide) gw_1609 ?_
    refine aw_sipush (v := 301) dX12_keeps_65 rfl (by decide) ?_
    refine aw_aload_n (j := 0) (i := 0) dX12_keeps_68 rfl rfl rfl ?_
    refine aw_geti (k := 16) dX12_keeps_69 rfl (by decide) rfl rfl cb_12 (by decide) gw_1610 ?_
    refine aw_imul dX12_keeps_72 rfl ?_
    refine aw_iload_n (j := 1) (i := 1) dX12_keeps_73 rfl rfl rfl ?_
    refine aw_iadd dX12_keeps_74 rfl ?_
    refine aw_aload_n (j := 0) (i := 0) dX12_keeps_75 rfl rfl rfl ?_
    refine aw_getf (k := 14) (z := 58) dX12_keeps_76 rfl (by decide) rfl rfl rfl cb_12 (by decide) gw_1608 ?_
    refine aw_iload_n (j := 1) (i := 1) dX12_keeps_79 rfl rfl rfl ?_
    refine aw_iald dX12_keeps_80 rfl (by decide) rfl k.1 ?_
    replace k := k.2
    refine aw_iast dX12_keeps_81 rfl (by decide) rfl k.1 ?_
    replace k := k.2
    refine aw_iinc (i := 1) (j := 1) (v := x1 + 1) (L2 := [(1, vI (x1 + 1)), (0, vR 12 0)]) dX12_keeps_82 rfl (by decide) rfl rfl rfl ?_
    refine aw_goto 54 dX12_keeps_85 rfl ?_
    exact aw_sub [1, 0] rfl k
set_option maxHeartbeats 4000000 in
set_option maxRecDepth 100000 in
theorem vc_X12_keeps_13 {X : WD → State → Prop} {d rb : Nat} {h : Hp} {Qr : Option AV → Hp → Prop} {Qx : String → Hp → Prop} {x1 : Int32}  (k : ((3612 ≤ x1) → AW X (d + 1) rb mX12_keeps 54 [(0, vR 12 0), (1, vI 0)] [] (hp_i h 12 0 16 ((h.1 12 0 16) - 1)) Qr Qx) ∧ ((¬ 3612 ≤ x1) → (vp_in x1 3612) ∧ (vp_in (x1 - 301) 3612) ∧ AW X (d + 1) rb mX12_keeps 13 [(0, vR 12 0), (1, vI (x1 + 1))] [] (hp_i h 59 0 ((x1 - 301).toNatClampNeg) (h.1 59 0 x1.toNatClampNeg)) Qr Qx)) : AW X (d + 1) rb mX12_keeps 13 [(0, vR 12 0), (1, vI x1)] [] h Qr Qx := by
  refine aw_iload_n (j := 1) (i := 1) dX12_keeps_13 rfl rfl rfl ?_
  refine aw_sipush (v := 3612) dX12_keeps_14 rfl (by decide) ?_
  refine aw_icmp_ge 42 dX12_keeps_17 rfl rfl (fun c => ?_) (fun c => ?_)
  · replace k := k.1 c
    refine aw_aload_n (j := 0) (i := 0) dX12_keeps_42 rfl rfl rfl ?_
    refine aw_dup dX12_keeps_43 rfl rfl ?_
    refine aw_geti (k := 16) dX12_keeps_44 rfl (by decide) rfl rfl cb_12 (by decide) gw_1610 ?_
    refine aw_iconst (v := 1) dX12_keeps_47 rfl (by decide) ?_
    refine aw_isub dX12_keeps_48 rfl ?_
    refine aw_puti (k := 16) dX12_keeps_49 rfl (by decide) rfl rfl cb_12 (by decide) rfl rfl gw_1610 ?_
    refine aw_iconst (v := 0) dX12_keeps_52 rfl (by decide) ?_
    refine aw_istore_n (i := 1) (L2 := [(1, vI 0), (0, vR 12 0)]) dX12_keeps_53 rfl rfl (by decide) rfl ?_
    exact aw_sub [1, 0] rfl k
  · replace k := k.2 c
    refine aw_aload_n (j := 0) (i := 0) dX12_keeps_20 rfl rfl rfl ?_
    refine aw_getf (k := 15) (z := 59) dX12_keeps_21 rfl (by decide) rfl rfl rfl cb_12 (by decide) gw_1609 ?_
    refine aw_iload_n (j := 1) (i := 1) dX12_keeps_24 rfl rfl rfl ?_
    refine aw_sipush (v := 301) dX12_keeps_25 rfl (by decide) ?_
    refine aw_isub dX12_keeps_28 rfl ?_
    refine aw_aload_n (j := 0) (i := 0) dX12_keeps_29 rfl rfl rfl ?_
    refine aw_getf (k := 15) (z := 59) dX12_keeps_30 rfl (by decide) rfl rfl rfl cb_12 (by decide) gw_1609 ?_
    refine aw_iload_n (j := 1) (i := 1) dX12_keeps_33 rfl rfl rfl ?_
    refine aw_iald dX12_keeps_34 rfl (by decide) rfl k.1 ?_
    replace k := k.2
    refine aw_iast dX12_keeps_35 rfl (by decide) rfl k.1 ?_
    replace k := k.2
    refine aw_iinc (i := 1) (j := 1) (v := x1 + 1) (L2 := [(1, vI (x1 + 1)), (0, vR 12 0)]) dX12_keeps_36 rfl (by decide) rfl rfl rfl ?_
    refine aw_goto 13 dX12_keeps_39 rfl ?_
    exact aw_sub [1, 0] rfl k
set_option maxHeartbeats 4000000 in
set_option maxRecDepth 100000 in
theorem vc_X12_undo_0 {X : WD → State → Prop} {d rb : Nat} {h : Hp} {Qr : Option AV → Hp → Prop} {Qx : String → Hp → Prop}   (k : ((¬ ((hp_i h 12 0 0 0).1 12 0 16) = 0) → AW X (d + 1) rb mX12_undo 26 [(0, vR 12 0), (1, vI 0)] [] (hp_i (hp_i h 12 0 0 0) 12 0 16 (((hp_i h 12 0 0 0).1 12 0 16) - 1)) Qr Qx) ∧ ((((hp_i h 12 0 0 0).1 12 0 16) = 0) → Qr (some (vI (-1))) (hp_i h 12 0 0 0))) : AW X (d + 1) rb mX12_undo 0 [(0, vR 12 0)] [] h Qr Qx := by
  refine aw_aload_n (j := 0) (i := 0) dX12_undo_0 rfl rfl rfl ?_
  refine aw_iconst (v := 0) dX12_undo_1 rfl (by decide) ?_
  refine aw_puti (k := 0) dX12_undo_2 rfl (by decide) rfl rfl cb_12 (by decide) rfl rfl gw_1594 ?_
  refine aw_aload_n (j := 0) (i := 0) dX12_undo_5 rfl rfl rfl ?_
  refine aw_geti (k := 16) dX12_undo_6 rfl (by decide) rfl rfl cb_12 (by decide) gw_1610 ?_
  refine aw_if_ne 14 dX12_undo_9 rfl rfl (fun c => ?_) (fun c => ?_)
  · replace k := k.1 c
    refine aw_aload_n (j := 0) (i := 0) dX12_undo_14 rfl rfl rfl ?_
    refine aw_dup dX12_undo_15 rfl rfl ?_
    refine aw_geti (k := 16) dX12_undo_16 rfl (by decide) rfl rfl cb_12 (by decide) gw_1610 ?_
    refine aw_iconst (v := 1) dX12_undo_19 rfl (by decide) ?_
    refine aw_isub dX12_undo_20 rfl ?_
    refine aw_puti (k := 16) dX12_undo_21 rfl (by decide) rfl rfl cb_12 (by decide) rfl rfl gw_1610 ?_
    refine aw_iconst (v := 0) dX12_undo_24 rfl (by decide) ?_
    refine aw_istore_n (i := 1) (L2 := [(1, vI 0), (0, vR 12 0)]) dX12_undo_25 rfl rfl (by decide) rfl ?_
    exact aw_sub [1, 0] rfl k
  · replace k := k.2 c
    refine aw_iconst (v := (-1)) dX12_undo_12 rfl (by decide) ?_
    exact aw_iret dX12_undo_13 rfl k
set_option maxHeartbeats 4000000 in
set_option maxRecDepth 100000 in
theorem vc_X12_undo_26 {X : WD → State → Prop} {d rb : Nat} {h : Hp} {Qr : Option AV → Hp → Prop} {Qx : String → Hp → Prop} {x1 : Int32}  (k : ((301 ≤ x1) → Qr (some (vI (h.1 12 0 16))) h) ∧ ((¬ 301 ≤ x1) → (vp_in ((301 * (h.1 12 0 16)) + x1) 3612) ∧ (vp_in x1 301) ∧ AW X (d + 1) rb mX12_undo 26 [(0, vR 12 0), (1, vI (x1 + 1))] [] (hp_i h 58 0 x1.toNatClampNeg (h.1 59 0 (((301 * (h.1 12 0 16)) + x1).toNatClampNeg))) Qr Qx)) : AW X (d + 1) rb mX12_undo 26 [(0, vR 12 0), (1, vI x1)] [] h Qr Qx := by
  refine aw_iload_n (j := 1) (i := 1) dX12_undo_26 rfl rfl rfl ?_
  refine aw_sipush (v := 301) dX12_undo_27 rfl (by decide) ?_
  refine aw_icmp_ge 60 dX12_undo_30 rfl rfl (fun c => ?_) (fun c => ?_)
  · replace k := k.1 c
    refine aw_aload_n (j := 0) (i := 0) dX12_undo_60 rfl rfl rfl ?_
    refine aw_geti (k := 16) dX12_undo_61 rfl (by decide) rfl rfl cb_12 (by decide) gw_1610 ?_
    exact aw_iret dX12_undo_64 rfl k
  · replace k := k.2 c
    refine aw_aload_n (j := 0) (i := 0) dX12_undo_33 rfl rfl rfl ?_
    refine aw_getf (k := 14) (z := 58) dX12_undo_34 rfl (by decide) rfl rfl rfl cb_12 (by decide) gw_1608 ?_
    refine aw_iload_n (j := 1) (i := 1) dX12_undo_37 rfl rfl rfl ?_
    refine aw_aload_n (j := 0) (i := 0) dX12_undo_38 rfl rfl rfl ?_
    refine aw_getf (k := 15) (z := 59) dX12_undo_39 rfl (by decide) rfl rfl rfl cb_12 (by decide) gw_1609 ?_
    refine aw_sipush (v := 301) dX12_undo_42 rfl (by decide) ?_
    refine aw_aload_n (j := 0) (i := 0) dX12_undo_45 rfl rfl rfl ?_
    refine aw_geti (k := 16) dX12_undo_46 rfl (by decide) rfl rfl cb_12 (by decide) gw_1610 ?_
    refine aw_imul dX12_undo_49 rfl ?_
    refine aw_iload_n (j := 1) (i := 1) dX12_undo_50 rfl rfl rfl ?_
    refine aw_iadd dX12_undo_51 rfl ?_
    refine aw_iald dX12_undo_52 rfl (by decide) rfl k.1 ?_
    replace k := k.2
    refine aw_iast dX12_undo_53 rfl (by decide) rfl k.1 ?_
    replace k := k.2
    refine aw_iinc (i := 1) (j := 1) (v := x1 + 1) (L2 := [(1, vI (x1 + 1)), (0, vR 12 0)]) dX12_undo_54 rfl (by decide) rfl rfl rfl ?_
    refine aw_goto 26 dX12_undo_57 rfl ?_
    exact aw_sub [1, 0] rfl k
set_option maxHeartbeats 4000000 in
set_option maxRecDepth 100000 in
theorem vc_X12_undoDepth_0 {X : WD → State → Prop} {d rb : Nat} {h : Hp} {Qr : Option AV → Hp → Prop} {Qx : String → Hp → Prop}   (k : Qr (some (vI ((hp_i h 12 0 0 0).1 12 0 16))) (hp_i h 12 0 0 0)) : AW X (d + 1) rb mX12_undoDepth 0 [(0, vR 12 0)] [] h Qr Qx := by
  refine aw_aload_n (j := 0) (i := 0) dX12_undoDepth_0 rfl rfl rfl ?_
  refine aw_iconst (v := 0) dX12_undoDepth_1 rfl (by decide) ?_
  refine aw_puti (k := 0) dX12_undoDepth_2 rfl (by decide) rfl rfl cb_12 (by decide) rfl rfl gw_1594 ?_
  refine aw_aload_n (j := 0) (i := 0) dX12_undoDepth_5 rfl rfl rfl ?_
  refine aw_geti (k := 16) dX12_undoDepth_6 rfl (by decide) rfl rfl cb_12 (by decide) gw_1610 ?_
  exact aw_iret dX12_undoDepth_9 rfl k
set_option maxHeartbeats 4000000 in
set_option maxRecDepth 100000 in
theorem vc_X12_noPart_0 {X : WD → State → Prop} {d rb : Nat} {h : Hp} {Qr : Option AV → Hp → Prop} {Qx : String → Hp → Prop} {a1 : Int32}  (k : CL 0 d mX12_in [vI a1, vI 0, vI ((h.1 56 0 0) - 1)] h (oI fun r2 h1 => CL 0 d mX12_throwsIf [vR 12 0, vI (if ¬ r2 = 0 then (0 : Int32) else 1), vI 1] h1 (oI fun r4 h3 => (r4 = 0 ∨ r4 = 1) ∧ Qr (some (vI r4)) h3) Qx) Qx) : AW X (d + 1) rb mX12_noPart 0 [(0, vR 12 0), (1, vI a1)] [] h Qr Qx := by
  refine aw_aload_n (j := 0) (i := 0) dX12_noPart_0 rfl rfl rfl ?_
  refine aw_iload_n (j := 1) (i := 1) dX12_noPart_1 rfl rfl rfl ?_
  refine aw_iconst (v := 0) dX12_noPart_2 rfl (by decide) ?_
  refine aw_aload_n (j := 0) (i := 0) dX12_noPart_3 rfl rfl rfl ?_
  refine aw_getf (k := 11) (z := 56) dX12_noPart_4 rfl (by decide) rfl rfl rfl cb_12 (by decide) gw_1605 ?_
  refine aw_iconst (v := 0) dX12_noPart_7 rfl (by decide) ?_
  refine aw_iald dX12_noPart_8 rfl (by decide) rfl (by unfold vp_in; decide) ?_
  refine aw_iconst (v := 1) dX12_noPart_9 rfl (by decide) ?_
  refine aw_isub dX12_noPart_10 rfl ?_
  refine aw_callS (M' := mX12_in) (S := [vR 12 0]) (as := [vI a1, vI 0, vI ((h.1 56 0 0) - 1)]) (k := 0) dX12_noPart_11 rfl gw_1713 gw_1714 mb_X12_in rfl (Nat.zero_le _) (Nat.le_of_ble_eq_true rfl) rfl (CL.imp k (fun _ h1 k => ?_) (fun _ _ k => k))
  obtain ⟨r2, rfl, k⟩ := oI_of k
  show AW X (d + 1) rb mX12_noPart 14 _ [vI r2, vR 12 0] h1 Qr Qx
  have kk : AW X (d + 1) rb mX12_noPart 22 [(0, vR 12 0), (1, vI a1)] [vI (if ¬ r2 = 0 then (0 : Int32) else 1), vR 12 0] h1 Qr Qx := by
    refine aw_iconst (v := 1) dX12_noPart_22 rfl (by decide) ?_
    refine aw_callV (M' := mX12_throwsIf) (S := []) (as := [vI (if ¬ r2 = 0 then (0 : Int32) else 1), vI 1]) (k := 0) dX12_noPart_23 rfl (by decide) rfl rfl gw_1748 gw_1750 gw_48 mb_X12_throwsIf rfl (Nat.zero_le _) (Nat.le_of_ble_eq_true rfl) rfl (CL.imp k (fun _ h3 k => ?_) (fun _ _ k => k))
    obtain ⟨r4, rfl, k⟩ := oI_of k
    show AW X (d + 1) rb mX12_noPart 26 _ [vI r4] h3 Qr Qx
    exact aw_zret dX12_noPart_26 rfl k.1 k.2
  refine aw_if_ne 21 dX12_noPart_14 rfl rfl (fun (c0 : ¬ r2 = 0) => ?_) (fun (c0 : r2 = 0) => ?_)
  · refine aw_iconst (v := 0) dX12_noPart_21 rfl (by decide) ?_
    simp only [if_pos c0] at kk
    exact kk
  · refine aw_iconst (v := 1) dX12_noPart_17 rfl (by decide) ?_
    refine aw_goto 22 dX12_noPart_18 rfl ?_
    simp only [if_neg (oa_nn c0)] at kk
    exact kk
set_option maxHeartbeats 4000000 in
set_option maxRecDepth 100000 in
theorem vc_X12_noProduct_0 {X : WD → State → Prop} {d rb : Nat} {h : Hp} {Qr : Option AV → Hp → Prop} {Qx : String → Hp → Prop} {a1 : Int32}  (k : CL 0 d mX12_in [vI a1, vI 0, vI ((h.1 56 0 1) - 1)] h (oI fun r2 h1 => CL 0 d mX12_throwsIf [vR 12 0, vI (if ¬ r2 = 0 then (0 : Int32) else 1), vI 1] h1 (oI fun r4 h3 => (r4 = 0 ∨ r4 = 1) ∧ Qr (some (vI r4)) h3) Qx) Qx) : AW X (d + 1) rb mX12_noProduct 0 [(0, vR 12 0), (1, vI a1)] [] h Qr Qx := by
  refine aw_aload_n (j := 0) (i := 0) dX12_noProduct_0 rfl rfl rfl ?_
  refine aw_iload_n (j := 1) (i := 1) dX12_noProduct_1 rfl rfl rfl ?_
  refine aw_iconst (v := 0) dX12_noProduct_2 rfl (by decide) ?_
  refine aw_aload_n (j := 0) (i := 0) dX12_noProduct_3 rfl rfl rfl ?_
  refine aw_getf (k := 11) (z := 56) dX12_noProduct_4 rfl (by decide) rfl rfl rfl cb_12 (by decide) gw_1605 ?_
  refine aw_iconst (v := 1) dX12_noProduct_7 rfl (by decide) ?_
  refine aw_iald dX12_noProduct_8 rfl (by decide) rfl (by unfold vp_in; decide) ?_
  refine aw_iconst (v := 1) dX12_noProduct_9 rfl (by decide) ?_
  refine aw_isub dX12_noProduct_10 rfl ?_
  refine aw_callS (M' := mX12_in) (S := [vR 12 0]) (as := [vI a1, vI 0, vI ((h.1 56 0 1) - 1)]) (k := 0) dX12_noProduct_11 rfl gw_1713 gw_1714 mb_X12_in rfl (Nat.zero_le _) (Nat.le_of_ble_eq_true rfl) rfl (CL.imp k (fun _ h1 k => ?_) (fun _ _ k => k))
  obtain ⟨r2, rfl, k⟩ := oI_of k
  show AW X (d + 1) rb mX12_noProduct 14 _ [vI r2, vR 12 0] h1 Qr Qx
  have kk : AW X (d + 1) rb mX12_noProduct 22 [(0, vR 12 0), (1, vI a1)] [vI (if ¬ r2 = 0 then (0 : Int32) else 1), vR 12 0] h1 Qr Qx := by
    refine aw_iconst (v := 1) dX12_noProduct_22 rfl (by decide) ?_
    refine aw_callV (M' := mX12_throwsIf) (S := []) (as := [vI (if ¬ r2 = 0 then (0 : Int32) else 1), vI 1]) (k := 0) dX12_noProduct_23 rfl (by decide) rfl rfl gw_1748 gw_1750 gw_48 mb_X12_throwsIf rfl (Nat.zero_le _) (Nat.le_of_ble_eq_true rfl) rfl (CL.imp k (fun _ h3 k => ?_) (fun _ _ k => k))
    obtain ⟨r4, rfl, k⟩ := oI_of k
    show AW X (d + 1) rb mX12_noProduct 26 _ [vI r4] h3 Qr Qx
    exact aw_zret dX12_noProduct_26 rfl k.1 k.2
  refine aw_if_ne 21 dX12_noProduct_14 rfl rfl (fun (c0 : ¬ r2 = 0) => ?_) (fun (c0 : r2 = 0) => ?_)
  · refine aw_iconst (v := 0) dX12_noProduct_21 rfl (by decide) ?_
    simp only [if_pos c0] at kk
    exact kk
  · refine aw_iconst (v := 1) dX12_noProduct_17 rfl (by decide) ?_
    refine aw_goto 22 dX12_noProduct_18 rfl ?_
    simp only [if_neg (oa_nn c0)] at kk
    exact kk
set_option maxHeartbeats 4000000 in
set_option maxRecDepth 100000 in
theorem vc_X12_noOrder_0 {X : WD → State → Prop} {d rb : Nat} {h : Hp} {Qr : Option AV → Hp → Prop} {Qx : String → Hp → Prop} {a1 : Int32}  (k : CL 0 d mX12_in [vI a1, vI 0, vI ((h.1 58 0 1) - 1)] h (oI fun r2 h1 => CL 0 d mX12_throwsIf [vR 12 0, vI (if ¬ r2 = 0 then (0 : Int32) else 1), vI 1] h1 (oI fun r4 h3 => (r4 = 0 ∨ r4 = 1) ∧ Qr (some (vI r4)) h3) Qx) Qx) : AW X (d + 1) rb mX12_noOrder 0 [(0, vR 12 0), (1, vI a1)] [] h Qr Qx := by
  refine aw_aload_n (j := 0) (i := 0) dX12_noOrder_0 rfl rfl rfl ?_
  refine aw_iload_n (j := 1) (i := 1) dX12_noOrder_1 rfl rfl rfl ?_
  refine aw_iconst (v := 0) dX12_noOrder_2 rfl (by decide) ?_
  refine aw_aload_n (j := 0) (i := 0) dX12_noOrder_3 rfl rfl rfl ?_
  refine aw_getf (k := 14) (z := 58) dX12_noOrder_4 rfl (by decide) rfl rfl rfl cb_12 (by decide) gw_1608 ?_
  refine aw_iconst (v := 1) dX12_noOrder_7 rfl (by decide) ?_
  refine aw_iald dX12_noOrder_8 rfl (by decide) rfl (by unfold vp_in; decide) ?_
  refine aw_iconst (v := 1) dX12_noOrder_9 rfl (by decide) ?_
  refine aw_isub dX12_noOrder_10 rfl ?_
  refine aw_callS (M' := mX12_in) (S := [vR 12 0]) (as := [vI a1, vI 0, vI ((h.1 58 0 1) - 1)]) (k := 0) dX12_noOrder_11 rfl gw_1713 gw_1714 mb_X12_in rfl (Nat.zero_le _) (Nat.le_of_ble_eq_true rfl) rfl (CL.imp k (fun _ h1 k => ?_) (fun _ _ k => k))
  obtain ⟨r2, rfl, k⟩ := oI_of k
  show AW X (d + 1) rb mX12_noOrder 14 _ [vI r2, vR 12 0] h1 Qr Qx
  have kk : AW X (d + 1) rb mX12_noOrder 22 [(0, vR 12 0), (1, vI a1)] [vI (if ¬ r2 = 0 then (0 : Int32) else 1), vR 12 0] h1 Qr Qx := by
    refine aw_iconst (v := 1) dX12_noOrder_22 rfl (by decide) ?_
    refine aw_callV (M' := mX12_throwsIf) (S := []) (as := [vI (if ¬ r2 = 0 then (0 : Int32) else 1), vI 1]) (k := 0) dX12_noOrder_23 rfl (by decide) rfl rfl gw_1748 gw_1750 gw_48 mb_X12_throwsIf rfl (Nat.zero_le _) (Nat.le_of_ble_eq_true rfl) rfl (CL.imp k (fun _ h3 k => ?_) (fun _ _ k => k))
    obtain ⟨r4, rfl, k⟩ := oI_of k
    show AW X (d + 1) rb mX12_noOrder 26 _ [vI r4] h3 Qr Qx
    exact aw_zret dX12_noOrder_26 rfl k.1 k.2
  refine aw_if_ne 21 dX12_noOrder_14 rfl rfl (fun (c0 : ¬ r2 = 0) => ?_) (fun (c0 : r2 = 0) => ?_)
  · refine aw_iconst (v := 0) dX12_noOrder_21 rfl (by decide) ?_
    simp only [if_pos c0] at kk
    exact kk
  · refine aw_iconst (v := 1) dX12_noOrder_17 rfl (by decide) ?_
    refine aw_goto 22 dX12_noOrder_18 rfl ?_
    simp only [if_neg (oa_nn c0)] at kk
    exact kk
set_option maxHeartbeats 4000000 in
set_option maxRecDepth 100000 in
theorem vc_X12_needs_0 {X : WD → State → Prop} {d rb : Nat} {h : Hp} {Qr : Option AV → Hp → Prop} {Qx : String → Hp → Prop} {a1 : Int32} {a2 : Int32}  (k : (vp_in ((292 + (12 * a1)) + a2) 506) ∧ Qr (some (vI (h.1 56 0 (((292 + (12 * a1)) + a2).toNatClampNeg)))) h) : AW X (d + 1) rb mX12_needs 0 [(0, vR 12 0), (1, vI a1), (2, vI a2)] [] h Qr Qx := by
  refine aw_aload_n (j := 0) (i := 0) dX12_needs_0 rfl rfl rfl ?_
  refine aw_getf (k := 11) (z := 56) dX12_needs_1 rfl (by decide) rfl rfl rfl cb_12 (by decide) gw_1605 ?_
  refine aw_sipush (v := 292) dX12_needs_4 rfl (by decide) ?_
  refine aw_bipush (v := 12) dX12_needs_7 rfl (by decide) ?_
  refine aw_iload_n (j := 1) (i := 1) dX12_needs_9 rfl rfl rfl ?_
  refine aw_imul dX12_needs_10 rfl ?_
  refine aw_iadd dX12_needs_11 rfl ?_
  refine aw_iload_n (j := 2) (i := 2) dX12_needs_12 rfl rfl rfl ?_
  refine aw_iadd dX12_needs_13 rfl ?_
  refine aw_iald dX12_needs_14 rfl (by decide) rfl k.1 ?_
  replace k := k.2
  exact aw_iret dX12_needs_15 rfl k
set_option maxHeartbeats 4000000 in
set_option maxRecDepth 100000 in
theorem vc_X12_free_0 {X : WD → State → Prop} {d rb : Nat} {h : Hp} {Qr : Option AV → Hp → Prop} {Qx : String → Hp → Prop} {a1 : Int32}  (k : (vp_in (9 + a1) 301) ∧ (vp_in (21 + a1) 301) ∧ Qr (some (vI ((h.1 58 0 ((9 + a1).toNatClampNeg)) - (h.1 58 0 ((21 + a1).toNatClampNeg))))) h) : AW X (d + 1) rb mX12_free 0 [(0, vR 12 0), (1, vI a1)] [] h Qr Qx := by
  refine aw_aload_n (j := 0) (i := 0) dX12_free_0 rfl rfl rfl ?_
  refine aw_getf (k := 14) (z := 58) dX12_free_1 rfl (by decide) rfl rfl rfl cb_12 (by decide) gw_1608 ?_
  refine aw_bipush (v := 9) dX12_free_4 rfl (by decide) ?_
  refine aw_iload_n (j := 1) (i := 1) dX12_free_6 rfl rfl rfl ?_
  refine aw_iadd dX12_free_7 rfl ?_
  refine aw_iald dX12_free_8 rfl (by decide) rfl k.1 ?_
  replace k := k.2
  refine aw_aload_n (j := 0) (i := 0) dX12_free_9 rfl rfl rfl ?_
  refine aw_getf (k := 14) (z := 58) dX12_free_10 rfl (by decide) rfl rfl rfl cb_12 (by decide) gw_1608 ?_
  refine aw_bipush (v := 21) dX12_free_13 rfl (by decide) ?_
  refine aw_iload_n (j := 1) (i := 1) dX12_free_15 rfl rfl rfl ?_
  refine aw_iadd dX12_free_16 rfl ?_
  refine aw_iald dX12_free_17 rfl (by decide) rfl k.1 ?_
  replace k := k.2
  refine aw_isub dX12_free_18 rfl ?_
  exact aw_iret dX12_free_19 rfl k
set_option maxHeartbeats 4000000 in
set_option maxRecDepth 100000 in
theorem vc_X12_of_0 {X : WD → State → Prop} {d rb : Nat} {h : Hp} {Qr : Option AV → Hp → Prop} {Qx : String → Hp → Prop} {a1 : Int32} {a2 : Int32}  (k : (vp_in ((93 + (8 * a1)) + a2) 301) ∧ Qr (some (vI (h.1 58 0 (((93 + (8 * a1)) + a2).toNatClampNeg)))) h) : AW X (d + 1) rb mX12_of 0 [(0, vR 12 0), (1, vI a1), (2, vI a2)] [] h Qr Qx := by
  refine aw_aload_n (j := 0) (i := 0) dX12_of_0 rfl rfl rfl ?_
  refine aw_getf (k := 14) (z := 58) dX12_of_1 rfl (by decide) rfl rfl rfl cb_12 (by decide) gw_1608 ?_
  refine aw_bipush (v := 93) dX12_of_4 rfl (by decide) ?_
  refine aw_bipush (v := 8) dX12_of_6 rfl (by decide) ?_
  refine aw_iload_n (j := 1) (i := 1) dX12_of_8 rfl rfl rfl ?_
  refine aw_imul dX12_of_9 rfl ?_
  refine aw_iadd dX12_of_10 rfl ?_
  refine aw_iload_n (j := 2) (i := 2) dX12_of_11 rfl rfl rfl ?_
  refine aw_iadd dX12_of_12 rfl ?_
  refine aw_iald dX12_of_13 rfl (by decide) rfl k.1 ?_
  replace k := k.2
  exact aw_iret dX12_of_14 rfl k
set_option maxHeartbeats 4000000 in
set_option maxRecDepth 100000 in
theorem vc_X12_grows_0 {X : WD → State → Prop} {d rb : Nat} {h : Hp} {Qr : Option AV → Hp → Prop} {Qx : String → Hp → Prop} {a1 : Int32} {a2 : Int32} {a3 : Int32}  (k : (vp_in ((93 + (8 * a1)) + a2) 301) ∧ (vp_in ((93 + (8 * a1)) + a2) 301) ∧ Qr none (hp_i h 58 0 (((93 + (8 * a1)) + a2).toNatClampNeg) ((h.1 58 0 (((93 + (8 * a1)) + a2).toNatClampNeg)) + a3))) : AW X (d + 1) rb mX12_grows 0 [(0, vR 12 0), (1, vI a1), (2, vI a2), (3, vI a3)] [] h Qr Qx := by
  refine aw_aload_n (j := 0) (i := 0) dX12_grows_0 rfl rfl rfl ?_
  refine aw_getf (k := 14) (z := 58) dX12_grows_1 rfl (by decide) rfl rfl rfl cb_12 (by decide) gw_1608 ?_
  refine aw_bipush (v := 93) dX12_grows_4 rfl (by decide) ?_
  refine aw_bipush (v := 8) dX12_grows_6 rfl (by decide) ?_
  refine aw_iload_n (j := 1) (i := 1) dX12_grows_8 rfl rfl rfl ?_
  refine aw_imul dX12_grows_9 rfl ?_
  refine aw_iadd dX12_grows_10 rfl ?_
  refine aw_iload_n (j := 2) (i := 2) dX12_grows_11 rfl rfl rfl ?_
  refine aw_iadd dX12_grows_12 rfl ?_
  refine aw_dup2 dX12_grows_13 rfl rfl rfl ?_
  refine aw_iald dX12_grows_14 rfl (by decide) rfl k.1 ?_
  replace k := k.2
  refine aw_iload_n (j := 3) (i := 3) dX12_grows_15 rfl rfl rfl ?_
  refine aw_iadd dX12_grows_16 rfl ?_
  refine aw_iast dX12_grows_17 rfl (by decide) rfl k.1 ?_
  replace k := k.2
  exact aw_vret dX12_grows_18 rfl k
set_option maxHeartbeats 4000000 in
set_option maxRecDepth 100000 in
theorem vc_X12_open_0 {X : WD → State → Prop} {d rb : Nat} {h : Hp} {Qr : Option AV → Hp → Prop} {Qx : String → Hp → Prop} {a1 : Int32}  (k : CL 0 d mX12_of [vR 12 0, vI a1, vI 7] h (oI fun r2 h1 => ((¬ r2 = 1) → CL 0 d mX12_of [vR 12 0, vI a1, vI 1] h1 (oI fun r4 h3 => CL 0 d mX12_of [vR 12 0, vI a1, vI 5] h3 (oI fun r6 h5 => CL 0 d mX12_of [vR 12 0, vI a1, vI 6] h5 (oI fun r8 h7 => Qr (some (vI ((r4 - r6) - r8))) h7) Qx) Qx) Qx) ∧ ((r2 = 1) → Qr (some (vI 0)) h1)) Qx) : AW X (d + 1) rb mX12_open 0 [(0, vR 12 0), (1, vI a1)] [] h Qr Qx := by
  refine aw_aload_n (j := 0) (i := 0) dX12_open_0 rfl rfl rfl ?_
  refine aw_iload_n (j := 1) (i := 1) dX12_open_1 rfl rfl rfl ?_
  refine aw_bipush (v := 7) dX12_open_2 rfl (by decide) ?_
  refine aw_callV (M' := mX12_of) (S := []) (as := [vI a1, vI 7]) (k := 0) dX12_open_4 rfl (by decide) rfl rfl gw_1871 gw_1873 gw_58 mb_X12_of rfl (Nat.zero_le _) (Nat.le_of_ble_eq_true rfl) rfl (CL.imp k (fun _ h1 k => ?_) (fun _ _ k => k))
  obtain ⟨r2, rfl, k⟩ := oI_of k
  show AW X (d + 1) rb mX12_open 7 _ [vI r2] h1 Qr Qx
  refine aw_iconst (v := 1) dX12_open_7 rfl (by decide) ?_
  refine aw_icmp_ne 15 dX12_open_8 rfl rfl (fun c => ?_) (fun c => ?_)
  · replace k := k.1 c
    refine aw_aload_n (j := 0) (i := 0) dX12_open_15 rfl rfl rfl ?_
    refine aw_iload_n (j := 1) (i := 1) dX12_open_16 rfl rfl rfl ?_
    refine aw_iconst (v := 1) dX12_open_17 rfl (by decide) ?_
    refine aw_callV (M' := mX12_of) (S := []) (as := [vI a1, vI 1]) (k := 0) dX12_open_18 rfl (by decide) rfl rfl gw_1871 gw_1873 gw_58 mb_X12_of rfl (Nat.zero_le _) (Nat.le_of_ble_eq_true rfl) rfl (CL.imp k (fun _ h3 k => ?_) (fun _ _ k => k))
    obtain ⟨r4, rfl, k⟩ := oI_of k
    show AW X (d + 1) rb mX12_open 21 _ [vI r4] h3 Qr Qx
    refine aw_aload_n (j := 0) (i := 0) dX12_open_21 rfl rfl rfl ?_
    refine aw_iload_n (j := 1) (i := 1) dX12_open_22 rfl rfl rfl ?_
    refine aw_iconst (v := 5) dX12_open_23 rfl (by decide) ?_
    refine aw_callV (M' := mX12_of) (S := [vI r4]) (as := [vI a1, vI 5]) (k := 0) dX12_open_24 rfl (by decide) rfl rfl gw_1871 gw_1873 gw_58 mb_X12_of rfl (Nat.zero_le _) (Nat.le_of_ble_eq_true rfl) rfl (CL.imp k (fun _ h5 k => ?_) (fun _ _ k => k))
    obtain ⟨r6, rfl, k⟩ := oI_of k
    show AW X (d + 1) rb mX12_open 27 _ [vI r6, vI r4] h5 Qr Qx
    refine aw_isub dX12_open_27 rfl ?_
    refine aw_aload_n (j := 0) (i := 0) dX12_open_28 rfl rfl rfl ?_
    refine aw_iload_n (j := 1) (i := 1) dX12_open_29 rfl rfl rfl ?_
    refine aw_bipush (v := 6) dX12_open_30 rfl (by decide) ?_
    refine aw_callV (M' := mX12_of) (S := [vI (r4 - r6)]) (as := [vI a1, vI 6]) (k := 0) dX12_open_32 rfl (by decide) rfl rfl gw_1871 gw_1873 gw_58 mb_X12_of rfl (Nat.zero_le _) (Nat.le_of_ble_eq_true rfl) rfl (CL.imp k (fun _ h7 k => ?_) (fun _ _ k => k))
    obtain ⟨r8, rfl, k⟩ := oI_of k
    show AW X (d + 1) rb mX12_open 35 _ [vI r8, vI (r4 - r6)] h7 Qr Qx
    refine aw_isub dX12_open_35 rfl ?_
    exact aw_iret dX12_open_36 rfl k
  · replace k := k.2 c
    refine aw_iconst (v := 0) dX12_open_11 rfl (by decide) ?_
    refine aw_goto 36 dX12_open_12 rfl ?_
    exact aw_iret dX12_open_36 rfl k
set_option maxHeartbeats 4000000 in
set_option maxRecDepth 100000 in
theorem vc_X12_count_0 {X : WD → State → Prop} {d rb : Nat} {h : Hp} {Qr : Option AV → Hp → Prop} {Qx : String → Hp → Prop} {a1 : Int32}  (k : ((a1 < 0 ∨ 4 < a1) → Qr (some (vI (-1))) (hp_i h 12 0 0 0)) ∧ ((a1 = 0) → Qr (some (vI (h.1 56 0 0))) (hp_i h 12 0 0 0)) ∧ ((a1 = 1) → Qr (some (vI (h.1 56 0 1))) (hp_i h 12 0 0 0)) ∧ ((a1 = 2) → Qr (some (vI (h.1 58 0 1))) (hp_i h 12 0 0 0)) ∧ ((a1 = 3) → Qr (some (vI (h.1 56 0 2))) (hp_i h 12 0 0 0)) ∧ ((a1 = 4) → Qr (some (vI (h.1 58 0 2))) (hp_i h 12 0 0 0))) : AW X (d + 1) rb mX12_count 0 [(0, vR 12 0), (1, vI a1)] [] h Qr Qx := by
  refine aw_aload_n (j := 0) (i := 0) dX12_count_0 rfl rfl rfl ?_
  refine aw_iconst (v := 0) dX12_count_1 rfl (by decide) ?_
  refine aw_puti (k := 0) dX12_count_2 rfl (by decide) rfl rfl cb_12 (by decide) rfl rfl gw_1594 ?_
  refine aw_iload_n (j := 1) (i := 1) dX12_count_5 rfl rfl rfl ?_
  rcases oa_sw 4 (by decide) a1 with hz | ⟨jj, hj, hz⟩
  · replace k := k.1 hz
    refine aw_tabOut 75 dX12_count_6 (oa_swo rfl hz) rfl ?_
    refine aw_iconst (v := (-1)) dX12_count_75 rfl (by decide) ?_
    exact aw_iret dX12_count_76 rfl k
  · replace k := k.2
    rcases (show jj = 0 ∨ jj = 1 ∨ jj = 2 ∨ jj = 3 ∨ jj = 4 by omega) with rfl | rfl | rfl | rfl | rfl
    · replace hz : a1 = 0 := hz
      replace k := k.1 hz
      refine aw_tabIn (z := 34) 40 dX12_count_6 (by rw [hz]; decide) (by rw [hz]; decide) (by rw [hz]; rfl) rfl ?_
      refine aw_aload_n (j := 0) (i := 0) dX12_count_40 rfl rfl rfl ?_
      refine aw_getf (k := 11) (z := 56) dX12_count_41 rfl (by decide) rfl rfl rfl cb_12 (by decide) gw_1605 ?_
      refine aw_iconst (v := 0) dX12_count_44 rfl (by decide) ?_
      refine aw_iald dX12_count_45 rfl (by decide) rfl (by unfold vp_in; decide) ?_
      exact aw_iret dX12_count_46 rfl k
    · replace hz : a1 = 1 := hz
      replace k := k.2.1 hz
      refine aw_tabIn (z := 41) 47 dX12_count_6 (by rw [hz]; decide) (by rw [hz]; decide) (by rw [hz]; rfl) rfl ?_
      refine aw_aload_n (j := 0) (i := 0) dX12_count_47 rfl rfl rfl ?_
      refine aw_getf (k := 11) (z := 56) dX12_count_48 rfl (by decide) rfl rfl rfl cb_12 (by decide) gw_1605 ?_
      refine aw_iconst (v := 1) dX12_count_51 rfl (by decide) ?_
      refine aw_iald dX12_count_52 rfl (by decide) rfl (by unfold vp_in; decide) ?_
      exact aw_iret dX12_count_53 rfl k
    · replace hz : a1 = 2 := hz
      replace k := k.2.2.1 hz
      refine aw_tabIn (z := 48) 54 dX12_count_6 (by rw [hz]; decide) (by rw [hz]; decide) (by rw [hz]; rfl) rfl ?_
      refine aw_aload_n (j := 0) (i := 0) dX12_count_54 rfl rfl rfl ?_
      refine aw_getf (k := 14) (z := 58) dX12_count_55 rfl (by decide) rfl rfl rfl cb_12 (by decide) gw_1608 ?_
      refine aw_iconst (v := 1) dX12_count_58 rfl (by decide) ?_
      refine aw_iald dX12_count_59 rfl (by decide) rfl (by unfold vp_in; decide) ?_
      exact aw_iret dX12_count_60 rfl k
    · replace hz : a1 = 3 := hz
      replace k := k.2.2.2.1 hz
      refine aw_tabIn (z := 55) 61 dX12_count_6 (by rw [hz]; decide) (by rw [hz]; decide) (by rw [hz]; rfl) rfl ?_
      refine aw_aload_n (j := 0) (i := 0) dX12_count_61 rfl rfl rfl ?_
      refine aw_getf (k := 11) (z := 56) dX12_count_62 rfl (by decide) rfl rfl rfl cb_12 (by decide) gw_1605 ?_
      refine aw_iconst (v := 2) dX12_count_65 rfl (by decide) ?_
      refine aw_iald dX12_count_66 rfl (by decide) rfl (by unfold vp_in; decide) ?_
      exact aw_iret dX12_count_67 rfl k
    · replace hz : a1 = 4 := hz
      replace k := k.2.2.2.2 hz
      refine aw_tabIn (z := 62) 68 dX12_count_6 (by rw [hz]; decide) (by rw [hz]; decide) (by rw [hz]; rfl) rfl ?_
      refine aw_aload_n (j := 0) (i := 0) dX12_count_68 rfl rfl rfl ?_
      refine aw_getf (k := 14) (z := 58) dX12_count_69 rfl (by decide) rfl rfl rfl cb_12 (by decide) gw_1608 ?_
      refine aw_iconst (v := 2) dX12_count_72 rfl (by decide) ?_
      refine aw_iald dX12_count_73 rfl (by decide) rfl (by unfold vp_in; decide) ?_
      exact aw_iret dX12_count_74 rfl k
set_option maxHeartbeats 4000000 in
set_option maxRecDepth 100000 in
theorem vc_X12_lineCount_0 {X : WD → State → Prop} {d rb : Nat} {h : Hp} {Qr : Option AV → Hp → Prop} {Qx : String → Hp → Prop} {a1 : Int32}  (k : CL 0 d mX12_noProduct [vR 12 0, vI a1] (hp_i h 12 0 0 0) (oI fun r2 h1 => ((r2 = 0) → (vp_in (188 + a1) 506) ∧ Qr (some (vI (h1.1 56 0 ((188 + a1).toNatClampNeg)))) h1) ∧ ((¬ r2 = 0) → Qr (some (vI 0)) h1)) Qx) : AW X (d + 1) rb mX12_lineCount 0 [(0, vR 12 0), (1, vI a1)] [] h Qr Qx := by
  refine aw_aload_n (j := 0) (i := 0) dX12_lineCount_0 rfl rfl rfl ?_
  refine aw_iconst (v := 0) dX12_lineCount_1 rfl (by decide) ?_
  refine aw_puti (k := 0) dX12_lineCount_2 rfl (by decide) rfl rfl cb_12 (by decide) rfl rfl gw_1594 ?_
  refine aw_aload_n (j := 0) (i := 0) dX12_lineCount_5 rfl rfl rfl ?_
  refine aw_iload_n (j := 1) (i := 1) dX12_lineCount_6 rfl rfl rfl ?_
  refine aw_callV (M' := mX12_noProduct) (S := []) (as := [vI a1]) (k := 0) dX12_lineCount_7 rfl (by decide) rfl rfl gw_1768 gw_1770 gw_49 mb_X12_noProduct rfl (Nat.zero_le _) (Nat.le_of_ble_eq_true rfl) rfl (CL.imp k (fun _ h1 k => ?_) (fun _ _ k => k))
  obtain ⟨r2, rfl, k⟩ := oI_of k
  show AW X (d + 1) rb mX12_lineCount 10 _ [vI r2] h1 Qr Qx
  refine aw_if_eq 17 dX12_lineCount_10 rfl rfl (fun c => ?_) (fun c => ?_)
  · replace k := k.1 c
    refine aw_aload_n (j := 0) (i := 0) dX12_lineCount_17 rfl rfl rfl ?_
    refine aw_getf (k := 11) (z := 56) dX12_lineCount_18 rfl (by decide) rfl rfl rfl cb_12 (by decide) gw_1605 ?_
    refine aw_sipush (v := 188) dX12_lineCount_21 rfl (by decide) ?_
    refine aw_iload_n (j := 1) (i := 1) dX12_lineCount_24 rfl rfl rfl ?_
    refine aw_iadd dX12_lineCount_25 rfl ?_
    refine aw_iald dX12_lineCount_26 rfl (by decide) rfl k.1 ?_
    replace k := k.2
    exact aw_iret dX12_lineCount_27 rfl k
  · replace k := k.2 c
    refine aw_iconst (v := 0) dX12_lineCount_13 rfl (by decide) ?_
    refine aw_goto 27 dX12_lineCount_14 rfl ?_
    exact aw_iret dX12_lineCount_27 rfl k
set_option maxHeartbeats 4000000 in
set_option maxRecDepth 100000 in
theorem vc_X12_lineItem_0 {X : WD → State → Prop} {d rb : Nat} {h : Hp} {Qr : Option AV → Hp → Prop} {Qx : String → Hp → Prop} {a1 : Int32} {a2 : Int32}  (k : CL 0 d mX12_noProduct [vR 12 0, vI a1] (hp_i h 12 0 0 0) (oI fun r2 h1 => ((r2 = 0) → (vp_in (188 + a1) 506) ∧ CL 0 d mX12_in [vI a2, vI 0, vI ((h1.1 56 0 ((188 + a1).toNatClampNeg)) - 1)] h1 (oI fun r4 h3 => ((¬ r4 = 0) → (vp_in ((196 + (6 * a1)) + a2) 506) ∧ Qr (some (vI (if 12 ≤ (h3.1 56 0 (((196 + (6 * a1)) + a2).toNatClampNeg)) then (((100 + (h3.1 56 0 (((196 + (6 * a1)) + a2).toNatClampNeg))) - 12) : Int32) else (h3.1 56 0 (((196 + (6 * a1)) + a2).toNatClampNeg))))) h3) ∧ ((r4 = 0) → Qr (some (vI (-1))) h3)) Qx) ∧ ((¬ r2 = 0) → Qr (some (vI 0)) h1)) Qx) : AW X (d + 1) rb mX12_lineItem 0 [(0, vR 12 0), (1, vI a1), (2, vI a2)] [] h Qr Qx := by
  refine aw_aload_n (j := 0) (i := 0) dX12_lineItem_0 rfl rfl rfl ?_
  refine aw_iconst (v := 0) dX12_lineItem_1 rfl (by decide) ?_
  refine aw_puti (k := 0) dX12_lineItem_2 rfl (by decide) rfl rfl cb_12 (by decide) rfl rfl gw_1594 ?_
  refine aw_aload_n (j := 0) (i := 0) dX12_lineItem_5 rfl rfl rfl ?_
  refine aw_iload_n (j := 1) (i := 1) dX12_lineItem_6 rfl rfl rfl ?_
  refine aw_callV (M' := mX12_noProduct) (S := []) (as := [vI a1]) (k := 0) dX12_lineItem_7 rfl (by decide) rfl rfl gw_1768 gw_1770 gw_49 mb_X12_noProduct rfl (Nat.zero_le _) (Nat.le_of_ble_eq_true rfl) rfl (CL.imp k (fun _ h1 k => ?_) (fun _ _ k => k))
  obtain ⟨r2, rfl, k⟩ := oI_of k
  show AW X (d + 1) rb mX12_lineItem 10 _ [vI r2] h1 Qr Qx
  refine aw_if_eq 15 dX12_lineItem_10 rfl rfl (fun c => ?_) (fun c => ?_)
  · replace k := k.1 c
    refine aw_iload_n (j := 2) (i := 2) dX12_lineItem_15 rfl rfl rfl ?_
    refine aw_iconst (v := 0) dX12_lineItem_16 rfl (by decide) ?_
    refine aw_aload_n (j := 0) (i := 0) dX12_lineItem_17 rfl rfl rfl ?_
    refine aw_getf (k := 11) (z := 56) dX12_lineItem_18 rfl (by decide) rfl rfl rfl cb_12 (by decide) gw_1605 ?_
    refine aw_sipush (v := 188) dX12_lineItem_21 rfl (by decide) ?_
    refine aw_iload_n (j := 1) (i := 1) dX12_lineItem_24 rfl rfl rfl ?_
    refine aw_iadd dX12_lineItem_25 rfl ?_
    refine aw_iald dX12_lineItem_26 rfl (by decide) rfl k.1 ?_
    replace k := k.2
    refine aw_iconst (v := 1) dX12_lineItem_27 rfl (by decide) ?_
    refine aw_isub dX12_lineItem_28 rfl ?_
    refine aw_callS (M' := mX12_in) (S := []) (as := [vI a2, vI 0, vI ((h1.1 56 0 ((188 + a1).toNatClampNeg)) - 1)]) (k := 0) dX12_lineItem_29 rfl gw_1713 gw_1714 mb_X12_in rfl (Nat.zero_le _) (Nat.le_of_ble_eq_true rfl) rfl (CL.imp k (fun _ h3 k => ?_) (fun _ _ k => k))
    obtain ⟨r4, rfl, k⟩ := oI_of k
    show AW X (d + 1) rb mX12_lineItem 32 _ [vI r4] h3 Qr Qx
    refine aw_if_ne 37 dX12_lineItem_32 rfl rfl (fun c => ?_) (fun c => ?_)
    · replace k := k.1 c
      refine aw_aload_n (j := 0) (i := 0) dX12_lineItem_37 rfl rfl rfl ?_
      refine aw_getf (k := 11) (z := 56) dX12_lineItem_38 rfl (by decide) rfl rfl rfl cb_12 (by decide) gw_1605 ?_
      refine aw_sipush (v := 196) dX12_lineItem_41 rfl (by decide) ?_
      refine aw_bipush (v := 6) dX12_lineItem_44 rfl (by decide) ?_
      refine aw_iload_n (j := 1) (i := 1) dX12_lineItem_46 rfl rfl rfl ?_
      refine aw_imul dX12_lineItem_47 rfl ?_
      refine aw_iadd dX12_lineItem_48 rfl ?_
      refine aw_iload_n (j := 2) (i := 2) dX12_lineItem_49 rfl rfl rfl ?_
      refine aw_iadd dX12_lineItem_50 rfl ?_
      refine aw_iald dX12_lineItem_51 rfl (by decide) rfl k.1 ?_
      replace k := k.2
      refine aw_istore_n (i := 3) (L2 := [(3, vI (h3.1 56 0 (((196 + (6 * a1)) + a2).toNatClampNeg))), (0, vR 12 0), (1, vI a1), (2, vI a2)]) dX12_lineItem_52 rfl rfl (by decide) rfl ?_
      refine aw_iload_n (j := 0) (i := 3) dX12_lineItem_53 rfl rfl rfl ?_
      refine aw_bipush (v := 12) dX12_lineItem_54 rfl (by decide) ?_
      have kk : AW X (d + 1) rb mX12_lineItem 70 [(3, vI (h3.1 56 0 (((196 + (6 * a1)) + a2).toNatClampNeg))), (0, vR 12 0), (1, vI a1), (2, vI a2)] [vI (if 12 ≤ (h3.1 56 0 (((196 + (6 * a1)) + a2).toNatClampNeg)) then (((100 + (h3.1 56 0 (((196 + (6 * a1)) + a2).toNatClampNeg))) - 12) : Int32) else (h3.1 56 0 (((196 + (6 * a1)) + a2).toNatClampNeg)))] h3 Qr Qx := by
        exact aw_iret dX12_lineItem_70 rfl k
      refine aw_icmp_ge 63 dX12_lineItem_56 rfl rfl (fun (c0 : 12 ≤ (h3.1 56 0 (((196 + (6 * a1)) + a2).toNatClampNeg))) => ?_) (fun (c0 : ¬ 12 ≤ (h3.1 56 0 (((196 + (6 * a1)) + a2).toNatClampNeg))) => ?_)
      · refine aw_bipush (v := 100) dX12_lineItem_63 rfl (by decide) ?_
        refine aw_iload_n (j := 0) (i := 3) dX12_lineItem_65 rfl rfl rfl ?_
        refine aw_iadd dX12_lineItem_66 rfl ?_
        refine aw_bipush (v := 12) dX12_lineItem_67 rfl (by decide) ?_
        refine aw_isub dX12_lineItem_69 rfl ?_
        simp only [if_pos c0] at kk
        exact kk
      · refine aw_iload_n (j := 0) (i := 3) dX12_lineItem_59 rfl rfl rfl ?_
        refine aw_goto 70 dX12_lineItem_60 rfl ?_
        simp only [if_neg c0] at kk
        exact kk
    · replace k := k.2 c
      refine aw_iconst (v := (-1)) dX12_lineItem_35 rfl (by decide) ?_
      exact aw_iret dX12_lineItem_36 rfl k
  · replace k := k.2 c
    refine aw_iconst (v := 0) dX12_lineItem_13 rfl (by decide) ?_
    exact aw_iret dX12_lineItem_14 rfl k
set_option maxHeartbeats 4000000 in
set_option maxRecDepth 100000 in
theorem vc_X12_lineQuantity_0 {X : WD → State → Prop} {d rb : Nat} {h : Hp} {Qr : Option AV → Hp → Prop} {Qx : String → Hp → Prop} {a1 : Int32} {a2 : Int32}  (k : CL 0 d mX12_noProduct [vR 12 0, vI a1] (hp_i h 12 0 0 0) (oI fun r2 h1 => ((r2 = 0) → (vp_in (188 + a1) 506) ∧ CL 0 d mX12_in [vI a2, vI 0, vI ((h1.1 56 0 ((188 + a1).toNatClampNeg)) - 1)] h1 (oI fun r4 h3 => ((r4 = 0) → Qr (some (vI (-1))) h3) ∧ ((¬ r4 = 0) → (vp_in ((244 + (6 * a1)) + a2) 506) ∧ Qr (some (vI (h3.1 56 0 (((244 + (6 * a1)) + a2).toNatClampNeg)))) h3)) Qx) ∧ ((¬ r2 = 0) → Qr (some (vI 0)) h1)) Qx) : AW X (d + 1) rb mX12_lineQuantity 0 [(0, vR 12 0), (1, vI a1), (2, vI a2)] [] h Qr Qx := by
  refine aw_aload_n (j := 0) (i := 0) dX12_lineQuantity_0 rfl rfl rfl ?_
  refine aw_iconst (v := 0) dX12_lineQuantity_1 rfl (by decide) ?_
  refine aw_puti (k := 0) dX12_lineQuantity_2 rfl (by decide) rfl rfl cb_12 (by decide) rfl rfl gw_1594 ?_
  refine aw_aload_n (j := 0) (i := 0) dX12_lineQuantity_5 rfl rfl rfl ?_
  refine aw_iload_n (j := 1) (i := 1) dX12_lineQuantity_6 rfl rfl rfl ?_
  refine aw_callV (M' := mX12_noProduct) (S := []) (as := [vI a1]) (k := 0) dX12_lineQuantity_7 rfl (by decide) rfl rfl gw_1768 gw_1770 gw_49 mb_X12_noProduct rfl (Nat.zero_le _) (Nat.le_of_ble_eq_true rfl) rfl (CL.imp k (fun _ h1 k => ?_) (fun _ _ k => k))
  obtain ⟨r2, rfl, k⟩ := oI_of k
  show AW X (d + 1) rb mX12_lineQuantity 10 _ [vI r2] h1 Qr Qx
  refine aw_if_eq 15 dX12_lineQuantity_10 rfl rfl (fun c => ?_) (fun c => ?_)
  · replace k := k.1 c
    refine aw_iload_n (j := 2) (i := 2) dX12_lineQuantity_15 rfl rfl rfl ?_
    refine aw_iconst (v := 0) dX12_lineQuantity_16 rfl (by decide) ?_
    refine aw_aload_n (j := 0) (i := 0) dX12_lineQuantity_17 rfl rfl rfl ?_
    refine aw_getf (k := 11) (z := 56) dX12_lineQuantity_18 rfl (by decide) rfl rfl rfl cb_12 (by decide) gw_1605 ?_
    refine aw_sipush (v := 188) dX12_lineQuantity_21 rfl (by decide) ?_
    refine aw_iload_n (j := 1) (i := 1) dX12_lineQuantity_24 rfl rfl rfl ?_
    refine aw_iadd dX12_lineQuantity_25 rfl ?_
    refine aw_iald dX12_lineQuantity_26 rfl (by decide) rfl k.1 ?_
    replace k := k.2
    refine aw_iconst (v := 1) dX12_lineQuantity_27 rfl (by decide) ?_
    refine aw_isub dX12_lineQuantity_28 rfl ?_
    refine aw_callS (M' := mX12_in) (S := []) (as := [vI a2, vI 0, vI ((h1.1 56 0 ((188 + a1).toNatClampNeg)) - 1)]) (k := 0) dX12_lineQuantity_29 rfl gw_1713 gw_1714 mb_X12_in rfl (Nat.zero_le _) (Nat.le_of_ble_eq_true rfl) rfl (CL.imp k (fun _ h3 k => ?_) (fun _ _ k => k))
    obtain ⟨r4, rfl, k⟩ := oI_of k
    show AW X (d + 1) rb mX12_lineQuantity 32 _ [vI r4] h3 Qr Qx
    refine aw_if_eq 53 dX12_lineQuantity_32 rfl rfl (fun c => ?_) (fun c => ?_)
    · replace k := k.1 c
      refine aw_iconst (v := (-1)) dX12_lineQuantity_53 rfl (by decide) ?_
      exact aw_iret dX12_lineQuantity_54 rfl k
    · replace k := k.2 c
      refine aw_aload_n (j := 0) (i := 0) dX12_lineQuantity_35 rfl rfl rfl ?_
      refine aw_getf (k := 11) (z := 56) dX12_lineQuantity_36 rfl (by decide) rfl rfl rfl cb_12 (by decide) gw_1605 ?_
      refine aw_sipush (v := 244) dX12_lineQuantity_39 rfl (by decide) ?_
      refine aw_bipush (v := 6) dX12_lineQuantity_42 rfl (by decide) ?_
      refine aw_iload_n (j := 1) (i := 1) dX12_lineQuantity_44 rfl rfl rfl ?_
      refine aw_imul dX12_lineQuantity_45 rfl ?_
      refine aw_iadd dX12_lineQuantity_46 rfl ?_
      refine aw_iload_n (j := 2) (i := 2) dX12_lineQuantity_47 rfl rfl rfl ?_
      refine aw_iadd dX12_lineQuantity_48 rfl ?_
      refine aw_iald dX12_lineQuantity_49 rfl (by decide) rfl k.1 ?_
      replace k := k.2
      refine aw_goto 54 dX12_lineQuantity_50 rfl ?_
      exact aw_iret dX12_lineQuantity_54 rfl k
  · replace k := k.2 c
    refine aw_iconst (v := 0) dX12_lineQuantity_13 rfl (by decide) ?_
    exact aw_iret dX12_lineQuantity_14 rfl k
set_option maxHeartbeats 4000000 in
set_option maxRecDepth 100000 in
theorem vc_X12_need_0 {X : WD → State → Prop} {d rb : Nat} {h : Hp} {Qr : Option AV → Hp → Prop} {Qx : String → Hp → Prop} {a1 : Int32} {a2 : Int32}  (k : CL 0 d mX12_noProduct [vR 12 0, vI a1] (hp_i h 12 0 0 0) (oI fun r2 h1 => ((¬ r2 = 0) → Qr (some (vI 0)) h1) ∧ ((r2 = 0) → CL 0 d mX12_noPart [vR 12 0, vI a2] h1 (oI fun r4 h3 => ((r4 = 0) → CL 0 d mX12_needs [vR 12 0, vI a1, vI a2] h3 (oI fun r6 h5 => Qr (some (vI r6)) h5) Qx) ∧ ((¬ r4 = 0) → Qr (some (vI 0)) h3)) Qx)) Qx) : AW X (d + 1) rb mX12_need 0 [(0, vR 12 0), (1, vI a1), (2, vI a2)] [] h Qr Qx := by
  refine aw_aload_n (j := 0) (i := 0) dX12_need_0 rfl rfl rfl ?_
  refine aw_iconst (v := 0) dX12_need_1 rfl (by decide) ?_
  refine aw_puti (k := 0) dX12_need_2 rfl (by decide) rfl rfl cb_12 (by decide) rfl rfl gw_1594 ?_
  refine aw_aload_n (j := 0) (i := 0) dX12_need_5 rfl rfl rfl ?_
  refine aw_iload_n (j := 1) (i := 1) dX12_need_6 rfl rfl rfl ?_
  refine aw_callV (M' := mX12_noProduct) (S := []) (as := [vI a1]) (k := 0) dX12_need_7 rfl (by decide) rfl rfl gw_1768 gw_1770 gw_49 mb_X12_noProduct rfl (Nat.zero_le _) (Nat.le_of_ble_eq_true rfl) rfl (CL.imp k (fun _ h1 k => ?_) (fun _ _ k => k))
  obtain ⟨r2, rfl, k⟩ := oI_of k
  show AW X (d + 1) rb mX12_need 10 _ [vI r2] h1 Qr Qx
  refine aw_if_ne 21 dX12_need_10 rfl rfl (fun c => ?_) (fun c => ?_)
  · replace k := k.1 c
    refine aw_iconst (v := 0) dX12_need_21 rfl (by decide) ?_
    refine aw_goto 31 dX12_need_22 rfl ?_
    exact aw_iret dX12_need_31 rfl k
  · replace k := k.2 c
    refine aw_aload_n (j := 0) (i := 0) dX12_need_13 rfl rfl rfl ?_
    refine aw_iload_n (j := 2) (i := 2) dX12_need_14 rfl rfl rfl ?_
    refine aw_callV (M' := mX12_noPart) (S := []) (as := [vI a2]) (k := 0) dX12_need_15 rfl (by decide) rfl rfl gw_1784 gw_1786 gw_50 mb_X12_noPart rfl (Nat.zero_le _) (Nat.le_of_ble_eq_true rfl) rfl (CL.imp k (fun _ h3 k => ?_) (fun _ _ k => k))
    obtain ⟨r4, rfl, k⟩ := oI_of k
    show AW X (d + 1) rb mX12_need 18 _ [vI r4] h3 Qr Qx
    refine aw_if_eq 25 dX12_need_18 rfl rfl (fun c => ?_) (fun c => ?_)
    · replace k := k.1 c
      refine aw_aload_n (j := 0) (i := 0) dX12_need_25 rfl rfl rfl ?_
      refine aw_iload_n (j := 1) (i := 1) dX12_need_26 rfl rfl rfl ?_
      refine aw_iload_n (j := 2) (i := 2) dX12_need_27 rfl rfl rfl ?_
      refine aw_callV (M' := mX12_needs) (S := []) (as := [vI a1, vI a2]) (k := 0) dX12_need_28 rfl (by decide) rfl rfl gw_1788 gw_1790 gw_51 mb_X12_needs rfl (Nat.zero_le _) (Nat.le_of_ble_eq_true rfl) rfl (CL.imp k (fun _ h5 k => ?_) (fun _ _ k => k))
      obtain ⟨r6, rfl, k⟩ := oI_of k
      show AW X (d + 1) rb mX12_need 31 _ [vI r6] h5 Qr Qx
      exact aw_iret dX12_need_31 rfl k
    · replace k := k.2 c
      refine aw_iconst (v := 0) dX12_need_21 rfl (by decide) ?_
      refine aw_goto 31 dX12_need_22 rfl ?_
      exact aw_iret dX12_need_31 rfl k
set_option maxHeartbeats 4000000 in
set_option maxRecDepth 100000 in
theorem vc_X12_levelOf_0 {X : WD → State → Prop} {d rb : Nat} {h : Hp} {Qr : Option AV → Hp → Prop} {Qx : String → Hp → Prop} {a1 : Int32}  (k : AW X (d + 1) rb mX12_levelOf 4 [(0, vR 12 0), (1, vI a1), (2, vI 1), (3, vI 0)] [] h Qr Qx) : AW X (d + 1) rb mX12_levelOf 0 [(0, vR 12 0), (1, vI a1)] [] h Qr Qx := by
  refine aw_iconst (v := 1) dX12_levelOf_0 rfl (by decide) ?_
  refine aw_istore_n (i := 2) (L2 := [(2, vI 1), (0, vR 12 0), (1, vI a1)]) dX12_levelOf_1 rfl rfl (by decide) rfl ?_
  refine aw_iconst (v := 0) dX12_levelOf_2 rfl (by decide) ?_
  refine aw_istore_n (i := 3) (L2 := [(3, vI 0), (2, vI 1), (0, vR 12 0), (1, vI a1)]) dX12_levelOf_3 rfl rfl (by decide) rfl ?_
  exact aw_sub [2, 3, 1, 0] rfl k
set_option maxHeartbeats 4000000 in
set_option maxRecDepth 100000 in
theorem vc_X12_levelOf_4 {X : WD → State → Prop} {d rb : Nat} {h : Hp} {Qr : Option AV → Hp → Prop} {Qx : String → Hp → Prop} {x1 : Int32} {x2 : Int32} {x3 : Int32}  (k : (vp_in (188 + x1) 506) ∧ (((h.1 56 0 ((188 + x1).toNatClampNeg)) ≤ x3) → Qr (some (vI x2)) h) ∧ ((¬ (h.1 56 0 ((188 + x1).toNatClampNeg)) ≤ x3) → (vp_in ((196 + (6 * x1)) + x3) 506) ∧ (((h.1 56 0 (((196 + (6 * x1)) + x3).toNatClampNeg)) < 12) → AW X (d + 1) rb mX12_levelOf 4 [(0, vR 12 0), (1, vI x1), (2, vI x2), (3, vI (x3 + 1))] [] h Qr Qx) ∧ ((¬ (h.1 56 0 (((196 + (6 * x1)) + x3).toNatClampNeg)) < 12) → CL 0 d mX12_levelOf [vR 12 0, vI ((h.1 56 0 (((196 + (6 * x1)) + x3).toNatClampNeg)) - 12)] h (oI fun r2 h1 => AW X (d + 1) rb mX12_levelOf 4 [(0, vR 12 0), (1, vI x1), (2, vI (if x2 < (1 + r2) then (1 + r2) else x2)), (3, vI (x3 + 1))] [] h1 Qr Qx) Qx))) : AW X (d + 1) rb mX12_levelOf 4 [(0, vR 12 0), (1, vI x1), (2, vI x2), (3, vI x3)] [] h Qr Qx := by
  refine aw_iload_n (j := 3) (i := 3) dX12_levelOf_4 rfl rfl rfl ?_
  refine aw_aload_n (j := 0) (i := 0) dX12_levelOf_5 rfl rfl rfl ?_
  refine aw_getf (k := 11) (z := 56) dX12_levelOf_6 rfl (by decide) rfl rfl rfl cb_12 (by decide) gw_1605 ?_
  refine aw_sipush (v := 188) dX12_levelOf_9 rfl (by decide) ?_
  refine aw_iload_n (j := 1) (i := 1) dX12_levelOf_12 rfl rfl rfl ?_
  refine aw_iadd dX12_levelOf_13 rfl ?_
  refine aw_iald dX12_levelOf_14 rfl (by decide) rfl k.1 ?_
  replace k := k.2
  refine aw_icmp_ge 64 dX12_levelOf_15 rfl rfl (fun c => ?_) (fun c => ?_)
  · replace k := k.1 c
    refine aw_iload_n (j := 2) (i := 2) dX12_levelOf_64 rfl rfl rfl ?_
    exact aw_iret dX12_levelOf_65 rfl k
  · replace k := k.2 c
    refine aw_aload_n (j := 0) (i := 0) dX12_levelOf_18 rfl rfl rfl ?_
    refine aw_getf (k := 11) (z := 56) dX12_levelOf_19 rfl (by decide) rfl rfl rfl cb_12 (by decide) gw_1605 ?_
    refine aw_sipush (v := 196) dX12_levelOf_22 rfl (by decide) ?_
    refine aw_bipush (v := 6) dX12_levelOf_25 rfl (by decide) ?_
    refine aw_iload_n (j := 1) (i := 1) dX12_levelOf_27 rfl rfl rfl ?_
    refine aw_imul dX12_levelOf_28 rfl ?_
    refine aw_iadd dX12_levelOf_29 rfl ?_
    refine aw_iload_n (j := 3) (i := 3) dX12_levelOf_30 rfl rfl rfl ?_
    refine aw_iadd dX12_levelOf_31 rfl ?_
    refine aw_iald dX12_levelOf_32 rfl (by decide) rfl k.1 ?_
    replace k := k.2
    refine aw_istore (i := 4) (L2 := [(4, vI (h.1 56 0 (((196 + (6 * x1)) + x3).toNatClampNeg))), (0, vR 12 0), (1, vI x1), (2, vI x2), (3, vI x3)]) dX12_levelOf_33 rfl (by decide) rfl ?_
    refine aw_iload (j := 0) (i := 4) dX12_levelOf_35 rfl rfl ?_
    refine aw_bipush (v := 12) dX12_levelOf_37 rfl (by decide) ?_
    refine aw_icmp_lt 58 dX12_levelOf_39 rfl rfl (fun c => ?_) (fun c => ?_)
    · replace k := k.1 c
      refine aw_iinc (i := 3) (j := 4) (v := x3 + 1) (L2 := [(3, vI (x3 + 1)), (4, vI (h.1 56 0 (((196 + (6 * x1)) + x3).toNatClampNeg))), (0, vR 12 0), (1, vI x1), (2, vI x2)]) dX12_levelOf_58 rfl (by decide) rfl rfl rfl ?_
      refine aw_goto 4 dX12_levelOf_61 rfl ?_
      exact aw_sub [2, 3, 4, 0] rfl k
    · replace k := k.2 c
      refine aw_iload_n (j := 3) (i := 2) dX12_levelOf_42 rfl rfl rfl ?_
      refine aw_iconst (v := 1) dX12_levelOf_43 rfl (by decide) ?_
      refine aw_aload_n (j := 1) (i := 0) dX12_levelOf_44 rfl rfl rfl ?_
      refine aw_iload (j := 0) (i := 4) dX12_levelOf_45 rfl rfl ?_
      refine aw_bipush (v := 12) dX12_levelOf_47 rfl (by decide) ?_
      refine aw_isub dX12_levelOf_49 rfl ?_
      refine aw_callV (M' := mX12_levelOf) (S := [vI 1, vI x2]) (as := [vI ((h.1 56 0 (((196 + (6 * x1)) + x3).toNatClampNeg)) - 12)]) (k := 0) dX12_levelOf_50 rfl (by decide) rfl rfl gw_1796 gw_1798 gw_52 mb_X12_levelOf rfl (Nat.zero_le _) (Nat.le_of_ble_eq_true rfl) rfl (CL.imp k (fun _ h1 k => ?_) (fun _ _ k => k))
      obtain ⟨r2, rfl, k⟩ := oI_of k
      show AW X (d + 1) rb mX12_levelOf 53 _ [vI r2, vI 1, vI x2] h1 Qr Qx
      refine aw_iadd dX12_levelOf_53 rfl ?_
      refine aw_max dX12_levelOf_54 rfl gw_1800 gw_534 gw_104 gw_535 (Nat.le_of_ble_eq_true rfl) ?_
      refine aw_istore_n (i := 2) (L2 := [(2, vI (if x2 < (1 + r2) then (1 + r2) else x2)), (4, vI (h.1 56 0 (((196 + (6 * x1)) + x3).toNatClampNeg))), (0, vR 12 0), (1, vI x1), (3, vI x3)]) dX12_levelOf_57 rfl rfl (by decide) rfl ?_
      refine aw_iinc (i := 3) (j := 4) (v := x3 + 1) (L2 := [(3, vI (x3 + 1)), (2, vI (if x2 < (1 + r2) then (1 + r2) else x2)), (4, vI (h.1 56 0 (((196 + (6 * x1)) + x3).toNatClampNeg))), (0, vR 12 0), (1, vI x1)]) dX12_levelOf_58 rfl (by decide) rfl rfl rfl ?_
      refine aw_goto 4 dX12_levelOf_61 rfl ?_
      exact aw_sub [3, 4, 1, 0] rfl k
set_option maxHeartbeats 4000000 in
set_option maxRecDepth 100000 in
theorem vc_X12_level_0 {X : WD → State → Prop} {d rb : Nat} {h : Hp} {Qr : Option AV → Hp → Prop} {Qx : String → Hp → Prop} {a1 : Int32}  (k : CL 0 d mX12_noProduct [vR 12 0, vI a1] (hp_i h 12 0 0 0) (oI fun r2 h1 => ((r2 = 0) → CL 0 d mX12_levelOf [vR 12 0, vI a1] h1 (oI fun r4 h3 => Qr (some (vI r4)) h3) Qx) ∧ ((¬ r2 = 0) → Qr (some (vI 0)) h1)) Qx) : AW X (d + 1) rb mX12_level 0 [(0, vR 12 0), (1, vI a1)] [] h Qr Qx := by
  refine aw_aload_n (j := 0) (i := 0) dX12_level_0 rfl rfl rfl ?_
  refine aw_iconst (v := 0) dX12_level_1 rfl (by decide) ?_
  refine aw_puti (k := 0) dX12_level_2 rfl (by decide) rfl rfl cb_12 (by decide) rfl rfl gw_1594 ?_
  refine aw_aload_n (j := 0) (i := 0) dX12_level_5 rfl rfl rfl ?_
  refine aw_iload_n (j := 1) (i := 1) dX12_level_6 rfl rfl rfl ?_
  refine aw_callV (M' := mX12_noProduct) (S := []) (as := [vI a1]) (k := 0) dX12_level_7 rfl (by decide) rfl rfl gw_1768 gw_1770 gw_49 mb_X12_noProduct rfl (Nat.zero_le _) (Nat.le_of_ble_eq_true rfl) rfl (CL.imp k (fun _ h1 k => ?_) (fun _ _ k => k))
  obtain ⟨r2, rfl, k⟩ := oI_of k
  show AW X (d + 1) rb mX12_level 10 _ [vI r2] h1 Qr Qx
  refine aw_if_eq 17 dX12_level_10 rfl rfl (fun c => ?_) (fun c => ?_)
  · replace k := k.1 c
    refine aw_aload_n (j := 0) (i := 0) dX12_level_17 rfl rfl rfl ?_
    refine aw_iload_n (j := 1) (i := 1) dX12_level_18 rfl rfl rfl ?_
    refine aw_callV (M' := mX12_levelOf) (S := []) (as := [vI a1]) (k := 0) dX12_level_19 rfl (by decide) rfl rfl gw_1796 gw_1798 gw_52 mb_X12_levelOf rfl (Nat.zero_le _) (Nat.le_of_ble_eq_true rfl) rfl (CL.imp k (fun _ h3 k => ?_) (fun _ _ k => k))
    obtain ⟨r4, rfl, k⟩ := oI_of k
    show AW X (d + 1) rb mX12_level 22 _ [vI r4] h3 Qr Qx
    exact aw_iret dX12_level_22 rfl k
  · replace k := k.2 c
    refine aw_iconst (v := 0) dX12_level_13 rfl (by decide) ?_
    refine aw_goto 22 dX12_level_14 rfl ?_
    exact aw_iret dX12_level_22 rfl k
set_option maxHeartbeats 4000000 in
set_option maxRecDepth 100000 in
theorem vc_X12_pieces_0 {X : WD → State → Prop} {d rb : Nat} {h : Hp} {Qr : Option AV → Hp → Prop} {Qx : String → Hp → Prop} {a1 : Int32}  (k : CL 0 d mX12_noProduct [vR 12 0, vI a1] (hp_i h 12 0 0 0) (oI fun r2 h1 => ((r2 = 0) → AW X (d + 1) rb mX12_pieces 19 [(0, vR 12 0), (1, vI a1), (2, vI 0), (3, vI 0)] [] h1 Qr Qx) ∧ ((¬ r2 = 0) → Qr (some (vI 0)) h1)) Qx) : AW X (d + 1) rb mX12_pieces 0 [(0, vR 12 0), (1, vI a1)] [] h Qr Qx := by
  refine aw_aload_n (j := 0) (i := 0) dX12_pieces_0 rfl rfl rfl ?_
  refine aw_iconst (v := 0) dX12_pieces_1 rfl (by decide) ?_
  refine aw_puti (k := 0) dX12_pieces_2 rfl (by decide) rfl rfl cb_12 (by decide) rfl rfl gw_1594 ?_
  refine aw_aload_n (j := 0) (i := 0) dX12_pieces_5 rfl rfl rfl ?_
  refine aw_iload_n (j := 1) (i := 1) dX12_pieces_6 rfl rfl rfl ?_
  refine aw_callV (M' := mX12_noProduct) (S := []) (as := [vI a1]) (k := 0) dX12_pieces_7 rfl (by decide) rfl rfl gw_1768 gw_1770 gw_49 mb_X12_noProduct rfl (Nat.zero_le _) (Nat.le_of_ble_eq_true rfl) rfl (CL.imp k (fun _ h1 k => ?_) (fun _ _ k => k))
  obtain ⟨r2, rfl, k⟩ := oI_of k
  show AW X (d + 1) rb mX12_pieces 10 _ [vI r2] h1 Qr Qx
  refine aw_if_eq 15 dX12_pieces_10 rfl rfl (fun c => ?_) (fun c => ?_)
  · replace k := k.1 c
    refine aw_iconst (v := 0) dX12_pieces_15 rfl (by decide) ?_
    refine aw_istore_n (i := 2) (L2 := [(2, vI 0), (0, vR 12 0), (1, vI a1)]) dX12_pieces_16 rfl rfl (by decide) rfl ?_
    refine aw_iconst (v := 0) dX12_pieces_17 rfl (by decide) ?_
    refine aw_istore_n (i := 3) (L2 := [(3, vI 0), (2, vI 0), (0, vR 12 0), (1, vI a1)]) dX12_pieces_18 rfl rfl (by decide) rfl ?_
    exact aw_sub [2, 3, 1, 0] rfl k
  · replace k := k.2 c
    refine aw_iconst (v := 0) dX12_pieces_13 rfl (by decide) ?_
    exact aw_iret dX12_pieces_14 rfl k
set_option maxHeartbeats 4000000 in
set_option maxRecDepth 100000 in
theorem vc_X12_pieces_19 {X : WD → State → Prop} {d rb : Nat} {h : Hp} {Qr : Option AV → Hp → Prop} {Qx : String → Hp → Prop} {x1 : Int32} {x2 : Int32} {x3 : Int32}  (k : (((h.1 56 0 0) ≤ x3) → Qr (some (vI x2)) h) ∧ ((¬ (h.1 56 0 0) ≤ x3) → CL 0 d mX12_needs [vR 12 0, vI x1, vI x3] h (oI fun r2 h1 => AW X (d + 1) rb mX12_pieces 19 [(0, vR 12 0), (1, vI x1), (2, vI (x2 + r2)), (3, vI (x3 + 1))] [] h1 Qr Qx) Qx)) : AW X (d + 1) rb mX12_pieces 19 [(0, vR 12 0), (1, vI x1), (2, vI x2), (3, vI x3)] [] h Qr Qx := by
  refine aw_iload_n (j := 3) (i := 3) dX12_pieces_19 rfl rfl rfl ?_
  refine aw_aload_n (j := 0) (i := 0) dX12_pieces_20 rfl rfl rfl ?_
  refine aw_getf (k := 11) (z := 56) dX12_pieces_21 rfl (by decide) rfl rfl rfl cb_12 (by decide) gw_1605 ?_
  refine aw_iconst (v := 0) dX12_pieces_24 rfl (by decide) ?_
  refine aw_iald dX12_pieces_25 rfl (by decide) rfl (by unfold vp_in; decide) ?_
  refine aw_icmp_ge 44 dX12_pieces_26 rfl rfl (fun c => ?_) (fun c => ?_)
  · replace k := k.1 c
    refine aw_iload_n (j := 2) (i := 2) dX12_pieces_44 rfl rfl rfl ?_
    exact aw_iret dX12_pieces_45 rfl k
  · replace k := k.2 c
    refine aw_iload_n (j := 2) (i := 2) dX12_pieces_29 rfl rfl rfl ?_
    refine aw_aload_n (j := 0) (i := 0) dX12_pieces_30 rfl rfl rfl ?_
    refine aw_iload_n (j := 1) (i := 1) dX12_pieces_31 rfl rfl rfl ?_
    refine aw_iload_n (j := 3) (i := 3) dX12_pieces_32 rfl rfl rfl ?_
    refine aw_callV (M' := mX12_needs) (S := [vI x2]) (as := [vI x1, vI x3]) (k := 0) dX12_pieces_33 rfl (by decide) rfl rfl gw_1788 gw_1790 gw_51 mb_X12_needs rfl (Nat.zero_le _) (Nat.le_of_ble_eq_true rfl) rfl (CL.imp k (fun _ h1 k => ?_) (fun _ _ k => k))
    obtain ⟨r2, rfl, k⟩ := oI_of k
    show AW X (d + 1) rb mX12_pieces 36 _ [vI r2, vI x2] h1 Qr Qx
    refine aw_iadd dX12_pieces_36 rfl ?_
    refine aw_istore_n (i := 2) (L2 := [(2, vI (x2 + r2)), (0, vR 12 0), (1, vI x1), (3, vI x3)]) dX12_pieces_37 rfl rfl (by decide) rfl ?_
    refine aw_iinc (i := 3) (j := 3) (v := x3 + 1) (L2 := [(3, vI (x3 + 1)), (2, vI (x2 + r2)), (0, vR 12 0), (1, vI x1)]) dX12_pieces_38 rfl (by decide) rfl rfl rfl ?_
    refine aw_goto 19 dX12_pieces_41 rfl ?_
    exact aw_sub [2, 3, 1, 0] rfl k
set_option maxHeartbeats 4000000 in
set_option maxRecDepth 100000 in
theorem vc_X12_usedBy_0 {X : WD → State → Prop} {d rb : Nat} {h : Hp} {Qr : Option AV → Hp → Prop} {Qx : String → Hp → Prop} {a1 : Int32}  (k : CL 0 d mX12_noPart [vR 12 0, vI a1] (hp_i h 12 0 0 0) (oI fun r2 h1 => ((r2 = 0) → AW X (d + 1) rb mX12_usedBy 19 [(0, vR 12 0), (1, vI a1), (2, vI 0), (3, vI 0)] [] h1 Qr Qx) ∧ ((¬ r2 = 0) → Qr (some (vI 0)) h1)) Qx) : AW X (d + 1) rb mX12_usedBy 0 [(0, vR 12 0), (1, vI a1)] [] h Qr Qx := by
  refine aw_aload_n (j := 0) (i := 0) dX12_usedBy_0 rfl rfl rfl ?_
  refine aw_iconst (v := 0) dX12_usedBy_1 rfl (by decide) ?_
  refine aw_puti (k := 0) dX12_usedBy_2 rfl (by decide) rfl rfl cb_12 (by decide) rfl rfl gw_1594 ?_
  refine aw_aload_n (j := 0) (i := 0) dX12_usedBy_5 rfl rfl rfl ?_
  refine aw_iload_n (j := 1) (i := 1) dX12_usedBy_6 rfl rfl rfl ?_
  refine aw_callV (M' := mX12_noPart) (S := []) (as := [vI a1]) (k := 0) dX12_usedBy_7 rfl (by decide) rfl rfl gw_1784 gw_1786 gw_50 mb_X12_noPart rfl (Nat.zero_le _) (Nat.le_of_ble_eq_true rfl) rfl (CL.imp k (fun _ h1 k => ?_) (fun _ _ k => k))
  obtain ⟨r2, rfl, k⟩ := oI_of k
  show AW X (d + 1) rb mX12_usedBy 10 _ [vI r2] h1 Qr Qx
  refine aw_if_eq 15 dX12_usedBy_10 rfl rfl (fun c => ?_) (fun c => ?_)
  · replace k := k.1 c
    refine aw_iconst (v := 0) dX12_usedBy_15 rfl (by decide) ?_
    refine aw_istore_n (i := 2) (L2 := [(2, vI 0), (0, vR 12 0), (1, vI a1)]) dX12_usedBy_16 rfl rfl (by decide) rfl ?_
    refine aw_iconst (v := 0) dX12_usedBy_17 rfl (by decide) ?_
    refine aw_istore_n (i := 3) (L2 := [(3, vI 0), (2, vI 0), (0, vR 12 0), (1, vI a1)]) dX12_usedBy_18 rfl rfl (by decide) rfl ?_
    exact aw_sub [2, 3, 1, 0] rfl k
  · replace k := k.2 c
    refine aw_iconst (v := 0) dX12_usedBy_13 rfl (by decide) ?_
    exact aw_iret dX12_usedBy_14 rfl k
set_option maxHeartbeats 4000000 in
set_option maxRecDepth 100000 in
theorem vc_X12_usedBy_19 {X : WD → State → Prop} {d rb : Nat} {h : Hp} {Qr : Option AV → Hp → Prop} {Qx : String → Hp → Prop} {x1 : Int32} {x2 : Int32} {x3 : Int32}  (k : (((h.1 56 0 1) ≤ x3) → Qr (some (vI x2)) h) ∧ ((¬ (h.1 56 0 1) ≤ x3) → CL 0 d mX12_needs [vR 12 0, vI x3, vI x1] h (oI fun r2 h1 => ((r2 ≤ 0) → AW X (d + 1) rb mX12_usedBy 19 [(0, vR 12 0), (1, vI x1), (2, vI (x2 ||| 0)), (3, vI (x3 + 1))] [] h1 Qr Qx) ∧ ((¬ r2 ≤ 0) → AW X (d + 1) rb mX12_usedBy 19 [(0, vR 12 0), (1, vI x1), (2, vI (x2 ||| (1 <<< (x3 &&& 31)))), (3, vI (x3 + 1))] [] h1 Qr Qx)) Qx)) : AW X (d + 1) rb mX12_usedBy 19 [(0, vR 12 0), (1, vI x1), (2, vI x2), (3, vI x3)] [] h Qr Qx := by
  refine aw_iload_n (j := 3) (i := 3) dX12_usedBy_19 rfl rfl rfl ?_
  refine aw_aload_n (j := 0) (i := 0) dX12_usedBy_20 rfl rfl rfl ?_
  refine aw_getf (k := 11) (z := 56) dX12_usedBy_21 rfl (by decide) rfl rfl rfl cb_12 (by decide) gw_1605 ?_
  refine aw_iconst (v := 1) dX12_usedBy_24 rfl (by decide) ?_
  refine aw_iald dX12_usedBy_25 rfl (by decide) rfl (by unfold vp_in; decide) ?_
  refine aw_icmp_ge 54 dX12_usedBy_26 rfl rfl (fun c => ?_) (fun c => ?_)
  · replace k := k.1 c
    refine aw_iload_n (j := 2) (i := 2) dX12_usedBy_54 rfl rfl rfl ?_
    exact aw_iret dX12_usedBy_55 rfl k
  · replace k := k.2 c
    refine aw_iload_n (j := 2) (i := 2) dX12_usedBy_29 rfl rfl rfl ?_
    refine aw_aload_n (j := 0) (i := 0) dX12_usedBy_30 rfl rfl rfl ?_
    refine aw_iload_n (j := 3) (i := 3) dX12_usedBy_31 rfl rfl rfl ?_
    refine aw_iload_n (j := 1) (i := 1) dX12_usedBy_32 rfl rfl rfl ?_
    refine aw_callV (M' := mX12_needs) (S := [vI x2]) (as := [vI x3, vI x1]) (k := 0) dX12_usedBy_33 rfl (by decide) rfl rfl gw_1788 gw_1790 gw_51 mb_X12_needs rfl (Nat.zero_le _) (Nat.le_of_ble_eq_true rfl) rfl (CL.imp k (fun _ h1 k => ?_) (fun _ _ k => k))
    obtain ⟨r2, rfl, k⟩ := oI_of k
    show AW X (d + 1) rb mX12_usedBy 36 _ [vI r2, vI x2] h1 Qr Qx
    refine aw_if_le 45 dX12_usedBy_36 rfl rfl (fun c => ?_) (fun c => ?_)
    · replace k := k.1 c
      refine aw_iconst (v := 0) dX12_usedBy_45 rfl (by decide) ?_
      refine aw_ior dX12_usedBy_46 rfl ?_
      refine aw_istore_n (i := 2) (L2 := [(2, vI (x2 ||| 0)), (0, vR 12 0), (1, vI x1), (3, vI x3)]) dX12_usedBy_47 rfl rfl (by decide) rfl ?_
      refine aw_iinc (i := 3) (j := 3) (v := x3 + 1) (L2 := [(3, vI (x3 + 1)), (2, vI (x2 ||| 0)), (0, vR 12 0), (1, vI x1)]) dX12_usedBy_48 rfl (by decide) rfl rfl rfl ?_
      refine aw_goto 19 dX12_usedBy_51 rfl ?_
      exact aw_sub [2, 3, 1, 0] rfl k
    · replace k := k.2 c
      refine aw_iconst (v := 1) dX12_usedBy_39 rfl (by decide) ?_
      refine aw_iload_n (j := 3) (i := 3) dX12_usedBy_40 rfl rfl rfl ?_
      refine aw_ishl dX12_usedBy_41 rfl ?_
      refine aw_goto 46 dX12_usedBy_42 rfl ?_
      refine aw_ior dX12_usedBy_46 rfl ?_
      refine aw_istore_n (i := 2) (L2 := [(2, vI (x2 ||| (1 <<< (x3 &&& 31)))), (0, vR 12 0), (1, vI x1), (3, vI x3)]) dX12_usedBy_47 rfl rfl (by decide) rfl ?_
      refine aw_iinc (i := 3) (j := 3) (v := x3 + 1) (L2 := [(3, vI (x3 + 1)), (2, vI (x2 ||| (1 <<< (x3 &&& 31)))), (0, vR 12 0), (1, vI x1)]) dX12_usedBy_48 rfl (by decide) rfl rfl rfl ?_
      refine aw_goto 19 dX12_usedBy_51 rfl ?_
      exact aw_sub [2, 3, 1, 0] rfl k
set_option maxHeartbeats 4000000 in
set_option maxRecDepth 100000 in
theorem vc_X12_commonParts_0 {X : WD → State → Prop} {d rb : Nat} {h : Hp} {Qr : Option AV → Hp → Prop} {Qx : String → Hp → Prop} {a1 : Int32} {a2 : Int32}  (k : CL 0 d mX12_noProduct [vR 12 0, vI a1] (hp_i h 12 0 0 0) (oI fun r2 h1 => ((¬ r2 = 0) → Qr (some (vI 0)) h1) ∧ ((r2 = 0) → CL 0 d mX12_noProduct [vR 12 0, vI a2] h1 (oI fun r4 h3 => ((r4 = 0) → AW X (d + 1) rb mX12_commonParts 28 [(0, vR 12 0), (1, vI a1), (2, vI a2), (3, vI 0), (4, vI 0)] [] h3 Qr Qx) ∧ ((¬ r4 = 0) → Qr (some (vI 0)) h3)) Qx)) Qx) : AW X (d + 1) rb mX12_commonParts 0 [(0, vR 12 0), (1, vI a1), (2, vI a2)] [] h Qr Qx := by
  refine aw_aload_n (j := 0) (i := 0) dX12_commonParts_0 rfl rfl rfl ?_
  refine aw_iconst (v := 0) dX12_commonParts_1 rfl (by decide) ?_
  refine aw_puti (k := 0) dX12_commonParts_2 rfl (by decide) rfl rfl cb_12 (by decide) rfl rfl gw_1594 ?_
  refine aw_aload_n (j := 0) (i := 0) dX12_commonParts_5 rfl rfl rfl ?_
  refine aw_iload_n (j := 1) (i := 1) dX12_commonParts_6 rfl rfl rfl ?_
  refine aw_callV (M' := mX12_noProduct) (S := []) (as := [vI a1]) (k := 0) dX12_commonParts_7 rfl (by decide) rfl rfl gw_1768 gw_1770 gw_49 mb_X12_noProduct rfl (Nat.zero_le _) (Nat.le_of_ble_eq_true rfl) rfl (CL.imp k (fun _ h1 k => ?_) (fun _ _ k => k))
  obtain ⟨r2, rfl, k⟩ := oI_of k
  show AW X (d + 1) rb mX12_commonParts 10 _ [vI r2] h1 Qr Qx
  refine aw_if_ne 21 dX12_commonParts_10 rfl rfl (fun c => ?_) (fun c => ?_)
  · replace k := k.1 c
    refine aw_iconst (v := 0) dX12_commonParts_21 rfl (by decide) ?_
    exact aw_iret dX12_commonParts_22 rfl k
  · replace k := k.2 c
    refine aw_aload_n (j := 0) (i := 0) dX12_commonParts_13 rfl rfl rfl ?_
    refine aw_iload_n (j := 2) (i := 2) dX12_commonParts_14 rfl rfl rfl ?_
    refine aw_callV (M' := mX12_noProduct) (S := []) (as := [vI a2]) (k := 0) dX12_commonParts_15 rfl (by decide) rfl rfl gw_1768 gw_1770 gw_49 mb_X12_noProduct rfl (Nat.zero_le _) (Nat.le_of_ble_eq_true rfl) rfl (CL.imp k (fun _ h3 k => ?_) (fun _ _ k => k))
    obtain ⟨r4, rfl, k⟩ := oI_of k
    show AW X (d + 1) rb mX12_commonParts 18 _ [vI r4] h3 Qr Qx
    refine aw_if_eq 23 dX12_commonParts_18 rfl rfl (fun c => ?_) (fun c => ?_)
    · replace k := k.1 c
      refine aw_iconst (v := 0) dX12_commonParts_23 rfl (by decide) ?_
      refine aw_istore_n (i := 3) (L2 := [(3, vI 0), (0, vR 12 0), (1, vI a1), (2, vI a2)]) dX12_commonParts_24 rfl rfl (by decide) rfl ?_
      refine aw_iconst (v := 0) dX12_commonParts_25 rfl (by decide) ?_
      refine aw_istore (i := 4) (L2 := [(4, vI 0), (3, vI 0), (0, vR 12 0), (1, vI a1), (2, vI a2)]) dX12_commonParts_26 rfl (by decide) rfl ?_
      exact aw_sub [2, 3, 4, 1, 0] rfl k
    · replace k := k.2 c
      refine aw_iconst (v := 0) dX12_commonParts_21 rfl (by decide) ?_
      exact aw_iret dX12_commonParts_22 rfl k
set_option maxHeartbeats 4000000 in
set_option maxRecDepth 100000 in
theorem vc_X12_commonParts_28 {X : WD → State → Prop} {d rb : Nat} {h : Hp} {Qr : Option AV → Hp → Prop} {Qx : String → Hp → Prop} {x1 : Int32} {x2 : Int32} {x3 : Int32} {x4 : Int32}  (k : (((h.1 56 0 0) ≤ x4) → Qr (some (vI x3)) h) ∧ ((¬ (h.1 56 0 0) ≤ x4) → CL 0 d mX12_needs [vR 12 0, vI x1, vI x4] h (oI fun r2 h1 => ((r2 ≤ 0) → AW X (d + 1) rb mX12_commonParts 28 [(0, vR 12 0), (1, vI x1), (2, vI x2), (3, vI (x3 ||| 0)), (4, vI (x4 + 1))] [] h1 Qr Qx) ∧ ((¬ r2 ≤ 0) → CL 0 d mX12_needs [vR 12 0, vI x2, vI x4] h1 (oI fun r4 h3 => ((r4 ≤ 0) → AW X (d + 1) rb mX12_commonParts 28 [(0, vR 12 0), (1, vI x1), (2, vI x2), (3, vI (x3 ||| 0)), (4, vI (x4 + 1))] [] h3 Qr Qx) ∧ ((¬ r4 ≤ 0) → AW X (d + 1) rb mX12_commonParts 28 [(0, vR 12 0), (1, vI x1), (2, vI x2), (3, vI (x3 ||| (1 <<< (x4 &&& 31)))), (4, vI (x4 + 1))] [] h3 Qr Qx)) Qx)) Qx)) : AW X (d + 1) rb mX12_commonParts 28 [(0, vR 12 0), (1, vI x1), (2, vI x2), (3, vI x3), (4, vI x4)] [] h Qr Qx := by
  refine aw_iload (j := 4) (i := 4) dX12_commonParts_28 rfl rfl ?_
  refine aw_aload_n (j := 0) (i := 0) dX12_commonParts_30 rfl rfl rfl ?_
  refine aw_getf (k := 11) (z := 56) dX12_commonParts_31 rfl (by decide) rfl rfl rfl cb_12 (by decide) gw_1605 ?_
  refine aw_iconst (v := 0) dX12_commonParts_34 rfl (by decide) ?_
  refine aw_iald dX12_commonParts_35 rfl (by decide) rfl (by unfold vp_in; decide) ?_
  refine aw_icmp_ge 76 dX12_commonParts_36 rfl rfl (fun c => ?_) (fun c => ?_)
  · replace k := k.1 c
    refine aw_iload_n (j := 3) (i := 3) dX12_commonParts_76 rfl rfl rfl ?_
    exact aw_iret dX12_commonParts_77 rfl k
  · replace k := k.2 c
    refine aw_iload_n (j := 3) (i := 3) dX12_commonParts_39 rfl rfl rfl ?_
    refine aw_aload_n (j := 0) (i := 0) dX12_commonParts_40 rfl rfl rfl ?_
    refine aw_iload_n (j := 1) (i := 1) dX12_commonParts_41 rfl rfl rfl ?_
    refine aw_iload (j := 4) (i := 4) dX12_commonParts_42 rfl rfl ?_
    refine aw_callV (M' := mX12_needs) (S := [vI x3]) (as := [vI x1, vI x4]) (k := 0) dX12_commonParts_44 rfl (by decide) rfl rfl gw_1788 gw_1790 gw_51 mb_X12_needs rfl (Nat.zero_le _) (Nat.le_of_ble_eq_true rfl) rfl (CL.imp k (fun _ h1 k => ?_) (fun _ _ k => k))
    obtain ⟨r2, rfl, k⟩ := oI_of k
    show AW X (d + 1) rb mX12_commonParts 47 _ [vI r2, vI x3] h1 Qr Qx
    refine aw_if_le 67 dX12_commonParts_47 rfl rfl (fun c => ?_) (fun c => ?_)
    · replace k := k.1 c
      refine aw_iconst (v := 0) dX12_commonParts_67 rfl (by decide) ?_
      refine aw_ior dX12_commonParts_68 rfl ?_
      refine aw_istore_n (i := 3) (L2 := [(3, vI (x3 ||| 0)), (0, vR 12 0), (1, vI x1), (2, vI x2), (4, vI x4)]) dX12_commonParts_69 rfl rfl (by decide) rfl ?_
      refine aw_iinc (i := 4) (j := 4) (v := x4 + 1) (L2 := [(4, vI (x4 + 1)), (3, vI (x3 ||| 0)), (0, vR 12 0), (1, vI x1), (2, vI x2)]) dX12_commonParts_70 rfl (by decide) rfl rfl rfl ?_
      refine aw_goto 28 dX12_commonParts_73 rfl ?_
      exact aw_sub [2, 3, 4, 1, 0] rfl k
    · replace k := k.2 c
      refine aw_aload_n (j := 0) (i := 0) dX12_commonParts_50 rfl rfl rfl ?_
      refine aw_iload_n (j := 2) (i := 2) dX12_commonParts_51 rfl rfl rfl ?_
      refine aw_iload (j := 4) (i := 4) dX12_commonParts_52 rfl rfl ?_
      refine aw_callV (M' := mX12_needs) (S := [vI x3]) (as := [vI x2, vI x4]) (k := 0) dX12_commonParts_54 rfl (by decide) rfl rfl gw_1788 gw_1790 gw_51 mb_X12_needs rfl (Nat.zero_le _) (Nat.le_of_ble_eq_true rfl) rfl (CL.imp k (fun _ h3 k => ?_) (fun _ _ k => k))
      obtain ⟨r4, rfl, k⟩ := oI_of k
      show AW X (d + 1) rb mX12_commonParts 57 _ [vI r4, vI x3] h3 Qr Qx
      refine aw_if_le 67 dX12_commonParts_57 rfl rfl (fun c => ?_) (fun c => ?_)
      · replace k := k.1 c
        refine aw_iconst (v := 0) dX12_commonParts_67 rfl (by decide) ?_
        refine aw_ior dX12_commonParts_68 rfl ?_
        refine aw_istore_n (i := 3) (L2 := [(3, vI (x3 ||| 0)), (0, vR 12 0), (1, vI x1), (2, vI x2), (4, vI x4)]) dX12_commonParts_69 rfl rfl (by decide) rfl ?_
        refine aw_iinc (i := 4) (j := 4) (v := x4 + 1) (L2 := [(4, vI (x4 + 1)), (3, vI (x3 ||| 0)), (0, vR 12 0), (1, vI x1), (2, vI x2)]) dX12_commonParts_70 rfl (by decide) rfl rfl rfl ?_
        refine aw_goto 28 dX12_commonParts_73 rfl ?_
        exact aw_sub [2, 3, 4, 1, 0] rfl k
      · replace k := k.2 c
        refine aw_iconst (v := 1) dX12_commonParts_60 rfl (by decide) ?_
        refine aw_iload (j := 4) (i := 4) dX12_commonParts_61 rfl rfl ?_
        refine aw_ishl dX12_commonParts_63 rfl ?_
        refine aw_goto 68 dX12_commonParts_64 rfl ?_
        refine aw_ior dX12_commonParts_68 rfl ?_
        refine aw_istore_n (i := 3) (L2 := [(3, vI (x3 ||| (1 <<< (x4 &&& 31)))), (0, vR 12 0), (1, vI x1), (2, vI x2), (4, vI x4)]) dX12_commonParts_69 rfl rfl (by decide) rfl ?_
        refine aw_iinc (i := 4) (j := 4) (v := x4 + 1) (L2 := [(4, vI (x4 + 1)), (3, vI (x3 ||| (1 <<< (x4 &&& 31)))), (0, vR 12 0), (1, vI x1), (2, vI x2)]) dX12_commonParts_70 rfl (by decide) rfl rfl rfl ?_
        refine aw_goto 28 dX12_commonParts_73 rfl ?_
        exact aw_sub [2, 3, 4, 1, 0] rfl k
set_option maxHeartbeats 4000000 in
set_option maxRecDepth 100000 in
theorem vc_X12_day_0 {X : WD → State → Prop} {d rb : Nat} {h : Hp} {Qr : Option AV → Hp → Prop} {Qx : String → Hp → Prop}   (k : Qr (some (vI (h.1 58 0 0))) (hp_i h 12 0 0 0)) : AW X (d + 1) rb mX12_day 0 [(0, vR 12 0)] [] h Qr Qx := by
  refine aw_aload_n (j := 0) (i := 0) dX12_day_0 rfl rfl rfl ?_
  refine aw_iconst (v := 0) dX12_day_1 rfl (by decide) ?_
  refine aw_puti (k := 0) dX12_day_2 rfl (by decide) rfl rfl cb_12 (by decide) rfl rfl gw_1594 ?_
  refine aw_aload_n (j := 0) (i := 0) dX12_day_5 rfl rfl rfl ?_
  refine aw_getf (k := 14) (z := 58) dX12_day_6 rfl (by decide) rfl rfl rfl cb_12 (by decide) gw_1608 ?_
  refine aw_iconst (v := 0) dX12_day_9 rfl (by decide) ?_
  refine aw_iald dX12_day_10 rfl (by decide) rfl (by unfold vp_in; decide) ?_
  exact aw_iret dX12_day_11 rfl k
set_option maxHeartbeats 4000000 in
set_option maxRecDepth 100000 in
theorem vc_X12_stock_0 {X : WD → State → Prop} {d rb : Nat} {h : Hp} {Qr : Option AV → Hp → Prop} {Qx : String → Hp → Prop} {a1 : Int32}  (k : CL 0 d mX12_noPart [vR 12 0, vI a1] (hp_i h 12 0 0 0) (oI fun r2 h1 => ((r2 = 0) → (vp_in (9 + a1) 301) ∧ Qr (some (vI (h1.1 58 0 ((9 + a1).toNatClampNeg)))) h1) ∧ ((¬ r2 = 0) → Qr (some (vI 0)) h1)) Qx) : AW X (d + 1) rb mX12_stock 0 [(0, vR 12 0), (1, vI a1)] [] h Qr Qx := by
  refine aw_aload_n (j := 0) (i := 0) dX12_stock_0 rfl rfl rfl ?_
  refine aw_iconst (v := 0) dX12_stock_1 rfl (by decide) ?_
  refine aw_puti (k := 0) dX12_stock_2 rfl (by decide) rfl rfl cb_12 (by decide) rfl rfl gw_1594 ?_
  refine aw_aload_n (j := 0) (i := 0) dX12_stock_5 rfl rfl rfl ?_
  refine aw_iload_n (j := 1) (i := 1) dX12_stock_6 rfl rfl rfl ?_
  refine aw_callV (M' := mX12_noPart) (S := []) (as := [vI a1]) (k := 0) dX12_stock_7 rfl (by decide) rfl rfl gw_1784 gw_1786 gw_50 mb_X12_noPart rfl (Nat.zero_le _) (Nat.le_of_ble_eq_true rfl) rfl (CL.imp k (fun _ h1 k => ?_) (fun _ _ k => k))
  obtain ⟨r2, rfl, k⟩ := oI_of k
  show AW X (d + 1) rb mX12_stock 10 _ [vI r2] h1 Qr Qx
  refine aw_if_eq 17 dX12_stock_10 rfl rfl (fun c => ?_) (fun c => ?_)
  · replace k := k.1 c
    refine aw_aload_n (j := 0) (i := 0) dX12_stock_17 rfl rfl rfl ?_
    refine aw_getf (k := 14) (z := 58) dX12_stock_18 rfl (by decide) rfl rfl rfl cb_12 (by decide) gw_1608 ?_
    refine aw_bipush (v := 9) dX12_stock_21 rfl (by decide) ?_
    refine aw_iload_n (j := 1) (i := 1) dX12_stock_23 rfl rfl rfl ?_
    refine aw_iadd dX12_stock_24 rfl ?_
    refine aw_iald dX12_stock_25 rfl (by decide) rfl k.1 ?_
    replace k := k.2
    exact aw_iret dX12_stock_26 rfl k
  · replace k := k.2 c
    refine aw_iconst (v := 0) dX12_stock_13 rfl (by decide) ?_
    refine aw_goto 26 dX12_stock_14 rfl ?_
    exact aw_iret dX12_stock_26 rfl k
set_option maxHeartbeats 4000000 in
set_option maxRecDepth 100000 in
theorem vc_X12_reserved_0 {X : WD → State → Prop} {d rb : Nat} {h : Hp} {Qr : Option AV → Hp → Prop} {Qx : String → Hp → Prop} {a1 : Int32}  (k : CL 0 d mX12_noPart [vR 12 0, vI a1] (hp_i h 12 0 0 0) (oI fun r2 h1 => ((r2 = 0) → (vp_in (21 + a1) 301) ∧ Qr (some (vI (h1.1 58 0 ((21 + a1).toNatClampNeg)))) h1) ∧ ((¬ r2 = 0) → Qr (some (vI 0)) h1)) Qx) : AW X (d + 1) rb mX12_reserved 0 [(0, vR 12 0), (1, vI a1)] [] h Qr Qx := by
  refine aw_aload_n (j := 0) (i := 0) dX12_reserved_0 rfl rfl rfl ?_
  refine aw_iconst (v := 0) dX12_reserved_1 rfl (by decide) ?_
  refine aw_puti (k := 0) dX12_reserved_2 rfl (by decide) rfl rfl cb_12 (by decide) rfl rfl gw_1594 ?_
  refine aw_aload_n (j := 0) (i := 0) dX12_reserved_5 rfl rfl rfl ?_
  refine aw_iload_n (j := 1) (i := 1) dX12_reserved_6 rfl rfl rfl ?_
  refine aw_callV (M' := mX12_noPart) (S := []) (as := [vI a1]) (k := 0) dX12_reserved_7 rfl (by decide) rfl rfl gw_1784 gw_1786 gw_50 mb_X12_noPart rfl (Nat.zero_le _) (Nat.le_of_ble_eq_true rfl) rfl (CL.imp k (fun _ h1 k => ?_) (fun _ _ k => k))
  obtain ⟨r2, rfl, k⟩ := oI_of k
  show AW X (d + 1) rb mX12_reserved 10 _ [vI r2] h1 Qr Qx
  refine aw_if_eq 17 dX12_reserved_10 rfl rfl (fun c => ?_) (fun c => ?_)
  · replace k := k.1 c
    refine aw_aload_n (j := 0) (i := 0) dX12_reserved_17 rfl rfl rfl ?_
    refine aw_getf (k := 14) (z := 58) dX12_reserved_18 rfl (by decide) rfl rfl rfl cb_12 (by decide) gw_1608 ?_
    refine aw_bipush (v := 21) dX12_reserved_21 rfl (by decide) ?_
    refine aw_iload_n (j := 1) (i := 1) dX12_reserved_23 rfl rfl rfl ?_
    refine aw_iadd dX12_reserved_24 rfl ?_
    refine aw_iald dX12_reserved_25 rfl (by decide) rfl k.1 ?_
    replace k := k.2
    exact aw_iret dX12_reserved_26 rfl k
  · replace k := k.2 c
    refine aw_iconst (v := 0) dX12_reserved_13 rfl (by decide) ?_
    refine aw_goto 26 dX12_reserved_14 rfl ?_
    exact aw_iret dX12_reserved_26 rfl k
set_option maxHeartbeats 4000000 in
set_option maxRecDepth 100000 in
theorem vc_X12_comesBy_0 {X : WD → State → Prop} {d rb : Nat} {h : Hp} {Qr : Option AV → Hp → Prop} {Qx : String → Hp → Prop} {a1 : Int32} {a2 : Int32}  (k : AW X (d + 1) rb mX12_comesBy 5 [(0, vR 12 0), (1, vI a1), (2, vI a2), (3, vI 0), (4, vI 0)] [] h Qr Qx) : AW X (d + 1) rb mX12_comesBy 0 [(0, vR 12 0), (1, vI a1), (2, vI a2)] [] h Qr Qx := by
  refine aw_iconst (v := 0) dX12_comesBy_0 rfl (by decide) ?_
  refine aw_istore_n (i := 3) (L2 := [(3, vI 0), (0, vR 12 0), (1, vI a1), (2, vI a2)]) dX12_comesBy_1 rfl rfl (by decide) rfl ?_
  refine aw_iconst (v := 0) dX12_comesBy_2 rfl (by decide) ?_
  refine aw_istore (i := 4) (L2 := [(4, vI 0), (3, vI 0), (0, vR 12 0), (1, vI a1), (2, vI a2)]) dX12_comesBy_3 rfl (by decide) rfl ?_
  exact aw_sub [2, 3, 4, 1, 0] rfl k
set_option maxHeartbeats 4000000 in
set_option maxRecDepth 100000 in
theorem vc_X12_comesBy_5 {X : WD → State → Prop} {d rb : Nat} {h : Hp} {Qr : Option AV → Hp → Prop} {Qx : String → Hp → Prop} {x1 : Int32} {x2 : Int32} {x3 : Int32} {x4 : Int32}  (k : (((h.1 58 0 2) ≤ x4) → Qr (some (vI x3)) h) ∧ ((¬ (h.1 58 0 2) ≤ x4) → (vp_in (33 + (3 * x4)) 301) ∧ ((¬ (h.1 58 0 ((33 + (3 * x4)).toNatClampNeg)) = x1) → AW X (d + 1) rb mX12_comesBy 5 [(0, vR 12 0), (1, vI x1), (2, vI x2), (3, vI (x3 + 0)), (4, vI (x4 + 1))] [] h Qr Qx) ∧ (((h.1 58 0 ((33 + (3 * x4)).toNatClampNeg)) = x1) → (vp_in ((33 + (3 * x4)) + 2) 301) ∧ ((x2 < (h.1 58 0 (((33 + (3 * x4)) + 2).toNatClampNeg))) → AW X (d + 1) rb mX12_comesBy 5 [(0, vR 12 0), (1, vI x1), (2, vI x2), (3, vI (x3 + 0)), (4, vI (x4 + 1))] [] h Qr Qx) ∧ ((¬ x2 < (h.1 58 0 (((33 + (3 * x4)) + 2).toNatClampNeg))) → (vp_in ((33 + (3 * x4)) + 1) 301) ∧ AW X (d + 1) rb mX12_comesBy 5 [(0, vR 12 0), (1, vI x1), (2, vI x2), (3, vI (x3 + (h.1 58 0 (((33 + (3 * x4)) + 1).toNatClampNeg)))), (4, vI (x4 + 1))] [] h Qr Qx)))) : AW X (d + 1) rb mX12_comesBy 5 [(0, vR 12 0), (1, vI x1), (2, vI x2), (3, vI x3), (4, vI x4)] [] h Qr Qx := by
  refine aw_iload (j := 4) (i := 4) dX12_comesBy_5 rfl rfl ?_
  refine aw_aload_n (j := 0) (i := 0) dX12_comesBy_7 rfl rfl rfl ?_
  refine aw_getf (k := 14) (z := 58) dX12_comesBy_8 rfl (by decide) rfl rfl rfl cb_12 (by decide) gw_1608 ?_
  refine aw_iconst (v := 2) dX12_comesBy_11 rfl (by decide) ?_
  refine aw_iald dX12_comesBy_12 rfl (by decide) rfl (by unfold vp_in; decide) ?_
  refine aw_icmp_ge 77 dX12_comesBy_13 rfl rfl (fun c => ?_) (fun c => ?_)
  · replace k := k.1 c
    refine aw_iload_n (j := 3) (i := 3) dX12_comesBy_77 rfl rfl rfl ?_
    exact aw_iret dX12_comesBy_78 rfl k
  · replace k := k.2 c
    refine aw_iload_n (j := 3) (i := 3) dX12_comesBy_16 rfl rfl rfl ?_
    refine aw_aload_n (j := 0) (i := 0) dX12_comesBy_17 rfl rfl rfl ?_
    refine aw_getf (k := 14) (z := 58) dX12_comesBy_18 rfl (by decide) rfl rfl rfl cb_12 (by decide) gw_1608 ?_
    refine aw_bipush (v := 33) dX12_comesBy_21 rfl (by decide) ?_
    refine aw_iconst (v := 3) dX12_comesBy_23 rfl (by decide) ?_
    refine aw_iload (j := 4) (i := 4) dX12_comesBy_24 rfl rfl ?_
    refine aw_imul dX12_comesBy_26 rfl ?_
    refine aw_iadd dX12_comesBy_27 rfl ?_
    refine aw_iald dX12_comesBy_28 rfl (by decide) rfl k.1 ?_
    replace k := k.2
    refine aw_iload_n (j := 1) (i := 1) dX12_comesBy_29 rfl rfl rfl ?_
    refine aw_icmp_ne 68 dX12_comesBy_30 rfl rfl (fun c => ?_) (fun c => ?_)
    · replace k := k.1 c
      refine aw_iconst (v := 0) dX12_comesBy_68 rfl (by decide) ?_
      refine aw_iadd dX12_comesBy_69 rfl ?_
      refine aw_istore_n (i := 3) (L2 := [(3, vI (x3 + 0)), (0, vR 12 0), (1, vI x1), (2, vI x2), (4, vI x4)]) dX12_comesBy_70 rfl rfl (by decide) rfl ?_
      refine aw_iinc (i := 4) (j := 4) (v := x4 + 1) (L2 := [(4, vI (x4 + 1)), (3, vI (x3 + 0)), (0, vR 12 0), (1, vI x1), (2, vI x2)]) dX12_comesBy_71 rfl (by decide) rfl rfl rfl ?_
      refine aw_goto 5 dX12_comesBy_74 rfl ?_
      exact aw_sub [2, 3, 4, 1, 0] rfl k
    · replace k := k.2 c
      refine aw_aload_n (j := 0) (i := 0) dX12_comesBy_33 rfl rfl rfl ?_
      refine aw_getf (k := 14) (z := 58) dX12_comesBy_34 rfl (by decide) rfl rfl rfl cb_12 (by decide) gw_1608 ?_
      refine aw_bipush (v := 33) dX12_comesBy_37 rfl (by decide) ?_
      refine aw_iconst (v := 3) dX12_comesBy_39 rfl (by decide) ?_
      refine aw_iload (j := 4) (i := 4) dX12_comesBy_40 rfl rfl ?_
      refine aw_imul dX12_comesBy_42 rfl ?_
      refine aw_iadd dX12_comesBy_43 rfl ?_
      refine aw_iconst (v := 2) dX12_comesBy_44 rfl (by decide) ?_
      refine aw_iadd dX12_comesBy_45 rfl ?_
      refine aw_iald dX12_comesBy_46 rfl (by decide) rfl k.1 ?_
      replace k := k.2
      refine aw_iload_n (j := 2) (i := 2) dX12_comesBy_47 rfl rfl rfl ?_
      refine aw_icmp_gt 68 dX12_comesBy_48 rfl rfl (fun c => ?_) (fun c => ?_)
      · replace k := k.1 c
        refine aw_iconst (v := 0) dX12_comesBy_68 rfl (by decide) ?_
        refine aw_iadd dX12_comesBy_69 rfl ?_
        refine aw_istore_n (i := 3) (L2 := [(3, vI (x3 + 0)), (0, vR 12 0), (1, vI x1), (2, vI x2), (4, vI x4)]) dX12_comesBy_70 rfl rfl (by decide) rfl ?_
        refine aw_iinc (i := 4) (j := 4) (v := x4 + 1) (L2 := [(4, vI (x4 + 1)), (3, vI (x3 + 0)), (0, vR 12 0), (1, vI x1), (2, vI x2)]) dX12_comesBy_71 rfl (by decide) rfl rfl rfl ?_
        refine aw_goto 5 dX12_comesBy_74 rfl ?_
        exact aw_sub [2, 3, 4, 1, 0] rfl k
      · replace k := k.2 c
        refine aw_aload_n (j := 0) (i := 0) dX12_comesBy_51 rfl rfl rfl ?_
        refine aw_getf (k := 14) (z := 58) dX12_comesBy_52 rfl (by decide) rfl rfl rfl cb_12 (by decide) gw_1608 ?_
        refine aw_bipush (v := 33) dX12_comesBy_55 rfl (by decide) ?_
        refine aw_iconst (v := 3) dX12_comesBy_57 rfl (by decide) ?_
        refine aw_iload (j := 4) (i := 4) dX12_comesBy_58 rfl rfl ?_
        refine aw_imul dX12_comesBy_60 rfl ?_
        refine aw_iadd dX12_comesBy_61 rfl ?_
        refine aw_iconst (v := 1) dX12_comesBy_62 rfl (by decide) ?_
        refine aw_iadd dX12_comesBy_63 rfl ?_
        refine aw_iald dX12_comesBy_64 rfl (by decide) rfl k.1 ?_
        replace k := k.2
        refine aw_goto 69 dX12_comesBy_65 rfl ?_
        refine aw_iadd dX12_comesBy_69 rfl ?_
        refine aw_istore_n (i := 3) (L2 := [(3, vI (x3 + (h.1 58 0 (((33 + (3 * x4)) + 1).toNatClampNeg)))), (0, vR 12 0), (1, vI x1), (2, vI x2), (4, vI x4)]) dX12_comesBy_70 rfl rfl (by decide) rfl ?_
        refine aw_iinc (i := 4) (j := 4) (v := x4 + 1) (L2 := [(4, vI (x4 + 1)), (3, vI (x3 + (h.1 58 0 (((33 + (3 * x4)) + 1).toNatClampNeg)))), (0, vR 12 0), (1, vI x1), (2, vI x2)]) dX12_comesBy_71 rfl (by decide) rfl rfl rfl ?_
        refine aw_goto 5 dX12_comesBy_74 rfl ?_
        exact aw_sub [2, 3, 4, 1, 0] rfl k
set_option maxHeartbeats 4000000 in
set_option maxRecDepth 100000 in
theorem vc_X12_arriving_0 {X : WD → State → Prop} {d rb : Nat} {h : Hp} {Qr : Option AV → Hp → Prop} {Qx : String → Hp → Prop} {a1 : Int32}  (k : CL 0 d mX12_noPart [vR 12 0, vI a1] (hp_i h 12 0 0 0) (oI fun r2 h1 => ((r2 = 0) → CL 0 d mX12_comesBy [vR 12 0, vI a1, vI 2147483647] h1 (oI fun r4 h3 => Qr (some (vI r4)) h3) Qx) ∧ ((¬ r2 = 0) → Qr (some (vI 0)) h1)) Qx) : AW X (d + 1) rb mX12_arriving 0 [(0, vR 12 0), (1, vI a1)] [] h Qr Qx := by
  refine aw_aload_n (j := 0) (i := 0) dX12_arriving_0 rfl rfl rfl ?_
  refine aw_iconst (v := 0) dX12_arriving_1 rfl (by decide) ?_
  refine aw_puti (k := 0) dX12_arriving_2 rfl (by decide) rfl rfl cb_12 (by decide) rfl rfl gw_1594 ?_
  refine aw_aload_n (j := 0) (i := 0) dX12_arriving_5 rfl rfl rfl ?_
  refine aw_iload_n (j := 1) (i := 1) dX12_arriving_6 rfl rfl rfl ?_
  refine aw_callV (M' := mX12_noPart) (S := []) (as := [vI a1]) (k := 0) dX12_arriving_7 rfl (by decide) rfl rfl gw_1784 gw_1786 gw_50 mb_X12_noPart rfl (Nat.zero_le _) (Nat.le_of_ble_eq_true rfl) rfl (CL.imp k (fun _ h1 k => ?_) (fun _ _ k => k))
  obtain ⟨r2, rfl, k⟩ := oI_of k
  show AW X (d + 1) rb mX12_arriving 10 _ [vI r2] h1 Qr Qx
  refine aw_if_eq 17 dX12_arriving_10 rfl rfl (fun c => ?_) (fun c => ?_)
  · replace k := k.1 c
    refine aw_aload_n (j := 0) (i := 0) dX12_arriving_17 rfl rfl rfl ?_
    refine aw_iload_n (j := 1) (i := 1) dX12_arriving_18 rfl rfl rfl ?_
    refine aw_ldcI dX12_arriving_19 rfl gw_1829 ?_
    refine aw_callV (M' := mX12_comesBy) (S := []) (as := [vI a1, vI 2147483647]) (k := 0) dX12_arriving_21 rfl (by decide) rfl rfl gw_1830 gw_1832 gw_53 mb_X12_comesBy rfl (Nat.zero_le _) (Nat.le_of_ble_eq_true rfl) rfl (CL.imp k (fun _ h3 k => ?_) (fun _ _ k => k))
    obtain ⟨r4, rfl, k⟩ := oI_of k
    show AW X (d + 1) rb mX12_arriving 24 _ [vI r4] h3 Qr Qx
    exact aw_iret dX12_arriving_24 rfl k
  · replace k := k.2 c
    refine aw_iconst (v := 0) dX12_arriving_13 rfl (by decide) ?_
    refine aw_goto 24 dX12_arriving_14 rfl ?_
    exact aw_iret dX12_arriving_24 rfl k
set_option maxHeartbeats 4000000 in
set_option maxRecDepth 100000 in
theorem vc_X12_nextArrival_0 {X : WD → State → Prop} {d rb : Nat} {h : Hp} {Qr : Option AV → Hp → Prop} {Qx : String → Hp → Prop} {a1 : Int32}  (k : CL 0 d mX12_noPart [vR 12 0, vI a1] (hp_i h 12 0 0 0) (oI fun r2 h1 => ((r2 = 0) → AW X (d + 1) rb mX12_nextArrival 19 [(0, vR 12 0), (1, vI a1), (2, vI (-1)), (3, vI 0)] [] h1 Qr Qx) ∧ ((¬ r2 = 0) → Qr (some (vI 0)) h1)) Qx) : AW X (d + 1) rb mX12_nextArrival 0 [(0, vR 12 0), (1, vI a1)] [] h Qr Qx := by
  refine aw_aload_n (j := 0) (i := 0) dX12_nextArrival_0 rfl rfl rfl ?_
  refine aw_iconst (v := 0) dX12_nextArrival_1 rfl (by decide) ?_
  refine aw_puti (k := 0) dX12_nextArrival_2 rfl (by decide) rfl rfl cb_12 (by decide) rfl rfl gw_1594 ?_
  refine aw_aload_n (j := 0) (i := 0) dX12_nextArrival_5 rfl rfl rfl ?_
  refine aw_iload_n (j := 1) (i := 1) dX12_nextArrival_6 rfl rfl rfl ?_
  refine aw_callV (M' := mX12_noPart) (S := []) (as := [vI a1]) (k := 0) dX12_nextArrival_7 rfl (by decide) rfl rfl gw_1784 gw_1786 gw_50 mb_X12_noPart rfl (Nat.zero_le _) (Nat.le_of_ble_eq_true rfl) rfl (CL.imp k (fun _ h1 k => ?_) (fun _ _ k => k))
  obtain ⟨r2, rfl, k⟩ := oI_of k
  show AW X (d + 1) rb mX12_nextArrival 10 _ [vI r2] h1 Qr Qx
  refine aw_if_eq 15 dX12_nextArrival_10 rfl rfl (fun c => ?_) (fun c => ?_)
  · replace k := k.1 c
    refine aw_iconst (v := (-1)) dX12_nextArrival_15 rfl (by decide) ?_
    refine aw_istore_n (i := 2) (L2 := [(2, vI (-1)), (0, vR 12 0), (1, vI a1)]) dX12_nextArrival_16 rfl rfl (by decide) rfl ?_
    refine aw_iconst (v := 0) dX12_nextArrival_17 rfl (by decide) ?_
    refine aw_istore_n (i := 3) (L2 := [(3, vI 0), (2, vI (-1)), (0, vR 12 0), (1, vI a1)]) dX12_nextArrival_18 rfl rfl (by decide) rfl ?_
    exact aw_sub [2, 3, 1, 0] rfl k
  · replace k := k.2 c
    refine aw_iconst (v := 0) dX12_nextArrival_13 rfl (by decide) ?_
    exact aw_iret dX12_nextArrival_14 rfl k
set_option maxHeartbeats 4000000 in
set_option maxRecDepth 100000 in
theorem vc_X12_nextArrival_19 {X : WD → State → Prop} {d rb : Nat} {h : Hp} {Qr : Option AV → Hp → Prop} {Qx : String → Hp → Prop} {x1 : Int32} {x2 : Int32} {x3 : Int32}  (k : (((h.1 58 0 2) ≤ x3) → Qr (some (vI x2)) h) ∧ ((¬ (h.1 58 0 2) ≤ x3) → (vp_in ((33 + (3 * x3)) + 2) 301) ∧ (vp_in (33 + (3 * x3)) 301) ∧ ((¬ (h.1 58 0 ((33 + (3 * x3)).toNatClampNeg)) = x1) → AW X (d + 1) rb mX12_nextArrival 19 [(0, vR 12 0), (1, vI x1), (2, vI x2), (3, vI (x3 + 1))] [] h Qr Qx) ∧ (((h.1 58 0 ((33 + (3 * x3)).toNatClampNeg)) = x1) → ((x2 = (-1)) → AW X (d + 1) rb mX12_nextArrival 19 [(0, vR 12 0), (1, vI x1), (2, vI (h.1 58 0 (((33 + (3 * x3)) + 2).toNatClampNeg))), (3, vI (x3 + 1))] [] h Qr Qx) ∧ ((¬ x2 = (-1)) → ((x2 ≤ (h.1 58 0 (((33 + (3 * x3)) + 2).toNatClampNeg))) → AW X (d + 1) rb mX12_nextArrival 19 [(0, vR 12 0), (1, vI x1), (2, vI x2), (3, vI (x3 + 1))] [] h Qr Qx) ∧ ((¬ x2 ≤ (h.1 58 0 (((33 + (3 * x3)) + 2).toNatClampNeg))) → AW X (d + 1) rb mX12_nextArrival 19 [(0, vR 12 0), (1, vI x1), (2, vI (h.1 58 0 (((33 + (3 * x3)) + 2).toNatClampNeg))), (3, vI (x3 + 1))] [] h Qr Qx))))) : AW X (d + 1) rb mX12_nextArrival 19 [(0, vR 12 0), (1, vI x1), (2, vI x2), (3, vI x3)] [] h Qr Qx := by
  refine aw_iload_n (j := 3) (i := 3) dX12_nextArrival_19 rfl rfl rfl ?_
  refine aw_aload_n (j := 0) (i := 0) dX12_nextArrival_20 rfl rfl rfl ?_
  refine aw_getf (k := 14) (z := 58) dX12_nextArrival_21 rfl (by decide) rfl rfl rfl cb_12 (by decide) gw_1608 ?_
  refine aw_iconst (v := 2) dX12_nextArrival_24 rfl (by decide) ?_
  refine aw_iald dX12_nextArrival_25 rfl (by decide) rfl (by unfold vp_in; decide) ?_
  refine aw_icmp_ge 79 dX12_nextArrival_26 rfl rfl (fun c => ?_) (fun c => ?_)
  · replace k := k.1 c
    refine aw_iload_n (j := 2) (i := 2) dX12_nextArrival_79 rfl rfl rfl ?_
    exact aw_iret dX12_nextArrival_80 rfl k
  · replace k := k.2 c
    refine aw_aload_n (j := 0) (i := 0) dX12_nextArrival_29 rfl rfl rfl ?_
    refine aw_getf (k := 14) (z := 58) dX12_nextArrival_30 rfl (by decide) rfl rfl rfl cb_12 (by decide) gw_1608 ?_
    refine aw_bipush (v := 33) dX12_nextArrival_33 rfl (by decide) ?_
    refine aw_iconst (v := 3) dX12_nextArrival_35 rfl (by decide) ?_
    refine aw_iload_n (j := 3) (i := 3) dX12_nextArrival_36 rfl rfl rfl ?_
    refine aw_imul dX12_nextArrival_37 rfl ?_
    refine aw_iadd dX12_nextArrival_38 rfl ?_
    refine aw_iconst (v := 2) dX12_nextArrival_39 rfl (by decide) ?_
    refine aw_iadd dX12_nextArrival_40 rfl ?_
    refine aw_iald dX12_nextArrival_41 rfl (by decide) rfl k.1 ?_
    replace k := k.2
    refine aw_istore (i := 4) (L2 := [(4, vI (h.1 58 0 (((33 + (3 * x3)) + 2).toNatClampNeg))), (0, vR 12 0), (1, vI x1), (2, vI x2), (3, vI x3)]) dX12_nextArrival_42 rfl (by decide) rfl ?_
    refine aw_aload_n (j := 1) (i := 0) dX12_nextArrival_44 rfl rfl rfl ?_
    refine aw_getf (k := 14) (z := 58) dX12_nextArrival_45 rfl (by decide) rfl rfl rfl cb_12 (by decide) gw_1608 ?_
    refine aw_bipush (v := 33) dX12_nextArrival_48 rfl (by decide) ?_
    refine aw_iconst (v := 3) dX12_nextArrival_50 rfl (by decide) ?_
    refine aw_iload_n (j := 4) (i := 3) dX12_nextArrival_51 rfl rfl rfl ?_
    refine aw_imul dX12_nextArrival_52 rfl ?_
    refine aw_iadd dX12_nextArrival_53 rfl ?_
    refine aw_iald dX12_nextArrival_54 rfl (by decide) rfl k.1 ?_
    replace k := k.2
    refine aw_iload_n (j := 2) (i := 1) dX12_nextArrival_55 rfl rfl rfl ?_
    refine aw_icmp_ne 73 dX12_nextArrival_56 rfl rfl (fun c => ?_) (fun c => ?_)
    · replace k := k.1 c
      refine aw_iinc (i := 3) (j := 4) (v := x3 + 1) (L2 := [(3, vI (x3 + 1)), (4, vI (h.1 58 0 (((33 + (3 * x3)) + 2).toNatClampNeg))), (0, vR 12 0), (1, vI x1), (2, vI x2)]) dX12_nextArrival_73 rfl (by decide) rfl rfl rfl ?_
      refine aw_goto 19 dX12_nextArrival_76 rfl ?_
      exact aw_sub [2, 3, 4, 0] rfl k
    · replace k := k.2 c
      refine aw_iload_n (j := 3) (i := 2) dX12_nextArrival_59 rfl rfl rfl ?_
      refine aw_iconst (v := (-1)) dX12_nextArrival_60 rfl (by decide) ?_
      refine aw_icmp_eq 70 dX12_nextArrival_61 rfl rfl (fun c => ?_) (fun c => ?_)
      · replace k := k.1 c
        refine aw_iload (j := 0) (i := 4) dX12_nextArrival_70 rfl rfl ?_
        refine aw_istore_n (i := 2) (L2 := [(2, vI (h.1 58 0 (((33 + (3 * x3)) + 2).toNatClampNeg))), (4, vI (h.1 58 0 (((33 + (3 * x3)) + 2).toNatClampNeg))), (0, vR 12 0), (1, vI x1), (3, vI x3)]) dX12_nextArrival_72 rfl rfl (by decide) rfl ?_
        refine aw_iinc (i := 3) (j := 4) (v := x3 + 1) (L2 := [(3, vI (x3 + 1)), (2, vI (h.1 58 0 (((33 + (3 * x3)) + 2).toNatClampNeg))), (4, vI (h.1 58 0 (((33 + (3 * x3)) + 2).toNatClampNeg))), (0, vR 12 0), (1, vI x1)]) dX12_nextArrival_73 rfl (by decide) rfl rfl rfl ?_
        refine aw_goto 19 dX12_nextArrival_76 rfl ?_
        exact aw_sub [3, 4, 1, 0] rfl k
      · replace k := k.2 c
        refine aw_iload (j := 0) (i := 4) dX12_nextArrival_64 rfl rfl ?_
        refine aw_iload_n (j := 3) (i := 2) dX12_nextArrival_66 rfl rfl rfl ?_
        refine aw_icmp_ge 73 dX12_nextArrival_67 rfl rfl (fun c => ?_) (fun c => ?_)
        · replace k := k.1 c
          refine aw_iinc (i := 3) (j := 4) (v := x3 + 1) (L2 := [(3, vI (x3 + 1)), (4, vI (h.1 58 0 (((33 + (3 * x3)) + 2).toNatClampNeg))), (0, vR 12 0), (1, vI x1), (2, vI x2)]) dX12_nextArrival_73 rfl (by decide) rfl rfl rfl ?_
          refine aw_goto 19 dX12_nextArrival_76 rfl ?_
          exact aw_sub [2, 3, 4, 0] rfl k
        · replace k := k.2 c
          refine aw_iload (j := 0) (i := 4) dX12_nextArrival_70 rfl rfl ?_
          refine aw_istore_n (i := 2) (L2 := [(2, vI (h.1 58 0 (((33 + (3 * x3)) + 2).toNatClampNeg))), (4, vI (h.1 58 0 (((33 + (3 * x3)) + 2).toNatClampNeg))), (0, vR 12 0), (1, vI x1), (3, vI x3)]) dX12_nextArrival_72 rfl rfl (by decide) rfl ?_
          refine aw_iinc (i := 3) (j := 4) (v := x3 + 1) (L2 := [(3, vI (x3 + 1)), (2, vI (h.1 58 0 (((33 + (3 * x3)) + 2).toNatClampNeg))), (4, vI (h.1 58 0 (((33 + (3 * x3)) + 2).toNatClampNeg))), (0, vR 12 0), (1, vI x1)]) dX12_nextArrival_73 rfl (by decide) rfl rfl rfl ?_
          refine aw_goto 19 dX12_nextArrival_76 rfl ?_
          exact aw_sub [3, 4, 1, 0] rfl k
set_option maxHeartbeats 4000000 in
set_option maxRecDepth 100000 in
theorem vc_X12_leastOf_0 {X : WD → State → Prop} {d rb : Nat} {h : Hp} {Qr : Option AV → Hp → Prop} {Qx : String → Hp → Prop} {a1 : Int32}  (k : AW X (d + 1) rb mX12_leastOf 4 [(0, vR 12 0), (1, vI a1), (2, vI (-1)), (3, vI 0)] [] h Qr Qx) : AW X (d + 1) rb mX12_leastOf 0 [(0, vR 12 0), (1, vI a1)] [] h Qr Qx := by
  refine aw_iconst (v := (-1)) dX12_leastOf_0 rfl (by decide) ?_
  refine aw_istore_n (i := 2) (L2 := [(2, vI (-1)), (0, vR 12 0), (1, vI a1)]) dX12_leastOf_1 rfl rfl (by decide) rfl ?_
  refine aw_iconst (v := 0) dX12_leastOf_2 rfl (by decide) ?_
  refine aw_istore_n (i := 3) (L2 := [(3, vI 0), (2, vI (-1)), (0, vR 12 0), (1, vI a1)]) dX12_leastOf_3 rfl rfl (by decide) rfl ?_
  exact aw_sub [2, 3, 1, 0] rfl k
set_option maxHeartbeats 4000000 in
set_option maxRecDepth 100000 in
theorem vc_X12_leastOf_4 {X : WD → State → Prop} {d rb : Nat} {h : Hp} {Qr : Option AV → Hp → Prop} {Qx : String → Hp → Prop} {x1 : Int32} {x2 : Int32} {x3 : Int32}  (k : (((h.1 56 0 0) ≤ x3) → Qr (some (vI x2)) h) ∧ ((¬ (h.1 56 0 0) ≤ x3) → CL 0 d mX12_needs [vR 12 0, vI x1, vI x3] h (oI fun r2 h1 => ((r2 ≤ 0) → AW X (d + 1) rb mX12_leastOf 4 [(0, vR 12 0), (1, vI x1), (2, vI x2), (3, vI (x3 + 1))] [] h1 Qr Qx) ∧ ((¬ r2 ≤ 0) → ((x2 = (-1)) → AW X (d + 1) rb mX12_leastOf 4 [(0, vR 12 0), (1, vI x1), (2, vI x3), (3, vI (x3 + 1))] [] h1 Qr Qx) ∧ ((¬ x2 = (-1)) → CL 0 d mX12_free [vR 12 0, vI x3] h1 (oI fun r4 h3 => CL 0 d mX12_needs [vR 12 0, vI x1, vI x3] h3 (oI fun r6 h5 => (¬ r6 = 0) ∧ CL 0 d mX12_free [vR 12 0, vI x2] h5 (oI fun r8 h7 => CL 0 d mX12_needs [vR 12 0, vI x1, vI x2] h7 (oI fun r10 h9 => (¬ r10 = 0) ∧ (((r8 / r10) ≤ (r4 / r6)) → AW X (d + 1) rb mX12_leastOf 4 [(0, vR 12 0), (1, vI x1), (2, vI x2), (3, vI (x3 + 1))] [] h9 Qr Qx) ∧ ((¬ (r8 / r10) ≤ (r4 / r6)) → AW X (d + 1) rb mX12_leastOf 4 [(0, vR 12 0), (1, vI x1), (2, vI x3), (3, vI (x3 + 1))] [] h9 Qr Qx)) Qx) Qx) Qx) Qx))) Qx)) : AW X (d + 1) rb mX12_leastOf 4 [(0, vR 12 0), (1, vI x1), (2, vI x2), (3, vI x3)] [] h Qr Qx := by
  refine aw_iload_n (j := 3) (i := 3) dX12_leastOf_4 rfl rfl rfl ?_
  refine aw_aload_n (j := 0) (i := 0) dX12_leastOf_5 rfl rfl rfl ?_
  refine aw_getf (k := 11) (z := 56) dX12_leastOf_6 rfl (by decide) rfl rfl rfl cb_12 (by decide) gw_1605 ?_
  refine aw_iconst (v := 0) dX12_leastOf_9 rfl (by decide) ?_
  refine aw_iald dX12_leastOf_10 rfl (by decide) rfl (by unfold vp_in; decide) ?_
  refine aw_icmp_ge 63 dX12_leastOf_11 rfl rfl (fun c => ?_) (fun c => ?_)
  · replace k := k.1 c
    refine aw_iload_n (j := 2) (i := 2) dX12_leastOf_63 rfl rfl rfl ?_
    exact aw_iret dX12_leastOf_64 rfl k
  · replace k := k.2 c
    refine aw_aload_n (j := 0) (i := 0) dX12_leastOf_14 rfl rfl rfl ?_
    refine aw_iload_n (j := 1) (i := 1) dX12_leastOf_15 rfl rfl rfl ?_
    refine aw_iload_n (j := 3) (i := 3) dX12_leastOf_16 rfl rfl rfl ?_
    refine aw_callV (M' := mX12_needs) (S := []) (as := [vI x1, vI x3]) (k := 0) dX12_leastOf_17 rfl (by decide) rfl rfl gw_1788 gw_1790 gw_51 mb_X12_needs rfl (Nat.zero_le _) (Nat.le_of_ble_eq_true rfl) rfl (CL.imp k (fun _ h1 k => ?_) (fun _ _ k => k))
    obtain ⟨r2, rfl, k⟩ := oI_of k
    show AW X (d + 1) rb mX12_leastOf 20 _ [vI r2] h1 Qr Qx
    refine aw_if_le 57 dX12_leastOf_20 rfl rfl (fun c => ?_) (fun c => ?_)
    · replace k := k.1 c
      refine aw_iinc (i := 3) (j := 3) (v := x3 + 1) (L2 := [(3, vI (x3 + 1)), (0, vR 12 0), (1, vI x1), (2, vI x2)]) dX12_leastOf_57 rfl (by decide) rfl rfl rfl ?_
      refine aw_goto 4 dX12_leastOf_60 rfl ?_
      exact aw_sub [1, 2, 3, 0] rfl k
    · replace k := k.2 c
      refine aw_iload_n (j := 2) (i := 2) dX12_leastOf_23 rfl rfl rfl ?_
      refine aw_iconst (v := (-1)) dX12_leastOf_24 rfl (by decide) ?_
      refine aw_icmp_eq 55 dX12_leastOf_25 rfl rfl (fun c => ?_) (fun c => ?_)
      · replace k := k.1 c
        refine aw_iload_n (j := 3) (i := 3) dX12_leastOf_55 rfl rfl rfl ?_
        refine aw_istore_n (i := 2) (L2 := [(2, vI x3), (0, vR 12 0), (1, vI x1), (3, vI x3)]) dX12_leastOf_56 rfl rfl (by decide) rfl ?_
        refine aw_iinc (i := 3) (j := 3) (v := x3 + 1) (L2 := [(3, vI (x3 + 1)), (2, vI x3), (0, vR 12 0), (1, vI x1)]) dX12_leastOf_57 rfl (by decide) rfl rfl rfl ?_
        refine aw_goto 4 dX12_leastOf_60 rfl ?_
        exact aw_sub [2, 3, 1, 0] rfl k
      · replace k := k.2 c
        refine aw_aload_n (j := 0) (i := 0) dX12_leastOf_28 rfl rfl rfl ?_
        refine aw_iload_n (j := 3) (i := 3) dX12_leastOf_29 rfl rfl rfl ?_
        refine aw_callV (M' := mX12_free) (S := []) (as := [vI x3]) (k := 0) dX12_leastOf_30 rfl (by decide) rfl rfl gw_1850 gw_1852 gw_56 mb_X12_free rfl (Nat.zero_le _) (Nat.le_of_ble_eq_true rfl) rfl (CL.imp k (fun _ h3 k => ?_) (fun _ _ k => k))
        obtain ⟨r4, rfl, k⟩ := oI_of k
        show AW X (d + 1) rb mX12_leastOf 33 _ [vI r4] h3 Qr Qx
        refine aw_aload_n (j := 0) (i := 0) dX12_leastOf_33 rfl rfl rfl ?_
        refine aw_iload_n (j := 1) (i := 1) dX12_leastOf_34 rfl rfl rfl ?_
        refine aw_iload_n (j := 3) (i := 3) dX12_leastOf_35 rfl rfl rfl ?_
        refine aw_callV (M' := mX12_needs) (S := [vI r4]) (as := [vI x1, vI x3]) (k := 0) dX12_leastOf_36 rfl (by decide) rfl rfl gw_1788 gw_1790 gw_51 mb_X12_needs rfl (Nat.zero_le _) (Nat.le_of_ble_eq_true rfl) rfl (CL.imp k (fun _ h5 k => ?_) (fun _ _ k => k))
        obtain ⟨r6, rfl, k⟩ := oI_of k
        show AW X (d + 1) rb mX12_leastOf 39 _ [vI r6, vI r4] h5 Qr Qx
        refine aw_idiv dX12_leastOf_39 rfl k.1 ?_
        replace k := k.2
        refine aw_aload_n (j := 0) (i := 0) dX12_leastOf_40 rfl rfl rfl ?_
        refine aw_iload_n (j := 2) (i := 2) dX12_leastOf_41 rfl rfl rfl ?_
        refine aw_callV (M' := mX12_free) (S := [vI (r4 / r6)]) (as := [vI x2]) (k := 0) dX12_leastOf_42 rfl (by decide) rfl rfl gw_1850 gw_1852 gw_56 mb_X12_free rfl (Nat.zero_le _) (Nat.le_of_ble_eq_true rfl) rfl (CL.imp k (fun _ h7 k => ?_) (fun _ _ k => k))
        obtain ⟨r8, rfl, k⟩ := oI_of k
        show AW X (d + 1) rb mX12_leastOf 45 _ [vI r8, vI (r4 / r6)] h7 Qr Qx
        refine aw_aload_n (j := 0) (i := 0) dX12_leastOf_45 rfl rfl rfl ?_
        refine aw_iload_n (j := 1) (i := 1) dX12_leastOf_46 rfl rfl rfl ?_
        refine aw_iload_n (j := 2) (i := 2) dX12_leastOf_47 rfl rfl rfl ?_
        refine aw_callV (M' := mX12_needs) (S := [vI r8, vI (r4 / r6)]) (as := [vI x1, vI x2]) (k := 0) dX12_leastOf_48 rfl (by decide) rfl rfl gw_1788 gw_1790 gw_51 mb_X12_needs rfl (Nat.zero_le _) (Nat.le_of_ble_eq_true rfl) rfl (CL.imp k (fun _ h9 k => ?_) (fun _ _ k => k))
        obtain ⟨r10, rfl, k⟩ := oI_of k
        show AW X (d + 1) rb mX12_leastOf 51 _ [vI r10, vI r8, vI (r4 / r6)] h9 Qr Qx
        refine aw_idiv dX12_leastOf_51 rfl k.1 ?_
        replace k := k.2
        refine aw_icmp_ge 57 dX12_leastOf_52 rfl rfl (fun c => ?_) (fun c => ?_)
        · replace k := k.1 c
          refine aw_iinc (i := 3) (j := 3) (v := x3 + 1) (L2 := [(3, vI (x3 + 1)), (0, vR 12 0), (1, vI x1), (2, vI x2)]) dX12_leastOf_57 rfl (by decide) rfl rfl rfl ?_
          refine aw_goto 4 dX12_leastOf_60 rfl ?_
          exact aw_sub [1, 2, 3, 0] rfl k
        · replace k := k.2 c
          refine aw_iload_n (j := 3) (i := 3) dX12_leastOf_55 rfl rfl rfl ?_
          refine aw_istore_n (i := 2) (L2 := [(2, vI x3), (0, vR 12 0), (1, vI x1), (3, vI x3)]) dX12_leastOf_56 rfl rfl (by decide) rfl ?_
          refine aw_iinc (i := 3) (j := 3) (v := x3 + 1) (L2 := [(3, vI (x3 + 1)), (2, vI x3), (0, vR 12 0), (1, vI x1)]) dX12_leastOf_57 rfl (by decide) rfl rfl rfl ?_
          refine aw_goto 4 dX12_leastOf_60 rfl ?_
          exact aw_sub [2, 3, 1, 0] rfl k
set_option maxHeartbeats 4000000 in
set_option maxRecDepth 100000 in
theorem vc_X12_builds_0 {X : WD → State → Prop} {d rb : Nat} {h : Hp} {Qr : Option AV → Hp → Prop} {Qx : String → Hp → Prop} {a1 : Int32}  (k : CL 0 d mX12_leastOf [vR 12 0, vI a1] h (oI fun r2 h1 => CL 0 d mX12_free [vR 12 0, vI r2] h1 (oI fun r4 h3 => CL 0 d mX12_leastOf [vR 12 0, vI a1] h3 (oI fun r6 h5 => CL 0 d mX12_needs [vR 12 0, vI a1, vI r6] h5 (oI fun r8 h7 => (¬ r8 = 0) ∧ Qr (some (vI (r4 / r8))) h7) Qx) Qx) Qx) Qx) : AW X (d + 1) rb mX12_builds 0 [(0, vR 12 0), (1, vI a1)] [] h Qr Qx := by
  refine aw_aload_n (j := 0) (i := 0) dX12_builds_0 rfl rfl rfl ?_
  refine aw_aload_n (j := 0) (i := 0) dX12_builds_1 rfl rfl rfl ?_
  refine aw_iload_n (j := 1) (i := 1) dX12_builds_2 rfl rfl rfl ?_
  refine aw_callV (M' := mX12_leastOf) (S := [vR 12 0]) (as := [vI a1]) (k := 0) dX12_builds_3 rfl (by decide) rfl rfl gw_1846 gw_1848 gw_55 mb_X12_leastOf rfl (Nat.zero_le _) (Nat.le_of_ble_eq_true rfl) rfl (CL.imp k (fun _ h1 k => ?_) (fun _ _ k => k))
  obtain ⟨r2, rfl, k⟩ := oI_of k
  show AW X (d + 1) rb mX12_builds 6 _ [vI r2, vR 12 0] h1 Qr Qx
  refine aw_callV (M' := mX12_free) (S := []) (as := [vI r2]) (k := 0) dX12_builds_6 rfl (by decide) rfl rfl gw_1850 gw_1852 gw_56 mb_X12_free rfl (Nat.zero_le _) (Nat.le_of_ble_eq_true rfl) rfl (CL.imp k (fun _ h3 k => ?_) (fun _ _ k => k))
  obtain ⟨r4, rfl, k⟩ := oI_of k
  show AW X (d + 1) rb mX12_builds 9 _ [vI r4] h3 Qr Qx
  refine aw_aload_n (j := 0) (i := 0) dX12_builds_9 rfl rfl rfl ?_
  refine aw_iload_n (j := 1) (i := 1) dX12_builds_10 rfl rfl rfl ?_
  refine aw_aload_n (j := 0) (i := 0) dX12_builds_11 rfl rfl rfl ?_
  refine aw_iload_n (j := 1) (i := 1) dX12_builds_12 rfl rfl rfl ?_
  refine aw_callV (M' := mX12_leastOf) (S := [vI a1, vR 12 0, vI r4]) (as := [vI a1]) (k := 0) dX12_builds_13 rfl (by decide) rfl rfl gw_1846 gw_1848 gw_55 mb_X12_leastOf rfl (Nat.zero_le _) (Nat.le_of_ble_eq_true rfl) rfl (CL.imp k (fun _ h5 k => ?_) (fun _ _ k => k))
  obtain ⟨r6, rfl, k⟩ := oI_of k
  show AW X (d + 1) rb mX12_builds 16 _ [vI r6, vI a1, vR 12 0, vI r4] h5 Qr Qx
  refine aw_callV (M' := mX12_needs) (S := [vI r4]) (as := [vI a1, vI r6]) (k := 0) dX12_builds_16 rfl (by decide) rfl rfl gw_1788 gw_1790 gw_51 mb_X12_needs rfl (Nat.zero_le _) (Nat.le_of_ble_eq_true rfl) rfl (CL.imp k (fun _ h7 k => ?_) (fun _ _ k => k))
  obtain ⟨r8, rfl, k⟩ := oI_of k
  show AW X (d + 1) rb mX12_builds 19 _ [vI r8, vI r4] h7 Qr Qx
  refine aw_idiv dX12_builds_19 rfl k.1 ?_
  replace k := k.2
  exact aw_iret dX12_builds_20 rfl k
set_option maxHeartbeats 4000000 in
set_option maxRecDepth 100000 in
theorem vc_X12_buildable_0 {X : WD → State → Prop} {d rb : Nat} {h : Hp} {Qr : Option AV → Hp → Prop} {Qx : String → Hp → Prop} {a1 : Int32}  (k : CL 0 d mX12_noProduct [vR 12 0, vI a1] (hp_i h 12 0 0 0) (oI fun r2 h1 => ((r2 = 0) → CL 0 d mX12_builds [vR 12 0, vI a1] h1 (oI fun r4 h3 => Qr (some (vI r4)) h3) Qx) ∧ ((¬ r2 = 0) → Qr (some (vI 0)) h1)) Qx) : AW X (d + 1) rb mX12_buildable 0 [(0, vR 12 0), (1, vI a1)] [] h Qr Qx := by
  refine aw_aload_n (j := 0) (i := 0) dX12_buildable_0 rfl rfl rfl ?_
  refine aw_iconst (v := 0) dX12_buildable_1 rfl (by decide) ?_
  refine aw_puti (k := 0) dX12_buildable_2 rfl (by decide) rfl rfl cb_12 (by decide) rfl rfl gw_1594 ?_
  refine aw_aload_n (j := 0) (i := 0) dX12_buildable_5 rfl rfl rfl ?_
  refine aw_iload_n (j := 1) (i := 1) dX12_buildable_6 rfl rfl rfl ?_
  refine aw_callV (M' := mX12_noProduct) (S := []) (as := [vI a1]) (k := 0) dX12_buildable_7 rfl (by decide) rfl rfl gw_1768 gw_1770 gw_49 mb_X12_noProduct rfl (Nat.zero_le _) (Nat.le_of_ble_eq_true rfl) rfl (CL.imp k (fun _ h1 k => ?_) (fun _ _ k => k))
  obtain ⟨r2, rfl, k⟩ := oI_of k
  show AW X (d + 1) rb mX12_buildable 10 _ [vI r2] h1 Qr Qx
  refine aw_if_eq 17 dX12_buildable_10 rfl rfl (fun c => ?_) (fun c => ?_)
  · replace k := k.1 c
    refine aw_aload_n (j := 0) (i := 0) dX12_buildable_17 rfl rfl rfl ?_
    refine aw_iload_n (j := 1) (i := 1) dX12_buildable_18 rfl rfl rfl ?_
    refine aw_callV (M' := mX12_builds) (S := []) (as := [vI a1]) (k := 0) dX12_buildable_19 rfl (by decide) rfl rfl gw_1842 gw_1844 gw_54 mb_X12_builds rfl (Nat.zero_le _) (Nat.le_of_ble_eq_true rfl) rfl (CL.imp k (fun _ h3 k => ?_) (fun _ _ k => k))
    obtain ⟨r4, rfl, k⟩ := oI_of k
    show AW X (d + 1) rb mX12_buildable 22 _ [vI r4] h3 Qr Qx
    exact aw_iret dX12_buildable_22 rfl k
  · replace k := k.2 c
    refine aw_iconst (v := 0) dX12_buildable_13 rfl (by decide) ?_
    refine aw_goto 22 dX12_buildable_14 rfl ?_
    exact aw_iret dX12_buildable_22 rfl k
set_option maxHeartbeats 4000000 in
set_option maxRecDepth 100000 in
theorem vc_X12_bottleneck_0 {X : WD → State → Prop} {d rb : Nat} {h : Hp} {Qr : Option AV → Hp → Prop} {Qx : String → Hp → Prop} {a1 : Int32}  (k : CL 0 d mX12_noProduct [vR 12 0, vI a1] (hp_i h 12 0 0 0) (oI fun r2 h1 => ((r2 = 0) → CL 0 d mX12_leastOf [vR 12 0, vI a1] h1 (oI fun r4 h3 => Qr (some (vI r4)) h3) Qx) ∧ ((¬ r2 = 0) → Qr (some (vI 0)) h1)) Qx) : AW X (d + 1) rb mX12_bottleneck 0 [(0, vR 12 0), (1, vI a1)] [] h Qr Qx := by
  refine aw_aload_n (j := 0) (i := 0) dX12_bottleneck_0 rfl rfl rfl ?_
  refine aw_iconst (v := 0) dX12_bottleneck_1 rfl (by decide) ?_
  refine aw_puti (k := 0) dX12_bottleneck_2 rfl (by decide) rfl rfl cb_12 (by decide) rfl rfl gw_1594 ?_
  refine aw_aload_n (j := 0) (i := 0) dX12_bottleneck_5 rfl rfl rfl ?_
  refine aw_iload_n (j := 1) (i := 1) dX12_bottleneck_6 rfl rfl rfl ?_
  refine aw_callV (M' := mX12_noProduct) (S := []) (as := [vI a1]) (k := 0) dX12_bottleneck_7 rfl (by decide) rfl rfl gw_1768 gw_1770 gw_49 mb_X12_noProduct rfl (Nat.zero_le _) (Nat.le_of_ble_eq_true rfl) rfl (CL.imp k (fun _ h1 k => ?_) (fun _ _ k => k))
  obtain ⟨r2, rfl, k⟩ := oI_of k
  show AW X (d + 1) rb mX12_bottleneck 10 _ [vI r2] h1 Qr Qx
  refine aw_if_eq 17 dX12_bottleneck_10 rfl rfl (fun c => ?_) (fun c => ?_)
  · replace k := k.1 c
    refine aw_aload_n (j := 0) (i := 0) dX12_bottleneck_17 rfl rfl rfl ?_
    refine aw_iload_n (j := 1) (i := 1) dX12_bottleneck_18 rfl rfl rfl ?_
    refine aw_callV (M' := mX12_leastOf) (S := []) (as := [vI a1]) (k := 0) dX12_bottleneck_19 rfl (by decide) rfl rfl gw_1846 gw_1848 gw_55 mb_X12_leastOf rfl (Nat.zero_le _) (Nat.le_of_ble_eq_true rfl) rfl (CL.imp k (fun _ h3 k => ?_) (fun _ _ k => k))
    obtain ⟨r4, rfl, k⟩ := oI_of k
    show AW X (d + 1) rb mX12_bottleneck 22 _ [vI r4] h3 Qr Qx
    exact aw_iret dX12_bottleneck_22 rfl k
  · replace k := k.2 c
    refine aw_iconst (v := 0) dX12_bottleneck_13 rfl (by decide) ?_
    refine aw_goto 22 dX12_bottleneck_14 rfl ?_
    exact aw_iret dX12_bottleneck_22 rfl k
set_option maxHeartbeats 4000000 in
set_option maxRecDepth 100000 in
theorem vc_X12_buildableTogether_0 {X : WD → State → Prop} {d rb : Nat} {h : Hp} {Qr : Option AV → Hp → Prop} {Qx : String → Hp → Prop} {a1 : Int32} {a2 : Int32}  (k : CL 0 d mX12_noProduct [vR 12 0, vI a1] (hp_i h 12 0 0 0) (oI fun r2 h1 => ((¬ r2 = 0) → Qr (some (vI 0)) h1) ∧ ((r2 = 0) → CL 0 d mX12_noProduct [vR 12 0, vI a2] h1 (oI fun r4 h3 => ((¬ r4 = 0) → Qr (some (vI 0)) h3) ∧ ((r4 = 0) → CL 0 d mX12_throwsIf [vR 12 0, vI (if ¬ a1 = a2 then (0 : Int32) else 1), vI 2] h3 (oI fun r6 h5 => ((r6 = 0) → AW X (d + 1) rb mX12_buildableTogether 46 [(0, vR 12 0), (1, vI a1), (2, vI a2), (3, vI 0), (4, vI 0)] [] h5 Qr Qx) ∧ ((¬ r6 = 0) → Qr (some (vI 0)) h5)) Qx)) Qx)) Qx) : AW X (d + 1) rb mX12_buildableTogether 0 [(0, vR 12 0), (1, vI a1), (2, vI a2)] [] h Qr Qx := by
  refine aw_aload_n (j := 0) (i := 0) dX12_buildableTogether_0 rfl rfl rfl ?_
  refine aw_iconst (v := 0) dX12_buildableTogether_1 rfl (by decide) ?_
  refine aw_puti (k := 0) dX12_buildableTogether_2 rfl (by decide) rfl rfl cb_12 (by decide) rfl rfl gw_1594 ?_
  refine aw_aload_n (j := 0) (i := 0) dX12_buildableTogether_5 rfl rfl rfl ?_
  refine aw_iload_n (j := 1) (i := 1) dX12_buildableTogether_6 rfl rfl rfl ?_
  refine aw_callV (M' := mX12_noProduct) (S := []) (as := [vI a1]) (k := 0) dX12_buildableTogether_7 rfl (by decide) rfl rfl gw_1768 gw_1770 gw_49 mb_X12_noProduct rfl (Nat.zero_le _) (Nat.le_of_ble_eq_true rfl) rfl (CL.imp k (fun _ h1 k => ?_) (fun _ _ k => k))
  obtain ⟨r2, rfl, k⟩ := oI_of k
  show AW X (d + 1) rb mX12_buildableTogether 10 _ [vI r2] h1 Qr Qx
  refine aw_if_ne 39 dX12_buildableTogether_10 rfl rfl (fun c => ?_) (fun c => ?_)
  · replace k := k.1 c
    refine aw_iconst (v := 0) dX12_buildableTogether_39 rfl (by decide) ?_
    exact aw_iret dX12_buildableTogether_40 rfl k
  · replace k := k.2 c
    refine aw_aload_n (j := 0) (i := 0) dX12_buildableTogether_13 rfl rfl rfl ?_
    refine aw_iload_n (j := 2) (i := 2) dX12_buildableTogether_14 rfl rfl rfl ?_
    refine aw_callV (M' := mX12_noProduct) (S := []) (as := [vI a2]) (k := 0) dX12_buildableTogether_15 rfl (by decide) rfl rfl gw_1768 gw_1770 gw_49 mb_X12_noProduct rfl (Nat.zero_le _) (Nat.le_of_ble_eq_true rfl) rfl (CL.imp k (fun _ h3 k => ?_) (fun _ _ k => k))
    obtain ⟨r4, rfl, k⟩ := oI_of k
    show AW X (d + 1) rb mX12_buildableTogether 18 _ [vI r4] h3 Qr Qx
    refine aw_if_ne 39 dX12_buildableTogether_18 rfl rfl (fun c => ?_) (fun c => ?_)
    · replace k := k.1 c
      refine aw_iconst (v := 0) dX12_buildableTogether_39 rfl (by decide) ?_
      exact aw_iret dX12_buildableTogether_40 rfl k
    · replace k := k.2 c
      refine aw_aload_n (j := 0) (i := 0) dX12_buildableTogether_21 rfl rfl rfl ?_
      refine aw_iload_n (j := 1) (i := 1) dX12_buildableTogether_22 rfl rfl rfl ?_
      refine aw_iload_n (j := 2) (i := 2) dX12_buildableTogether_23 rfl rfl rfl ?_
      have kk : AW X (d + 1) rb mX12_buildableTogether 32 [(0, vR 12 0), (1, vI a1), (2, vI a2)] [vI (if ¬ a1 = a2 then (0 : Int32) else 1), vR 12 0] h3 Qr Qx := by
        refine aw_iconst (v := 2) dX12_buildableTogether_32 rfl (by decide) ?_
        refine aw_callV (M' := mX12_throwsIf) (S := []) (as := [vI (if ¬ a1 = a2 then (0 : Int32) else 1), vI 2]) (k := 0) dX12_buildableTogether_33 rfl (by decide) rfl rfl gw_1748 gw_1750 gw_48 mb_X12_throwsIf rfl (Nat.zero_le _) (Nat.le_of_ble_eq_true rfl) rfl (CL.imp k (fun _ h5 k => ?_) (fun _ _ k => k))
        obtain ⟨r6, rfl, k⟩ := oI_of k
        show AW X (d + 1) rb mX12_buildableTogether 36 _ [vI r6] h5 Qr Qx
        refine aw_if_eq 41 dX12_buildableTogether_36 rfl rfl (fun c => ?_) (fun c => ?_)
        · replace k := k.1 c
          refine aw_iconst (v := 0) dX12_buildableTogether_41 rfl (by decide) ?_
          refine aw_istore_n (i := 3) (L2 := [(3, vI 0), (0, vR 12 0), (1, vI a1), (2, vI a2)]) dX12_buildableTogether_42 rfl rfl (by decide) rfl ?_
          refine aw_iconst (v := 0) dX12_buildableTogether_43 rfl (by decide) ?_
          refine aw_istore (i := 4) (L2 := [(4, vI 0), (3, vI 0), (0, vR 12 0), (1, vI a1), (2, vI a2)]) dX12_buildableTogether_44 rfl (by decide) rfl ?_
          exact aw_sub [2, 3, 4, 1, 0] rfl k
        · replace k := k.2 c
          refine aw_iconst (v := 0) dX12_buildableTogether_39 rfl (by decide) ?_
          exact aw_iret dX12_buildableTogether_40 rfl k
      refine aw_icmp_ne 31 dX12_buildableTogether_24 rfl rfl (fun (c0 : ¬ a1 = a2) => ?_) (fun (c0 : a1 = a2) => ?_)
      · refine aw_iconst (v := 0) dX12_buildableTogether_31 rfl (by decide) ?_
        simp only [if_pos c0] at kk
        exact kk
      · refine aw_iconst (v := 1) dX12_buildableTogether_27 rfl (by decide) ?_
        refine aw_goto 32 dX12_buildableTogether_28 rfl ?_
        simp only [if_neg (oa_nn c0)] at kk
        exact kk
set_option maxHeartbeats 4000000 in
set_option maxRecDepth 100000 in
theorem vc_X12_buildableTogether_46 {X : WD → State → Prop} {d rb : Nat} {h : Hp} {Qr : Option AV → Hp → Prop} {Qx : String → Hp → Prop} {x1 : Int32} {x2 : Int32} {x3 : Int32} {x4 : Int32}  (k : CL 0 d mX12_builds [vR 12 0, vI x1] h (oI fun r2 h1 => ((r2 < x4) → Qr (some (vI x3)) h1) ∧ ((¬ r2 < x4) → CL 0 d mX12_builds [vR 12 0, vI x2] h1 (oI fun r4 h3 => AW X (d + 1) rb mX12_buildableTogether 66 [(0, vR 12 0), (1, vI x1), (2, vI x2), (3, vI x3), (4, vI x4), (5, vI r4), (6, vI 0)] [] h3 Qr Qx) Qx)) Qx) : AW X (d + 1) rb mX12_buildableTogether 46 [(0, vR 12 0), (1, vI x1), (2, vI x2), (3, vI x3), (4, vI x4)] [] h Qr Qx := by
  refine aw_iload (j := 4) (i := 4) dX12_buildableTogether_46 rfl rfl ?_
  refine aw_aload_n (j := 0) (i := 0) dX12_buildableTogether_48 rfl rfl rfl ?_
  refine aw_iload_n (j := 1) (i := 1) dX12_buildableTogether_49 rfl rfl rfl ?_
  refine aw_callV (M' := mX12_builds) (S := [vI x4]) (as := [vI x1]) (k := 0) dX12_buildableTogether_50 rfl (by decide) rfl rfl gw_1842 gw_1844 gw_54 mb_X12_builds rfl (Nat.zero_le _) (Nat.le_of_ble_eq_true rfl) rfl (CL.imp k (fun _ h1 k => ?_) (fun _ _ k => k))
  obtain ⟨r2, rfl, k⟩ := oI_of k
  show AW X (d + 1) rb mX12_buildableTogether 53 _ [vI r2, vI x4] h1 Qr Qx
  refine aw_icmp_gt 141 dX12_buildableTogether_53 rfl rfl (fun c => ?_) (fun c => ?_)
  · replace k := k.1 c
    refine aw_iload_n (j := 3) (i := 3) dX12_buildableTogether_141 rfl rfl rfl ?_
    exact aw_iret dX12_buildableTogether_142 rfl k
  · replace k := k.2 c
    refine aw_aload_n (j := 0) (i := 0) dX12_buildableTogether_56 rfl rfl rfl ?_
    refine aw_iload_n (j := 2) (i := 2) dX12_buildableTogether_57 rfl rfl rfl ?_
    refine aw_callV (M' := mX12_builds) (S := []) (as := [vI x2]) (k := 0) dX12_buildableTogether_58 rfl (by decide) rfl rfl gw_1842 gw_1844 gw_54 mb_X12_builds rfl (Nat.zero_le _) (Nat.le_of_ble_eq_true rfl) rfl (CL.imp k (fun _ h3 k => ?_) (fun _ _ k => k))
    obtain ⟨r4, rfl, k⟩ := oI_of k
    show AW X (d + 1) rb mX12_buildableTogether 61 _ [vI r4] h3 Qr Qx
    refine aw_istore (i := 5) (L2 := [(5, vI r4), (0, vR 12 0), (1, vI x1), (2, vI x2), (3, vI x3), (4, vI x4)]) dX12_buildableTogether_61 rfl (by decide) rfl ?_
    refine aw_iconst (v := 0) dX12_buildableTogether_63 rfl (by decide) ?_
    refine aw_istore (i := 6) (L2 := [(6, vI 0), (5, vI r4), (0, vR 12 0), (1, vI x1), (2, vI x2), (3, vI x3), (4, vI x4)]) dX12_buildableTogether_64 rfl (by decide) rfl ?_
    exact aw_sub [2, 3, 4, 5, 6, 1, 0] rfl k
set_option maxHeartbeats 4000000 in
set_option maxRecDepth 100000 in
theorem vc_X12_buildableTogether_66 {X : WD → State → Prop} {d rb : Nat} {h : Hp} {Qr : Option AV → Hp → Prop} {Qx : String → Hp → Prop} {x1 : Int32} {x2 : Int32} {x3 : Int32} {x4 : Int32} {x5 : Int32} {x6 : Int32}  (k : (((h.1 56 0 0) ≤ x6) → AW X (d + 1) rb mX12_buildableTogether 125 [(0, vR 12 0), (1, vI x1), (2, vI x2), (3, vI x3), (4, vI x4), (5, vI x5), (6, vI x6)] [] h Qr Qx) ∧ ((¬ (h.1 56 0 0) ≤ x6) → CL 0 d mX12_needs [vR 12 0, vI x2, vI x6] h (oI fun r2 h1 => ((r2 ≤ 0) → AW X (d + 1) rb mX12_buildableTogether 66 [(0, vR 12 0), (1, vI x1), (2, vI x2), (3, vI x3), (4, vI x4), (5, vI x5), (6, vI (x6 + 1))] [] h1 Qr Qx) ∧ ((¬ r2 ≤ 0) → CL 0 d mX12_free [vR 12 0, vI x6] h1 (oI fun r4 h3 => CL 0 d mX12_needs [vR 12 0, vI x1, vI x6] h3 (oI fun r6 h5 => CL 0 d mX12_needs [vR 12 0, vI x2, vI x6] h5 (oI fun r8 h7 => (¬ r8 = 0) ∧ AW X (d + 1) rb mX12_buildableTogether 66 [(0, vR 12 0), (1, vI x1), (2, vI x2), (3, vI x3), (4, vI x4), (5, vI (if ((r4 - (x4 * r6)) / r8) < x5 then ((r4 - (x4 * r6)) / r8) else x5)), (6, vI (x6 + 1))] [] h7 Qr Qx) Qx) Qx) Qx)) Qx)) : AW X (d + 1) rb mX12_buildableTogether 66 [(0, vR 12 0), (1, vI x1), (2, vI x2), (3, vI x3), (4, vI x4), (5, vI x5), (6, vI x6)] [] h Qr Qx := by
  refine aw_iload (j := 6) (i := 6) dX12_buildableTogether_66 rfl rfl ?_
  refine aw_aload_n (j := 0) (i := 0) dX12_buildableTogether_68 rfl rfl rfl ?_
  refine aw_getf (k := 11) (z := 56) dX12_buildableTogether_69 rfl (by decide) rfl rfl rfl cb_12 (by decide) gw_1605 ?_
  refine aw_iconst (v := 0) dX12_buildableTogether_72 rfl (by decide) ?_
  refine aw_iald dX12_buildableTogether_73 rfl (by decide) rfl (by unfold vp_in; decide) ?_
  refine aw_icmp_ge 125 dX12_buildableTogether_74 rfl rfl (fun c => ?_) (fun c => ?_)
  · replace k := k.1 c
    exact aw_sub [0, 1, 2, 3, 4, 5, 6] rfl k
  · replace k := k.2 c
    refine aw_aload_n (j := 0) (i := 0) dX12_buildableTogether_77 rfl rfl rfl ?_
    refine aw_iload_n (j := 2) (i := 2) dX12_buildableTogether_78 rfl rfl rfl ?_
    refine aw_iload (j := 6) (i := 6) dX12_buildableTogether_79 rfl rfl ?_
    refine aw_callV (M' := mX12_needs) (S := []) (as := [vI x2, vI x6]) (k := 0) dX12_buildableTogether_81 rfl (by decide) rfl rfl gw_1788 gw_1790 gw_51 mb_X12_needs rfl (Nat.zero_le _) (Nat.le_of_ble_eq_true rfl) rfl (CL.imp k (fun _ h1 k => ?_) (fun _ _ k => k))
    obtain ⟨r2, rfl, k⟩ := oI_of k
    show AW X (d + 1) rb mX12_buildableTogether 84 _ [vI r2] h1 Qr Qx
    refine aw_if_le 119 dX12_buildableTogether_84 rfl rfl (fun c => ?_) (fun c => ?_)
    · replace k := k.1 c
      refine aw_iinc (i := 6) (j := 6) (v := x6 + 1) (L2 := [(6, vI (x6 + 1)), (0, vR 12 0), (1, vI x1), (2, vI x2), (3, vI x3), (4, vI x4), (5, vI x5)]) dX12_buildableTogether_119 rfl (by decide) rfl rfl rfl ?_
      refine aw_goto 66 dX12_buildableTogether_122 rfl ?_
      exact aw_sub [1, 2, 3, 4, 5, 6, 0] rfl k
    · replace k := k.2 c
      refine aw_iload (j := 5) (i := 5) dX12_buildableTogether_87 rfl rfl ?_
      refine aw_aload_n (j := 0) (i := 0) dX12_buildableTogether_89 rfl rfl rfl ?_
      refine aw_iload (j := 6) (i := 6) dX12_buildableTogether_90 rfl rfl ?_
      refine aw_callV (M' := mX12_free) (S := [vI x5]) (as := [vI x6]) (k := 0) dX12_buildableTogether_92 rfl (by decide) rfl rfl gw_1850 gw_1852 gw_56 mb_X12_free rfl (Nat.zero_le _) (Nat.le_of_ble_eq_true rfl) rfl (CL.imp k (fun _ h3 k => ?_) (fun _ _ k => k))
      obtain ⟨r4, rfl, k⟩ := oI_of k
      show AW X (d + 1) rb mX12_buildableTogether 95 _ [vI r4, vI x5] h3 Qr Qx
      refine aw_iload (j := 4) (i := 4) dX12_buildableTogether_95 rfl rfl ?_
      refine aw_aload_n (j := 0) (i := 0) dX12_buildableTogether_97 rfl rfl rfl ?_
      refine aw_iload_n (j := 1) (i := 1) dX12_buildableTogether_98 rfl rfl rfl ?_
      refine aw_iload (j := 6) (i := 6) dX12_buildableTogether_99 rfl rfl ?_
      refine aw_callV (M' := mX12_needs) (S := [vI x4, vI r4, vI x5]) (as := [vI x1, vI x6]) (k := 0) dX12_buildableTogether_101 rfl (by decide) rfl rfl gw_1788 gw_1790 gw_51 mb_X12_needs rfl (Nat.zero_le _) (Nat.le_of_ble_eq_true rfl) rfl (CL.imp k (fun _ h5 k => ?_) (fun _ _ k => k))
      obtain ⟨r6, rfl, k⟩ := oI_of k
      show AW X (d + 1) rb mX12_buildableTogether 104 _ [vI r6, vI x4, vI r4, vI x5] h5 Qr Qx
      refine aw_imul dX12_buildableTogether_104 rfl ?_
      refine aw_isub dX12_buildableTogether_105 rfl ?_
      refine aw_aload_n (j := 0) (i := 0) dX12_buildableTogether_106 rfl rfl rfl ?_
      refine aw_iload_n (j := 2) (i := 2) dX12_buildableTogether_107 rfl rfl rfl ?_
      refine aw_iload (j := 6) (i := 6) dX12_buildableTogether_108 rfl rfl ?_
      refine aw_callV (M' := mX12_needs) (S := [vI (r4 - (x4 * r6)), vI x5]) (as := [vI x2, vI x6]) (k := 0) dX12_buildableTogether_110 rfl (by decide) rfl rfl gw_1788 gw_1790 gw_51 mb_X12_needs rfl (Nat.zero_le _) (Nat.le_of_ble_eq_true rfl) rfl (CL.imp k (fun _ h7 k => ?_) (fun _ _ k => k))
      obtain ⟨r8, rfl, k⟩ := oI_of k
      show AW X (d + 1) rb mX12_buildableTogether 113 _ [vI r8, vI (r4 - (x4 * r6)), vI x5] h7 Qr Qx
      refine aw_idiv dX12_buildableTogether_113 rfl k.1 ?_
      replace k := k.2
      refine aw_min dX12_buildableTogether_114 rfl gw_1862 gw_649 gw_104 gw_650 (Nat.le_of_ble_eq_true rfl) ?_
      refine aw_istore (i := 5) (L2 := [(5, vI (if ((r4 - (x4 * r6)) / r8) < x5 then ((r4 - (x4 * r6)) / r8) else x5)), (0, vR 12 0), (1, vI x1), (2, vI x2), (3, vI x3), (4, vI x4), (6, vI x6)]) dX12_buildableTogether_117 rfl (by decide) rfl ?_
      refine aw_iinc (i := 6) (j := 6) (v := x6 + 1) (L2 := [(6, vI (x6 + 1)), (5, vI (if ((r4 - (x4 * r6)) / r8) < x5 then ((r4 - (x4 * r6)) / r8) else x5)), (0, vR 12 0), (1, vI x1), (2, vI x2), (3, vI x3), (4, vI x4)]) dX12_buildableTogether_119 rfl (by decide) rfl rfl rfl ?_
      refine aw_goto 66 dX12_buildableTogether_122 rfl ?_
      exact aw_sub [2, 3, 4, 5, 6, 1, 0] rfl k
set_option maxHeartbeats 4000000 in
set_option maxRecDepth 100000 in
theorem vc_X12_buildableTogether_125 {X : WD → State → Prop} {d rb : Nat} {h : Hp} {Qr : Option AV → Hp → Prop} {Qx : String → Hp → Prop} {x1 : Int32} {x2 : Int32} {x3 : Int32} {x4 : Int32} {x5 : Int32} {x6 : Int32}  (k : AW X (d + 1) rb mX12_buildableTogether 46 [(0, vR 12 0), (1, vI x1), (2, vI x2), (3, vI (if x3 < (x4 + x5) then (x4 + x5) else x3)), (4, vI (x4 + 1))] [] h Qr Qx) : AW X (d + 1) rb mX12_buildableTogether 125 [(0, vR 12 0), (1, vI x1), (2, vI x2), (3, vI x3), (4, vI x4), (5, vI x5), (6, vI x6)] [] h Qr Qx := by
  refine aw_iload_n (j := 3) (i := 3) dX12_buildableTogether_125 rfl rfl rfl ?_
  refine aw_iload (j := 4) (i := 4) dX12_buildableTogether_126 rfl rfl ?_
  refine aw_iload (j := 5) (i := 5) dX12_buildableTogether_128 rfl rfl ?_
  refine aw_iadd dX12_buildableTogether_130 rfl ?_
  refine aw_max dX12_buildableTogether_131 rfl gw_1800 gw_534 gw_104 gw_535 (Nat.le_of_ble_eq_true rfl) ?_
  refine aw_istore_n (i := 3) (L2 := [(3, vI (if x3 < (x4 + x5) then (x4 + x5) else x3)), (0, vR 12 0), (1, vI x1), (2, vI x2), (4, vI x4), (5, vI x5), (6, vI x6)]) dX12_buildableTogether_134 rfl rfl (by decide) rfl ?_
  refine aw_iinc (i := 4) (j := 4) (v := x4 + 1) (L2 := [(4, vI (x4 + 1)), (3, vI (if x3 < (x4 + x5) then (x4 + x5) else x3)), (0, vR 12 0), (1, vI x1), (2, vI x2), (5, vI x5), (6, vI x6)]) dX12_buildableTogether_135 rfl (by decide) rfl rfl rfl ?_
  refine aw_goto 46 dX12_buildableTogether_138 rfl ?_
  exact aw_sub [2, 3, 4, 1, 0] rfl k
set_option maxHeartbeats 4000000 in
set_option maxRecDepth 100000 in
theorem vc_X12_stateOf_0 {X : WD → State → Prop} {d rb : Nat} {h : Hp} {Qr : Option AV → Hp → Prop} {Qx : String → Hp → Prop} {a1 : Int32}  (k : CL 0 d mX12_noOrder [vR 12 0, vI a1] (hp_i h 12 0 0 0) (oI fun r2 h1 => ((r2 = 0) → CL 0 d mX12_of [vR 12 0, vI a1, vI 7] h1 (oI fun r4 h3 => ((¬ r4 = 1) → CL 0 d mX12_of [vR 12 0, vI a1, vI 5] h3 (oI fun r6 h5 => CL 0 d mX12_of [vR 12 0, vI a1, vI 1] h5 (oI fun r8 h7 => ((¬ r6 = r8) → CL 0 d mX12_open [vR 12 0, vI a1] h7 (oI fun r10 h9 => Qr (some (vI (if r10 ≤ 0 then (1 : Int32) else 0))) h9) Qx) ∧ ((r6 = r8) → Qr (some (vI 2)) h7)) Qx) Qx) ∧ ((r4 = 1) → Qr (some (vI 3)) h3)) Qx) ∧ ((¬ r2 = 0) → Qr (some (vI 0)) h1)) Qx) : AW X (d + 1) rb mX12_stateOf 0 [(0, vR 12 0), (1, vI a1)] [] h Qr Qx := by
  refine aw_aload_n (j := 0) (i := 0) dX12_stateOf_0 rfl rfl rfl ?_
  refine aw_iconst (v := 0) dX12_stateOf_1 rfl (by decide) ?_
  refine aw_puti (k := 0) dX12_stateOf_2 rfl (by decide) rfl rfl cb_12 (by decide) rfl rfl gw_1594 ?_
  refine aw_aload_n (j := 0) (i := 0) dX12_stateOf_5 rfl rfl rfl ?_
  refine aw_iload_n (j := 1) (i := 1) dX12_stateOf_6 rfl rfl rfl ?_
  refine aw_callV (M' := mX12_noOrder) (S := []) (as := [vI a1]) (k := 0) dX12_stateOf_7 rfl (by decide) rfl rfl gw_1867 gw_1869 gw_57 mb_X12_noOrder rfl (Nat.zero_le _) (Nat.le_of_ble_eq_true rfl) rfl (CL.imp k (fun _ h1 k => ?_) (fun _ _ k => k))
  obtain ⟨r2, rfl, k⟩ := oI_of k
  show AW X (d + 1) rb mX12_stateOf 10 _ [vI r2] h1 Qr Qx
  refine aw_if_eq 15 dX12_stateOf_10 rfl rfl (fun c => ?_) (fun c => ?_)
  · replace k := k.1 c
    refine aw_aload_n (j := 0) (i := 0) dX12_stateOf_15 rfl rfl rfl ?_
    refine aw_iload_n (j := 1) (i := 1) dX12_stateOf_16 rfl rfl rfl ?_
    refine aw_bipush (v := 7) dX12_stateOf_17 rfl (by decide) ?_
    refine aw_callV (M' := mX12_of) (S := []) (as := [vI a1, vI 7]) (k := 0) dX12_stateOf_19 rfl (by decide) rfl rfl gw_1871 gw_1873 gw_58 mb_X12_of rfl (Nat.zero_le _) (Nat.le_of_ble_eq_true rfl) rfl (CL.imp k (fun _ h3 k => ?_) (fun _ _ k => k))
    obtain ⟨r4, rfl, k⟩ := oI_of k
    show AW X (d + 1) rb mX12_stateOf 22 _ [vI r4] h3 Qr Qx
    refine aw_iconst (v := 1) dX12_stateOf_22 rfl (by decide) ?_
    refine aw_icmp_ne 28 dX12_stateOf_23 rfl rfl (fun c => ?_) (fun c => ?_)
    · replace k := k.1 c
      refine aw_aload_n (j := 0) (i := 0) dX12_stateOf_28 rfl rfl rfl ?_
      refine aw_iload_n (j := 1) (i := 1) dX12_stateOf_29 rfl rfl rfl ?_
      refine aw_iconst (v := 5) dX12_stateOf_30 rfl (by decide) ?_
      refine aw_callV (M' := mX12_of) (S := []) (as := [vI a1, vI 5]) (k := 0) dX12_stateOf_31 rfl (by decide) rfl rfl gw_1871 gw_1873 gw_58 mb_X12_of rfl (Nat.zero_le _) (Nat.le_of_ble_eq_true rfl) rfl (CL.imp k (fun _ h5 k => ?_) (fun _ _ k => k))
      obtain ⟨r6, rfl, k⟩ := oI_of k
      show AW X (d + 1) rb mX12_stateOf 34 _ [vI r6] h5 Qr Qx
      refine aw_aload_n (j := 0) (i := 0) dX12_stateOf_34 rfl rfl rfl ?_
      refine aw_iload_n (j := 1) (i := 1) dX12_stateOf_35 rfl rfl rfl ?_
      refine aw_iconst (v := 1) dX12_stateOf_36 rfl (by decide) ?_
      refine aw_callV (M' := mX12_of) (S := [vI r6]) (as := [vI a1, vI 1]) (k := 0) dX12_stateOf_37 rfl (by decide) rfl rfl gw_1871 gw_1873 gw_58 mb_X12_of rfl (Nat.zero_le _) (Nat.le_of_ble_eq_true rfl) rfl (CL.imp k (fun _ h7 k => ?_) (fun _ _ k => k))
      obtain ⟨r8, rfl, k⟩ := oI_of k
      show AW X (d + 1) rb mX12_stateOf 40 _ [vI r8, vI r6] h7 Qr Qx
      refine aw_icmp_ne 45 dX12_stateOf_40 rfl rfl (fun c => ?_) (fun c => ?_)
      · replace k := k.1 c
        refine aw_aload_n (j := 0) (i := 0) dX12_stateOf_45 rfl rfl rfl ?_
        refine aw_iload_n (j := 1) (i := 1) dX12_stateOf_46 rfl rfl rfl ?_
        refine aw_callV (M' := mX12_open) (S := []) (as := [vI a1]) (k := 0) dX12_stateOf_47 rfl (by decide) rfl rfl gw_1875 gw_1877 gw_59 mb_X12_open rfl (Nat.zero_le _) (Nat.le_of_ble_eq_true rfl) rfl (CL.imp k (fun _ h9 k => ?_) (fun _ _ k => k))
        obtain ⟨r10, rfl, k⟩ := oI_of k
        show AW X (d + 1) rb mX12_stateOf 50 _ [vI r10] h9 Qr Qx
        have kk : AW X (d + 1) rb mX12_stateOf 58 [(0, vR 12 0), (1, vI a1)] [vI (if r10 ≤ 0 then (1 : Int32) else 0)] h9 Qr Qx := by
          exact aw_iret dX12_stateOf_58 rfl k
        refine aw_if_le 57 dX12_stateOf_50 rfl rfl (fun (c0 : r10 ≤ 0) => ?_) (fun (c0 : ¬ r10 ≤ 0) => ?_)
        · refine aw_iconst (v := 1) dX12_stateOf_57 rfl (by decide) ?_
          simp only [if_pos c0] at kk
          exact kk
        · refine aw_iconst (v := 0) dX12_stateOf_53 rfl (by decide) ?_
          refine aw_goto 58 dX12_stateOf_54 rfl ?_
          simp only [if_neg c0] at kk
          exact kk
      · replace k := k.2 c
        refine aw_iconst (v := 2) dX12_stateOf_43 rfl (by decide) ?_
        exact aw_iret dX12_stateOf_44 rfl k
    · replace k := k.2 c
      refine aw_iconst (v := 3) dX12_stateOf_26 rfl (by decide) ?_
      exact aw_iret dX12_stateOf_27 rfl k
  · replace k := k.2 c
    refine aw_iconst (v := 0) dX12_stateOf_13 rfl (by decide) ?_
    exact aw_iret dX12_stateOf_14 rfl k
set_option maxHeartbeats 4000000 in
set_option maxRecDepth 100000 in
theorem vc_X12_openUnits_0 {X : WD → State → Prop} {d rb : Nat} {h : Hp} {Qr : Option AV → Hp → Prop} {Qx : String → Hp → Prop} {a1 : Int32}  (k : CL 0 d mX12_noOrder [vR 12 0, vI a1] (hp_i h 12 0 0 0) (oI fun r2 h1 => ((r2 = 0) → CL 0 d mX12_open [vR 12 0, vI a1] h1 (oI fun r4 h3 => Qr (some (vI r4)) h3) Qx) ∧ ((¬ r2 = 0) → Qr (some (vI 0)) h1)) Qx) : AW X (d + 1) rb mX12_openUnits 0 [(0, vR 12 0), (1, vI a1)] [] h Qr Qx := by
  refine aw_aload_n (j := 0) (i := 0) dX12_openUnits_0 rfl rfl rfl ?_
  refine aw_iconst (v := 0) dX12_openUnits_1 rfl (by decide) ?_
  refine aw_puti (k := 0) dX12_openUnits_2 rfl (by decide) rfl rfl cb_12 (by decide) rfl rfl gw_1594 ?_
  refine aw_aload_n (j := 0) (i := 0) dX12_openUnits_5 rfl rfl rfl ?_
  refine aw_iload_n (j := 1) (i := 1) dX12_openUnits_6 rfl rfl rfl ?_
  refine aw_callV (M' := mX12_noOrder) (S := []) (as := [vI a1]) (k := 0) dX12_openUnits_7 rfl (by decide) rfl rfl gw_1867 gw_1869 gw_57 mb_X12_noOrder rfl (Nat.zero_le _) (Nat.le_of_ble_eq_true rfl) rfl (CL.imp k (fun _ h1 k => ?_) (fun _ _ k => k))
  obtain ⟨r2, rfl, k⟩ := oI_of k
  show AW X (d + 1) rb mX12_openUnits 10 _ [vI r2] h1 Qr Qx
  refine aw_if_eq 17 dX12_openUnits_10 rfl rfl (fun c => ?_) (fun c => ?_)
  · replace k := k.1 c
    refine aw_aload_n (j := 0) (i := 0) dX12_openUnits_17 rfl rfl rfl ?_
    refine aw_iload_n (j := 1) (i := 1) dX12_openUnits_18 rfl rfl rfl ?_
    refine aw_callV (M' := mX12_open) (S := []) (as := [vI a1]) (k := 0) dX12_openUnits_19 rfl (by decide) rfl rfl gw_1875 gw_1877 gw_59 mb_X12_open rfl (Nat.zero_le _) (Nat.le_of_ble_eq_true rfl) rfl (CL.imp k (fun _ h3 k => ?_) (fun _ _ k => k))
    obtain ⟨r4, rfl, k⟩ := oI_of k
    show AW X (d + 1) rb mX12_openUnits 22 _ [vI r4] h3 Qr Qx
    exact aw_iret dX12_openUnits_22 rfl k
  · replace k := k.2 c
    refine aw_iconst (v := 0) dX12_openUnits_13 rfl (by decide) ?_
    refine aw_goto 22 dX12_openUnits_14 rfl ?_
    exact aw_iret dX12_openUnits_22 rfl k
set_option maxHeartbeats 4000000 in
set_option maxRecDepth 100000 in
theorem vc_X12_reservedUnits_0 {X : WD → State → Prop} {d rb : Nat} {h : Hp} {Qr : Option AV → Hp → Prop} {Qx : String → Hp → Prop} {a1 : Int32}  (k : CL 0 d mX12_noOrder [vR 12 0, vI a1] (hp_i h 12 0 0 0) (oI fun r2 h1 => ((r2 = 0) → CL 0 d mX12_of [vR 12 0, vI a1, vI 6] h1 (oI fun r4 h3 => Qr (some (vI r4)) h3) Qx) ∧ ((¬ r2 = 0) → Qr (some (vI 0)) h1)) Qx) : AW X (d + 1) rb mX12_reservedUnits 0 [(0, vR 12 0), (1, vI a1)] [] h Qr Qx := by
  refine aw_aload_n (j := 0) (i := 0) dX12_reservedUnits_0 rfl rfl rfl ?_
  refine aw_iconst (v := 0) dX12_reservedUnits_1 rfl (by decide) ?_
  refine aw_puti (k := 0) dX12_reservedUnits_2 rfl (by decide) rfl rfl cb_12 (by decide) rfl rfl gw_1594 ?_
  refine aw_aload_n (j := 0) (i := 0) dX12_reservedUnits_5 rfl rfl rfl ?_
  refine aw_iload_n (j := 1) (i := 1) dX12_reservedUnits_6 rfl rfl rfl ?_
  refine aw_callV (M' := mX12_noOrder) (S := []) (as := [vI a1]) (k := 0) dX12_reservedUnits_7 rfl (by decide) rfl rfl gw_1867 gw_1869 gw_57 mb_X12_noOrder rfl (Nat.zero_le _) (Nat.le_of_ble_eq_true rfl) rfl (CL.imp k (fun _ h1 k => ?_) (fun _ _ k => k))
  obtain ⟨r2, rfl, k⟩ := oI_of k
  show AW X (d + 1) rb mX12_reservedUnits 10 _ [vI r2] h1 Qr Qx
  refine aw_if_eq 17 dX12_reservedUnits_10 rfl rfl (fun c => ?_) (fun c => ?_)
  · replace k := k.1 c
    refine aw_aload_n (j := 0) (i := 0) dX12_reservedUnits_17 rfl rfl rfl ?_
    refine aw_iload_n (j := 1) (i := 1) dX12_reservedUnits_18 rfl rfl rfl ?_
    refine aw_bipush (v := 6) dX12_reservedUnits_19 rfl (by decide) ?_
    refine aw_callV (M' := mX12_of) (S := []) (as := [vI a1, vI 6]) (k := 0) dX12_reservedUnits_21 rfl (by decide) rfl rfl gw_1871 gw_1873 gw_58 mb_X12_of rfl (Nat.zero_le _) (Nat.le_of_ble_eq_true rfl) rfl (CL.imp k (fun _ h3 k => ?_) (fun _ _ k => k))
    obtain ⟨r4, rfl, k⟩ := oI_of k
    show AW X (d + 1) rb mX12_reservedUnits 24 _ [vI r4] h3 Qr Qx
    exact aw_iret dX12_reservedUnits_24 rfl k
  · replace k := k.2 c
    refine aw_iconst (v := 0) dX12_reservedUnits_13 rfl (by decide) ?_
    refine aw_goto 24 dX12_reservedUnits_14 rfl ?_
    exact aw_iret dX12_reservedUnits_24 rfl k
set_option maxHeartbeats 4000000 in
set_option maxRecDepth 100000 in
theorem vc_X12_shippedUnits_0 {X : WD → State → Prop} {d rb : Nat} {h : Hp} {Qr : Option AV → Hp → Prop} {Qx : String → Hp → Prop} {a1 : Int32}  (k : CL 0 d mX12_noOrder [vR 12 0, vI a1] (hp_i h 12 0 0 0) (oI fun r2 h1 => ((r2 = 0) → CL 0 d mX12_of [vR 12 0, vI a1, vI 5] h1 (oI fun r4 h3 => Qr (some (vI r4)) h3) Qx) ∧ ((¬ r2 = 0) → Qr (some (vI 0)) h1)) Qx) : AW X (d + 1) rb mX12_shippedUnits 0 [(0, vR 12 0), (1, vI a1)] [] h Qr Qx := by
  refine aw_aload_n (j := 0) (i := 0) dX12_shippedUnits_0 rfl rfl rfl ?_
  refine aw_iconst (v := 0) dX12_shippedUnits_1 rfl (by decide) ?_
  refine aw_puti (k := 0) dX12_shippedUnits_2 rfl (by decide) rfl rfl cb_12 (by decide) rfl rfl gw_1594 ?_
  refine aw_aload_n (j := 0) (i := 0) dX12_shippedUnits_5 rfl rfl rfl ?_
  refine aw_iload_n (j := 1) (i := 1) dX12_shippedUnits_6 rfl rfl rfl ?_
  refine aw_callV (M' := mX12_noOrder) (S := []) (as := [vI a1]) (k := 0) dX12_shippedUnits_7 rfl (by decide) rfl rfl gw_1867 gw_1869 gw_57 mb_X12_noOrder rfl (Nat.zero_le _) (Nat.le_of_ble_eq_true rfl) rfl (CL.imp k (fun _ h1 k => ?_) (fun _ _ k => k))
  obtain ⟨r2, rfl, k⟩ := oI_of k
  show AW X (d + 1) rb mX12_shippedUnits 10 _ [vI r2] h1 Qr Qx
  refine aw_if_eq 17 dX12_shippedUnits_10 rfl rfl (fun c => ?_) (fun c => ?_)
  · replace k := k.1 c
    refine aw_aload_n (j := 0) (i := 0) dX12_shippedUnits_17 rfl rfl rfl ?_
    refine aw_iload_n (j := 1) (i := 1) dX12_shippedUnits_18 rfl rfl rfl ?_
    refine aw_iconst (v := 5) dX12_shippedUnits_19 rfl (by decide) ?_
    refine aw_callV (M' := mX12_of) (S := []) (as := [vI a1, vI 5]) (k := 0) dX12_shippedUnits_20 rfl (by decide) rfl rfl gw_1871 gw_1873 gw_58 mb_X12_of rfl (Nat.zero_le _) (Nat.le_of_ble_eq_true rfl) rfl (CL.imp k (fun _ h3 k => ?_) (fun _ _ k => k))
    obtain ⟨r4, rfl, k⟩ := oI_of k
    show AW X (d + 1) rb mX12_shippedUnits 23 _ [vI r4] h3 Qr Qx
    exact aw_iret dX12_shippedUnits_23 rfl k
  · replace k := k.2 c
    refine aw_iconst (v := 0) dX12_shippedUnits_13 rfl (by decide) ?_
    refine aw_goto 23 dX12_shippedUnits_14 rfl ?_
    exact aw_iret dX12_shippedUnits_23 rfl k
set_option maxHeartbeats 4000000 in
set_option maxRecDepth 100000 in
theorem vc_X12_orderField_0 {X : WD → State → Prop} {d rb : Nat} {h : Hp} {Qr : Option AV → Hp → Prop} {Qx : String → Hp → Prop} {a1 : Int32} {a2 : Int32}  (k : CL 0 d mX12_noOrder [vR 12 0, vI a1] (hp_i h 12 0 0 0) (oI fun r2 h1 => ((r2 = 0) → CL 0 d mX12_in [vI a2, vI 0, vI 4] h1 (oI fun r4 h3 => ((r4 = 0) → Qr (some (vI (-1))) h3) ∧ ((¬ r4 = 0) → CL 0 d mX12_of [vR 12 0, vI a1, vI a2] h3 (oI fun r6 h5 => Qr (some (vI r6)) h5) Qx)) Qx) ∧ ((¬ r2 = 0) → Qr (some (vI 0)) h1)) Qx) : AW X (d + 1) rb mX12_orderField 0 [(0, vR 12 0), (1, vI a1), (2, vI a2)] [] h Qr Qx := by
  refine aw_aload_n (j := 0) (i := 0) dX12_orderField_0 rfl rfl rfl ?_
  refine aw_iconst (v := 0) dX12_orderField_1 rfl (by decide) ?_
  refine aw_puti (k := 0) dX12_orderField_2 rfl (by decide) rfl rfl cb_12 (by decide) rfl rfl gw_1594 ?_
  refine aw_aload_n (j := 0) (i := 0) dX12_orderField_5 rfl rfl rfl ?_
  refine aw_iload_n (j := 1) (i := 1) dX12_orderField_6 rfl rfl rfl ?_
  refine aw_callV (M' := mX12_noOrder) (S := []) (as := [vI a1]) (k := 0) dX12_orderField_7 rfl (by decide) rfl rfl gw_1867 gw_1869 gw_57 mb_X12_noOrder rfl (Nat.zero_le _) (Nat.le_of_ble_eq_true rfl) rfl (CL.imp k (fun _ h1 k => ?_) (fun _ _ k => k))
  obtain ⟨r2, rfl, k⟩ := oI_of k
  show AW X (d + 1) rb mX12_orderField 10 _ [vI r2] h1 Qr Qx
  refine aw_if_eq 17 dX12_orderField_10 rfl rfl (fun c => ?_) (fun c => ?_)
  · replace k := k.1 c
    refine aw_iload_n (j := 2) (i := 2) dX12_orderField_17 rfl rfl rfl ?_
    refine aw_iconst (v := 0) dX12_orderField_18 rfl (by decide) ?_
    refine aw_iconst (v := 4) dX12_orderField_19 rfl (by decide) ?_
    refine aw_callS (M' := mX12_in) (S := []) (as := [vI a2, vI 0, vI 4]) (k := 0) dX12_orderField_20 rfl gw_1713 gw_1714 mb_X12_in rfl (Nat.zero_le _) (Nat.le_of_ble_eq_true rfl) rfl (CL.imp k (fun _ h3 k => ?_) (fun _ _ k => k))
    obtain ⟨r4, rfl, k⟩ := oI_of k
    show AW X (d + 1) rb mX12_orderField 23 _ [vI r4] h3 Qr Qx
    refine aw_if_eq 35 dX12_orderField_23 rfl rfl (fun c => ?_) (fun c => ?_)
    · replace k := k.1 c
      refine aw_iconst (v := (-1)) dX12_orderField_35 rfl (by decide) ?_
      exact aw_iret dX12_orderField_36 rfl k
    · replace k := k.2 c
      refine aw_aload_n (j := 0) (i := 0) dX12_orderField_26 rfl rfl rfl ?_
      refine aw_iload_n (j := 1) (i := 1) dX12_orderField_27 rfl rfl rfl ?_
      refine aw_iload_n (j := 2) (i := 2) dX12_orderField_28 rfl rfl rfl ?_
      refine aw_callV (M' := mX12_of) (S := []) (as := [vI a1, vI a2]) (k := 0) dX12_orderField_29 rfl (by decide) rfl rfl gw_1871 gw_1873 gw_58 mb_X12_of rfl (Nat.zero_le _) (Nat.le_of_ble_eq_true rfl) rfl (CL.imp k (fun _ h5 k => ?_) (fun _ _ k => k))
      obtain ⟨r6, rfl, k⟩ := oI_of k
      show AW X (d + 1) rb mX12_orderField 32 _ [vI r6] h5 Qr Qx
      refine aw_goto 36 dX12_orderField_32 rfl ?_
      exact aw_iret dX12_orderField_36 rfl k
  · replace k := k.2 c
    refine aw_iconst (v := 0) dX12_orderField_13 rfl (by decide) ?_
    refine aw_goto 36 dX12_orderField_14 rfl ?_
    exact aw_iret dX12_orderField_36 rfl k
set_option maxHeartbeats 4000000 in
set_option maxRecDepth 100000 in
theorem vc_X12_missing_0 {X : WD → State → Prop} {d rb : Nat} {h : Hp} {Qr : Option AV → Hp → Prop} {Qx : String → Hp → Prop} {a1 : Int32} {a2 : Int32}  (k : CL 0 d mX12_noOrder [vR 12 0, vI a1] (hp_i h 12 0 0 0) (oI fun r2 h1 => ((¬ r2 = 0) → Qr (some (vI 0)) h1) ∧ ((r2 = 0) → CL 0 d mX12_noPart [vR 12 0, vI a2] h1 (oI fun r4 h3 => ((r4 = 0) → CL 0 d mX12_open [vR 12 0, vI a1] h3 (oI fun r6 h5 => CL 0 d mX12_of [vR 12 0, vI a1, vI 0] h5 (oI fun r8 h7 => CL 0 d mX12_needs [vR 12 0, vI r8, vI a2] h7 (oI fun r10 h9 => CL 0 d mX12_free [vR 12 0, vI a2] h9 (oI fun r12 h11 => Qr (some (vI (if 0 < ((r6 * r10) - r12) then ((r6 * r10) - r12) else 0))) h11) Qx) Qx) Qx) Qx) ∧ ((¬ r4 = 0) → Qr (some (vI 0)) h3)) Qx)) Qx) : AW X (d + 1) rb mX12_missing 0 [(0, vR 12 0), (1, vI a1), (2, vI a2)] [] h Qr Qx := by
  refine aw_aload_n (j := 0) (i := 0) dX12_missing_0 rfl rfl rfl ?_
  refine aw_iconst (v := 0) dX12_missing_1 rfl (by decide) ?_
  refine aw_puti (k := 0) dX12_missing_2 rfl (by decide) rfl rfl cb_12 (by decide) rfl rfl gw_1594 ?_
  refine aw_aload_n (j := 0) (i := 0) dX12_missing_5 rfl rfl rfl ?_
  refine aw_iload_n (j := 1) (i := 1) dX12_missing_6 rfl rfl rfl ?_
  refine aw_callV (M' := mX12_noOrder) (S := []) (as := [vI a1]) (k := 0) dX12_missing_7 rfl (by decide) rfl rfl gw_1867 gw_1869 gw_57 mb_X12_noOrder rfl (Nat.zero_le _) (Nat.le_of_ble_eq_true rfl) rfl (CL.imp k (fun _ h1 k => ?_) (fun _ _ k => k))
  obtain ⟨r2, rfl, k⟩ := oI_of k
  show AW X (d + 1) rb mX12_missing 10 _ [vI r2] h1 Qr Qx
  refine aw_if_ne 21 dX12_missing_10 rfl rfl (fun c => ?_) (fun c => ?_)
  · replace k := k.1 c
    refine aw_iconst (v := 0) dX12_missing_21 rfl (by decide) ?_
    refine aw_goto 52 dX12_missing_22 rfl ?_
    exact aw_iret dX12_missing_52 rfl k
  · replace k := k.2 c
    refine aw_aload_n (j := 0) (i := 0) dX12_missing_13 rfl rfl rfl ?_
    refine aw_iload_n (j := 2) (i := 2) dX12_missing_14 rfl rfl rfl ?_
    refine aw_callV (M' := mX12_noPart) (S := []) (as := [vI a2]) (k := 0) dX12_missing_15 rfl (by decide) rfl rfl gw_1784 gw_1786 gw_50 mb_X12_noPart rfl (Nat.zero_le _) (Nat.le_of_ble_eq_true rfl) rfl (CL.imp k (fun _ h3 k => ?_) (fun _ _ k => k))
    obtain ⟨r4, rfl, k⟩ := oI_of k
    show AW X (d + 1) rb mX12_missing 18 _ [vI r4] h3 Qr Qx
    refine aw_if_eq 25 dX12_missing_18 rfl rfl (fun c => ?_) (fun c => ?_)
    · replace k := k.1 c
      refine aw_iconst (v := 0) dX12_missing_25 rfl (by decide) ?_
      refine aw_aload_n (j := 0) (i := 0) dX12_missing_26 rfl rfl rfl ?_
      refine aw_iload_n (j := 1) (i := 1) dX12_missing_27 rfl rfl rfl ?_
      refine aw_callV (M' := mX12_open) (S := [vI 0]) (as := [vI a1]) (k := 0) dX12_missing_28 rfl (by decide) rfl rfl gw_1875 gw_1877 gw_59 mb_X12_open rfl (Nat.zero_le _) (Nat.le_of_ble_eq_true rfl) rfl (CL.imp k (fun _ h5 k => ?_) (fun _ _ k => k))
      obtain ⟨r6, rfl, k⟩ := oI_of k
      show AW X (d + 1) rb mX12_missing 31 _ [vI r6, vI 0] h5 Qr Qx
      refine aw_aload_n (j := 0) (i := 0) dX12_missing_31 rfl rfl rfl ?_
      refine aw_aload_n (j := 0) (i := 0) dX12_missing_32 rfl rfl rfl ?_
      refine aw_iload_n (j := 1) (i := 1) dX12_missing_33 rfl rfl rfl ?_
      refine aw_iconst (v := 0) dX12_missing_34 rfl (by decide) ?_
      refine aw_callV (M' := mX12_of) (S := [vR 12 0, vI r6, vI 0]) (as := [vI a1, vI 0]) (k := 0) dX12_missing_35 rfl (by decide) rfl rfl gw_1871 gw_1873 gw_58 mb_X12_of rfl (Nat.zero_le _) (Nat.le_of_ble_eq_true rfl) rfl (CL.imp k (fun _ h7 k => ?_) (fun _ _ k => k))
      obtain ⟨r8, rfl, k⟩ := oI_of k
      show AW X (d + 1) rb mX12_missing 38 _ [vI r8, vR 12 0, vI r6, vI 0] h7 Qr Qx
      refine aw_iload_n (j := 2) (i := 2) dX12_missing_38 rfl rfl rfl ?_
      refine aw_callV (M' := mX12_needs) (S := [vI r6, vI 0]) (as := [vI r8, vI a2]) (k := 0) dX12_missing_39 rfl (by decide) rfl rfl gw_1788 gw_1790 gw_51 mb_X12_needs rfl (Nat.zero_le _) (Nat.le_of_ble_eq_true rfl) rfl (CL.imp k (fun _ h9 k => ?_) (fun _ _ k => k))
      obtain ⟨r10, rfl, k⟩ := oI_of k
      show AW X (d + 1) rb mX12_missing 42 _ [vI r10, vI r6, vI 0] h9 Qr Qx
      refine aw_imul dX12_missing_42 rfl ?_
      refine aw_aload_n (j := 0) (i := 0) dX12_missing_43 rfl rfl rfl ?_
      refine aw_iload_n (j := 2) (i := 2) dX12_missing_44 rfl rfl rfl ?_
      refine aw_callV (M' := mX12_free) (S := [vI (r6 * r10), vI 0]) (as := [vI a2]) (k := 0) dX12_missing_45 rfl (by decide) rfl rfl gw_1850 gw_1852 gw_56 mb_X12_free rfl (Nat.zero_le _) (Nat.le_of_ble_eq_true rfl) rfl (CL.imp k (fun _ h11 k => ?_) (fun _ _ k => k))
      obtain ⟨r12, rfl, k⟩ := oI_of k
      show AW X (d + 1) rb mX12_missing 48 _ [vI r12, vI (r6 * r10), vI 0] h11 Qr Qx
      refine aw_isub dX12_missing_48 rfl ?_
      refine aw_max dX12_missing_49 rfl gw_1800 gw_534 gw_104 gw_535 (Nat.le_of_ble_eq_true rfl) ?_
      exact aw_iret dX12_missing_52 rfl k
    · replace k := k.2 c
      refine aw_iconst (v := 0) dX12_missing_21 rfl (by decide) ?_
      refine aw_goto 52 dX12_missing_22 rfl ?_
      exact aw_iret dX12_missing_52 rfl k
set_option maxHeartbeats 4000000 in
set_option maxRecDepth 100000 in
theorem vc_X12_buys_0 {X : WD → State → Prop} {d rb : Nat} {h : Hp} {Qr : Option AV → Hp → Prop} {Qx : String → Hp → Prop} {a1 : Int32}  (k : CL 0 d mX12_free [vR 12 0, vI a1] h (oI fun r2 h1 => CL 0 d mX12_comesBy [vR 12 0, vI a1, vI 2147483647] h1 (oI fun r4 h3 => AW X (d + 1) rb mX12_buys 17 [(0, vR 12 0), (1, vI a1), (2, vI ((-r2) - r4)), (3, vI 0)] [] h3 Qr Qx) Qx) Qx) : AW X (d + 1) rb mX12_buys 0 [(0, vR 12 0), (1, vI a1)] [] h Qr Qx := by
  refine aw_aload_n (j := 0) (i := 0) dX12_buys_0 rfl rfl rfl ?_
  refine aw_iload_n (j := 1) (i := 1) dX12_buys_1 rfl rfl rfl ?_
  refine aw_callV (M' := mX12_free) (S := []) (as := [vI a1]) (k := 0) dX12_buys_2 rfl (by decide) rfl rfl gw_1850 gw_1852 gw_56 mb_X12_free rfl (Nat.zero_le _) (Nat.le_of_ble_eq_true rfl) rfl (CL.imp k (fun _ h1 k => ?_) (fun _ _ k => k))
  obtain ⟨r2, rfl, k⟩ := oI_of k
  show AW X (d + 1) rb mX12_buys 5 _ [vI r2] h1 Qr Qx
  refine aw_ineg dX12_buys_5 rfl ?_
  refine aw_aload_n (j := 0) (i := 0) dX12_buys_6 rfl rfl rfl ?_
  refine aw_iload_n (j := 1) (i := 1) dX12_buys_7 rfl rfl rfl ?_
  refine aw_ldcI dX12_buys_8 rfl gw_1829 ?_
  refine aw_callV (M' := mX12_comesBy) (S := [vI (-r2)]) (as := [vI a1, vI 2147483647]) (k := 0) dX12_buys_10 rfl (by decide) rfl rfl gw_1830 gw_1832 gw_53 mb_X12_comesBy rfl (Nat.zero_le _) (Nat.le_of_ble_eq_true rfl) rfl (CL.imp k (fun _ h3 k => ?_) (fun _ _ k => k))
  obtain ⟨r4, rfl, k⟩ := oI_of k
  show AW X (d + 1) rb mX12_buys 13 _ [vI r4, vI (-r2)] h3 Qr Qx
  refine aw_isub dX12_buys_13 rfl ?_
  refine aw_istore_n (i := 2) (L2 := [(2, vI ((-r2) - r4)), (0, vR 12 0), (1, vI a1)]) dX12_buys_14 rfl rfl (by decide) rfl ?_
  refine aw_iconst (v := 0) dX12_buys_15 rfl (by decide) ?_
  refine aw_istore_n (i := 3) (L2 := [(3, vI 0), (2, vI ((-r2) - r4)), (0, vR 12 0), (1, vI a1)]) dX12_buys_16 rfl rfl (by decide) rfl ?_
  exact aw_sub [2, 3, 1, 0] rfl k
set_option maxHeartbeats 4000000 in
set_option maxRecDepth 100000 in
theorem vc_X12_buys_17 {X : WD → State → Prop} {d rb : Nat} {h : Hp} {Qr : Option AV → Hp → Prop} {Qx : String → Hp → Prop} {x1 : Int32} {x2 : Int32} {x3 : Int32}  (k : (((h.1 58 0 1) ≤ x3) → Qr (some (vI (if 0 < x2 then x2 else 0))) h) ∧ ((¬ (h.1 58 0 1) ≤ x3) → CL 0 d mX12_open [vR 12 0, vI x3] h (oI fun r2 h1 => CL 0 d mX12_of [vR 12 0, vI x3, vI 0] h1 (oI fun r4 h3 => CL 0 d mX12_needs [vR 12 0, vI r4, vI x1] h3 (oI fun r6 h5 => AW X (d + 1) rb mX12_buys 17 [(0, vR 12 0), (1, vI x1), (2, vI (x2 + (r2 * r6))), (3, vI (x3 + 1))] [] h5 Qr Qx) Qx) Qx) Qx)) : AW X (d + 1) rb mX12_buys 17 [(0, vR 12 0), (1, vI x1), (2, vI x2), (3, vI x3)] [] h Qr Qx := by
  refine aw_iload_n (j := 3) (i := 3) dX12_buys_17 rfl rfl rfl ?_
  refine aw_aload_n (j := 0) (i := 0) dX12_buys_18 rfl rfl rfl ?_
  refine aw_getf (k := 14) (z := 58) dX12_buys_19 rfl (by decide) rfl rfl rfl cb_12 (by decide) gw_1608 ?_
  refine aw_iconst (v := 1) dX12_buys_22 rfl (by decide) ?_
  refine aw_iald dX12_buys_23 rfl (by decide) rfl (by unfold vp_in; decide) ?_
  refine aw_icmp_ge 53 dX12_buys_24 rfl rfl (fun c => ?_) (fun c => ?_)
  · replace k := k.1 c
    refine aw_iconst (v := 0) dX12_buys_53 rfl (by decide) ?_
    refine aw_iload_n (j := 2) (i := 2) dX12_buys_54 rfl rfl rfl ?_
    refine aw_max dX12_buys_55 rfl gw_1800 gw_534 gw_104 gw_535 (Nat.le_of_ble_eq_true rfl) ?_
    exact aw_iret dX12_buys_58 rfl k
  · replace k := k.2 c
    refine aw_iload_n (j := 2) (i := 2) dX12_buys_27 rfl rfl rfl ?_
    refine aw_aload_n (j := 0) (i := 0) dX12_buys_28 rfl rfl rfl ?_
    refine aw_iload_n (j := 3) (i := 3) dX12_buys_29 rfl rfl rfl ?_
    refine aw_callV (M' := mX12_open) (S := [vI x2]) (as := [vI x3]) (k := 0) dX12_buys_30 rfl (by decide) rfl rfl gw_1875 gw_1877 gw_59 mb_X12_open rfl (Nat.zero_le _) (Nat.le_of_ble_eq_true rfl) rfl (CL.imp k (fun _ h1 k => ?_) (fun _ _ k => k))
    obtain ⟨r2, rfl, k⟩ := oI_of k
    show AW X (d + 1) rb mX12_buys 33 _ [vI r2, vI x2] h1 Qr Qx
    refine aw_aload_n (j := 0) (i := 0) dX12_buys_33 rfl rfl rfl ?_
    refine aw_aload_n (j := 0) (i := 0) dX12_buys_34 rfl rfl rfl ?_
    refine aw_iload_n (j := 3) (i := 3) dX12_buys_35 rfl rfl rfl ?_
    refine aw_iconst (v := 0) dX12_buys_36 rfl (by decide) ?_
    refine aw_callV (M' := mX12_of) (S := [vR 12 0, vI r2, vI x2]) (as := [vI x3, vI 0]) (k := 0) dX12_buys_37 rfl (by decide) rfl rfl gw_1871 gw_1873 gw_58 mb_X12_of rfl (Nat.zero_le _) (Nat.le_of_ble_eq_true rfl) rfl (CL.imp k (fun _ h3 k => ?_) (fun _ _ k => k))
    obtain ⟨r4, rfl, k⟩ := oI_of k
    show AW X (d + 1) rb mX12_buys 40 _ [vI r4, vR 12 0, vI r2, vI x2] h3 Qr Qx
    refine aw_iload_n (j := 1) (i := 1) dX12_buys_40 rfl rfl rfl ?_
    refine aw_callV (M' := mX12_needs) (S := [vI r2, vI x2]) (as := [vI r4, vI x1]) (k := 0) dX12_buys_41 rfl (by decide) rfl rfl gw_1788 gw_1790 gw_51 mb_X12_needs rfl (Nat.zero_le _) (Nat.le_of_ble_eq_true rfl) rfl (CL.imp k (fun _ h5 k => ?_) (fun _ _ k => k))
    obtain ⟨r6, rfl, k⟩ := oI_of k
    show AW X (d + 1) rb mX12_buys 44 _ [vI r6, vI r2, vI x2] h5 Qr Qx
    refine aw_imul dX12_buys_44 rfl ?_
    refine aw_iadd dX12_buys_45 rfl ?_
    refine aw_istore_n (i := 2) (L2 := [(2, vI (x2 + (r2 * r6))), (0, vR 12 0), (1, vI x1), (3, vI x3)]) dX12_buys_46 rfl rfl (by decide) rfl ?_
    refine aw_iinc (i := 3) (j := 3) (v := x3 + 1) (L2 := [(3, vI (x3 + 1)), (2, vI (x2 + (r2 * r6))), (0, vR 12 0), (1, vI x1)]) dX12_buys_47 rfl (by decide) rfl rfl rfl ?_
    refine aw_goto 17 dX12_buys_50 rfl ?_
    exact aw_sub [2, 3, 1, 0] rfl k
set_option maxHeartbeats 4000000 in
set_option maxRecDepth 100000 in
theorem vc_X12_toBuy_0 {X : WD → State → Prop} {d rb : Nat} {h : Hp} {Qr : Option AV → Hp → Prop} {Qx : String → Hp → Prop} {a1 : Int32}  (k : CL 0 d mX12_noPart [vR 12 0, vI a1] (hp_i h 12 0 0 0) (oI fun r2 h1 => ((r2 = 0) → CL 0 d mX12_buys [vR 12 0, vI a1] h1 (oI fun r4 h3 => Qr (some (vI r4)) h3) Qx) ∧ ((¬ r2 = 0) → Qr (some (vI 0)) h1)) Qx) : AW X (d + 1) rb mX12_toBuy 0 [(0, vR 12 0), (1, vI a1)] [] h Qr Qx := by
  refine aw_aload_n (j := 0) (i := 0) dX12_toBuy_0 rfl rfl rfl ?_
  refine aw_iconst (v := 0) dX12_toBuy_1 rfl (by decide) ?_
  refine aw_puti (k := 0) dX12_toBuy_2 rfl (by decide) rfl rfl cb_12 (by decide) rfl rfl gw_1594 ?_
  refine aw_aload_n (j := 0) (i := 0) dX12_toBuy_5 rfl rfl rfl ?_
  refine aw_iload_n (j := 1) (i := 1) dX12_toBuy_6 rfl rfl rfl ?_
  refine aw_callV (M' := mX12_noPart) (S := []) (as := [vI a1]) (k := 0) dX12_toBuy_7 rfl (by decide) rfl rfl gw_1784 gw_1786 gw_50 mb_X12_noPart rfl (Nat.zero_le _) (Nat.le_of_ble_eq_true rfl) rfl (CL.imp k (fun _ h1 k => ?_) (fun _ _ k => k))
  obtain ⟨r2, rfl, k⟩ := oI_of k
  show AW X (d + 1) rb mX12_toBuy 10 _ [vI r2] h1 Qr Qx
  refine aw_if_eq 17 dX12_toBuy_10 rfl rfl (fun c => ?_) (fun c => ?_)
  · replace k := k.1 c
    refine aw_aload_n (j := 0) (i := 0) dX12_toBuy_17 rfl rfl rfl ?_
    refine aw_iload_n (j := 1) (i := 1) dX12_toBuy_18 rfl rfl rfl ?_
    refine aw_callV (M' := mX12_buys) (S := []) (as := [vI a1]) (k := 0) dX12_toBuy_19 rfl (by decide) rfl rfl gw_1903 gw_1905 gw_60 mb_X12_buys rfl (Nat.zero_le _) (Nat.le_of_ble_eq_true rfl) rfl (CL.imp k (fun _ h3 k => ?_) (fun _ _ k => k))
    obtain ⟨r4, rfl, k⟩ := oI_of k
    show AW X (d + 1) rb mX12_toBuy 22 _ [vI r4] h3 Qr Qx
    exact aw_iret dX12_toBuy_22 rfl k
  · replace k := k.2 c
    refine aw_iconst (v := 0) dX12_toBuy_13 rfl (by decide) ?_
    refine aw_goto 22 dX12_toBuy_14 rfl ?_
    exact aw_iret dX12_toBuy_22 rfl k
set_option maxHeartbeats 4000000 in
set_option maxRecDepth 100000 in
theorem vc_X12_scarcestPart_0 {X : WD → State → Prop} {d rb : Nat} {h : Hp} {Qr : Option AV → Hp → Prop} {Qx : String → Hp → Prop}   (k : AW X (d + 1) rb mX12_scarcestPart 9 [(0, vR 12 0), (1, vI (-1)), (2, vI 0)] [] (hp_i h 12 0 0 0) Qr Qx) : AW X (d + 1) rb mX12_scarcestPart 0 [(0, vR 12 0)] [] h Qr Qx := by
  refine aw_aload_n (j := 0) (i := 0) dX12_scarcestPart_0 rfl rfl rfl ?_
  refine aw_iconst (v := 0) dX12_scarcestPart_1 rfl (by decide) ?_
  refine aw_puti (k := 0) dX12_scarcestPart_2 rfl (by decide) rfl rfl cb_12 (by decide) rfl rfl gw_1594 ?_
  refine aw_iconst (v := (-1)) dX12_scarcestPart_5 rfl (by decide) ?_
  refine aw_istore_n (i := 1) (L2 := [(1, vI (-1)), (0, vR 12 0)]) dX12_scarcestPart_6 rfl rfl (by decide) rfl ?_
  refine aw_iconst (v := 0) dX12_scarcestPart_7 rfl (by decide) ?_
  refine aw_istore_n (i := 2) (L2 := [(2, vI 0), (1, vI (-1)), (0, vR 12 0)]) dX12_scarcestPart_8 rfl rfl (by decide) rfl ?_
  exact aw_sub [2, 1, 0] rfl k
set_option maxHeartbeats 4000000 in
set_option maxRecDepth 100000 in
theorem vc_X12_scarcestPart_9 {X : WD → State → Prop} {d rb : Nat} {h : Hp} {Qr : Option AV → Hp → Prop} {Qx : String → Hp → Prop} {x1 : Int32} {x2 : Int32}  (k : (((h.1 56 0 0) ≤ x2) → Qr (some (vI x1)) h) ∧ ((¬ (h.1 56 0 0) ≤ x2) → CL 0 d mX12_buys [vR 12 0, vI x2] h (oI fun r2 h1 => ((¬ x1 = (-1)) → CL 0 d mX12_buys [vR 12 0, vI x1] h1 (oI fun r4 h3 => ((r2 ≤ r4) → AW X (d + 1) rb mX12_scarcestPart 9 [(0, vR 12 0), (1, vI x1), (2, vI (x2 + 1))] [] h3 Qr Qx) ∧ ((¬ r2 ≤ r4) → AW X (d + 1) rb mX12_scarcestPart 9 [(0, vR 12 0), (1, vI x2), (2, vI (x2 + 1))] [] h3 Qr Qx)) Qx) ∧ ((x1 = (-1)) → ((r2 ≤ 0) → AW X (d + 1) rb mX12_scarcestPart 9 [(0, vR 12 0), (1, vI x1), (2, vI (x2 + 1))] [] h1 Qr Qx) ∧ ((¬ r2 ≤ 0) → AW X (d + 1) rb mX12_scarcestPart 9 [(0, vR 12 0), (1, vI x2), (2, vI (x2 + 1))] [] h1 Qr Qx))) Qx)) : AW X (d + 1) rb mX12_scarcestPart 9 [(0, vR 12 0), (1, vI x1), (2, vI x2)] [] h Qr Qx := by
  refine aw_iload_n (j := 2) (i := 2) dX12_scarcestPart_9 rfl rfl rfl ?_
  refine aw_aload_n (j := 0) (i := 0) dX12_scarcestPart_10 rfl rfl rfl ?_
  refine aw_getf (k := 11) (z := 56) dX12_scarcestPart_11 rfl (by decide) rfl rfl rfl cb_12 (by decide) gw_1605 ?_
  refine aw_iconst (v := 0) dX12_scarcestPart_14 rfl (by decide) ?_
  refine aw_iald dX12_scarcestPart_15 rfl (by decide) rfl (by unfold vp_in; decide) ?_
  refine aw_icmp_ge 49 dX12_scarcestPart_16 rfl rfl (fun c => ?_) (fun c => ?_)
  · replace k := k.1 c
    refine aw_iload_n (j := 1) (i := 1) dX12_scarcestPart_49 rfl rfl rfl ?_
    exact aw_iret dX12_scarcestPart_50 rfl k
  · replace k := k.2 c
    refine aw_aload_n (j := 0) (i := 0) dX12_scarcestPart_19 rfl rfl rfl ?_
    refine aw_iload_n (j := 2) (i := 2) dX12_scarcestPart_20 rfl rfl rfl ?_
    refine aw_callV (M' := mX12_buys) (S := []) (as := [vI x2]) (k := 0) dX12_scarcestPart_21 rfl (by decide) rfl rfl gw_1903 gw_1905 gw_60 mb_X12_buys rfl (Nat.zero_le _) (Nat.le_of_ble_eq_true rfl) rfl (CL.imp k (fun _ h1 k => ?_) (fun _ _ k => k))
    obtain ⟨r2, rfl, k⟩ := oI_of k
    show AW X (d + 1) rb mX12_scarcestPart 24 _ [vI r2] h1 Qr Qx
    refine aw_iload_n (j := 1) (i := 1) dX12_scarcestPart_24 rfl rfl rfl ?_
    refine aw_iconst (v := (-1)) dX12_scarcestPart_25 rfl (by decide) ?_
    refine aw_icmp_ne 33 dX12_scarcestPart_26 rfl rfl (fun c => ?_) (fun c => ?_)
    · replace k := k.1 c
      refine aw_aload_n (j := 0) (i := 0) dX12_scarcestPart_33 rfl rfl rfl ?_
      refine aw_iload_n (j := 1) (i := 1) dX12_scarcestPart_34 rfl rfl rfl ?_
      refine aw_callV (M' := mX12_buys) (S := [vI r2]) (as := [vI x1]) (k := 0) dX12_scarcestPart_35 rfl (by decide) rfl rfl gw_1903 gw_1905 gw_60 mb_X12_buys rfl (Nat.zero_le _) (Nat.le_of_ble_eq_true rfl) rfl (CL.imp k (fun _ h3 k => ?_) (fun _ _ k => k))
      obtain ⟨r4, rfl, k⟩ := oI_of k
      show AW X (d + 1) rb mX12_scarcestPart 38 _ [vI r4, vI r2] h3 Qr Qx
      refine aw_icmp_le 43 dX12_scarcestPart_38 rfl rfl (fun c => ?_) (fun c => ?_)
      · replace k := k.1 c
        refine aw_iinc (i := 2) (j := 2) (v := x2 + 1) (L2 := [(2, vI (x2 + 1)), (0, vR 12 0), (1, vI x1)]) dX12_scarcestPart_43 rfl (by decide) rfl rfl rfl ?_
        refine aw_goto 9 dX12_scarcestPart_46 rfl ?_
        exact aw_sub [1, 2, 0] rfl k
      · replace k := k.2 c
        refine aw_iload_n (j := 2) (i := 2) dX12_scarcestPart_41 rfl rfl rfl ?_
        refine aw_istore_n (i := 1) (L2 := [(1, vI x2), (0, vR 12 0), (2, vI x2)]) dX12_scarcestPart_42 rfl rfl (by decide) rfl ?_
        refine aw_iinc (i := 2) (j := 2) (v := x2 + 1) (L2 := [(2, vI (x2 + 1)), (1, vI x2), (0, vR 12 0)]) dX12_scarcestPart_43 rfl (by decide) rfl rfl rfl ?_
        refine aw_goto 9 dX12_scarcestPart_46 rfl ?_
        exact aw_sub [2, 1, 0] rfl k
    · replace k := k.2 c
      refine aw_iconst (v := 0) dX12_scarcestPart_29 rfl (by decide) ?_
      refine aw_goto 38 dX12_scarcestPart_30 rfl ?_
      refine aw_icmp_le 43 dX12_scarcestPart_38 rfl rfl (fun c => ?_) (fun c => ?_)
      · replace k := k.1 c
        refine aw_iinc (i := 2) (j := 2) (v := x2 + 1) (L2 := [(2, vI (x2 + 1)), (0, vR 12 0), (1, vI x1)]) dX12_scarcestPart_43 rfl (by decide) rfl rfl rfl ?_
        refine aw_goto 9 dX12_scarcestPart_46 rfl ?_
        exact aw_sub [1, 2, 0] rfl k
      · replace k := k.2 c
        refine aw_iload_n (j := 2) (i := 2) dX12_scarcestPart_41 rfl rfl rfl ?_
        refine aw_istore_n (i := 1) (L2 := [(1, vI x2), (0, vR 12 0), (2, vI x2)]) dX12_scarcestPart_42 rfl rfl (by decide) rfl ?_
        refine aw_iinc (i := 2) (j := 2) (v := x2 + 1) (L2 := [(2, vI (x2 + 1)), (1, vI x2), (0, vR 12 0)]) dX12_scarcestPart_43 rfl (by decide) rfl rfl rfl ?_
        refine aw_goto 9 dX12_scarcestPart_46 rfl ?_
        exact aw_sub [2, 1, 0] rfl k
set_option maxHeartbeats 4000000 in
set_option maxRecDepth 100000 in
theorem vc_X12_dayOf_0 {X : WD → State → Prop} {d rb : Nat} {h : Hp} {Qr : Option AV → Hp → Prop} {Qx : String → Hp → Prop} {a1 : Int32} {a2 : Int32}  (k : CL 0 d mX12_free [vR 12 0, vI a1] h (oI fun r2 h1 => ((r2 < a2) → (vp_in (176 + a1) 506) ∧ AW X (d + 1) rb mX12_dayOf 40 [(0, vR 12 0), (1, vI a1), (2, vI a2), (3, vI ((h1.1 58 0 0) + (h1.1 56 0 ((176 + a1).toNatClampNeg)))), (4, vI ((h1.1 58 0 0) + (h1.1 56 0 ((176 + a1).toNatClampNeg)))), (5, vI 0)] [] h1 Qr Qx) ∧ ((¬ r2 < a2) → Qr (some (vI (h1.1 58 0 0))) h1)) Qx) : AW X (d + 1) rb mX12_dayOf 0 [(0, vR 12 0), (1, vI a1), (2, vI a2)] [] h Qr Qx := by
  refine aw_aload_n (j := 0) (i := 0) dX12_dayOf_0 rfl rfl rfl ?_
  refine aw_iload_n (j := 1) (i := 1) dX12_dayOf_1 rfl rfl rfl ?_
  refine aw_callV (M' := mX12_free) (S := []) (as := [vI a1]) (k := 0) dX12_dayOf_2 rfl (by decide) rfl rfl gw_1850 gw_1852 gw_56 mb_X12_free rfl (Nat.zero_le _) (Nat.le_of_ble_eq_true rfl) rfl (CL.imp k (fun _ h1 k => ?_) (fun _ _ k => k))
  obtain ⟨r2, rfl, k⟩ := oI_of k
  show AW X (d + 1) rb mX12_dayOf 5 _ [vI r2] h1 Qr Qx
  refine aw_iload_n (j := 2) (i := 2) dX12_dayOf_5 rfl rfl rfl ?_
  refine aw_icmp_lt 16 dX12_dayOf_6 rfl rfl (fun c => ?_) (fun c => ?_)
  · replace k := k.1 c
    refine aw_aload_n (j := 0) (i := 0) dX12_dayOf_16 rfl rfl rfl ?_
    refine aw_getf (k := 14) (z := 58) dX12_dayOf_17 rfl (by decide) rfl rfl rfl cb_12 (by decide) gw_1608 ?_
    refine aw_iconst (v := 0) dX12_dayOf_20 rfl (by decide) ?_
    refine aw_iald dX12_dayOf_21 rfl (by decide) rfl (by unfold vp_in; decide) ?_
    refine aw_aload_n (j := 0) (i := 0) dX12_dayOf_22 rfl rfl rfl ?_
    refine aw_getf (k := 11) (z := 56) dX12_dayOf_23 rfl (by decide) rfl rfl rfl cb_12 (by decide) gw_1605 ?_
    refine aw_sipush (v := 176) dX12_dayOf_26 rfl (by decide) ?_
    refine aw_iload_n (j := 1) (i := 1) dX12_dayOf_29 rfl rfl rfl ?_
    refine aw_iadd dX12_dayOf_30 rfl ?_
    refine aw_iald dX12_dayOf_31 rfl (by decide) rfl k.1 ?_
    replace k := k.2
    refine aw_iadd dX12_dayOf_32 rfl ?_
    refine aw_istore_n (i := 3) (L2 := [(3, vI ((h1.1 58 0 0) + (h1.1 56 0 ((176 + a1).toNatClampNeg)))), (0, vR 12 0), (1, vI a1), (2, vI a2)]) dX12_dayOf_33 rfl rfl (by decide) rfl ?_
    refine aw_iload_n (j := 0) (i := 3) dX12_dayOf_34 rfl rfl rfl ?_
    refine aw_istore (i := 4) (L2 := [(4, vI ((h1.1 58 0 0) + (h1.1 56 0 ((176 + a1).toNatClampNeg)))), (3, vI ((h1.1 58 0 0) + (h1.1 56 0 ((176 + a1).toNatClampNeg)))), (0, vR 12 0), (1, vI a1), (2, vI a2)]) dX12_dayOf_35 rfl (by decide) rfl ?_
    refine aw_iconst (v := 0) dX12_dayOf_37 rfl (by decide) ?_
    refine aw_istore (i := 5) (L2 := [(5, vI 0), (4, vI ((h1.1 58 0 0) + (h1.1 56 0 ((176 + a1).toNatClampNeg)))), (3, vI ((h1.1 58 0 0) + (h1.1 56 0 ((176 + a1).toNatClampNeg)))), (0, vR 12 0), (1, vI a1), (2, vI a2)]) dX12_dayOf_38 rfl (by decide) rfl ?_
    exact aw_sub [3, 4, 5, 2, 1, 0] rfl k
  · replace k := k.2 c
    refine aw_aload_n (j := 0) (i := 0) dX12_dayOf_9 rfl rfl rfl ?_
    refine aw_getf (k := 14) (z := 58) dX12_dayOf_10 rfl (by decide) rfl rfl rfl cb_12 (by decide) gw_1608 ?_
    refine aw_iconst (v := 0) dX12_dayOf_13 rfl (by decide) ?_
    refine aw_iald dX12_dayOf_14 rfl (by decide) rfl (by unfold vp_in; decide) ?_
    exact aw_iret dX12_dayOf_15 rfl k
set_option maxHeartbeats 4000000 in
set_option maxRecDepth 100000 in
theorem vc_X12_dayOf_40 {X : WD → State → Prop} {d rb : Nat} {h : Hp} {Qr : Option AV → Hp → Prop} {Qx : String → Hp → Prop} {x1 : Int32} {x2 : Int32} {x3 : Int32} {x4 : Int32} {x5 : Int32}  (k : (((h.1 58 0 2) ≤ x5) → Qr (some (vI x4)) h) ∧ ((¬ (h.1 58 0 2) ≤ x5) → (vp_in ((33 + (3 * x5)) + 2) 301) ∧ (vp_in (33 + (3 * x5)) 301) ∧ ((¬ (h.1 58 0 ((33 + (3 * x5)).toNatClampNeg)) = x1) → AW X (d + 1) rb mX12_dayOf 40 [(0, vR 12 0), (1, vI x1), (2, vI x2), (3, vI x3), (4, vI x4), (5, vI (x5 + 1))] [] h Qr Qx) ∧ (((h.1 58 0 ((33 + (3 * x5)).toNatClampNeg)) = x1) → ((x4 ≤ (h.1 58 0 (((33 + (3 * x5)) + 2).toNatClampNeg))) → AW X (d + 1) rb mX12_dayOf 40 [(0, vR 12 0), (1, vI x1), (2, vI x2), (3, vI x3), (4, vI x4), (5, vI (x5 + 1))] [] h Qr Qx) ∧ ((¬ x4 ≤ (h.1 58 0 (((33 + (3 * x5)) + 2).toNatClampNeg))) → CL 0 d mX12_free [vR 12 0, vI x1] h (oI fun r2 h1 => CL 0 d mX12_comesBy [vR 12 0, vI x1, vI (h.1 58 0 (((33 + (3 * x5)) + 2).toNatClampNeg))] h1 (oI fun r4 h3 => (((r2 + r4) < x2) → AW X (d + 1) rb mX12_dayOf 40 [(0, vR 12 0), (1, vI x1), (2, vI x2), (3, vI x3), (4, vI x4), (5, vI (x5 + 1))] [] h3 Qr Qx) ∧ ((¬ (r2 + r4) < x2) → AW X (d + 1) rb mX12_dayOf 40 [(0, vR 12 0), (1, vI x1), (2, vI x2), (3, vI x3), (4, vI (h.1 58 0 (((33 + (3 * x5)) + 2).toNatClampNeg))), (5, vI (x5 + 1))] [] h3 Qr Qx)) Qx) Qx)))) : AW X (d + 1) rb mX12_dayOf 40 [(0, vR 12 0), (1, vI x1), (2, vI x2), (3, vI x3), (4, vI x4), (5, vI x5)] [] h Qr Qx := by
  refine aw_iload (j := 5) (i := 5) dX12_dayOf_40 rfl rfl ?_
  refine aw_aload_n (j := 0) (i := 0) dX12_dayOf_42 rfl rfl rfl ?_
  refine aw_getf (k := 14) (z := 58) dX12_dayOf_43 rfl (by decide) rfl rfl rfl cb_12 (by decide) gw_1608 ?_
  refine aw_iconst (v := 2) dX12_dayOf_46 rfl (by decide) ?_
  refine aw_iald dX12_dayOf_47 rfl (by decide) rfl (by unfold vp_in; decide) ?_
  refine aw_icmp_ge 117 dX12_dayOf_48 rfl rfl (fun c => ?_) (fun c => ?_)
  · replace k := k.1 c
    refine aw_iload (j := 4) (i := 4) dX12_dayOf_117 rfl rfl ?_
    exact aw_iret dX12_dayOf_119 rfl k
  · replace k := k.2 c
    refine aw_aload_n (j := 0) (i := 0) dX12_dayOf_51 rfl rfl rfl ?_
    refine aw_getf (k := 14) (z := 58) dX12_dayOf_52 rfl (by decide) rfl rfl rfl cb_12 (by decide) gw_1608 ?_
    refine aw_bipush (v := 33) dX12_dayOf_55 rfl (by decide) ?_
    refine aw_iconst (v := 3) dX12_dayOf_57 rfl (by decide) ?_
    refine aw_iload (j := 5) (i := 5) dX12_dayOf_58 rfl rfl ?_
    refine aw_imul dX12_dayOf_60 rfl ?_
    refine aw_iadd dX12_dayOf_61 rfl ?_
    refine aw_iconst (v := 2) dX12_dayOf_62 rfl (by decide) ?_
    refine aw_iadd dX12_dayOf_63 rfl ?_
    refine aw_iald dX12_dayOf_64 rfl (by decide) rfl k.1 ?_
    replace k := k.2
    refine aw_istore (i := 6) (L2 := [(6, vI (h.1 58 0 (((33 + (3 * x5)) + 2).toNatClampNeg))), (0, vR 12 0), (1, vI x1), (2, vI x2), (3, vI x3), (4, vI x4), (5, vI x5)]) dX12_dayOf_65 rfl (by decide) rfl ?_
    refine aw_aload_n (j := 1) (i := 0) dX12_dayOf_67 rfl rfl rfl ?_
    refine aw_getf (k := 14) (z := 58) dX12_dayOf_68 rfl (by decide) rfl rfl rfl cb_12 (by decide) gw_1608 ?_
    refine aw_bipush (v := 33) dX12_dayOf_71 rfl (by decide) ?_
    refine aw_iconst (v := 3) dX12_dayOf_73 rfl (by decide) ?_
    refine aw_iload (j := 6) (i := 5) dX12_dayOf_74 rfl rfl ?_
    refine aw_imul dX12_dayOf_76 rfl ?_
    refine aw_iadd dX12_dayOf_77 rfl ?_
    refine aw_iald dX12_dayOf_78 rfl (by decide) rfl k.1 ?_
    replace k := k.2
    refine aw_iload_n (j := 2) (i := 1) dX12_dayOf_79 rfl rfl rfl ?_
    refine aw_icmp_ne 111 dX12_dayOf_80 rfl rfl (fun c => ?_) (fun c => ?_)
    · replace k := k.1 c
      refine aw_iinc (i := 5) (j := 6) (v := x5 + 1) (L2 := [(5, vI (x5 + 1)), (6, vI (h.1 58 0 (((33 + (3 * x5)) + 2).toNatClampNeg))), (0, vR 12 0), (1, vI x1), (2, vI x2), (3, vI x3), (4, vI x4)]) dX12_dayOf_111 rfl (by decide) rfl rfl rfl ?_
      refine aw_goto 40 dX12_dayOf_114 rfl ?_
      exact aw_sub [2, 3, 4, 5, 6, 0] rfl k
    · replace k := k.2 c
      refine aw_iload (j := 0) (i := 6) dX12_dayOf_83 rfl rfl ?_
      refine aw_iload (j := 5) (i := 4) dX12_dayOf_85 rfl rfl ?_
      refine aw_icmp_ge 111 dX12_dayOf_87 rfl rfl (fun c => ?_) (fun c => ?_)
      · replace k := k.1 c
        refine aw_iinc (i := 5) (j := 6) (v := x5 + 1) (L2 := [(5, vI (x5 + 1)), (6, vI (h.1 58 0 (((33 + (3 * x5)) + 2).toNatClampNeg))), (0, vR 12 0), (1, vI x1), (2, vI x2), (3, vI x3), (4, vI x4)]) dX12_dayOf_111 rfl (by decide) rfl rfl rfl ?_
        refine aw_goto 40 dX12_dayOf_114 rfl ?_
        exact aw_sub [2, 3, 4, 5, 6, 0] rfl k
      · replace k := k.2 c
        refine aw_aload_n (j := 1) (i := 0) dX12_dayOf_90 rfl rfl rfl ?_
        refine aw_iload_n (j := 2) (i := 1) dX12_dayOf_91 rfl rfl rfl ?_
        refine aw_callV (M' := mX12_free) (S := []) (as := [vI x1]) (k := 0) dX12_dayOf_92 rfl (by decide) rfl rfl gw_1850 gw_1852 gw_56 mb_X12_free rfl (Nat.zero_le _) (Nat.le_of_ble_eq_true rfl) rfl (CL.imp k (fun _ h1 k => ?_) (fun _ _ k => k))
        obtain ⟨r2, rfl, k⟩ := oI_of k
        show AW X (d + 1) rb mX12_dayOf 95 _ [vI r2] h1 Qr Qx
        refine aw_aload_n (j := 1) (i := 0) dX12_dayOf_95 rfl rfl rfl ?_
        refine aw_iload_n (j := 2) (i := 1) dX12_dayOf_96 rfl rfl rfl ?_
        refine aw_iload (j := 0) (i := 6) dX12_dayOf_97 rfl rfl ?_
        refine aw_callV (M' := mX12_comesBy) (S := [vI r2]) (as := [vI x1, vI (h.1 58 0 (((33 + (3 * x5)) + 2).toNatClampNeg))]) (k := 0) dX12_dayOf_99 rfl (by decide) rfl rfl gw_1830 gw_1832 gw_53 mb_X12_comesBy rfl (Nat.zero_le _) (Nat.le_of_ble_eq_true rfl) rfl (CL.imp k (fun _ h3 k => ?_) (fun _ _ k => k))
        obtain ⟨r4, rfl, k⟩ := oI_of k
        show AW X (d + 1) rb mX12_dayOf 102 _ [vI r4, vI r2] h3 Qr Qx
        refine aw_iadd dX12_dayOf_102 rfl ?_
        refine aw_iload_n (j := 3) (i := 2) dX12_dayOf_103 rfl rfl rfl ?_
        refine aw_icmp_lt 111 dX12_dayOf_104 rfl rfl (fun c => ?_) (fun c => ?_)
        · replace k := k.1 c
          refine aw_iinc (i := 5) (j := 6) (v := x5 + 1) (L2 := [(5, vI (x5 + 1)), (6, vI (h.1 58 0 (((33 + (3 * x5)) + 2).toNatClampNeg))), (0, vR 12 0), (1, vI x1), (2, vI x2), (3, vI x3), (4, vI x4)]) dX12_dayOf_111 rfl (by decide) rfl rfl rfl ?_
          refine aw_goto 40 dX12_dayOf_114 rfl ?_
          exact aw_sub [2, 3, 4, 5, 6, 0] rfl k
        · replace k := k.2 c
          refine aw_iload (j := 0) (i := 6) dX12_dayOf_107 rfl rfl ?_
          refine aw_istore (i := 4) (L2 := [(4, vI (h.1 58 0 (((33 + (3 * x5)) + 2).toNatClampNeg))), (6, vI (h.1 58 0 (((33 + (3 * x5)) + 2).toNatClampNeg))), (0, vR 12 0), (1, vI x1), (2, vI x2), (3, vI x3), (5, vI x5)]) dX12_dayOf_109 rfl (by decide) rfl ?_
          refine aw_iinc (i := 5) (j := 6) (v := x5 + 1) (L2 := [(5, vI (x5 + 1)), (4, vI (h.1 58 0 (((33 + (3 * x5)) + 2).toNatClampNeg))), (6, vI (h.1 58 0 (((33 + (3 * x5)) + 2).toNatClampNeg))), (0, vR 12 0), (1, vI x1), (2, vI x2), (3, vI x3)]) dX12_dayOf_111 rfl (by decide) rfl rfl rfl ?_
          refine aw_goto 40 dX12_dayOf_114 rfl ?_
          exact aw_sub [3, 4, 5, 6, 1, 0] rfl k
set_option maxHeartbeats 4000000 in
set_option maxRecDepth 100000 in
theorem vc_X12_promises_0 {X : WD → State → Prop} {d rb : Nat} {h : Hp} {Qr : Option AV → Hp → Prop} {Qx : String → Hp → Prop} {a1 : Int32} {a2 : Int32}  (k : AW X (d + 1) rb mX12_promises 10 [(0, vR 12 0), (1, vI a1), (2, vI a2), (3, vI (h.1 58 0 0)), (4, vI 0)] [] h Qr Qx) : AW X (d + 1) rb mX12_promises 0 [(0, vR 12 0), (1, vI a1), (2, vI a2)] [] h Qr Qx := by
  refine aw_aload_n (j := 0) (i := 0) dX12_promises_0 rfl rfl rfl ?_
  refine aw_getf (k := 14) (z := 58) dX12_promises_1 rfl (by decide) rfl rfl rfl cb_12 (by decide) gw_1608 ?_
  refine aw_iconst (v := 0) dX12_promises_4 rfl (by decide) ?_
  refine aw_iald dX12_promises_5 rfl (by decide) rfl (by unfold vp_in; decide) ?_
  refine aw_istore_n (i := 3) (L2 := [(3, vI (h.1 58 0 0)), (0, vR 12 0), (1, vI a1), (2, vI a2)]) dX12_promises_6 rfl rfl (by decide) rfl ?_
  refine aw_iconst (v := 0) dX12_promises_7 rfl (by decide) ?_
  refine aw_istore (i := 4) (L2 := [(4, vI 0), (3, vI (h.1 58 0 0)), (0, vR 12 0), (1, vI a1), (2, vI a2)]) dX12_promises_8 rfl (by decide) rfl ?_
  exact aw_sub [2, 3, 4, 1, 0] rfl k
set_option maxHeartbeats 4000000 in
set_option maxRecDepth 100000 in
theorem vc_X12_promises_10 {X : WD → State → Prop} {d rb : Nat} {h : Hp} {Qr : Option AV → Hp → Prop} {Qx : String → Hp → Prop} {x1 : Int32} {x2 : Int32} {x3 : Int32} {x4 : Int32}  (k : (((h.1 56 0 0) ≤ x4) → Qr (some (vI x3)) h) ∧ ((¬ (h.1 56 0 0) ≤ x4) → CL 0 d mX12_needs [vR 12 0, vI x1, vI x4] h (oI fun r2 h1 => ((r2 ≤ 0) → AW X (d + 1) rb mX12_promises 10 [(0, vR 12 0), (1, vI x1), (2, vI x2), (3, vI x3), (4, vI (x4 + 1))] [] h1 Qr Qx) ∧ ((¬ r2 ≤ 0) → CL 0 d mX12_needs [vR 12 0, vI x1, vI x4] h1 (oI fun r4 h3 => CL 0 d mX12_dayOf [vR 12 0, vI x4, vI (x2 * r4)] h3 (oI fun r6 h5 => AW X (d + 1) rb mX12_promises 10 [(0, vR 12 0), (1, vI x1), (2, vI x2), (3, vI (if x3 < r6 then r6 else x3)), (4, vI (x4 + 1))] [] h5 Qr Qx) Qx) Qx)) Qx)) : AW X (d + 1) rb mX12_promises 10 [(0, vR 12 0), (1, vI x1), (2, vI x2), (3, vI x3), (4, vI x4)] [] h Qr Qx := by
  refine aw_iload (j := 4) (i := 4) dX12_promises_10 rfl rfl ?_
  refine aw_aload_n (j := 0) (i := 0) dX12_promises_12 rfl rfl rfl ?_
  refine aw_getf (k := 11) (z := 56) dX12_promises_13 rfl (by decide) rfl rfl rfl cb_12 (by decide) gw_1605 ?_
  refine aw_iconst (v := 0) dX12_promises_16 rfl (by decide) ?_
  refine aw_iald dX12_promises_17 rfl (by decide) rfl (by unfold vp_in; decide) ?_
  refine aw_icmp_ge 57 dX12_promises_18 rfl rfl (fun c => ?_) (fun c => ?_)
  · replace k := k.1 c
    refine aw_iload_n (j := 3) (i := 3) dX12_promises_57 rfl rfl rfl ?_
    exact aw_iret dX12_promises_58 rfl k
  · replace k := k.2 c
    refine aw_aload_n (j := 0) (i := 0) dX12_promises_21 rfl rfl rfl ?_
    refine aw_iload_n (j := 1) (i := 1) dX12_promises_22 rfl rfl rfl ?_
    refine aw_iload (j := 4) (i := 4) dX12_promises_23 rfl rfl ?_
    refine aw_callV (M' := mX12_needs) (S := []) (as := [vI x1, vI x4]) (k := 0) dX12_promises_25 rfl (by decide) rfl rfl gw_1788 gw_1790 gw_51 mb_X12_needs rfl (Nat.zero_le _) (Nat.le_of_ble_eq_true rfl) rfl (CL.imp k (fun _ h1 k => ?_) (fun _ _ k => k))
    obtain ⟨r2, rfl, k⟩ := oI_of k
    show AW X (d + 1) rb mX12_promises 28 _ [vI r2] h1 Qr Qx
    refine aw_if_le 51 dX12_promises_28 rfl rfl (fun c => ?_) (fun c => ?_)
    · replace k := k.1 c
      refine aw_iinc (i := 4) (j := 4) (v := x4 + 1) (L2 := [(4, vI (x4 + 1)), (0, vR 12 0), (1, vI x1), (2, vI x2), (3, vI x3)]) dX12_promises_51 rfl (by decide) rfl rfl rfl ?_
      refine aw_goto 10 dX12_promises_54 rfl ?_
      exact aw_sub [1, 2, 3, 4, 0] rfl k
    · replace k := k.2 c
      refine aw_iload_n (j := 3) (i := 3) dX12_promises_31 rfl rfl rfl ?_
      refine aw_aload_n (j := 0) (i := 0) dX12_promises_32 rfl rfl rfl ?_
      refine aw_iload (j := 4) (i := 4) dX12_promises_33 rfl rfl ?_
      refine aw_iload_n (j := 2) (i := 2) dX12_promises_35 rfl rfl rfl ?_
      refine aw_aload_n (j := 0) (i := 0) dX12_promises_36 rfl rfl rfl ?_
      refine aw_iload_n (j := 1) (i := 1) dX12_promises_37 rfl rfl rfl ?_
      refine aw_iload (j := 4) (i := 4) dX12_promises_38 rfl rfl ?_
      refine aw_callV (M' := mX12_needs) (S := [vI x2, vI x4, vR 12 0, vI x3]) (as := [vI x1, vI x4]) (k := 0) dX12_promises_40 rfl (by decide) rfl rfl gw_1788 gw_1790 gw_51 mb_X12_needs rfl (Nat.zero_le _) (Nat.le_of_ble_eq_true rfl) rfl (CL.imp k (fun _ h3 k => ?_) (fun _ _ k => k))
      obtain ⟨r4, rfl, k⟩ := oI_of k
      show AW X (d + 1) rb mX12_promises 43 _ [vI r4, vI x2, vI x4, vR 12 0, vI x3] h3 Qr Qx
      refine aw_imul dX12_promises_43 rfl ?_
      refine aw_callV (M' := mX12_dayOf) (S := [vI x3]) (as := [vI x4, vI (x2 * r4)]) (k := 0) dX12_promises_44 rfl (by decide) rfl rfl gw_1919 gw_1921 gw_62 mb_X12_dayOf rfl (Nat.zero_le _) (Nat.le_of_ble_eq_true rfl) rfl (CL.imp k (fun _ h5 k => ?_) (fun _ _ k => k))
      obtain ⟨r6, rfl, k⟩ := oI_of k
      show AW X (d + 1) rb mX12_promises 47 _ [vI r6, vI x3] h5 Qr Qx
      refine aw_max dX12_promises_47 rfl gw_1800 gw_534 gw_104 gw_535 (Nat.le_of_ble_eq_true rfl) ?_
      refine aw_istore_n (i := 3) (L2 := [(3, vI (if x3 < r6 then r6 else x3)), (0, vR 12 0), (1, vI x1), (2, vI x2), (4, vI x4)]) dX12_promises_50 rfl rfl (by decide) rfl ?_
      refine aw_iinc (i := 4) (j := 4) (v := x4 + 1) (L2 := [(4, vI (x4 + 1)), (3, vI (if x3 < r6 then r6 else x3)), (0, vR 12 0), (1, vI x1), (2, vI x2)]) dX12_promises_51 rfl (by decide) rfl rfl rfl ?_
      refine aw_goto 10 dX12_promises_54 rfl ?_
      exact aw_sub [2, 3, 4, 1, 0] rfl k
set_option maxHeartbeats 4000000 in
set_option maxRecDepth 100000 in
theorem vc_X12_promise_0 {X : WD → State → Prop} {d rb : Nat} {h : Hp} {Qr : Option AV → Hp → Prop} {Qx : String → Hp → Prop} {a1 : Int32} {a2 : Int32}  (k : CL 0 d mX12_noProduct [vR 12 0, vI a1] (hp_i h 12 0 0 0) (oI fun r2 h1 => ((¬ r2 = 0) → Qr (some (vI 0)) h1) ∧ ((r2 = 0) → CL 0 d mX12_in [vI a2, vI 1, vI 999] h1 (oI fun r4 h3 => CL 0 d mX12_throwsIf [vR 12 0, vI (if ¬ r4 = 0 then (0 : Int32) else 1), vI 2] h3 (oI fun r6 h5 => ((r6 = 0) → CL 0 d mX12_promises [vR 12 0, vI a1, vI a2] h5 (oI fun r8 h7 => Qr (some (vI r8)) h7) Qx) ∧ ((¬ r6 = 0) → Qr (some (vI 0)) h5)) Qx) Qx)) Qx) : AW X (d + 1) rb mX12_promise 0 [(0, vR 12 0), (1, vI a1), (2, vI a2)] [] h Qr Qx := by
  refine aw_aload_n (j := 0) (i := 0) dX12_promise_0 rfl rfl rfl ?_
  refine aw_iconst (v := 0) dX12_promise_1 rfl (by decide) ?_
  refine aw_puti (k := 0) dX12_promise_2 rfl (by decide) rfl rfl cb_12 (by decide) rfl rfl gw_1594 ?_
  refine aw_aload_n (j := 0) (i := 0) dX12_promise_5 rfl rfl rfl ?_
  refine aw_iload_n (j := 1) (i := 1) dX12_promise_6 rfl rfl rfl ?_
  refine aw_callV (M' := mX12_noProduct) (S := []) (as := [vI a1]) (k := 0) dX12_promise_7 rfl (by decide) rfl rfl gw_1768 gw_1770 gw_49 mb_X12_noProduct rfl (Nat.zero_le _) (Nat.le_of_ble_eq_true rfl) rfl (CL.imp k (fun _ h1 k => ?_) (fun _ _ k => k))
  obtain ⟨r2, rfl, k⟩ := oI_of k
  show AW X (d + 1) rb mX12_promise 10 _ [vI r2] h1 Qr Qx
  refine aw_if_ne 37 dX12_promise_10 rfl rfl (fun c => ?_) (fun c => ?_)
  · replace k := k.1 c
    refine aw_iconst (v := 0) dX12_promise_37 rfl (by decide) ?_
    refine aw_goto 47 dX12_promise_38 rfl ?_
    exact aw_iret dX12_promise_47 rfl k
  · replace k := k.2 c
    refine aw_aload_n (j := 0) (i := 0) dX12_promise_13 rfl rfl rfl ?_
    refine aw_iload_n (j := 2) (i := 2) dX12_promise_14 rfl rfl rfl ?_
    refine aw_iconst (v := 1) dX12_promise_15 rfl (by decide) ?_
    refine aw_sipush (v := 999) dX12_promise_16 rfl (by decide) ?_
    refine aw_callS (M' := mX12_in) (S := [vR 12 0]) (as := [vI a2, vI 1, vI 999]) (k := 0) dX12_promise_19 rfl gw_1713 gw_1714 mb_X12_in rfl (Nat.zero_le _) (Nat.le_of_ble_eq_true rfl) rfl (CL.imp k (fun _ h3 k => ?_) (fun _ _ k => k))
    obtain ⟨r4, rfl, k⟩ := oI_of k
    show AW X (d + 1) rb mX12_promise 22 _ [vI r4, vR 12 0] h3 Qr Qx
    have kk : AW X (d + 1) rb mX12_promise 30 [(0, vR 12 0), (1, vI a1), (2, vI a2)] [vI (if ¬ r4 = 0 then (0 : Int32) else 1), vR 12 0] h3 Qr Qx := by
      refine aw_iconst (v := 2) dX12_promise_30 rfl (by decide) ?_
      refine aw_callV (M' := mX12_throwsIf) (S := []) (as := [vI (if ¬ r4 = 0 then (0 : Int32) else 1), vI 2]) (k := 0) dX12_promise_31 rfl (by decide) rfl rfl gw_1748 gw_1750 gw_48 mb_X12_throwsIf rfl (Nat.zero_le _) (Nat.le_of_ble_eq_true rfl) rfl (CL.imp k (fun _ h5 k => ?_) (fun _ _ k => k))
      obtain ⟨r6, rfl, k⟩ := oI_of k
      show AW X (d + 1) rb mX12_promise 34 _ [vI r6] h5 Qr Qx
      refine aw_if_eq 41 dX12_promise_34 rfl rfl (fun c => ?_) (fun c => ?_)
      · replace k := k.1 c
        refine aw_aload_n (j := 0) (i := 0) dX12_promise_41 rfl rfl rfl ?_
        refine aw_iload_n (j := 1) (i := 1) dX12_promise_42 rfl rfl rfl ?_
        refine aw_iload_n (j := 2) (i := 2) dX12_promise_43 rfl rfl rfl ?_
        refine aw_callV (M' := mX12_promises) (S := []) (as := [vI a1, vI a2]) (k := 0) dX12_promise_44 rfl (by decide) rfl rfl gw_1915 gw_1917 gw_61 mb_X12_promises rfl (Nat.zero_le _) (Nat.le_of_ble_eq_true rfl) rfl (CL.imp k (fun _ h7 k => ?_) (fun _ _ k => k))
        obtain ⟨r8, rfl, k⟩ := oI_of k
        show AW X (d + 1) rb mX12_promise 47 _ [vI r8] h7 Qr Qx
        exact aw_iret dX12_promise_47 rfl k
      · replace k := k.2 c
        refine aw_iconst (v := 0) dX12_promise_37 rfl (by decide) ?_
        refine aw_goto 47 dX12_promise_38 rfl ?_
        exact aw_iret dX12_promise_47 rfl k
    refine aw_if_ne 29 dX12_promise_22 rfl rfl (fun (c0 : ¬ r4 = 0) => ?_) (fun (c0 : r4 = 0) => ?_)
    · refine aw_iconst (v := 0) dX12_promise_29 rfl (by decide) ?_
      simp only [if_pos c0] at kk
      exact kk
    · refine aw_iconst (v := 1) dX12_promise_25 rfl (by decide) ?_
      refine aw_goto 30 dX12_promise_26 rfl ?_
      simp only [if_neg (oa_nn c0)] at kk
      exact kk
set_option maxHeartbeats 4000000 in
set_option maxRecDepth 100000 in
theorem vc_X12_isOver_0 {X : WD → State → Prop} {d rb : Nat} {h : Hp} {Qr : Option AV → Hp → Prop} {Qx : String → Hp → Prop} {a1 : Int32}  (k : CL 0 d mX12_of [vR 12 0, vI a1, vI 7] h (oI fun r2 h1 => ((r2 = 1) → Qr (some (vI 1)) h1) ∧ ((¬ r2 = 1) → CL 0 d mX12_of [vR 12 0, vI a1, vI 5] h1 (oI fun r4 h3 => CL 0 d mX12_of [vR 12 0, vI a1, vI 1] h3 (oI fun r6 h5 => ((if ¬ r4 = r6 then (0 : Int32) else 1) = 0 ∨ (if ¬ r4 = r6 then (0 : Int32) else 1) = 1) ∧ Qr (some (vI (if ¬ r4 = r6 then (0 : Int32) else 1))) h5) Qx) Qx)) Qx) : AW X (d + 1) rb mX12_isOver 0 [(0, vR 12 0), (1, vI a1)] [] h Qr Qx := by
  refine aw_aload_n (j := 0) (i := 0) dX12_isOver_0 rfl rfl rfl ?_
  refine aw_iload_n (j := 1) (i := 1) dX12_isOver_1 rfl rfl rfl ?_
  refine aw_bipush (v := 7) dX12_isOver_2 rfl (by decide) ?_
  refine aw_callV (M' := mX12_of) (S := []) (as := [vI a1, vI 7]) (k := 0) dX12_isOver_4 rfl (by decide) rfl rfl gw_1871 gw_1873 gw_58 mb_X12_of rfl (Nat.zero_le _) (Nat.le_of_ble_eq_true rfl) rfl (CL.imp k (fun _ h1 k => ?_) (fun _ _ k => k))
  obtain ⟨r2, rfl, k⟩ := oI_of k
  show AW X (d + 1) rb mX12_isOver 7 _ [vI r2] h1 Qr Qx
  refine aw_iconst (v := 1) dX12_isOver_7 rfl (by decide) ?_
  refine aw_icmp_eq 26 dX12_isOver_8 rfl rfl (fun c => ?_) (fun c => ?_)
  · replace k := k.1 c
    refine aw_iconst (v := 1) dX12_isOver_26 rfl (by decide) ?_
    refine aw_goto 31 dX12_isOver_27 rfl ?_
    exact aw_zret dX12_isOver_31 rfl (by decide) k
  · replace k := k.2 c
    refine aw_aload_n (j := 0) (i := 0) dX12_isOver_11 rfl rfl rfl ?_
    refine aw_iload_n (j := 1) (i := 1) dX12_isOver_12 rfl rfl rfl ?_
    refine aw_iconst (v := 5) dX12_isOver_13 rfl (by decide) ?_
    refine aw_callV (M' := mX12_of) (S := []) (as := [vI a1, vI 5]) (k := 0) dX12_isOver_14 rfl (by decide) rfl rfl gw_1871 gw_1873 gw_58 mb_X12_of rfl (Nat.zero_le _) (Nat.le_of_ble_eq_true rfl) rfl (CL.imp k (fun _ h3 k => ?_) (fun _ _ k => k))
    obtain ⟨r4, rfl, k⟩ := oI_of k
    show AW X (d + 1) rb mX12_isOver 17 _ [vI r4] h3 Qr Qx
    refine aw_aload_n (j := 0) (i := 0) dX12_isOver_17 rfl rfl rfl ?_
    refine aw_iload_n (j := 1) (i := 1) dX12_isOver_18 rfl rfl rfl ?_
    refine aw_iconst (v := 1) dX12_isOver_19 rfl (by decide) ?_
    refine aw_callV (M' := mX12_of) (S := [vI r4]) (as := [vI a1, vI 1]) (k := 0) dX12_isOver_20 rfl (by decide) rfl rfl gw_1871 gw_1873 gw_58 mb_X12_of rfl (Nat.zero_le _) (Nat.le_of_ble_eq_true rfl) rfl (CL.imp k (fun _ h5 k => ?_) (fun _ _ k => k))
    obtain ⟨r6, rfl, k⟩ := oI_of k
    show AW X (d + 1) rb mX12_isOver 23 _ [vI r6, vI r4] h5 Qr Qx
    have kk : AW X (d + 1) rb mX12_isOver 31 [(0, vR 12 0), (1, vI a1)] [vI (if ¬ r4 = r6 then (0 : Int32) else 1)] h5 Qr Qx := by
      exact aw_zret dX12_isOver_31 rfl k.1 k.2
    refine aw_icmp_ne 30 dX12_isOver_23 rfl rfl (fun (c0 : ¬ r4 = r6) => ?_) (fun (c0 : r4 = r6) => ?_)
    · refine aw_iconst (v := 0) dX12_isOver_30 rfl (by decide) ?_
      simp only [if_pos c0] at kk
      exact kk
    · refine aw_iconst (v := 1) dX12_isOver_26 rfl (by decide) ?_
      refine aw_goto 31 dX12_isOver_27 rfl ?_
      simp only [if_neg (oa_nn c0)] at kk
      exact kk
set_option maxHeartbeats 4000000 in
set_option maxRecDepth 100000 in
theorem vc_X12_promiseOf_0 {X : WD → State → Prop} {d rb : Nat} {h : Hp} {Qr : Option AV → Hp → Prop} {Qx : String → Hp → Prop} {a1 : Int32}  (k : CL 0 d mX12_noOrder [vR 12 0, vI a1] (hp_i h 12 0 0 0) (oI fun r2 h1 => ((r2 = 0) → CL 0 d mX12_isOver [vR 12 0, vI a1] h1 (oI fun r4 h3 => ((r4 = 0) → CL 0 d mX12_of [vR 12 0, vI a1, vI 0] h3 (oI fun r6 h5 => CL 0 d mX12_open [vR 12 0, vI a1] h5 (oI fun r8 h7 => CL 0 d mX12_promises [vR 12 0, vI r6, vI r8] h7 (oI fun r10 h9 => Qr (some (vI r10)) h9) Qx) Qx) Qx) ∧ ((¬ r4 = 0) → Qr (some (vI (-1))) h3)) Qx) ∧ ((¬ r2 = 0) → Qr (some (vI 0)) h1)) Qx) : AW X (d + 1) rb mX12_promiseOf 0 [(0, vR 12 0), (1, vI a1)] [] h Qr Qx := by
  refine aw_aload_n (j := 0) (i := 0) dX12_promiseOf_0 rfl rfl rfl ?_
  refine aw_iconst (v := 0) dX12_promiseOf_1 rfl (by decide) ?_
  refine aw_puti (k := 0) dX12_promiseOf_2 rfl (by decide) rfl rfl cb_12 (by decide) rfl rfl gw_1594 ?_
  refine aw_aload_n (j := 0) (i := 0) dX12_promiseOf_5 rfl rfl rfl ?_
  refine aw_iload_n (j := 1) (i := 1) dX12_promiseOf_6 rfl rfl rfl ?_
  refine aw_callV (M' := mX12_noOrder) (S := []) (as := [vI a1]) (k := 0) dX12_promiseOf_7 rfl (by decide) rfl rfl gw_1867 gw_1869 gw_57 mb_X12_noOrder rfl (Nat.zero_le _) (Nat.le_of_ble_eq_true rfl) rfl (CL.imp k (fun _ h1 k => ?_) (fun _ _ k => k))
  obtain ⟨r2, rfl, k⟩ := oI_of k
  show AW X (d + 1) rb mX12_promiseOf 10 _ [vI r2] h1 Qr Qx
  refine aw_if_eq 15 dX12_promiseOf_10 rfl rfl (fun c => ?_) (fun c => ?_)
  · replace k := k.1 c
    refine aw_aload_n (j := 0) (i := 0) dX12_promiseOf_15 rfl rfl rfl ?_
    refine aw_iload_n (j := 1) (i := 1) dX12_promiseOf_16 rfl rfl rfl ?_
    refine aw_callV (M' := mX12_isOver) (S := []) (as := [vI a1]) (k := 0) dX12_promiseOf_17 rfl (by decide) rfl rfl gw_1927 gw_1929 gw_63 mb_X12_isOver rfl (Nat.zero_le _) (Nat.le_of_ble_eq_true rfl) rfl (CL.imp k (fun _ h3 k => ?_) (fun _ _ k => k))
    obtain ⟨r4, rfl, k⟩ := oI_of k
    show AW X (d + 1) rb mX12_promiseOf 20 _ [vI r4] h3 Qr Qx
    refine aw_if_eq 27 dX12_promiseOf_20 rfl rfl (fun c => ?_) (fun c => ?_)
    · replace k := k.1 c
      refine aw_aload_n (j := 0) (i := 0) dX12_promiseOf_27 rfl rfl rfl ?_
      refine aw_aload_n (j := 0) (i := 0) dX12_promiseOf_28 rfl rfl rfl ?_
      refine aw_iload_n (j := 1) (i := 1) dX12_promiseOf_29 rfl rfl rfl ?_
      refine aw_iconst (v := 0) dX12_promiseOf_30 rfl (by decide) ?_
      refine aw_callV (M' := mX12_of) (S := [vR 12 0]) (as := [vI a1, vI 0]) (k := 0) dX12_promiseOf_31 rfl (by decide) rfl rfl gw_1871 gw_1873 gw_58 mb_X12_of rfl (Nat.zero_le _) (Nat.le_of_ble_eq_true rfl) rfl (CL.imp k (fun _ h5 k => ?_) (fun _ _ k => k))
      obtain ⟨r6, rfl, k⟩ := oI_of k
      show AW X (d + 1) rb mX12_promiseOf 34 _ [vI r6, vR 12 0] h5 Qr Qx
      refine aw_aload_n (j := 0) (i := 0) dX12_promiseOf_34 rfl rfl rfl ?_
      refine aw_iload_n (j := 1) (i := 1) dX12_promiseOf_35 rfl rfl rfl ?_
      refine aw_callV (M' := mX12_open) (S := [vI r6, vR 12 0]) (as := [vI a1]) (k := 0) dX12_promiseOf_36 rfl (by decide) rfl rfl gw_1875 gw_1877 gw_59 mb_X12_open rfl (Nat.zero_le _) (Nat.le_of_ble_eq_true rfl) rfl (CL.imp k (fun _ h7 k => ?_) (fun _ _ k => k))
      obtain ⟨r8, rfl, k⟩ := oI_of k
      show AW X (d + 1) rb mX12_promiseOf 39 _ [vI r8, vI r6, vR 12 0] h7 Qr Qx
      refine aw_callV (M' := mX12_promises) (S := []) (as := [vI r6, vI r8]) (k := 0) dX12_promiseOf_39 rfl (by decide) rfl rfl gw_1915 gw_1917 gw_61 mb_X12_promises rfl (Nat.zero_le _) (Nat.le_of_ble_eq_true rfl) rfl (CL.imp k (fun _ h9 k => ?_) (fun _ _ k => k))
      obtain ⟨r10, rfl, k⟩ := oI_of k
      show AW X (d + 1) rb mX12_promiseOf 42 _ [vI r10] h9 Qr Qx
      exact aw_iret dX12_promiseOf_42 rfl k
    · replace k := k.2 c
      refine aw_iconst (v := (-1)) dX12_promiseOf_23 rfl (by decide) ?_
      refine aw_goto 42 dX12_promiseOf_24 rfl ?_
      exact aw_iret dX12_promiseOf_42 rfl k
  · replace k := k.2 c
    refine aw_iconst (v := 0) dX12_promiseOf_13 rfl (by decide) ?_
    exact aw_iret dX12_promiseOf_14 rfl k
set_option maxHeartbeats 4000000 in
set_option maxRecDepth 100000 in
theorem vc_X12_delayingPart_0 {X : WD → State → Prop} {d rb : Nat} {h : Hp} {Qr : Option AV → Hp → Prop} {Qx : String → Hp → Prop} {a1 : Int32}  (k : CL 0 d mX12_noOrder [vR 12 0, vI a1] (hp_i h 12 0 0 0) (oI fun r2 h1 => ((r2 = 0) → CL 0 d mX12_of [vR 12 0, vI a1, vI 0] h1 (oI fun r4 h3 => CL 0 d mX12_open [vR 12 0, vI a1] h3 (oI fun r6 h5 => AW X (d + 1) rb mX12_delayingPart 34 [(0, vR 12 0), (1, vI a1), (2, vI r4), (3, vI r6), (4, vI (-1)), (5, vI 0)] [] h5 Qr Qx) Qx) Qx) ∧ ((¬ r2 = 0) → Qr (some (vI 0)) h1)) Qx) : AW X (d + 1) rb mX12_delayingPart 0 [(0, vR 12 0), (1, vI a1)] [] h Qr Qx := by
  refine aw_aload_n (j := 0) (i := 0) dX12_delayingPart_0 rfl rfl rfl ?_
  refine aw_iconst (v := 0) dX12_delayingPart_1 rfl (by decide) ?_
  refine aw_puti (k := 0) dX12_delayingPart_2 rfl (by decide) rfl rfl cb_12 (by decide) rfl rfl gw_1594 ?_
  refine aw_aload_n (j := 0) (i := 0) dX12_delayingPart_5 rfl rfl rfl ?_
  refine aw_iload_n (j := 1) (i := 1) dX12_delayingPart_6 rfl rfl rfl ?_
  refine aw_callV (M' := mX12_noOrder) (S := []) (as := [vI a1]) (k := 0) dX12_delayingPart_7 rfl (by decide) rfl rfl gw_1867 gw_1869 gw_57 mb_X12_noOrder rfl (Nat.zero_le _) (Nat.le_of_ble_eq_true rfl) rfl (CL.imp k (fun _ h1 k => ?_) (fun _ _ k => k))
  obtain ⟨r2, rfl, k⟩ := oI_of k
  show AW X (d + 1) rb mX12_delayingPart 10 _ [vI r2] h1 Qr Qx
  refine aw_if_eq 15 dX12_delayingPart_10 rfl rfl (fun c => ?_) (fun c => ?_)
  · replace k := k.1 c
    refine aw_aload_n (j := 0) (i := 0) dX12_delayingPart_15 rfl rfl rfl ?_
    refine aw_iload_n (j := 1) (i := 1) dX12_delayingPart_16 rfl rfl rfl ?_
    refine aw_iconst (v := 0) dX12_delayingPart_17 rfl (by decide) ?_
    refine aw_callV (M' := mX12_of) (S := []) (as := [vI a1, vI 0]) (k := 0) dX12_delayingPart_18 rfl (by decide) rfl rfl gw_1871 gw_1873 gw_58 mb_X12_of rfl (Nat.zero_le _) (Nat.le_of_ble_eq_true rfl) rfl (CL.imp k (fun _ h3 k => ?_) (fun _ _ k => k))
    obtain ⟨r4, rfl, k⟩ := oI_of k
    show AW X (d + 1) rb mX12_delayingPart 21 _ [vI r4] h3 Qr Qx
    refine aw_istore_n (i := 2) (L2 := [(2, vI r4), (0, vR 12 0), (1, vI a1)]) dX12_delayingPart_21 rfl rfl (by decide) rfl ?_
    refine aw_aload_n (j := 1) (i := 0) dX12_delayingPart_22 rfl rfl rfl ?_
    refine aw_iload_n (j := 2) (i := 1) dX12_delayingPart_23 rfl rfl rfl ?_
    refine aw_callV (M' := mX12_open) (S := []) (as := [vI a1]) (k := 0) dX12_delayingPart_24 rfl (by decide) rfl rfl gw_1875 gw_1877 gw_59 mb_X12_open rfl (Nat.zero_le _) (Nat.le_of_ble_eq_true rfl) rfl (CL.imp k (fun _ h5 k => ?_) (fun _ _ k => k))
    obtain ⟨r6, rfl, k⟩ := oI_of k
    show AW X (d + 1) rb mX12_delayingPart 27 _ [vI r6] h5 Qr Qx
    refine aw_istore_n (i := 3) (L2 := [(3, vI r6), (2, vI r4), (0, vR 12 0), (1, vI a1)]) dX12_delayingPart_27 rfl rfl (by decide) rfl ?_
    refine aw_iconst (v := (-1)) dX12_delayingPart_28 rfl (by decide) ?_
    refine aw_istore (i := 4) (L2 := [(4, vI (-1)), (3, vI r6), (2, vI r4), (0, vR 12 0), (1, vI a1)]) dX12_delayingPart_29 rfl (by decide) rfl ?_
    refine aw_iconst (v := 0) dX12_delayingPart_31 rfl (by decide) ?_
    refine aw_istore (i := 5) (L2 := [(5, vI 0), (4, vI (-1)), (3, vI r6), (2, vI r4), (0, vR 12 0), (1, vI a1)]) dX12_delayingPart_32 rfl (by decide) rfl ?_
    exact aw_sub [4, 5, 3, 2, 1, 0] rfl k
  · replace k := k.2 c
    refine aw_iconst (v := 0) dX12_delayingPart_13 rfl (by decide) ?_
    exact aw_iret dX12_delayingPart_14 rfl k
set_option maxHeartbeats 4000000 in
set_option maxRecDepth 100000 in
theorem vc_X12_delayingPart_34 {X : WD → State → Prop} {d rb : Nat} {h : Hp} {Qr : Option AV → Hp → Prop} {Qx : String → Hp → Prop} {x1 : Int32} {x2 : Int32} {x3 : Int32} {x4 : Int32} {x5 : Int32}  (k : (((h.1 56 0 0) ≤ x5) → Qr (some (vI x4)) h) ∧ ((¬ (h.1 56 0 0) ≤ x5) → ((x3 ≤ 0) → Qr (some (vI x4)) h) ∧ ((¬ x3 ≤ 0) → CL 0 d mX12_needs [vR 12 0, vI x2, vI x5] h (oI fun r2 h1 => ((r2 ≤ 0) → AW X (d + 1) rb mX12_delayingPart 34 [(0, vR 12 0), (1, vI x1), (2, vI x2), (3, vI x3), (4, vI x4), (5, vI (x5 + 1))] [] h1 Qr Qx) ∧ ((¬ r2 ≤ 0) → ((x4 = (-1)) → AW X (d + 1) rb mX12_delayingPart 34 [(0, vR 12 0), (1, vI x1), (2, vI x2), (3, vI x3), (4, vI x5), (5, vI (x5 + 1))] [] h1 Qr Qx) ∧ ((¬ x4 = (-1)) → CL 0 d mX12_needs [vR 12 0, vI x2, vI x5] h1 (oI fun r4 h3 => CL 0 d mX12_dayOf [vR 12 0, vI x5, vI (x3 * r4)] h3 (oI fun r6 h5 => CL 0 d mX12_needs [vR 12 0, vI x2, vI x4] h5 (oI fun r8 h7 => CL 0 d mX12_dayOf [vR 12 0, vI x4, vI (x3 * r8)] h7 (oI fun r10 h9 => ((r6 ≤ r10) → AW X (d + 1) rb mX12_delayingPart 34 [(0, vR 12 0), (1, vI x1), (2, vI x2), (3, vI x3), (4, vI x4), (5, vI (x5 + 1))] [] h9 Qr Qx) ∧ ((¬ r6 ≤ r10) → AW X (d + 1) rb mX12_delayingPart 34 [(0, vR 12 0), (1, vI x1), (2, vI x2), (3, vI x3), (4, vI x5), (5, vI (x5 + 1))] [] h9 Qr Qx)) Qx) Qx) Qx) Qx))) Qx))) : AW X (d + 1) rb mX12_delayingPart 34 [(0, vR 12 0), (1, vI x1), (2, vI x2), (3, vI x3), (4, vI x4), (5, vI x5)] [] h Qr Qx := by
  refine aw_iload (j := 5) (i := 5) dX12_delayingPart_34 rfl rfl ?_
  refine aw_aload_n (j := 0) (i := 0) dX12_delayingPart_36 rfl rfl rfl ?_
  refine aw_getf (k := 11) (z := 56) dX12_delayingPart_37 rfl (by decide) rfl rfl rfl cb_12 (by decide) gw_1605 ?_
  refine aw_iconst (v := 0) dX12_delayingPart_40 rfl (by decide) ?_
  refine aw_iald dX12_delayingPart_41 rfl (by decide) rfl (by unfold vp_in; decide) ?_
  refine aw_icmp_ge 108 dX12_delayingPart_42 rfl rfl (fun c => ?_) (fun c => ?_)
  · replace k := k.1 c
    refine aw_iload (j := 4) (i := 4) dX12_delayingPart_108 rfl rfl ?_
    exact aw_iret dX12_delayingPart_110 rfl k
  · replace k := k.2 c
    refine aw_iload_n (j := 3) (i := 3) dX12_delayingPart_45 rfl rfl rfl ?_
    refine aw_if_le 108 dX12_delayingPart_46 rfl rfl (fun c => ?_) (fun c => ?_)
    · replace k := k.1 c
      refine aw_iload (j := 4) (i := 4) dX12_delayingPart_108 rfl rfl ?_
      exact aw_iret dX12_delayingPart_110 rfl k
    · replace k := k.2 c
      refine aw_aload_n (j := 0) (i := 0) dX12_delayingPart_49 rfl rfl rfl ?_
      refine aw_iload_n (j := 2) (i := 2) dX12_delayingPart_50 rfl rfl rfl ?_
      refine aw_iload (j := 5) (i := 5) dX12_delayingPart_51 rfl rfl ?_
      refine aw_callV (M' := mX12_needs) (S := []) (as := [vI x2, vI x5]) (k := 0) dX12_delayingPart_53 rfl (by decide) rfl rfl gw_1788 gw_1790 gw_51 mb_X12_needs rfl (Nat.zero_le _) (Nat.le_of_ble_eq_true rfl) rfl (CL.imp k (fun _ h1 k => ?_) (fun _ _ k => k))
      obtain ⟨r2, rfl, k⟩ := oI_of k
      show AW X (d + 1) rb mX12_delayingPart 56 _ [vI r2] h1 Qr Qx
      refine aw_if_le 102 dX12_delayingPart_56 rfl rfl (fun c => ?_) (fun c => ?_)
      · replace k := k.1 c
        refine aw_iinc (i := 5) (j := 5) (v := x5 + 1) (L2 := [(5, vI (x5 + 1)), (0, vR 12 0), (1, vI x1), (2, vI x2), (3, vI x3), (4, vI x4)]) dX12_delayingPart_102 rfl (by decide) rfl rfl rfl ?_
        refine aw_goto 34 dX12_delayingPart_105 rfl ?_
        exact aw_sub [1, 2, 3, 4, 5, 0] rfl k
      · replace k := k.2 c
        refine aw_iload (j := 4) (i := 4) dX12_delayingPart_59 rfl rfl ?_
        refine aw_iconst (v := (-1)) dX12_delayingPart_61 rfl (by decide) ?_
        refine aw_icmp_eq 98 dX12_delayingPart_62 rfl rfl (fun c => ?_) (fun c => ?_)
        · replace k := k.1 c
          refine aw_iload (j := 5) (i := 5) dX12_delayingPart_98 rfl rfl ?_
          refine aw_istore (i := 4) (L2 := [(4, vI x5), (0, vR 12 0), (1, vI x1), (2, vI x2), (3, vI x3), (5, vI x5)]) dX12_delayingPart_100 rfl (by decide) rfl ?_
          refine aw_iinc (i := 5) (j := 5) (v := x5 + 1) (L2 := [(5, vI (x5 + 1)), (4, vI x5), (0, vR 12 0), (1, vI x1), (2, vI x2), (3, vI x3)]) dX12_delayingPart_102 rfl (by decide) rfl rfl rfl ?_
          refine aw_goto 34 dX12_delayingPart_105 rfl ?_
          exact aw_sub [2, 3, 4, 5, 1, 0] rfl k
        · replace k := k.2 c
          refine aw_aload_n (j := 0) (i := 0) dX12_delayingPart_65 rfl rfl rfl ?_
          refine aw_iload (j := 5) (i := 5) dX12_delayingPart_66 rfl rfl ?_
          refine aw_iload_n (j := 3) (i := 3) dX12_delayingPart_68 rfl rfl rfl ?_
          refine aw_aload_n (j := 0) (i := 0) dX12_delayingPart_69 rfl rfl rfl ?_
          refine aw_iload_n (j := 2) (i := 2) dX12_delayingPart_70 rfl rfl rfl ?_
          refine aw_iload (j := 5) (i := 5) dX12_delayingPart_71 rfl rfl ?_
          refine aw_callV (M' := mX12_needs) (S := [vI x3, vI x5, vR 12 0]) (as := [vI x2, vI x5]) (k := 0) dX12_delayingPart_73 rfl (by decide) rfl rfl gw_1788 gw_1790 gw_51 mb_X12_needs rfl (Nat.zero_le _) (Nat.le_of_ble_eq_true rfl) rfl (CL.imp k (fun _ h3 k => ?_) (fun _ _ k => k))
          obtain ⟨r4, rfl, k⟩ := oI_of k
          show AW X (d + 1) rb mX12_delayingPart 76 _ [vI r4, vI x3, vI x5, vR 12 0] h3 Qr Qx
          refine aw_imul dX12_delayingPart_76 rfl ?_
          refine aw_callV (M' := mX12_dayOf) (S := []) (as := [vI x5, vI (x3 * r4)]) (k := 0) dX12_delayingPart_77 rfl (by decide) rfl rfl gw_1919 gw_1921 gw_62 mb_X12_dayOf rfl (Nat.zero_le _) (Nat.le_of_ble_eq_true rfl) rfl (CL.imp k (fun _ h5 k => ?_) (fun _ _ k => k))
          obtain ⟨r6, rfl, k⟩ := oI_of k
          show AW X (d + 1) rb mX12_delayingPart 80 _ [vI r6] h5 Qr Qx
          refine aw_aload_n (j := 0) (i := 0) dX12_delayingPart_80 rfl rfl rfl ?_
          refine aw_iload (j := 4) (i := 4) dX12_delayingPart_81 rfl rfl ?_
          refine aw_iload_n (j := 3) (i := 3) dX12_delayingPart_83 rfl rfl rfl ?_
          refine aw_aload_n (j := 0) (i := 0) dX12_delayingPart_84 rfl rfl rfl ?_
          refine aw_iload_n (j := 2) (i := 2) dX12_delayingPart_85 rfl rfl rfl ?_
          refine aw_iload (j := 4) (i := 4) dX12_delayingPart_86 rfl rfl ?_
          refine aw_callV (M' := mX12_needs) (S := [vI x3, vI x4, vR 12 0, vI r6]) (as := [vI x2, vI x4]) (k := 0) dX12_delayingPart_88 rfl (by decide) rfl rfl gw_1788 gw_1790 gw_51 mb_X12_needs rfl (Nat.zero_le _) (Nat.le_of_ble_eq_true rfl) rfl (CL.imp k (fun _ h7 k => ?_) (fun _ _ k => k))
          obtain ⟨r8, rfl, k⟩ := oI_of k
          show AW X (d + 1) rb mX12_delayingPart 91 _ [vI r8, vI x3, vI x4, vR 12 0, vI r6] h7 Qr Qx
          refine aw_imul dX12_delayingPart_91 rfl ?_
          refine aw_callV (M' := mX12_dayOf) (S := [vI r6]) (as := [vI x4, vI (x3 * r8)]) (k := 0) dX12_delayingPart_92 rfl (by decide) rfl rfl gw_1919 gw_1921 gw_62 mb_X12_dayOf rfl (Nat.zero_le _) (Nat.le_of_ble_eq_true rfl) rfl (CL.imp k (fun _ h9 k => ?_) (fun _ _ k => k))
          obtain ⟨r10, rfl, k⟩ := oI_of k
          show AW X (d + 1) rb mX12_delayingPart 95 _ [vI r10, vI r6] h9 Qr Qx
          refine aw_icmp_le 102 dX12_delayingPart_95 rfl rfl (fun c => ?_) (fun c => ?_)
          · replace k := k.1 c
            refine aw_iinc (i := 5) (j := 5) (v := x5 + 1) (L2 := [(5, vI (x5 + 1)), (0, vR 12 0), (1, vI x1), (2, vI x2), (3, vI x3), (4, vI x4)]) dX12_delayingPart_102 rfl (by decide) rfl rfl rfl ?_
            refine aw_goto 34 dX12_delayingPart_105 rfl ?_
            exact aw_sub [1, 2, 3, 4, 5, 0] rfl k
          · replace k := k.2 c
            refine aw_iload (j := 5) (i := 5) dX12_delayingPart_98 rfl rfl ?_
            refine aw_istore (i := 4) (L2 := [(4, vI x5), (0, vR 12 0), (1, vI x1), (2, vI x2), (3, vI x3), (5, vI x5)]) dX12_delayingPart_100 rfl (by decide) rfl ?_
            refine aw_iinc (i := 5) (j := 5) (v := x5 + 1) (L2 := [(5, vI (x5 + 1)), (4, vI x5), (0, vR 12 0), (1, vI x1), (2, vI x2), (3, vI x3)]) dX12_delayingPart_102 rfl (by decide) rfl rfl rfl ?_
            refine aw_goto 34 dX12_delayingPart_105 rfl ?_
            exact aw_sub [2, 3, 4, 5, 1, 0] rfl k
set_option maxHeartbeats 4000000 in
set_option maxRecDepth 100000 in
theorem vc_X12_lateOrders_0 {X : WD → State → Prop} {d rb : Nat} {h : Hp} {Qr : Option AV → Hp → Prop} {Qx : String → Hp → Prop}   (k : AW X (d + 1) rb mX12_lateOrders 9 [(0, vR 12 0), (1, vI 0), (2, vI 0)] [] (hp_i h 12 0 0 0) Qr Qx) : AW X (d + 1) rb mX12_lateOrders 0 [(0, vR 12 0)] [] h Qr Qx := by
  refine aw_aload_n (j := 0) (i := 0) dX12_lateOrders_0 rfl rfl rfl ?_
  refine aw_iconst (v := 0) dX12_lateOrders_1 rfl (by decide) ?_
  refine aw_puti (k := 0) dX12_lateOrders_2 rfl (by decide) rfl rfl cb_12 (by decide) rfl rfl gw_1594 ?_
  refine aw_iconst (v := 0) dX12_lateOrders_5 rfl (by decide) ?_
  refine aw_istore_n (i := 1) (L2 := [(1, vI 0), (0, vR 12 0)]) dX12_lateOrders_6 rfl rfl (by decide) rfl ?_
  refine aw_iconst (v := 0) dX12_lateOrders_7 rfl (by decide) ?_
  refine aw_istore_n (i := 2) (L2 := [(2, vI 0), (1, vI 0), (0, vR 12 0)]) dX12_lateOrders_8 rfl rfl (by decide) rfl ?_
  exact aw_sub [2, 1, 0] rfl k
set_option maxHeartbeats 4000000 in
set_option maxRecDepth 100000 in
theorem vc_X12_lateOrders_9 {X : WD → State → Prop} {d rb : Nat} {h : Hp} {Qr : Option AV → Hp → Prop} {Qx : String → Hp → Prop} {x1 : Int32} {x2 : Int32}  (k : (((h.1 58 0 1) ≤ x2) → Qr (some (vI x1)) h) ∧ ((¬ (h.1 58 0 1) ≤ x2) → CL 0 d mX12_open [vR 12 0, vI x2] h (oI fun r2 h1 => ((r2 ≤ 0) → AW X (d + 1) rb mX12_lateOrders 9 [(0, vR 12 0), (1, vI (x1 ||| 0)), (2, vI (x2 + 1))] [] h1 Qr Qx) ∧ ((¬ r2 ≤ 0) → CL 0 d mX12_of [vR 12 0, vI x2, vI 0] h1 (oI fun r4 h3 => CL 0 d mX12_open [vR 12 0, vI x2] h3 (oI fun r6 h5 => CL 0 d mX12_promises [vR 12 0, vI r4, vI r6] h5 (oI fun r8 h7 => CL 0 d mX12_of [vR 12 0, vI x2, vI 3] h7 (oI fun r10 h9 => ((r8 ≤ r10) → AW X (d + 1) rb mX12_lateOrders 9 [(0, vR 12 0), (1, vI (x1 ||| 0)), (2, vI (x2 + 1))] [] h9 Qr Qx) ∧ ((¬ r8 ≤ r10) → AW X (d + 1) rb mX12_lateOrders 9 [(0, vR 12 0), (1, vI (x1 ||| (1 <<< (x2 &&& 31)))), (2, vI (x2 + 1))] [] h9 Qr Qx)) Qx) Qx) Qx) Qx)) Qx)) : AW X (d + 1) rb mX12_lateOrders 9 [(0, vR 12 0), (1, vI x1), (2, vI x2)] [] h Qr Qx := by
  refine aw_iload_n (j := 2) (i := 2) dX12_lateOrders_9 rfl rfl rfl ?_
  refine aw_aload_n (j := 0) (i := 0) dX12_lateOrders_10 rfl rfl rfl ?_
  refine aw_getf (k := 14) (z := 58) dX12_lateOrders_11 rfl (by decide) rfl rfl rfl cb_12 (by decide) gw_1608 ?_
  refine aw_iconst (v := 1) dX12_lateOrders_14 rfl (by decide) ?_
  refine aw_iald dX12_lateOrders_15 rfl (by decide) rfl (by unfold vp_in; decide) ?_
  refine aw_icmp_ge 67 dX12_lateOrders_16 rfl rfl (fun c => ?_) (fun c => ?_)
  · replace k := k.1 c
    refine aw_iload_n (j := 1) (i := 1) dX12_lateOrders_67 rfl rfl rfl ?_
    exact aw_iret dX12_lateOrders_68 rfl k
  · replace k := k.2 c
    refine aw_iload_n (j := 1) (i := 1) dX12_lateOrders_19 rfl rfl rfl ?_
    refine aw_aload_n (j := 0) (i := 0) dX12_lateOrders_20 rfl rfl rfl ?_
    refine aw_iload_n (j := 2) (i := 2) dX12_lateOrders_21 rfl rfl rfl ?_
    refine aw_callV (M' := mX12_open) (S := [vI x1]) (as := [vI x2]) (k := 0) dX12_lateOrders_22 rfl (by decide) rfl rfl gw_1875 gw_1877 gw_59 mb_X12_open rfl (Nat.zero_le _) (Nat.le_of_ble_eq_true rfl) rfl (CL.imp k (fun _ h1 k => ?_) (fun _ _ k => k))
    obtain ⟨r2, rfl, k⟩ := oI_of k
    show AW X (d + 1) rb mX12_lateOrders 25 _ [vI r2, vI x1] h1 Qr Qx
    refine aw_if_le 58 dX12_lateOrders_25 rfl rfl (fun c => ?_) (fun c => ?_)
    · replace k := k.1 c
      refine aw_iconst (v := 0) dX12_lateOrders_58 rfl (by decide) ?_
      refine aw_ior dX12_lateOrders_59 rfl ?_
      refine aw_istore_n (i := 1) (L2 := [(1, vI (x1 ||| 0)), (0, vR 12 0), (2, vI x2)]) dX12_lateOrders_60 rfl rfl (by decide) rfl ?_
      refine aw_iinc (i := 2) (j := 2) (v := x2 + 1) (L2 := [(2, vI (x2 + 1)), (1, vI (x1 ||| 0)), (0, vR 12 0)]) dX12_lateOrders_61 rfl (by decide) rfl rfl rfl ?_
      refine aw_goto 9 dX12_lateOrders_64 rfl ?_
      exact aw_sub [2, 1, 0] rfl k
    · replace k := k.2 c
      refine aw_aload_n (j := 0) (i := 0) dX12_lateOrders_28 rfl rfl rfl ?_
      refine aw_aload_n (j := 0) (i := 0) dX12_lateOrders_29 rfl rfl rfl ?_
      refine aw_iload_n (j := 2) (i := 2) dX12_lateOrders_30 rfl rfl rfl ?_
      refine aw_iconst (v := 0) dX12_lateOrders_31 rfl (by decide) ?_
      refine aw_callV (M' := mX12_of) (S := [vR 12 0, vI x1]) (as := [vI x2, vI 0]) (k := 0) dX12_lateOrders_32 rfl (by decide) rfl rfl gw_1871 gw_1873 gw_58 mb_X12_of rfl (Nat.zero_le _) (Nat.le_of_ble_eq_true rfl) rfl (CL.imp k (fun _ h3 k => ?_) (fun _ _ k => k))
      obtain ⟨r4, rfl, k⟩ := oI_of k
      show AW X (d + 1) rb mX12_lateOrders 35 _ [vI r4, vR 12 0, vI x1] h3 Qr Qx
      refine aw_aload_n (j := 0) (i := 0) dX12_lateOrders_35 rfl rfl rfl ?_
      refine aw_iload_n (j := 2) (i := 2) dX12_lateOrders_36 rfl rfl rfl ?_
      refine aw_callV (M' := mX12_open) (S := [vI r4, vR 12 0, vI x1]) (as := [vI x2]) (k := 0) dX12_lateOrders_37 rfl (by decide) rfl rfl gw_1875 gw_1877 gw_59 mb_X12_open rfl (Nat.zero_le _) (Nat.le_of_ble_eq_true rfl) rfl (CL.imp k (fun _ h5 k => ?_) (fun _ _ k => k))
      obtain ⟨r6, rfl, k⟩ := oI_of k
      show AW X (d + 1) rb mX12_lateOrders 40 _ [vI r6, vI r4, vR 12 0, vI x1] h5 Qr Qx
      refine aw_callV (M' := mX12_promises) (S := [vI x1]) (as := [vI r4, vI r6]) (k := 0) dX12_lateOrders_40 rfl (by decide) rfl rfl gw_1915 gw_1917 gw_61 mb_X12_promises rfl (Nat.zero_le _) (Nat.le_of_ble_eq_true rfl) rfl (CL.imp k (fun _ h7 k => ?_) (fun _ _ k => k))
      obtain ⟨r8, rfl, k⟩ := oI_of k
      show AW X (d + 1) rb mX12_lateOrders 43 _ [vI r8, vI x1] h7 Qr Qx
      refine aw_aload_n (j := 0) (i := 0) dX12_lateOrders_43 rfl rfl rfl ?_
      refine aw_iload_n (j := 2) (i := 2) dX12_lateOrders_44 rfl rfl rfl ?_
      refine aw_iconst (v := 3) dX12_lateOrders_45 rfl (by decide) ?_
      refine aw_callV (M' := mX12_of) (S := [vI r8, vI x1]) (as := [vI x2, vI 3]) (k := 0) dX12_lateOrders_46 rfl (by decide) rfl rfl gw_1871 gw_1873 gw_58 mb_X12_of rfl (Nat.zero_le _) (Nat.le_of_ble_eq_true rfl) rfl (CL.imp k (fun _ h9 k => ?_) (fun _ _ k => k))
      obtain ⟨r10, rfl, k⟩ := oI_of k
      show AW X (d + 1) rb mX12_lateOrders 49 _ [vI r10, vI r8, vI x1] h9 Qr Qx
      refine aw_icmp_le 58 dX12_lateOrders_49 rfl rfl (fun c => ?_) (fun c => ?_)
      · replace k := k.1 c
        refine aw_iconst (v := 0) dX12_lateOrders_58 rfl (by decide) ?_
        refine aw_ior dX12_lateOrders_59 rfl ?_
        refine aw_istore_n (i := 1) (L2 := [(1, vI (x1 ||| 0)), (0, vR 12 0), (2, vI x2)]) dX12_lateOrders_60 rfl rfl (by decide) rfl ?_
        refine aw_iinc (i := 2) (j := 2) (v := x2 + 1) (L2 := [(2, vI (x2 + 1)), (1, vI (x1 ||| 0)), (0, vR 12 0)]) dX12_lateOrders_61 rfl (by decide) rfl rfl rfl ?_
        refine aw_goto 9 dX12_lateOrders_64 rfl ?_
        exact aw_sub [2, 1, 0] rfl k
      · replace k := k.2 c
        refine aw_iconst (v := 1) dX12_lateOrders_52 rfl (by decide) ?_
        refine aw_iload_n (j := 2) (i := 2) dX12_lateOrders_53 rfl rfl rfl ?_
        refine aw_ishl dX12_lateOrders_54 rfl ?_
        refine aw_goto 59 dX12_lateOrders_55 rfl ?_
        refine aw_ior dX12_lateOrders_59 rfl ?_
        refine aw_istore_n (i := 1) (L2 := [(1, vI (x1 ||| (1 <<< (x2 &&& 31)))), (0, vR 12 0), (2, vI x2)]) dX12_lateOrders_60 rfl rfl (by decide) rfl ?_
        refine aw_iinc (i := 2) (j := 2) (v := x2 + 1) (L2 := [(2, vI (x2 + 1)), (1, vI (x1 ||| (1 <<< (x2 &&& 31)))), (0, vR 12 0)]) dX12_lateOrders_61 rfl (by decide) rfl rfl rfl ?_
        refine aw_goto 9 dX12_lateOrders_64 rfl ?_
        exact aw_sub [2, 1, 0] rfl k
set_option maxHeartbeats 4000000 in
set_option maxRecDepth 100000 in
theorem vc_X12_isAhead_0 {X : WD → State → Prop} {d rb : Nat} {h : Hp} {Qr : Option AV → Hp → Prop} {Qx : String → Hp → Prop} {a1 : Int32} {a2 : Int32}  (k : CL 0 d mX12_of [vR 12 0, vI a1, vI 3] h (oI fun r2 h1 => CL 0 d mX12_of [vR 12 0, vI a2, vI 3] h1 (oI fun r4 h3 => ((r2 = r4) → CL 0 d mX12_of [vR 12 0, vI a1, vI 2] h3 (oI fun r6 h5 => CL 0 d mX12_of [vR 12 0, vI a2, vI 2] h5 (oI fun r8 h7 => ((r6 = r8) → ((if a2 ≤ a1 then (0 : Int32) else 1) = 0 ∨ (if a2 ≤ a1 then (0 : Int32) else 1) = 1) ∧ Qr (some (vI (if a2 ≤ a1 then (0 : Int32) else 1))) h7) ∧ ((¬ r6 = r8) → CL 0 d mX12_of [vR 12 0, vI a1, vI 2] h7 (oI fun r10 h9 => CL 0 d mX12_of [vR 12 0, vI a2, vI 2] h9 (oI fun r12 h11 => ((if r10 ≤ r12 then (0 : Int32) else 1) = 0 ∨ (if r10 ≤ r12 then (0 : Int32) else 1) = 1) ∧ Qr (some (vI (if r10 ≤ r12 then (0 : Int32) else 1))) h11) Qx) Qx)) Qx) Qx) ∧ ((¬ r2 = r4) → CL 0 d mX12_of [vR 12 0, vI a1, vI 3] h3 (oI fun r14 h13 => CL 0 d mX12_of [vR 12 0, vI a2, vI 3] h13 (oI fun r16 h15 => ((if r16 ≤ r14 then (0 : Int32) else 1) = 0 ∨ (if r16 ≤ r14 then (0 : Int32) else 1) = 1) ∧ Qr (some (vI (if r16 ≤ r14 then (0 : Int32) else 1))) h15) Qx) Qx)) Qx) Qx) : AW X (d + 1) rb mX12_isAhead 0 [(0, vR 12 0), (1, vI a1), (2, vI a2)] [] h Qr Qx := by
  refine aw_aload_n (j := 0) (i := 0) dX12_isAhead_0 rfl rfl rfl ?_
  refine aw_iload_n (j := 1) (i := 1) dX12_isAhead_1 rfl rfl rfl ?_
  refine aw_iconst (v := 3) dX12_isAhead_2 rfl (by decide) ?_
  refine aw_callV (M' := mX12_of) (S := []) (as := [vI a1, vI 3]) (k := 0) dX12_isAhead_3 rfl (by decide) rfl rfl gw_1871 gw_1873 gw_58 mb_X12_of rfl (Nat.zero_le _) (Nat.le_of_ble_eq_true rfl) rfl (CL.imp k (fun _ h1 k => ?_) (fun _ _ k => k))
  obtain ⟨r2, rfl, k⟩ := oI_of k
  show AW X (d + 1) rb mX12_isAhead 6 _ [vI r2] h1 Qr Qx
  refine aw_aload_n (j := 0) (i := 0) dX12_isAhead_6 rfl rfl rfl ?_
  refine aw_iload_n (j := 2) (i := 2) dX12_isAhead_7 rfl rfl rfl ?_
  refine aw_iconst (v := 3) dX12_isAhead_8 rfl (by decide) ?_
  refine aw_callV (M' := mX12_of) (S := [vI r2]) (as := [vI a2, vI 3]) (k := 0) dX12_isAhead_9 rfl (by decide) rfl rfl gw_1871 gw_1873 gw_58 mb_X12_of rfl (Nat.zero_le _) (Nat.le_of_ble_eq_true rfl) rfl (CL.imp k (fun _ h3 k => ?_) (fun _ _ k => k))
  obtain ⟨r4, rfl, k⟩ := oI_of k
  show AW X (d + 1) rb mX12_isAhead 12 _ [vI r4, vI r2] h3 Qr Qx
  refine aw_icmp_eq 36 dX12_isAhead_12 rfl rfl (fun c => ?_) (fun c => ?_)
  · replace k := k.1 c
    refine aw_aload_n (j := 0) (i := 0) dX12_isAhead_36 rfl rfl rfl ?_
    refine aw_iload_n (j := 1) (i := 1) dX12_isAhead_37 rfl rfl rfl ?_
    refine aw_iconst (v := 2) dX12_isAhead_38 rfl (by decide) ?_
    refine aw_callV (M' := mX12_of) (S := []) (as := [vI a1, vI 2]) (k := 0) dX12_isAhead_39 rfl (by decide) rfl rfl gw_1871 gw_1873 gw_58 mb_X12_of rfl (Nat.zero_le _) (Nat.le_of_ble_eq_true rfl) rfl (CL.imp k (fun _ h5 k => ?_) (fun _ _ k => k))
    obtain ⟨r6, rfl, k⟩ := oI_of k
    show AW X (d + 1) rb mX12_isAhead 42 _ [vI r6] h5 Qr Qx
    refine aw_aload_n (j := 0) (i := 0) dX12_isAhead_42 rfl rfl rfl ?_
    refine aw_iload_n (j := 2) (i := 2) dX12_isAhead_43 rfl rfl rfl ?_
    refine aw_iconst (v := 2) dX12_isAhead_44 rfl (by decide) ?_
    refine aw_callV (M' := mX12_of) (S := [vI r6]) (as := [vI a2, vI 2]) (k := 0) dX12_isAhead_45 rfl (by decide) rfl rfl gw_1871 gw_1873 gw_58 mb_X12_of rfl (Nat.zero_le _) (Nat.le_of_ble_eq_true rfl) rfl (CL.imp k (fun _ h7 k => ?_) (fun _ _ k => k))
    obtain ⟨r8, rfl, k⟩ := oI_of k
    show AW X (d + 1) rb mX12_isAhead 48 _ [vI r8, vI r6] h7 Qr Qx
    refine aw_icmp_eq 74 dX12_isAhead_48 rfl rfl (fun c => ?_) (fun c => ?_)
    · replace k := k.1 c
      refine aw_iload_n (j := 1) (i := 1) dX12_isAhead_74 rfl rfl rfl ?_
      refine aw_iload_n (j := 2) (i := 2) dX12_isAhead_75 rfl rfl rfl ?_
      have kk : AW X (d + 1) rb mX12_isAhead 84 [(0, vR 12 0), (1, vI a1), (2, vI a2)] [vI (if a2 ≤ a1 then (0 : Int32) else 1)] h7 Qr Qx := by
        exact aw_zret dX12_isAhead_84 rfl k.1 k.2
      refine aw_icmp_ge 83 dX12_isAhead_76 rfl rfl (fun (c0 : a2 ≤ a1) => ?_) (fun (c0 : ¬ a2 ≤ a1) => ?_)
      · refine aw_iconst (v := 0) dX12_isAhead_83 rfl (by decide) ?_
        simp only [if_pos c0] at kk
        exact kk
      · refine aw_iconst (v := 1) dX12_isAhead_79 rfl (by decide) ?_
        refine aw_goto 84 dX12_isAhead_80 rfl ?_
        simp only [if_neg c0] at kk
        exact kk
    · replace k := k.2 c
      refine aw_aload_n (j := 0) (i := 0) dX12_isAhead_51 rfl rfl rfl ?_
      refine aw_iload_n (j := 1) (i := 1) dX12_isAhead_52 rfl rfl rfl ?_
      refine aw_iconst (v := 2) dX12_isAhead_53 rfl (by decide) ?_
      refine aw_callV (M' := mX12_of) (S := []) (as := [vI a1, vI 2]) (k := 0) dX12_isAhead_54 rfl (by decide) rfl rfl gw_1871 gw_1873 gw_58 mb_X12_of rfl (Nat.zero_le _) (Nat.le_of_ble_eq_true rfl) rfl (CL.imp k (fun _ h9 k => ?_) (fun _ _ k => k))
      obtain ⟨r10, rfl, k⟩ := oI_of k
      show AW X (d + 1) rb mX12_isAhead 57 _ [vI r10] h9 Qr Qx
      refine aw_aload_n (j := 0) (i := 0) dX12_isAhead_57 rfl rfl rfl ?_
      refine aw_iload_n (j := 2) (i := 2) dX12_isAhead_58 rfl rfl rfl ?_
      refine aw_iconst (v := 2) dX12_isAhead_59 rfl (by decide) ?_
      refine aw_callV (M' := mX12_of) (S := [vI r10]) (as := [vI a2, vI 2]) (k := 0) dX12_isAhead_60 rfl (by decide) rfl rfl gw_1871 gw_1873 gw_58 mb_X12_of rfl (Nat.zero_le _) (Nat.le_of_ble_eq_true rfl) rfl (CL.imp k (fun _ h11 k => ?_) (fun _ _ k => k))
      obtain ⟨r12, rfl, k⟩ := oI_of k
      show AW X (d + 1) rb mX12_isAhead 63 _ [vI r12, vI r10] h11 Qr Qx
      have kk : AW X (d + 1) rb mX12_isAhead 84 [(0, vR 12 0), (1, vI a1), (2, vI a2)] [vI (if r10 ≤ r12 then (0 : Int32) else 1)] h11 Qr Qx := by
        exact aw_zret dX12_isAhead_84 rfl k.1 k.2
      refine aw_icmp_le 70 dX12_isAhead_63 rfl rfl (fun (c0 : r10 ≤ r12) => ?_) (fun (c0 : ¬ r10 ≤ r12) => ?_)
      · refine aw_iconst (v := 0) dX12_isAhead_70 rfl (by decide) ?_
        refine aw_goto 84 dX12_isAhead_71 rfl ?_
        simp only [if_pos c0] at kk
        exact kk
      · refine aw_iconst (v := 1) dX12_isAhead_66 rfl (by decide) ?_
        refine aw_goto 84 dX12_isAhead_67 rfl ?_
        simp only [if_neg c0] at kk
        exact kk
  · replace k := k.2 c
    refine aw_aload_n (j := 0) (i := 0) dX12_isAhead_15 rfl rfl rfl ?_
    refine aw_iload_n (j := 1) (i := 1) dX12_isAhead_16 rfl rfl rfl ?_
    refine aw_iconst (v := 3) dX12_isAhead_17 rfl (by decide) ?_
    refine aw_callV (M' := mX12_of) (S := []) (as := [vI a1, vI 3]) (k := 0) dX12_isAhead_18 rfl (by decide) rfl rfl gw_1871 gw_1873 gw_58 mb_X12_of rfl (Nat.zero_le _) (Nat.le_of_ble_eq_true rfl) rfl (CL.imp k (fun _ h13 k => ?_) (fun _ _ k => k))
    obtain ⟨r14, rfl, k⟩ := oI_of k
    show AW X (d + 1) rb mX12_isAhead 21 _ [vI r14] h13 Qr Qx
    refine aw_aload_n (j := 0) (i := 0) dX12_isAhead_21 rfl rfl rfl ?_
    refine aw_iload_n (j := 2) (i := 2) dX12_isAhead_22 rfl rfl rfl ?_
    refine aw_iconst (v := 3) dX12_isAhead_23 rfl (by decide) ?_
    refine aw_callV (M' := mX12_of) (S := [vI r14]) (as := [vI a2, vI 3]) (k := 0) dX12_isAhead_24 rfl (by decide) rfl rfl gw_1871 gw_1873 gw_58 mb_X12_of rfl (Nat.zero_le _) (Nat.le_of_ble_eq_true rfl) rfl (CL.imp k (fun _ h15 k => ?_) (fun _ _ k => k))
    obtain ⟨r16, rfl, k⟩ := oI_of k
    show AW X (d + 1) rb mX12_isAhead 27 _ [vI r16, vI r14] h15 Qr Qx
    have kk : AW X (d + 1) rb mX12_isAhead 35 [(0, vR 12 0), (1, vI a1), (2, vI a2)] [vI (if r16 ≤ r14 then (0 : Int32) else 1)] h15 Qr Qx := by
      exact aw_zret dX12_isAhead_35 rfl k.1 k.2
    refine aw_icmp_ge 34 dX12_isAhead_27 rfl rfl (fun (c0 : r16 ≤ r14) => ?_) (fun (c0 : ¬ r16 ≤ r14) => ?_)
    · refine aw_iconst (v := 0) dX12_isAhead_34 rfl (by decide) ?_
      simp only [if_pos c0] at kk
      exact kk
    · refine aw_iconst (v := 1) dX12_isAhead_30 rfl (by decide) ?_
      refine aw_goto 35 dX12_isAhead_31 rfl ?_
      simp only [if_neg c0] at kk
      exact kk
set_option maxHeartbeats 4000000 in
set_option maxRecDepth 100000 in
theorem vc_X12_nextIn_0 {X : WD → State → Prop} {d rb : Nat} {h : Hp} {Qr : Option AV → Hp → Prop} {Qx : String → Hp → Prop} {a1 : Int32}  (k : AW X (d + 1) rb mX12_nextIn 4 [(0, vR 12 0), (1, vI a1), (2, vI (-1)), (3, vI 0)] [] h Qr Qx) : AW X (d + 1) rb mX12_nextIn 0 [(0, vR 12 0), (1, vI a1)] [] h Qr Qx := by
  refine aw_iconst (v := (-1)) dX12_nextIn_0 rfl (by decide) ?_
  refine aw_istore_n (i := 2) (L2 := [(2, vI (-1)), (0, vR 12 0), (1, vI a1)]) dX12_nextIn_1 rfl rfl (by decide) rfl ?_
  refine aw_iconst (v := 0) dX12_nextIn_2 rfl (by decide) ?_
  refine aw_istore_n (i := 3) (L2 := [(3, vI 0), (2, vI (-1)), (0, vR 12 0), (1, vI a1)]) dX12_nextIn_3 rfl rfl (by decide) rfl ?_
  exact aw_sub [2, 3, 1, 0] rfl k
set_option maxHeartbeats 4000000 in
set_option maxRecDepth 100000 in
theorem vc_X12_nextIn_4 {X : WD → State → Prop} {d rb : Nat} {h : Hp} {Qr : Option AV → Hp → Prop} {Qx : String → Hp → Prop} {x1 : Int32} {x2 : Int32} {x3 : Int32}  (k : (((h.1 58 0 1) ≤ x3) → Qr (some (vI x2)) h) ∧ ((¬ (h.1 58 0 1) ≤ x3) → ((¬ (((h.1 12 0 22) >>> (x3 &&& 31)) &&& 1) = 0) → AW X (d + 1) rb mX12_nextIn 4 [(0, vR 12 0), (1, vI x1), (2, vI x2), (3, vI (x3 + 1))] [] h Qr Qx) ∧ (((((h.1 12 0 22) >>> (x3 &&& 31)) &&& 1) = 0) → CL 0 d mX12_open [vR 12 0, vI x3] h (oI fun r2 h1 => (vp_in x3 20) ∧ ((r2 ≤ (h1.1 62 0 x3.toNatClampNeg)) → AW X (d + 1) rb mX12_nextIn 4 [(0, vR 12 0), (1, vI x1), (2, vI x2), (3, vI (x3 + 1))] [] h1 Qr Qx) ∧ ((¬ r2 ≤ (h1.1 62 0 x3.toNatClampNeg)) → CL 0 d mX12_of [vR 12 0, vI x3, vI 2] h1 (oI fun r4 h3 => (vp_in (388 + (3 * x1)) 506) ∧ (vp_in ((388 + (3 * x1)) + 1) 506) ∧ CL 0 d mX12_in [vI r4, vI (h3.1 56 0 ((388 + (3 * x1)).toNatClampNeg)), vI (h3.1 56 0 (((388 + (3 * x1)) + 1).toNatClampNeg))] h3 (oI fun r6 h5 => (((if r6 = 0 then (0 : Int32) else 1) = 0) → AW X (d + 1) rb mX12_nextIn 4 [(0, vR 12 0), (1, vI x1), (2, vI x2), (3, vI (x3 + 1))] [] h5 Qr Qx) ∧ ((¬ (if r6 = 0 then (0 : Int32) else 1) = 0) → ((x2 = (-1)) → AW X (d + 1) rb mX12_nextIn 4 [(0, vR 12 0), (1, vI x1), (2, vI x3), (3, vI (x3 + 1))] [] h5 Qr Qx) ∧ ((¬ x2 = (-1)) → CL 0 d mX12_isAhead [vR 12 0, vI x3, vI x2] h5 (oI fun r8 h7 => ((r8 = 0) → AW X (d + 1) rb mX12_nextIn 4 [(0, vR 12 0), (1, vI x1), (2, vI x2), (3, vI (x3 + 1))] [] h7 Qr Qx) ∧ ((¬ r8 = 0) → AW X (d + 1) rb mX12_nextIn 4 [(0, vR 12 0), (1, vI x1), (2, vI x3), (3, vI (x3 + 1))] [] h7 Qr Qx)) Qx))) Qx) Qx)) Qx))) : AW X (d + 1) rb mX12_nextIn 4 [(0, vR 12 0), (1, vI x1), (2, vI x2), (3, vI x3)] [] h Qr Qx := by
  refine aw_iload_n (j := 3) (i := 3) dX12_nextIn_4 rfl rfl rfl ?_
  refine aw_aload_n (j := 0) (i := 0) dX12_nextIn_5 rfl rfl rfl ?_
  refine aw_getf (k := 14) (z := 58) dX12_nextIn_6 rfl (by decide) rfl rfl rfl cb_12 (by decide) gw_1608 ?_
  refine aw_iconst (v := 1) dX12_nextIn_9 rfl (by decide) ?_
  refine aw_iald dX12_nextIn_10 rfl (by decide) rfl (by unfold vp_in; decide) ?_
  refine aw_icmp_ge 111 dX12_nextIn_11 rfl rfl (fun c => ?_) (fun c => ?_)
  · replace k := k.1 c
    refine aw_iload_n (j := 2) (i := 2) dX12_nextIn_111 rfl rfl rfl ?_
    exact aw_iret dX12_nextIn_112 rfl k
  · replace k := k.2 c
    refine aw_aload_n (j := 0) (i := 0) dX12_nextIn_14 rfl rfl rfl ?_
    refine aw_geti (k := 22) dX12_nextIn_15 rfl (by decide) rfl rfl cb_12 (by decide) gw_1616 ?_
    refine aw_iload_n (j := 3) (i := 3) dX12_nextIn_18 rfl rfl rfl ?_
    refine aw_ishr dX12_nextIn_19 rfl ?_
    refine aw_iconst (v := 1) dX12_nextIn_20 rfl (by decide) ?_
    refine aw_iand dX12_nextIn_21 rfl ?_
    refine aw_if_ne 81 dX12_nextIn_22 rfl rfl (fun c => ?_) (fun c => ?_)
    · replace k := k.1 c
      refine aw_iconst (v := 0) dX12_nextIn_81 rfl (by decide) ?_
      refine aw_istore (i := 4) (L2 := [(4, vI 0), (0, vR 12 0), (1, vI x1), (2, vI x2), (3, vI x3)]) dX12_nextIn_82 rfl (by decide) rfl ?_
      refine aw_iload (j := 0) (i := 4) dX12_nextIn_84 rfl rfl ?_
      refine aw_if_eq 105 dX12_nextIn_86 rfl rfl (fun _ => ?_) (fun z => absurd z (by decide))
      refine aw_iinc (i := 3) (j := 4) (v := x3 + 1) (L2 := [(3, vI (x3 + 1)), (4, vI 0), (0, vR 12 0), (1, vI x1), (2, vI x2)]) dX12_nextIn_105 rfl (by decide) rfl rfl rfl ?_
      refine aw_goto 4 dX12_nextIn_108 rfl ?_
      exact aw_sub [2, 3, 4, 0] rfl k
    · replace k := k.2 c
      refine aw_aload_n (j := 0) (i := 0) dX12_nextIn_25 rfl rfl rfl ?_
      refine aw_iload_n (j := 3) (i := 3) dX12_nextIn_26 rfl rfl rfl ?_
      refine aw_callV (M' := mX12_open) (S := []) (as := [vI x3]) (k := 0) dX12_nextIn_27 rfl (by decide) rfl rfl gw_1875 gw_1877 gw_59 mb_X12_open rfl (Nat.zero_le _) (Nat.le_of_ble_eq_true rfl) rfl (CL.imp k (fun _ h1 k => ?_) (fun _ _ k => k))
      obtain ⟨r2, rfl, k⟩ := oI_of k
      show AW X (d + 1) rb mX12_nextIn 30 _ [vI r2] h1 Qr Qx
      refine aw_aload_n (j := 0) (i := 0) dX12_nextIn_30 rfl rfl rfl ?_
      refine aw_getf (k := 19) (z := 62) dX12_nextIn_31 rfl (by decide) rfl rfl rfl cb_12 (by decide) gw_1613 ?_
      refine aw_iload_n (j := 3) (i := 3) dX12_nextIn_34 rfl rfl rfl ?_
      refine aw_iald dX12_nextIn_35 rfl (by decide) rfl k.1 ?_
      replace k := k.2
      refine aw_icmp_le 81 dX12_nextIn_36 rfl rfl (fun c => ?_) (fun c => ?_)
      · replace k := k.1 c
        refine aw_iconst (v := 0) dX12_nextIn_81 rfl (by decide) ?_
        refine aw_istore (i := 4) (L2 := [(4, vI 0), (0, vR 12 0), (1, vI x1), (2, vI x2), (3, vI x3)]) dX12_nextIn_82 rfl (by decide) rfl ?_
        refine aw_iload (j := 0) (i := 4) dX12_nextIn_84 rfl rfl ?_
        refine aw_if_eq 105 dX12_nextIn_86 rfl rfl (fun _ => ?_) (fun z => absurd z (by decide))
        refine aw_iinc (i := 3) (j := 4) (v := x3 + 1) (L2 := [(3, vI (x3 + 1)), (4, vI 0), (0, vR 12 0), (1, vI x1), (2, vI x2)]) dX12_nextIn_105 rfl (by decide) rfl rfl rfl ?_
        refine aw_goto 4 dX12_nextIn_108 rfl ?_
        exact aw_sub [2, 3, 4, 0] rfl k
      · replace k := k.2 c
        refine aw_aload_n (j := 0) (i := 0) dX12_nextIn_39 rfl rfl rfl ?_
        refine aw_iload_n (j := 3) (i := 3) dX12_nextIn_40 rfl rfl rfl ?_
        refine aw_iconst (v := 2) dX12_nextIn_41 rfl (by decide) ?_
        refine aw_callV (M' := mX12_of) (S := []) (as := [vI x3, vI 2]) (k := 0) dX12_nextIn_42 rfl (by decide) rfl rfl gw_1871 gw_1873 gw_58 mb_X12_of rfl (Nat.zero_le _) (Nat.le_of_ble_eq_true rfl) rfl (CL.imp k (fun _ h3 k => ?_) (fun _ _ k => k))
        obtain ⟨r4, rfl, k⟩ := oI_of k
        show AW X (d + 1) rb mX12_nextIn 45 _ [vI r4] h3 Qr Qx
        refine aw_aload_n (j := 0) (i := 0) dX12_nextIn_45 rfl rfl rfl ?_
        refine aw_getf (k := 11) (z := 56) dX12_nextIn_46 rfl (by decide) rfl rfl rfl cb_12 (by decide) gw_1605 ?_
        refine aw_sipush (v := 388) dX12_nextIn_49 rfl (by decide) ?_
        refine aw_iconst (v := 3) dX12_nextIn_52 rfl (by decide) ?_
        refine aw_iload_n (j := 1) (i := 1) dX12_nextIn_53 rfl rfl rfl ?_
        refine aw_imul dX12_nextIn_54 rfl ?_
        refine aw_iadd dX12_nextIn_55 rfl ?_
        refine aw_iald dX12_nextIn_56 rfl (by decide) rfl k.1 ?_
        replace k := k.2
        refine aw_aload_n (j := 0) (i := 0) dX12_nextIn_57 rfl rfl rfl ?_
        refine aw_getf (k := 11) (z := 56) dX12_nextIn_58 rfl (by decide) rfl rfl rfl cb_12 (by decide) gw_1605 ?_
        refine aw_sipush (v := 388) dX12_nextIn_61 rfl (by decide) ?_
        refine aw_iconst (v := 3) dX12_nextIn_64 rfl (by decide) ?_
        refine aw_iload_n (j := 1) (i := 1) dX12_nextIn_65 rfl rfl rfl ?_
        refine aw_imul dX12_nextIn_66 rfl ?_
        refine aw_iadd dX12_nextIn_67 rfl ?_
        refine aw_iconst (v := 1) dX12_nextIn_68 rfl (by decide) ?_
        refine aw_iadd dX12_nextIn_69 rfl ?_
        refine aw_iald dX12_nextIn_70 rfl (by decide) rfl k.1 ?_
        replace k := k.2
        refine aw_callS (M' := mX12_in) (S := []) (as := [vI r4, vI (h3.1 56 0 ((388 + (3 * x1)).toNatClampNeg)), vI (h3.1 56 0 (((388 + (3 * x1)) + 1).toNatClampNeg))]) (k := 0) dX12_nextIn_71 rfl gw_1713 gw_1714 mb_X12_in rfl (Nat.zero_le _) (Nat.le_of_ble_eq_true rfl) rfl (CL.imp k (fun _ h5 k => ?_) (fun _ _ k => k))
        obtain ⟨r6, rfl, k⟩ := oI_of k
        show AW X (d + 1) rb mX12_nextIn 74 _ [vI r6] h5 Qr Qx
        have kk : AW X (d + 1) rb mX12_nextIn 82 [(0, vR 12 0), (1, vI x1), (2, vI x2), (3, vI x3)] [vI (if r6 = 0 then (0 : Int32) else 1)] h5 Qr Qx := by
          refine aw_istore (i := 4) (L2 := [(4, vI (if r6 = 0 then (0 : Int32) else 1)), (0, vR 12 0), (1, vI x1), (2, vI x2), (3, vI x3)]) dX12_nextIn_82 rfl (by decide) rfl ?_
          refine aw_iload (j := 0) (i := 4) dX12_nextIn_84 rfl rfl ?_
          refine aw_if_eq 105 dX12_nextIn_86 rfl rfl (fun c => ?_) (fun c => ?_)
          · replace k := k.1 c
            refine aw_iinc (i := 3) (j := 4) (v := x3 + 1) (L2 := [(3, vI (x3 + 1)), (4, vI (if r6 = 0 then (0 : Int32) else 1)), (0, vR 12 0), (1, vI x1), (2, vI x2)]) dX12_nextIn_105 rfl (by decide) rfl rfl rfl ?_
            refine aw_goto 4 dX12_nextIn_108 rfl ?_
            exact aw_sub [2, 3, 4, 0] rfl k
          · replace k := k.2 c
            refine aw_iload_n (j := 3) (i := 2) dX12_nextIn_89 rfl rfl rfl ?_
            refine aw_iconst (v := (-1)) dX12_nextIn_90 rfl (by decide) ?_
            refine aw_icmp_eq 103 dX12_nextIn_91 rfl rfl (fun c => ?_) (fun c => ?_)
            · replace k := k.1 c
              refine aw_iload_n (j := 4) (i := 3) dX12_nextIn_103 rfl rfl rfl ?_
              refine aw_istore_n (i := 2) (L2 := [(2, vI x3), (4, vI (if r6 = 0 then (0 : Int32) else 1)), (0, vR 12 0), (1, vI x1), (3, vI x3)]) dX12_nextIn_104 rfl rfl (by decide) rfl ?_
              refine aw_iinc (i := 3) (j := 4) (v := x3 + 1) (L2 := [(3, vI (x3 + 1)), (2, vI x3), (4, vI (if r6 = 0 then (0 : Int32) else 1)), (0, vR 12 0), (1, vI x1)]) dX12_nextIn_105 rfl (by decide) rfl rfl rfl ?_
              refine aw_goto 4 dX12_nextIn_108 rfl ?_
              exact aw_sub [3, 4, 1, 0] rfl k
            · replace k := k.2 c
              refine aw_aload_n (j := 1) (i := 0) dX12_nextIn_94 rfl rfl rfl ?_
              refine aw_iload_n (j := 4) (i := 3) dX12_nextIn_95 rfl rfl rfl ?_
              refine aw_iload_n (j := 3) (i := 2) dX12_nextIn_96 rfl rfl rfl ?_
              refine aw_callV (M' := mX12_isAhead) (S := []) (as := [vI x3, vI x2]) (k := 0) dX12_nextIn_97 rfl (by decide) rfl rfl gw_1955 gw_1957 gw_67 mb_X12_isAhead rfl (Nat.zero_le _) (Nat.le_of_ble_eq_true rfl) rfl (CL.imp k (fun _ h7 k => ?_) (fun _ _ k => k))
              obtain ⟨r8, rfl, k⟩ := oI_of k
              show AW X (d + 1) rb mX12_nextIn 100 _ [vI r8] h7 Qr Qx
              refine aw_if_eq 105 dX12_nextIn_100 rfl rfl (fun c => ?_) (fun c => ?_)
              · replace k := k.1 c
                refine aw_iinc (i := 3) (j := 4) (v := x3 + 1) (L2 := [(3, vI (x3 + 1)), (4, vI (if r6 = 0 then (0 : Int32) else 1)), (0, vR 12 0), (1, vI x1), (2, vI x2)]) dX12_nextIn_105 rfl (by decide) rfl rfl rfl ?_
                refine aw_goto 4 dX12_nextIn_108 rfl ?_
                exact aw_sub [2, 3, 4, 0] rfl k
              · replace k := k.2 c
                refine aw_iload_n (j := 4) (i := 3) dX12_nextIn_103 rfl rfl rfl ?_
                refine aw_istore_n (i := 2) (L2 := [(2, vI x3), (4, vI (if r6 = 0 then (0 : Int32) else 1)), (0, vR 12 0), (1, vI x1), (3, vI x3)]) dX12_nextIn_104 rfl rfl (by decide) rfl ?_
                refine aw_iinc (i := 3) (j := 4) (v := x3 + 1) (L2 := [(3, vI (x3 + 1)), (2, vI x3), (4, vI (if r6 = 0 then (0 : Int32) else 1)), (0, vR 12 0), (1, vI x1)]) dX12_nextIn_105 rfl (by decide) rfl rfl rfl ?_
                refine aw_goto 4 dX12_nextIn_108 rfl ?_
                exact aw_sub [3, 4, 1, 0] rfl k
        refine aw_if_eq 81 dX12_nextIn_74 rfl rfl (fun (c0 : r6 = 0) => ?_) (fun (c0 : ¬ r6 = 0) => ?_)
        · refine aw_iconst (v := 0) dX12_nextIn_81 rfl (by decide) ?_
          simp only [if_pos c0] at kk
          exact kk
        · refine aw_iconst (v := 1) dX12_nextIn_77 rfl (by decide) ?_
          refine aw_goto 82 dX12_nextIn_78 rfl ?_
          simp only [if_neg c0] at kk
          exact kk
set_option maxHeartbeats 4000000 in
set_option maxRecDepth 100000 in
theorem vc_X12_triesAll_0 {X : WD → State → Prop} {d rb : Nat} {h : Hp} {Qr : Option AV → Hp → Prop} {Qx : String → Hp → Prop}   (k : AW X (d + 1) rb mX12_triesAll 2 [(0, vR 12 0), (1, vI 0)] [] h Qr Qx) : AW X (d + 1) rb mX12_triesAll 0 [(0, vR 12 0)] [] h Qr Qx := by
  refine aw_iconst (v := 0) dX12_triesAll_0 rfl (by decide) ?_
  refine aw_istore_n (i := 1) (L2 := [(1, vI 0), (0, vR 12 0)]) dX12_triesAll_1 rfl rfl (by decide) rfl ?_
  exact aw_sub [1, 0] rfl k
set_option maxHeartbeats 4000000 in
set_option maxRecDepth 100000 in
theorem vc_X12_triesAll_2 {X : WD → State → Prop} {d rb : Nat} {h : Hp} {Qr : Option AV → Hp → Prop} {Qx : String → Hp → Prop} {x1 : Int32}  (k : ((12 ≤ x1) → AW X (d + 1) rb mX12_triesAll 27 [(0, vR 12 0), (1, vI 0)] [] h Qr Qx) ∧ ((¬ 12 ≤ x1) → CL 0 d mX12_free [vR 12 0, vI x1] h (oI fun r2 h1 => (vp_in x1 12) ∧ AW X (d + 1) rb mX12_triesAll 2 [(0, vR 12 0), (1, vI (x1 + 1))] [] (hp_i h1 60 0 x1.toNatClampNeg r2) Qr Qx) Qx)) : AW X (d + 1) rb mX12_triesAll 2 [(0, vR 12 0), (1, vI x1)] [] h Qr Qx := by
  refine aw_iload_n (j := 1) (i := 1) dX12_triesAll_2 rfl rfl rfl ?_
  refine aw_bipush (v := 12) dX12_triesAll_3 rfl (by decide) ?_
  refine aw_icmp_ge 25 dX12_triesAll_5 rfl rfl (fun c => ?_) (fun c => ?_)
  · replace k := k.1 c
    refine aw_iconst (v := 0) dX12_triesAll_25 rfl (by decide) ?_
    refine aw_istore_n (i := 1) (L2 := [(1, vI 0), (0, vR 12 0)]) dX12_triesAll_26 rfl rfl (by decide) rfl ?_
    exact aw_sub [1, 0] rfl k
  · replace k := k.2 c
    refine aw_aload_n (j := 0) (i := 0) dX12_triesAll_8 rfl rfl rfl ?_
    refine aw_getf (k := 17) (z := 60) dX12_triesAll_9 rfl (by decide) rfl rfl rfl cb_12 (by decide) gw_1611 ?_
    refine aw_iload_n (j := 1) (i := 1) dX12_triesAll_12 rfl rfl rfl ?_
    refine aw_aload_n (j := 0) (i := 0) dX12_triesAll_13 rfl rfl rfl ?_
    refine aw_iload_n (j := 1) (i := 1) dX12_triesAll_14 rfl rfl rfl ?_
    refine aw_callV (M' := mX12_free) (S := [vI x1, vR 60 0]) (as := [vI x1]) (k := 0) dX12_triesAll_15 rfl (by decide) rfl rfl gw_1850 gw_1852 gw_56 mb_X12_free rfl (Nat.zero_le _) (Nat.le_of_ble_eq_true rfl) rfl (CL.imp k (fun _ h1 k => ?_) (fun _ _ k => k))
    obtain ⟨r2, rfl, k⟩ := oI_of k
    show AW X (d + 1) rb mX12_triesAll 18 _ [vI r2, vI x1, vR 60 0] h1 Qr Qx
    refine aw_iast dX12_triesAll_18 rfl (by decide) rfl k.1 ?_
    replace k := k.2
    refine aw_iinc (i := 1) (j := 1) (v := x1 + 1) (L2 := [(1, vI (x1 + 1)), (0, vR 12 0)]) dX12_triesAll_19 rfl (by decide) rfl rfl rfl ?_
    refine aw_goto 2 dX12_triesAll_22 rfl ?_
    exact aw_sub [1, 0] rfl k
set_option maxHeartbeats 4000000 in
set_option maxRecDepth 100000 in
theorem vc_X12_triesAll_27 {X : WD → State → Prop} {d rb : Nat} {h : Hp} {Qr : Option AV → Hp → Prop} {Qx : String → Hp → Prop} {x1 : Int32}  (k : ((20 ≤ x1) → AW X (d + 1) rb mX12_triesAll 55 [(0, vR 12 0), (1, vI 0)] [] h Qr Qx) ∧ ((¬ 20 ≤ x1) → (vp_in x1 20) ∧ (vp_in x1 20) ∧ AW X (d + 1) rb mX12_triesAll 27 [(0, vR 12 0), (1, vI (x1 + 1))] [] (hp_i (hp_i h 62 0 x1.toNatClampNeg 0) 63 0 x1.toNatClampNeg (-1)) Qr Qx)) : AW X (d + 1) rb mX12_triesAll 27 [(0, vR 12 0), (1, vI x1)] [] h Qr Qx := by
  refine aw_iload_n (j := 1) (i := 1) dX12_triesAll_27 rfl rfl rfl ?_
  refine aw_bipush (v := 20) dX12_triesAll_28 rfl (by decide) ?_
  refine aw_icmp_ge 53 dX12_triesAll_30 rfl rfl (fun c => ?_) (fun c => ?_)
  · replace k := k.1 c
    refine aw_iconst (v := 0) dX12_triesAll_53 rfl (by decide) ?_
    refine aw_istore_n (i := 1) (L2 := [(1, vI 0), (0, vR 12 0)]) dX12_triesAll_54 rfl rfl (by decide) rfl ?_
    exact aw_sub [1, 0] rfl k
  · replace k := k.2 c
    refine aw_aload_n (j := 0) (i := 0) dX12_triesAll_33 rfl rfl rfl ?_
    refine aw_getf (k := 19) (z := 62) dX12_triesAll_34 rfl (by decide) rfl rfl rfl cb_12 (by decide) gw_1613 ?_
    refine aw_iload_n (j := 1) (i := 1) dX12_triesAll_37 rfl rfl rfl ?_
    refine aw_iconst (v := 0) dX12_triesAll_38 rfl (by decide) ?_
    refine aw_iast dX12_triesAll_39 rfl (by decide) rfl k.1 ?_
    replace k := k.2
    refine aw_aload_n (j := 0) (i := 0) dX12_triesAll_40 rfl rfl rfl ?_
    refine aw_getf (k := 20) (z := 63) dX12_triesAll_41 rfl (by decide) rfl rfl rfl cb_12 (by decide) gw_1614 ?_
    refine aw_iload_n (j := 1) (i := 1) dX12_triesAll_44 rfl rfl rfl ?_
    refine aw_iconst (v := (-1)) dX12_triesAll_45 rfl (by decide) ?_
    refine aw_iast dX12_triesAll_46 rfl (by decide) rfl k.1 ?_
    replace k := k.2
    refine aw_iinc (i := 1) (j := 1) (v := x1 + 1) (L2 := [(1, vI (x1 + 1)), (0, vR 12 0)]) dX12_triesAll_47 rfl (by decide) rfl rfl rfl ?_
    refine aw_goto 27 dX12_triesAll_50 rfl ?_
    exact aw_sub [1, 0] rfl k
set_option maxHeartbeats 4000000 in
set_option maxRecDepth 100000 in
theorem vc_X12_triesAll_55 {X : WD → State → Prop} {d rb : Nat} {h : Hp} {Qr : Option AV → Hp → Prop} {Qx : String → Hp → Prop} {x1 : Int32}  (k : (((h.1 56 0 2) ≤ x1) → Qr none h) ∧ ((¬ (h.1 56 0 2) ≤ x1) → CL 0 d mX12_triesRung [vR 12 0, vI x1] h (oV fun h1 => AW X (d + 1) rb mX12_triesAll 55 [(0, vR 12 0), (1, vI (x1 + 1))] [] h1 Qr Qx) Qx)) : AW X (d + 1) rb mX12_triesAll 55 [(0, vR 12 0), (1, vI x1)] [] h Qr Qx := by
  refine aw_iload_n (j := 1) (i := 1) dX12_triesAll_55 rfl rfl rfl ?_
  refine aw_aload_n (j := 0) (i := 0) dX12_triesAll_56 rfl rfl rfl ?_
  refine aw_getf (k := 11) (z := 56) dX12_triesAll_57 rfl (by decide) rfl rfl rfl cb_12 (by decide) gw_1605 ?_
  refine aw_iconst (v := 2) dX12_triesAll_60 rfl (by decide) ?_
  refine aw_iald dX12_triesAll_61 rfl (by decide) rfl (by unfold vp_in; decide) ?_
  refine aw_icmp_ge 76 dX12_triesAll_62 rfl rfl (fun c => ?_) (fun c => ?_)
  · replace k := k.1 c
    exact aw_vret dX12_triesAll_76 rfl k
  · replace k := k.2 c
    refine aw_aload_n (j := 0) (i := 0) dX12_triesAll_65 rfl rfl rfl ?_
    refine aw_iload_n (j := 1) (i := 1) dX12_triesAll_66 rfl rfl rfl ?_
    refine aw_callV (M' := mX12_triesRung) (S := []) (as := [vI x1]) (k := 0) dX12_triesAll_67 rfl (by decide) rfl rfl gw_1947 gw_1949 gw_65 mb_X12_triesRung rfl (Nat.zero_le _) (Nat.le_of_ble_eq_true rfl) rfl (CL.imp k (fun _ h1 k => ?_) (fun _ _ k => k))
    obtain ⟨rfl, k⟩ := oV_of k
    show AW X (d + 1) rb mX12_triesAll 70 _ [] h1 Qr Qx
    refine aw_iinc (i := 1) (j := 1) (v := x1 + 1) (L2 := [(1, vI (x1 + 1)), (0, vR 12 0)]) dX12_triesAll_70 rfl (by decide) rfl rfl rfl ?_
    refine aw_goto 55 dX12_triesAll_73 rfl ?_
    exact aw_sub [1, 0] rfl k
set_option maxHeartbeats 4000000 in
set_option maxRecDepth 100000 in
theorem vc_X12_triesRung_0 {X : WD → State → Prop} {d rb : Nat} {h : Hp} {Qr : Option AV → Hp → Prop} {Qx : String → Hp → Prop} {a1 : Int32}  (k : AW X (d + 1) rb mX12_triesRung 2 [(0, vR 12 0), (1, vI a1), (2, vI 0)] [] h Qr Qx) : AW X (d + 1) rb mX12_triesRung 0 [(0, vR 12 0), (1, vI a1)] [] h Qr Qx := by
  refine aw_iconst (v := 0) dX12_triesRung_0 rfl (by decide) ?_
  refine aw_istore_n (i := 2) (L2 := [(2, vI 0), (0, vR 12 0), (1, vI a1)]) dX12_triesRung_1 rfl rfl (by decide) rfl ?_
  exact aw_sub [1, 2, 0] rfl k
set_option maxHeartbeats 4000000 in
set_option maxRecDepth 100000 in
theorem vc_X12_triesRung_2 {X : WD → State → Prop} {d rb : Nat} {h : Hp} {Qr : Option AV → Hp → Prop} {Qx : String → Hp → Prop} {x1 : Int32} {x2 : Int32}  (k : ((12 ≤ x2) → (vp_in x1 6) ∧ CL 0 d mX12_nextIn [vR 12 0, vI x1] (hp_i (hp_i h 64 0 x1.toNatClampNeg 0) 12 0 22 0) (oI fun r2 h1 => AW X (d + 1) rb mX12_triesRung 62 [(0, vR 12 0), (1, vI x1), (2, vI r2)] [] h1 Qr Qx) Qx) ∧ ((¬ 12 ≤ x2) → (vp_in x2 12) ∧ (vp_in ((388 + (3 * x1)) + 2) 506) ∧ (vp_in x2 12) ∧ AW X (d + 1) rb mX12_triesRung 2 [(0, vR 12 0), (1, vI x1), (2, vI (x2 + 1))] [] (hp_i h 61 0 x2.toNatClampNeg (((h.1 60 0 x2.toNatClampNeg) * (h.1 56 0 (((388 + (3 * x1)) + 2).toNatClampNeg))) / 100)) Qr Qx)) : AW X (d + 1) rb mX12_triesRung 2 [(0, vR 12 0), (1, vI x1), (2, vI x2)] [] h Qr Qx := by
  refine aw_iload_n (j := 2) (i := 2) dX12_triesRung_2 rfl rfl rfl ?_
  refine aw_bipush (v := 12) dX12_triesRung_3 rfl (by decide) ?_
  refine aw_icmp_ge 44 dX12_triesRung_5 rfl rfl (fun c => ?_) (fun c => ?_)
  · replace k := k.1 c
    refine aw_aload_n (j := 0) (i := 0) dX12_triesRung_44 rfl rfl rfl ?_
    refine aw_getf (k := 21) (z := 64) dX12_triesRung_45 rfl (by decide) rfl rfl rfl cb_12 (by decide) gw_1615 ?_
    refine aw_iload_n (j := 1) (i := 1) dX12_triesRung_48 rfl rfl rfl ?_
    refine aw_iconst (v := 0) dX12_triesRung_49 rfl (by decide) ?_
    refine aw_iast dX12_triesRung_50 rfl (by decide) rfl k.1 ?_
    replace k := k.2
    refine aw_aload_n (j := 0) (i := 0) dX12_triesRung_51 rfl rfl rfl ?_
    refine aw_iconst (v := 0) dX12_triesRung_52 rfl (by decide) ?_
    refine aw_puti (k := 22) dX12_triesRung_53 rfl (by decide) rfl rfl cb_12 (by decide) rfl rfl gw_1616 ?_
    refine aw_aload_n (j := 0) (i := 0) dX12_triesRung_56 rfl rfl rfl ?_
    refine aw_iload_n (j := 1) (i := 1) dX12_triesRung_57 rfl rfl rfl ?_
    refine aw_callV (M' := mX12_nextIn) (S := []) (as := [vI x1]) (k := 0) dX12_triesRung_58 rfl (by decide) rfl rfl gw_1951 gw_1953 gw_66 mb_X12_nextIn rfl (Nat.zero_le _) (Nat.le_of_ble_eq_true rfl) rfl (CL.imp k (fun _ h1 k => ?_) (fun _ _ k => k))
    obtain ⟨r2, rfl, k⟩ := oI_of k
    show AW X (d + 1) rb mX12_triesRung 61 _ [vI r2] h1 Qr Qx
    refine aw_istore_n (i := 2) (L2 := [(2, vI r2), (0, vR 12 0), (1, vI x1)]) dX12_triesRung_61 rfl rfl (by decide) rfl ?_
    exact aw_sub [1, 2, 0] rfl k
  · replace k := k.2 c
    refine aw_aload_n (j := 0) (i := 0) dX12_triesRung_8 rfl rfl rfl ?_
    refine aw_getf (k := 18) (z := 61) dX12_triesRung_9 rfl (by decide) rfl rfl rfl cb_12 (by decide) gw_1612 ?_
    refine aw_iload_n (j := 2) (i := 2) dX12_triesRung_12 rfl rfl rfl ?_
    refine aw_aload_n (j := 0) (i := 0) dX12_triesRung_13 rfl rfl rfl ?_
    refine aw_getf (k := 17) (z := 60) dX12_triesRung_14 rfl (by decide) rfl rfl rfl cb_12 (by decide) gw_1611 ?_
    refine aw_iload_n (j := 2) (i := 2) dX12_triesRung_17 rfl rfl rfl ?_
    refine aw_iald dX12_triesRung_18 rfl (by decide) rfl k.1 ?_
    replace k := k.2
    refine aw_aload_n (j := 0) (i := 0) dX12_triesRung_19 rfl rfl rfl ?_
    refine aw_getf (k := 11) (z := 56) dX12_triesRung_20 rfl (by decide) rfl rfl rfl cb_12 (by decide) gw_1605 ?_
    refine aw_sipush (v := 388) dX12_triesRung_23 rfl (by decide) ?_
    refine aw_iconst (v := 3) dX12_triesRung_26 rfl (by decide) ?_
    refine aw_iload_n (j := 1) (i := 1) dX12_triesRung_27 rfl rfl rfl ?_
    refine aw_imul dX12_triesRung_28 rfl ?_
    refine aw_iadd dX12_triesRung_29 rfl ?_
    refine aw_iconst (v := 2) dX12_triesRung_30 rfl (by decide) ?_
    refine aw_iadd dX12_triesRung_31 rfl ?_
    refine aw_iald dX12_triesRung_32 rfl (by decide) rfl k.1 ?_
    replace k := k.2
    refine aw_imul dX12_triesRung_33 rfl ?_
    refine aw_bipush (v := 100) dX12_triesRung_34 rfl (by decide) ?_
    refine aw_idiv dX12_triesRung_36 rfl (by decide) ?_
    refine aw_iast dX12_triesRung_37 rfl (by decide) rfl k.1 ?_
    replace k := k.2
    refine aw_iinc (i := 2) (j := 2) (v := x2 + 1) (L2 := [(2, vI (x2 + 1)), (0, vR 12 0), (1, vI x1)]) dX12_triesRung_38 rfl (by decide) rfl rfl rfl ?_
    refine aw_goto 2 dX12_triesRung_41 rfl ?_
    exact aw_sub [1, 2, 0] rfl k
set_option maxHeartbeats 4000000 in
set_option maxRecDepth 100000 in
theorem vc_X12_triesRung_62 {X : WD → State → Prop} {d rb : Nat} {h : Hp} {Qr : Option AV → Hp → Prop} {Qx : String → Hp → Prop} {x1 : Int32} {x2 : Int32}  (k : ((x2 = (-1)) → Qr none h) ∧ ((¬ x2 = (-1)) → CL 0 d mX12_can [vR 12 0, vI x2] (hp_i h 12 0 22 ((h.1 12 0 22) ||| (1 <<< (x2 &&& 31)))) (oI fun r2 h1 => ((r2 ≤ 0) → CL 0 d mX12_nextIn [vR 12 0, vI x1] h1 (oI fun r4 h3 => AW X (d + 1) rb mX12_triesRung 62 [(0, vR 12 0), (1, vI x1), (2, vI r4)] [] h3 Qr Qx) Qx) ∧ ((¬ r2 ≤ 0) → CL 0 d mX12_takes0 [vR 12 0, vI x2, vI r2] h1 (oV fun h5 => (vp_in x2 20) ∧ ((¬ (h5.1 63 0 x2.toNatClampNeg) = (-1)) → (vp_in x2 20) ∧ (vp_in x2 20) ∧ (vp_in x1 6) ∧ (vp_in x1 6) ∧ CL 0 d mX12_nextIn [vR 12 0, vI x1] (hp_i (hp_i h5 63 0 x2.toNatClampNeg (h5.1 63 0 x2.toNatClampNeg)) 64 0 x1.toNatClampNeg ((h5.1 64 0 x1.toNatClampNeg) + r2)) (oI fun r7 h6 => AW X (d + 1) rb mX12_triesRung 62 [(0, vR 12 0), (1, vI x1), (2, vI r7)] [] h6 Qr Qx) Qx) ∧ (((h5.1 63 0 x2.toNatClampNeg) = (-1)) → (vp_in x2 20) ∧ (vp_in x1 6) ∧ (vp_in x1 6) ∧ CL 0 d mX12_nextIn [vR 12 0, vI x1] (hp_i (hp_i h5 63 0 x2.toNatClampNeg x1) 64 0 x1.toNatClampNeg ((h5.1 64 0 x1.toNatClampNeg) + r2)) (oI fun r9 h8 => AW X (d + 1) rb mX12_triesRung 62 [(0, vR 12 0), (1, vI x1), (2, vI r9)] [] h8 Qr Qx) Qx)) Qx)) Qx)) : AW X (d + 1) rb mX12_triesRung 62 [(0, vR 12 0), (1, vI x1), (2, vI x2)] [] h Qr Qx := by
  refine aw_iload_n (j := 2) (i := 2) dX12_triesRung_62 rfl rfl rfl ?_
  refine aw_iconst (v := (-1)) dX12_triesRung_63 rfl (by decide) ?_
  refine aw_icmp_eq 140 dX12_triesRung_64 rfl rfl (fun c => ?_) (fun c => ?_)
  · replace k := k.1 c
    exact aw_vret dX12_triesRung_140 rfl k
  · replace k := k.2 c
    refine aw_aload_n (j := 0) (i := 0) dX12_triesRung_67 rfl rfl rfl ?_
    refine aw_dup dX12_triesRung_68 rfl rfl ?_
    refine aw_geti (k := 22) dX12_triesRung_69 rfl (by decide) rfl rfl cb_12 (by decide) gw_1616 ?_
    refine aw_iconst (v := 1) dX12_triesRung_72 rfl (by decide) ?_
    refine aw_iload_n (j := 2) (i := 2) dX12_triesRung_73 rfl rfl rfl ?_
    refine aw_ishl dX12_triesRung_74 rfl ?_
    refine aw_ior dX12_triesRung_75 rfl ?_
    refine aw_puti (k := 22) dX12_triesRung_76 rfl (by decide) rfl rfl cb_12 (by decide) rfl rfl gw_1616 ?_
    refine aw_aload_n (j := 0) (i := 0) dX12_triesRung_79 rfl rfl rfl ?_
    refine aw_iload_n (j := 2) (i := 2) dX12_triesRung_80 rfl rfl rfl ?_
    refine aw_callV (M' := mX12_can) (S := []) (as := [vI x2]) (k := 0) dX12_triesRung_81 rfl (by decide) rfl rfl gw_1959 gw_1961 gw_68 mb_X12_can rfl (Nat.zero_le _) (Nat.le_of_ble_eq_true rfl) rfl (CL.imp k (fun _ h1 k => ?_) (fun _ _ k => k))
    obtain ⟨r2, rfl, k⟩ := oI_of k
    show AW X (d + 1) rb mX12_triesRung 84 _ [vI r2] h1 Qr Qx
    refine aw_istore_n (i := 3) (L2 := [(3, vI r2), (0, vR 12 0), (1, vI x1), (2, vI x2)]) dX12_triesRung_84 rfl rfl (by decide) rfl ?_
    refine aw_iload_n (j := 0) (i := 3) dX12_triesRung_85 rfl rfl rfl ?_
    refine aw_if_le 131 dX12_triesRung_86 rfl rfl (fun c => ?_) (fun c => ?_)
    · replace k := k.1 c
      refine aw_aload_n (j := 1) (i := 0) dX12_triesRung_131 rfl rfl rfl ?_
      refine aw_iload_n (j := 2) (i := 1) dX12_triesRung_132 rfl rfl rfl ?_
      refine aw_callV (M' := mX12_nextIn) (S := []) (as := [vI x1]) (k := 0) dX12_triesRung_133 rfl (by decide) rfl rfl gw_1951 gw_1953 gw_66 mb_X12_nextIn rfl (Nat.zero_le _) (Nat.le_of_ble_eq_true rfl) rfl (CL.imp k (fun _ h3 k => ?_) (fun _ _ k => k))
      obtain ⟨r4, rfl, k⟩ := oI_of k
      show AW X (d + 1) rb mX12_triesRung 136 _ [vI r4] h3 Qr Qx
      refine aw_istore_n (i := 2) (L2 := [(2, vI r4), (3, vI r2), (0, vR 12 0), (1, vI x1)]) dX12_triesRung_136 rfl rfl (by decide) rfl ?_
      refine aw_goto 62 dX12_triesRung_137 rfl ?_
      exact aw_sub [2, 3, 0] rfl k
    · replace k := k.2 c
      refine aw_aload_n (j := 1) (i := 0) dX12_triesRung_89 rfl rfl rfl ?_
      refine aw_iload_n (j := 3) (i := 2) dX12_triesRung_90 rfl rfl rfl ?_
      refine aw_iload_n (j := 0) (i := 3) dX12_triesRung_91 rfl rfl rfl ?_
      refine aw_callV (M' := mX12_takes0) (S := []) (as := [vI x2, vI r2]) (k := 0) dX12_triesRung_92 rfl (by decide) rfl rfl gw_1963 gw_1965 gw_69 mb_X12_takes0 rfl (Nat.zero_le _) (Nat.le_of_ble_eq_true rfl) rfl (CL.imp k (fun _ h5 k => ?_) (fun _ _ k => k))
      obtain ⟨rfl, k⟩ := oV_of k
      show AW X (d + 1) rb mX12_triesRung 95 _ [] h5 Qr Qx
      refine aw_aload_n (j := 1) (i := 0) dX12_triesRung_95 rfl rfl rfl ?_
      refine aw_getf (k := 20) (z := 63) dX12_triesRung_96 rfl (by decide) rfl rfl rfl cb_12 (by decide) gw_1614 ?_
      refine aw_iload_n (j := 3) (i := 2) dX12_triesRung_99 rfl rfl rfl ?_
      refine aw_aload_n (j := 1) (i := 0) dX12_triesRung_100 rfl rfl rfl ?_
      refine aw_getf (k := 20) (z := 63) dX12_triesRung_101 rfl (by decide) rfl rfl rfl cb_12 (by decide) gw_1614 ?_
      refine aw_iload_n (j := 3) (i := 2) dX12_triesRung_104 rfl rfl rfl ?_
      refine aw_iald dX12_triesRung_105 rfl (by decide) rfl k.1 ?_
      replace k := k.2
      refine aw_iconst (v := (-1)) dX12_triesRung_106 rfl (by decide) ?_
      refine aw_icmp_ne 114 dX12_triesRung_107 rfl rfl (fun c => ?_) (fun c => ?_)
      · replace k := k.1 c
        refine aw_aload_n (j := 1) (i := 0) dX12_triesRung_114 rfl rfl rfl ?_
        refine aw_getf (k := 20) (z := 63) dX12_triesRung_115 rfl (by decide) rfl rfl rfl cb_12 (by decide) gw_1614 ?_
        refine aw_iload_n (j := 3) (i := 2) dX12_triesRung_118 rfl rfl rfl ?_
        refine aw_iald dX12_triesRung_119 rfl (by decide) rfl k.1 ?_
        replace k := k.2
        refine aw_iast dX12_triesRung_120 rfl (by decide) rfl k.1 ?_
        replace k := k.2
        refine aw_aload_n (j := 1) (i := 0) dX12_triesRung_121 rfl rfl rfl ?_
        refine aw_getf (k := 21) (z := 64) dX12_triesRung_122 rfl (by decide) rfl rfl rfl cb_12 (by decide) gw_1615 ?_
        refine aw_iload_n (j := 2) (i := 1) dX12_triesRung_125 rfl rfl rfl ?_
        refine aw_dup2 dX12_triesRung_126 rfl rfl rfl ?_
        refine aw_iald dX12_triesRung_127 rfl (by decide) rfl k.1 ?_
        replace k := k.2
        refine aw_iload_n (j := 0) (i := 3) dX12_triesRung_128 rfl rfl rfl ?_
        refine aw_iadd dX12_triesRung_129 rfl ?_
        refine aw_iast dX12_triesRung_130 rfl (by decide) rfl k.1 ?_
        replace k := k.2
        refine aw_aload_n (j := 1) (i := 0) dX12_triesRung_131 rfl rfl rfl ?_
        refine aw_iload_n (j := 2) (i := 1) dX12_triesRung_132 rfl rfl rfl ?_
        refine aw_callV (M' := mX12_nextIn) (S := []) (as := [vI x1]) (k := 0) dX12_triesRung_133 rfl (by decide) rfl rfl gw_1951 gw_1953 gw_66 mb_X12_nextIn rfl (Nat.zero_le _) (Nat.le_of_ble_eq_true rfl) rfl (CL.imp k (fun _ h6 k => ?_) (fun _ _ k => k))
        obtain ⟨r7, rfl, k⟩ := oI_of k
        show AW X (d + 1) rb mX12_triesRung 136 _ [vI r7] h6 Qr Qx
        refine aw_istore_n (i := 2) (L2 := [(2, vI r7), (3, vI r2), (0, vR 12 0), (1, vI x1)]) dX12_triesRung_136 rfl rfl (by decide) rfl ?_
        refine aw_goto 62 dX12_triesRung_137 rfl ?_
        exact aw_sub [2, 3, 0] rfl k
      · replace k := k.2 c
        refine aw_iload_n (j := 2) (i := 1) dX12_triesRung_110 rfl rfl rfl ?_
        refine aw_goto 120 dX12_triesRung_111 rfl ?_
        refine aw_iast dX12_triesRung_120 rfl (by decide) rfl k.1 ?_
        replace k := k.2
        refine aw_aload_n (j := 1) (i := 0) dX12_triesRung_121 rfl rfl rfl ?_
        refine aw_getf (k := 21) (z := 64) dX12_triesRung_122 rfl (by decide) rfl rfl rfl cb_12 (by decide) gw_1615 ?_
        refine aw_iload_n (j := 2) (i := 1) dX12_triesRung_125 rfl rfl rfl ?_
        refine aw_dup2 dX12_triesRung_126 rfl rfl rfl ?_
        refine aw_iald dX12_triesRung_127 rfl (by decide) rfl k.1 ?_
        replace k := k.2
        refine aw_iload_n (j := 0) (i := 3) dX12_triesRung_128 rfl rfl rfl ?_
        refine aw_iadd dX12_triesRung_129 rfl ?_
        refine aw_iast dX12_triesRung_130 rfl (by decide) rfl k.1 ?_
        replace k := k.2
        refine aw_aload_n (j := 1) (i := 0) dX12_triesRung_131 rfl rfl rfl ?_
        refine aw_iload_n (j := 2) (i := 1) dX12_triesRung_132 rfl rfl rfl ?_
        refine aw_callV (M' := mX12_nextIn) (S := []) (as := [vI x1]) (k := 0) dX12_triesRung_133 rfl (by decide) rfl rfl gw_1951 gw_1953 gw_66 mb_X12_nextIn rfl (Nat.zero_le _) (Nat.le_of_ble_eq_true rfl) rfl (CL.imp k (fun _ h8 k => ?_) (fun _ _ k => k))
        obtain ⟨r9, rfl, k⟩ := oI_of k
        show AW X (d + 1) rb mX12_triesRung 136 _ [vI r9] h8 Qr Qx
        refine aw_istore_n (i := 2) (L2 := [(2, vI r9), (3, vI r2), (0, vR 12 0), (1, vI x1)]) dX12_triesRung_136 rfl rfl (by decide) rfl ?_
        refine aw_goto 62 dX12_triesRung_137 rfl ?_
        exact aw_sub [2, 3, 0] rfl k
set_option maxHeartbeats 4000000 in
set_option maxRecDepth 100000 in
theorem vc_X12_can_0 {X : WD → State → Prop} {d rb : Nat} {h : Hp} {Qr : Option AV → Hp → Prop} {Qx : String → Hp → Prop} {a1 : Int32}  (k : CL 0 d mX12_open [vR 12 0, vI a1] h (oI fun r2 h1 => (vp_in a1 20) ∧ AW X (d + 1) rb mX12_can 18 [(0, vR 12 0), (1, vI a1), (2, vI (r2 - (h1.1 62 0 a1.toNatClampNeg))), (3, vI (r2 - (h1.1 62 0 a1.toNatClampNeg))), (4, vI 0)] [] h1 Qr Qx) Qx) : AW X (d + 1) rb mX12_can 0 [(0, vR 12 0), (1, vI a1)] [] h Qr Qx := by
  refine aw_aload_n (j := 0) (i := 0) dX12_can_0 rfl rfl rfl ?_
  refine aw_iload_n (j := 1) (i := 1) dX12_can_1 rfl rfl rfl ?_
  refine aw_callV (M' := mX12_open) (S := []) (as := [vI a1]) (k := 0) dX12_can_2 rfl (by decide) rfl rfl gw_1875 gw_1877 gw_59 mb_X12_open rfl (Nat.zero_le _) (Nat.le_of_ble_eq_true rfl) rfl (CL.imp k (fun _ h1 k => ?_) (fun _ _ k => k))
  obtain ⟨r2, rfl, k⟩ := oI_of k
  show AW X (d + 1) rb mX12_can 5 _ [vI r2] h1 Qr Qx
  refine aw_aload_n (j := 0) (i := 0) dX12_can_5 rfl rfl rfl ?_
  refine aw_getf (k := 19) (z := 62) dX12_can_6 rfl (by decide) rfl rfl rfl cb_12 (by decide) gw_1613 ?_
  refine aw_iload_n (j := 1) (i := 1) dX12_can_9 rfl rfl rfl ?_
  refine aw_iald dX12_can_10 rfl (by decide) rfl k.1 ?_
  replace k := k.2
  refine aw_isub dX12_can_11 rfl ?_
  refine aw_istore_n (i := 2) (L2 := [(2, vI (r2 - (h1.1 62 0 a1.toNatClampNeg))), (0, vR 12 0), (1, vI a1)]) dX12_can_12 rfl rfl (by decide) rfl ?_
  refine aw_iload_n (j := 0) (i := 2) dX12_can_13 rfl rfl rfl ?_
  refine aw_istore_n (i := 3) (L2 := [(3, vI (r2 - (h1.1 62 0 a1.toNatClampNeg))), (2, vI (r2 - (h1.1 62 0 a1.toNatClampNeg))), (0, vR 12 0), (1, vI a1)]) dX12_can_14 rfl rfl (by decide) rfl ?_
  refine aw_iconst (v := 0) dX12_can_15 rfl (by decide) ?_
  refine aw_istore (i := 4) (L2 := [(4, vI 0), (3, vI (r2 - (h1.1 62 0 a1.toNatClampNeg))), (2, vI (r2 - (h1.1 62 0 a1.toNatClampNeg))), (0, vR 12 0), (1, vI a1)]) dX12_can_16 rfl (by decide) rfl ?_
  exact aw_sub [3, 4, 2, 1, 0] rfl k
set_option maxHeartbeats 4000000 in
set_option maxRecDepth 100000 in
theorem vc_X12_can_18 {X : WD → State → Prop} {d rb : Nat} {h : Hp} {Qr : Option AV → Hp → Prop} {Qx : String → Hp → Prop} {x1 : Int32} {x2 : Int32} {x3 : Int32} {x4 : Int32}  (k : (((h.1 56 0 0) ≤ x4) → CL 0 d mX12_of [vR 12 0, vI x1, vI 4] h (oI fun r2 h1 => Qr (some (vI (if ¬ r2 = 1 then (x3 : Int32) else (if x2 ≤ x3 then (x3 : Int32) else 0)))) h1) Qx) ∧ ((¬ (h.1 56 0 0) ≤ x4) → CL 0 d mX12_of [vR 12 0, vI x1, vI 0] h (oI fun r4 h3 => CL 0 d mX12_needs [vR 12 0, vI r4, vI x4] h3 (oI fun r6 h5 => ((r6 ≤ 0) → AW X (d + 1) rb mX12_can 18 [(0, vR 12 0), (1, vI x1), (2, vI x2), (3, vI x3), (4, vI (x4 + 1))] [] h5 Qr Qx) ∧ ((¬ r6 ≤ 0) → (vp_in x4 12) ∧ CL 0 d mX12_of [vR 12 0, vI x1, vI 0] h5 (oI fun r8 h7 => CL 0 d mX12_needs [vR 12 0, vI r8, vI x4] h7 (oI fun r10 h9 => (¬ r10 = 0) ∧ AW X (d + 1) rb mX12_can 18 [(0, vR 12 0), (1, vI x1), (2, vI x2), (3, vI (if ((h5.1 61 0 x4.toNatClampNeg) / r10) < x3 then ((h5.1 61 0 x4.toNatClampNeg) / r10) else x3)), (4, vI (x4 + 1))] [] h9 Qr Qx) Qx) Qx)) Qx) Qx)) : AW X (d + 1) rb mX12_can 18 [(0, vR 12 0), (1, vI x1), (2, vI x2), (3, vI x3), (4, vI x4)] [] h Qr Qx := by
  refine aw_iload (j := 4) (i := 4) dX12_can_18 rfl rfl ?_
  refine aw_aload_n (j := 0) (i := 0) dX12_can_20 rfl rfl rfl ?_
  refine aw_getf (k := 11) (z := 56) dX12_can_21 rfl (by decide) rfl rfl rfl cb_12 (by decide) gw_1605 ?_
  refine aw_iconst (v := 0) dX12_can_24 rfl (by decide) ?_
  refine aw_iald dX12_can_25 rfl (by decide) rfl (by unfold vp_in; decide) ?_
  refine aw_icmp_ge 75 dX12_can_26 rfl rfl (fun c => ?_) (fun c => ?_)
  · replace k := k.1 c
    refine aw_aload_n (j := 0) (i := 0) dX12_can_75 rfl rfl rfl ?_
    refine aw_iload_n (j := 1) (i := 1) dX12_can_76 rfl rfl rfl ?_
    refine aw_iconst (v := 4) dX12_can_77 rfl (by decide) ?_
    refine aw_callV (M' := mX12_of) (S := []) (as := [vI x1, vI 4]) (k := 0) dX12_can_78 rfl (by decide) rfl rfl gw_1871 gw_1873 gw_58 mb_X12_of rfl (Nat.zero_le _) (Nat.le_of_ble_eq_true rfl) rfl (CL.imp k (fun _ h1 k => ?_) (fun _ _ k => k))
    obtain ⟨r2, rfl, k⟩ := oI_of k
    show AW X (d + 1) rb mX12_can 81 _ [vI r2] h1 Qr Qx
    refine aw_iconst (v := 1) dX12_can_81 rfl (by decide) ?_
    have kk : AW X (d + 1) rb mX12_can 95 [(0, vR 12 0), (1, vI x1), (2, vI x2), (3, vI x3), (4, vI x4)] [vI (if ¬ r2 = 1 then (x3 : Int32) else (if x2 ≤ x3 then (x3 : Int32) else 0))] h1 Qr Qx := by
      exact aw_iret dX12_can_95 rfl k
    refine aw_icmp_ne 94 dX12_can_82 rfl rfl (fun (c0 : ¬ r2 = 1) => ?_) (fun (c0 : r2 = 1) => ?_)
    · refine aw_iload_n (j := 3) (i := 3) dX12_can_94 rfl rfl rfl ?_
      simp only [if_pos c0] at kk
      exact kk
    · refine aw_iload_n (j := 3) (i := 3) dX12_can_85 rfl rfl rfl ?_
      refine aw_iload_n (j := 2) (i := 2) dX12_can_86 rfl rfl rfl ?_
      refine aw_icmp_ge 94 dX12_can_87 rfl rfl (fun (c1 : x2 ≤ x3) => ?_) (fun (c1 : ¬ x2 ≤ x3) => ?_)
      · refine aw_iload_n (j := 3) (i := 3) dX12_can_94 rfl rfl rfl ?_
        simp only [if_neg (oa_nn c0), if_pos c1] at kk
        exact kk
      · refine aw_iconst (v := 0) dX12_can_90 rfl (by decide) ?_
        refine aw_goto 95 dX12_can_91 rfl ?_
        simp only [if_neg (oa_nn c0), if_neg c1] at kk
        exact kk
  · replace k := k.2 c
    refine aw_aload_n (j := 0) (i := 0) dX12_can_29 rfl rfl rfl ?_
    refine aw_aload_n (j := 0) (i := 0) dX12_can_30 rfl rfl rfl ?_
    refine aw_iload_n (j := 1) (i := 1) dX12_can_31 rfl rfl rfl ?_
    refine aw_iconst (v := 0) dX12_can_32 rfl (by decide) ?_
    refine aw_callV (M' := mX12_of) (S := [vR 12 0]) (as := [vI x1, vI 0]) (k := 0) dX12_can_33 rfl (by decide) rfl rfl gw_1871 gw_1873 gw_58 mb_X12_of rfl (Nat.zero_le _) (Nat.le_of_ble_eq_true rfl) rfl (CL.imp k (fun _ h3 k => ?_) (fun _ _ k => k))
    obtain ⟨r4, rfl, k⟩ := oI_of k
    show AW X (d + 1) rb mX12_can 36 _ [vI r4, vR 12 0] h3 Qr Qx
    refine aw_iload (j := 4) (i := 4) dX12_can_36 rfl rfl ?_
    refine aw_callV (M' := mX12_needs) (S := []) (as := [vI r4, vI x4]) (k := 0) dX12_can_38 rfl (by decide) rfl rfl gw_1788 gw_1790 gw_51 mb_X12_needs rfl (Nat.zero_le _) (Nat.le_of_ble_eq_true rfl) rfl (CL.imp k (fun _ h5 k => ?_) (fun _ _ k => k))
    obtain ⟨r6, rfl, k⟩ := oI_of k
    show AW X (d + 1) rb mX12_can 41 _ [vI r6] h5 Qr Qx
    refine aw_if_le 69 dX12_can_41 rfl rfl (fun c => ?_) (fun c => ?_)
    · replace k := k.1 c
      refine aw_iinc (i := 4) (j := 4) (v := x4 + 1) (L2 := [(4, vI (x4 + 1)), (0, vR 12 0), (1, vI x1), (2, vI x2), (3, vI x3)]) dX12_can_69 rfl (by decide) rfl rfl rfl ?_
      refine aw_goto 18 dX12_can_72 rfl ?_
      exact aw_sub [1, 2, 3, 4, 0] rfl k
    · replace k := k.2 c
      refine aw_iload_n (j := 3) (i := 3) dX12_can_44 rfl rfl rfl ?_
      refine aw_aload_n (j := 0) (i := 0) dX12_can_45 rfl rfl rfl ?_
      refine aw_getf (k := 18) (z := 61) dX12_can_46 rfl (by decide) rfl rfl rfl cb_12 (by decide) gw_1612 ?_
      refine aw_iload (j := 4) (i := 4) dX12_can_49 rfl rfl ?_
      refine aw_iald dX12_can_51 rfl (by decide) rfl k.1 ?_
      replace k := k.2
      refine aw_aload_n (j := 0) (i := 0) dX12_can_52 rfl rfl rfl ?_
      refine aw_aload_n (j := 0) (i := 0) dX12_can_53 rfl rfl rfl ?_
      refine aw_iload_n (j := 1) (i := 1) dX12_can_54 rfl rfl rfl ?_
      refine aw_iconst (v := 0) dX12_can_55 rfl (by decide) ?_
      refine aw_callV (M' := mX12_of) (S := [vR 12 0, vI (h5.1 61 0 x4.toNatClampNeg), vI x3]) (as := [vI x1, vI 0]) (k := 0) dX12_can_56 rfl (by decide) rfl rfl gw_1871 gw_1873 gw_58 mb_X12_of rfl (Nat.zero_le _) (Nat.le_of_ble_eq_true rfl) rfl (CL.imp k (fun _ h7 k => ?_) (fun _ _ k => k))
      obtain ⟨r8, rfl, k⟩ := oI_of k
      show AW X (d + 1) rb mX12_can 59 _ [vI r8, vR 12 0, vI (h5.1 61 0 x4.toNatClampNeg), vI x3] h7 Qr Qx
      refine aw_iload (j := 4) (i := 4) dX12_can_59 rfl rfl ?_
      refine aw_callV (M' := mX12_needs) (S := [vI (h5.1 61 0 x4.toNatClampNeg), vI x3]) (as := [vI r8, vI x4]) (k := 0) dX12_can_61 rfl (by decide) rfl rfl gw_1788 gw_1790 gw_51 mb_X12_needs rfl (Nat.zero_le _) (Nat.le_of_ble_eq_true rfl) rfl (CL.imp k (fun _ h9 k => ?_) (fun _ _ k => k))
      obtain ⟨r10, rfl, k⟩ := oI_of k
      show AW X (d + 1) rb mX12_can 64 _ [vI r10, vI (h5.1 61 0 x4.toNatClampNeg), vI x3] h9 Qr Qx
      refine aw_idiv dX12_can_64 rfl k.1 ?_
      replace k := k.2
      refine aw_min dX12_can_65 rfl gw_1862 gw_649 gw_104 gw_650 (Nat.le_of_ble_eq_true rfl) ?_
      refine aw_istore_n (i := 3) (L2 := [(3, vI (if ((h5.1 61 0 x4.toNatClampNeg) / r10) < x3 then ((h5.1 61 0 x4.toNatClampNeg) / r10) else x3)), (0, vR 12 0), (1, vI x1), (2, vI x2), (4, vI x4)]) dX12_can_68 rfl rfl (by decide) rfl ?_
      refine aw_iinc (i := 4) (j := 4) (v := x4 + 1) (L2 := [(4, vI (x4 + 1)), (3, vI (if ((h5.1 61 0 x4.toNatClampNeg) / r10) < x3 then ((h5.1 61 0 x4.toNatClampNeg) / r10) else x3)), (0, vR 12 0), (1, vI x1), (2, vI x2)]) dX12_can_69 rfl (by decide) rfl rfl rfl ?_
      refine aw_goto 18 dX12_can_72 rfl ?_
      exact aw_sub [2, 3, 4, 1, 0] rfl k
set_option maxHeartbeats 4000000 in
set_option maxRecDepth 100000 in
theorem vc_X12_takes0_0 {X : WD → State → Prop} {d rb : Nat} {h : Hp} {Qr : Option AV → Hp → Prop} {Qx : String → Hp → Prop} {a1 : Int32} {a2 : Int32}  (k : (vp_in a1 20) ∧ (vp_in a1 20) ∧ AW X (d + 1) rb mX12_takes0 12 [(0, vR 12 0), (1, vI a1), (2, vI a2), (3, vI 0)] [] (hp_i h 62 0 a1.toNatClampNeg ((h.1 62 0 a1.toNatClampNeg) + a2)) Qr Qx) : AW X (d + 1) rb mX12_takes0 0 [(0, vR 12 0), (1, vI a1), (2, vI a2)] [] h Qr Qx := by
  refine aw_aload_n (j := 0) (i := 0) dX12_takes0_0 rfl rfl rfl ?_
  refine aw_getf (k := 19) (z := 62) dX12_takes0_1 rfl (by decide) rfl rfl rfl cb_12 (by decide) gw_1613 ?_
  refine aw_iload_n (j := 1) (i := 1) dX12_takes0_4 rfl rfl rfl ?_
  refine aw_dup2 dX12_takes0_5 rfl rfl rfl ?_
  refine aw_iald dX12_takes0_6 rfl (by decide) rfl k.1 ?_
  replace k := k.2
  refine aw_iload_n (j := 2) (i := 2) dX12_takes0_7 rfl rfl rfl ?_
  refine aw_iadd dX12_takes0_8 rfl ?_
  refine aw_iast dX12_takes0_9 rfl (by decide) rfl k.1 ?_
  replace k := k.2
  refine aw_iconst (v := 0) dX12_takes0_10 rfl (by decide) ?_
  refine aw_istore_n (i := 3) (L2 := [(3, vI 0), (0, vR 12 0), (1, vI a1), (2, vI a2)]) dX12_takes0_11 rfl rfl (by decide) rfl ?_
  exact aw_sub [1, 2, 3, 0] rfl k
set_option maxHeartbeats 4000000 in
set_option maxRecDepth 100000 in
theorem vc_X12_takes0_12 {X : WD → State → Prop} {d rb : Nat} {h : Hp} {Qr : Option AV → Hp → Prop} {Qx : String → Hp → Prop} {x1 : Int32} {x2 : Int32} {x3 : Int32}  (k : (((h.1 56 0 0) ≤ x3) → Qr none h) ∧ ((¬ (h.1 56 0 0) ≤ x3) → (vp_in x3 12) ∧ CL 0 d mX12_of [vR 12 0, vI x1, vI 0] h (oI fun r2 h1 => CL 0 d mX12_needs [vR 12 0, vI r2, vI x3] h1 (oI fun r4 h3 => (vp_in x3 12) ∧ (vp_in x3 12) ∧ CL 0 d mX12_of [vR 12 0, vI x1, vI 0] (hp_i h3 61 0 x3.toNatClampNeg ((h.1 61 0 x3.toNatClampNeg) - (x2 * r4))) (oI fun r6 h5 => CL 0 d mX12_needs [vR 12 0, vI r6, vI x3] h5 (oI fun r8 h7 => (vp_in x3 12) ∧ AW X (d + 1) rb mX12_takes0 12 [(0, vR 12 0), (1, vI x1), (2, vI x2), (3, vI (x3 + 1))] [] (hp_i h7 60 0 x3.toNatClampNeg ((h3.1 60 0 x3.toNatClampNeg) - (x2 * r8))) Qr Qx) Qx) Qx) Qx) Qx)) : AW X (d + 1) rb mX12_takes0 12 [(0, vR 12 0), (1, vI x1), (2, vI x2), (3, vI x3)] [] h Qr Qx := by
  refine aw_iload_n (j := 3) (i := 3) dX12_takes0_12 rfl rfl rfl ?_
  refine aw_aload_n (j := 0) (i := 0) dX12_takes0_13 rfl rfl rfl ?_
  refine aw_getf (k := 11) (z := 56) dX12_takes0_14 rfl (by decide) rfl rfl rfl cb_12 (by decide) gw_1605 ?_
  refine aw_iconst (v := 0) dX12_takes0_17 rfl (by decide) ?_
  refine aw_iald dX12_takes0_18 rfl (by decide) rfl (by unfold vp_in; decide) ?_
  refine aw_icmp_ge 72 dX12_takes0_19 rfl rfl (fun c => ?_) (fun c => ?_)
  · replace k := k.1 c
    exact aw_vret dX12_takes0_72 rfl k
  · replace k := k.2 c
    refine aw_aload_n (j := 0) (i := 0) dX12_takes0_22 rfl rfl rfl ?_
    refine aw_getf (k := 18) (z := 61) dX12_takes0_23 rfl (by decide) rfl rfl rfl cb_12 (by decide) gw_1612 ?_
    refine aw_iload_n (j := 3) (i := 3) dX12_takes0_26 rfl rfl rfl ?_
    refine aw_dup2 dX12_takes0_27 rfl rfl rfl ?_
    refine aw_iald dX12_takes0_28 rfl (by decide) rfl k.1 ?_
    replace k := k.2
    refine aw_iload_n (j := 2) (i := 2) dX12_takes0_29 rfl rfl rfl ?_
    refine aw_aload_n (j := 0) (i := 0) dX12_takes0_30 rfl rfl rfl ?_
    refine aw_aload_n (j := 0) (i := 0) dX12_takes0_31 rfl rfl rfl ?_
    refine aw_iload_n (j := 1) (i := 1) dX12_takes0_32 rfl rfl rfl ?_
    refine aw_iconst (v := 0) dX12_takes0_33 rfl (by decide) ?_
    refine aw_callV (M' := mX12_of) (S := [vR 12 0, vI x2, vI (h.1 61 0 x3.toNatClampNeg), vI x3, vR 61 0]) (as := [vI x1, vI 0]) (k := 0) dX12_takes0_34 rfl (by decide) rfl rfl gw_1871 gw_1873 gw_58 mb_X12_of rfl (Nat.zero_le _) (Nat.le_of_ble_eq_true rfl) rfl (CL.imp k (fun _ h1 k => ?_) (fun _ _ k => k))
    obtain ⟨r2, rfl, k⟩ := oI_of k
    show AW X (d + 1) rb mX12_takes0 37 _ [vI r2, vR 12 0, vI x2, vI (h.1 61 0 x3.toNatClampNeg), vI x3, vR 61 0] h1 Qr Qx
    refine aw_iload_n (j := 3) (i := 3) dX12_takes0_37 rfl rfl rfl ?_
    refine aw_callV (M' := mX12_needs) (S := [vI x2, vI (h.1 61 0 x3.toNatClampNeg), vI x3, vR 61 0]) (as := [vI r2, vI x3]) (k := 0) dX12_takes0_38 rfl (by decide) rfl rfl gw_1788 gw_1790 gw_51 mb_X12_needs rfl (Nat.zero_le _) (Nat.le_of_ble_eq_true rfl) rfl (CL.imp k (fun _ h3 k => ?_) (fun _ _ k => k))
    obtain ⟨r4, rfl, k⟩ := oI_of k
    show AW X (d + 1) rb mX12_takes0 41 _ [vI r4, vI x2, vI (h.1 61 0 x3.toNatClampNeg), vI x3, vR 61 0] h3 Qr Qx
    refine aw_imul dX12_takes0_41 rfl ?_
    refine aw_isub dX12_takes0_42 rfl ?_
    refine aw_iast dX12_takes0_43 rfl (by decide) rfl k.1 ?_
    replace k := k.2
    refine aw_aload_n (j := 0) (i := 0) dX12_takes0_44 rfl rfl rfl ?_
    refine aw_getf (k := 17) (z := 60) dX12_takes0_45 rfl (by decide) rfl rfl rfl cb_12 (by decide) gw_1611 ?_
    refine aw_iload_n (j := 3) (i := 3) dX12_takes0_48 rfl rfl rfl ?_
    refine aw_dup2 dX12_takes0_49 rfl rfl rfl ?_
    refine aw_iald dX12_takes0_50 rfl (by decide) rfl k.1 ?_
    replace k := k.2
    refine aw_iload_n (j := 2) (i := 2) dX12_takes0_51 rfl rfl rfl ?_
    refine aw_aload_n (j := 0) (i := 0) dX12_takes0_52 rfl rfl rfl ?_
    refine aw_aload_n (j := 0) (i := 0) dX12_takes0_53 rfl rfl rfl ?_
    refine aw_iload_n (j := 1) (i := 1) dX12_takes0_54 rfl rfl rfl ?_
    refine aw_iconst (v := 0) dX12_takes0_55 rfl (by decide) ?_
    refine aw_callV (M' := mX12_of) (S := [vR 12 0, vI x2, vI (h3.1 60 0 x3.toNatClampNeg), vI x3, vR 60 0]) (as := [vI x1, vI 0]) (k := 0) dX12_takes0_56 rfl (by decide) rfl rfl gw_1871 gw_1873 gw_58 mb_X12_of rfl (Nat.zero_le _) (Nat.le_of_ble_eq_true rfl) rfl (CL.imp k (fun _ h5 k => ?_) (fun _ _ k => k))
    obtain ⟨r6, rfl, k⟩ := oI_of k
    show AW X (d + 1) rb mX12_takes0 59 _ [vI r6, vR 12 0, vI x2, vI (h3.1 60 0 x3.toNatClampNeg), vI x3, vR 60 0] h5 Qr Qx
    refine aw_iload_n (j := 3) (i := 3) dX12_takes0_59 rfl rfl rfl ?_
    refine aw_callV (M' := mX12_needs) (S := [vI x2, vI (h3.1 60 0 x3.toNatClampNeg), vI x3, vR 60 0]) (as := [vI r6, vI x3]) (k := 0) dX12_takes0_60 rfl (by decide) rfl rfl gw_1788 gw_1790 gw_51 mb_X12_needs rfl (Nat.zero_le _) (Nat.le_of_ble_eq_true rfl) rfl (CL.imp k (fun _ h7 k => ?_) (fun _ _ k => k))
    obtain ⟨r8, rfl, k⟩ := oI_of k
    show AW X (d + 1) rb mX12_takes0 63 _ [vI r8, vI x2, vI (h3.1 60 0 x3.toNatClampNeg), vI x3, vR 60 0] h7 Qr Qx
    refine aw_imul dX12_takes0_63 rfl ?_
    refine aw_isub dX12_takes0_64 rfl ?_
    refine aw_iast dX12_takes0_65 rfl (by decide) rfl k.1 ?_
    replace k := k.2
    refine aw_iinc (i := 3) (j := 3) (v := x3 + 1) (L2 := [(3, vI (x3 + 1)), (0, vR 12 0), (1, vI x1), (2, vI x2)]) dX12_takes0_66 rfl (by decide) rfl rfl rfl ?_
    refine aw_goto 12 dX12_takes0_69 rfl ?_
    exact aw_sub [1, 2, 3, 0] rfl k
set_option maxHeartbeats 4000000 in
set_option maxRecDepth 100000 in
theorem vc_X12_wouldGet_0 {X : WD → State → Prop} {d rb : Nat} {h : Hp} {Qr : Option AV → Hp → Prop} {Qx : String → Hp → Prop} {a1 : Int32}  (k : CL 0 d mX12_noOrder [vR 12 0, vI a1] (hp_i h 12 0 0 0) (oI fun r2 h1 => ((r2 = 0) → CL 0 d mX12_triesAll [vR 12 0] h1 (oV fun h3 => (vp_in a1 20) ∧ Qr (some (vI (h3.1 62 0 a1.toNatClampNeg))) h3) Qx) ∧ ((¬ r2 = 0) → Qr (some (vI 0)) h1)) Qx) : AW X (d + 1) rb mX12_wouldGet 0 [(0, vR 12 0), (1, vI a1)] [] h Qr Qx := by
  refine aw_aload_n (j := 0) (i := 0) dX12_wouldGet_0 rfl rfl rfl ?_
  refine aw_iconst (v := 0) dX12_wouldGet_1 rfl (by decide) ?_
  refine aw_puti (k := 0) dX12_wouldGet_2 rfl (by decide) rfl rfl cb_12 (by decide) rfl rfl gw_1594 ?_
  refine aw_aload_n (j := 0) (i := 0) dX12_wouldGet_5 rfl rfl rfl ?_
  refine aw_iload_n (j := 1) (i := 1) dX12_wouldGet_6 rfl rfl rfl ?_
  refine aw_callV (M' := mX12_noOrder) (S := []) (as := [vI a1]) (k := 0) dX12_wouldGet_7 rfl (by decide) rfl rfl gw_1867 gw_1869 gw_57 mb_X12_noOrder rfl (Nat.zero_le _) (Nat.le_of_ble_eq_true rfl) rfl (CL.imp k (fun _ h1 k => ?_) (fun _ _ k => k))
  obtain ⟨r2, rfl, k⟩ := oI_of k
  show AW X (d + 1) rb mX12_wouldGet 10 _ [vI r2] h1 Qr Qx
  refine aw_if_eq 15 dX12_wouldGet_10 rfl rfl (fun c => ?_) (fun c => ?_)
  · replace k := k.1 c
    refine aw_aload_n (j := 0) (i := 0) dX12_wouldGet_15 rfl rfl rfl ?_
    refine aw_callV (M' := mX12_triesAll) (S := []) (as := []) (k := 0) dX12_wouldGet_16 rfl (by decide) rfl rfl gw_1943 gw_1945 gw_64 mb_X12_triesAll rfl (Nat.zero_le _) (Nat.le_of_ble_eq_true rfl) rfl (CL.imp k (fun _ h3 k => ?_) (fun _ _ k => k))
    obtain ⟨rfl, k⟩ := oV_of k
    show AW X (d + 1) rb mX12_wouldGet 19 _ [] h3 Qr Qx
    refine aw_aload_n (j := 0) (i := 0) dX12_wouldGet_19 rfl rfl rfl ?_
    refine aw_getf (k := 19) (z := 62) dX12_wouldGet_20 rfl (by decide) rfl rfl rfl cb_12 (by decide) gw_1613 ?_
    refine aw_iload_n (j := 1) (i := 1) dX12_wouldGet_23 rfl rfl rfl ?_
    refine aw_iald dX12_wouldGet_24 rfl (by decide) rfl k.1 ?_
    replace k := k.2
    exact aw_iret dX12_wouldGet_25 rfl k
  · replace k := k.2 c
    refine aw_iconst (v := 0) dX12_wouldGet_13 rfl (by decide) ?_
    exact aw_iret dX12_wouldGet_14 rfl k
set_option maxHeartbeats 4000000 in
set_option maxRecDepth 100000 in
theorem vc_X12_rungOf_0 {X : WD → State → Prop} {d rb : Nat} {h : Hp} {Qr : Option AV → Hp → Prop} {Qx : String → Hp → Prop} {a1 : Int32}  (k : CL 0 d mX12_noOrder [vR 12 0, vI a1] (hp_i h 12 0 0 0) (oI fun r2 h1 => ((r2 = 0) → CL 0 d mX12_triesAll [vR 12 0] h1 (oV fun h3 => (vp_in a1 20) ∧ Qr (some (vI (h3.1 63 0 a1.toNatClampNeg))) h3) Qx) ∧ ((¬ r2 = 0) → Qr (some (vI 0)) h1)) Qx) : AW X (d + 1) rb mX12_rungOf 0 [(0, vR 12 0), (1, vI a1)] [] h Qr Qx := by
  refine aw_aload_n (j := 0) (i := 0) dX12_rungOf_0 rfl rfl rfl ?_
  refine aw_iconst (v := 0) dX12_rungOf_1 rfl (by decide) ?_
  refine aw_puti (k := 0) dX12_rungOf_2 rfl (by decide) rfl rfl cb_12 (by decide) rfl rfl gw_1594 ?_
  refine aw_aload_n (j := 0) (i := 0) dX12_rungOf_5 rfl rfl rfl ?_
  refine aw_iload_n (j := 1) (i := 1) dX12_rungOf_6 rfl rfl rfl ?_
  refine aw_callV (M' := mX12_noOrder) (S := []) (as := [vI a1]) (k := 0) dX12_rungOf_7 rfl (by decide) rfl rfl gw_1867 gw_1869 gw_57 mb_X12_noOrder rfl (Nat.zero_le _) (Nat.le_of_ble_eq_true rfl) rfl (CL.imp k (fun _ h1 k => ?_) (fun _ _ k => k))
  obtain ⟨r2, rfl, k⟩ := oI_of k
  show AW X (d + 1) rb mX12_rungOf 10 _ [vI r2] h1 Qr Qx
  refine aw_if_eq 15 dX12_rungOf_10 rfl rfl (fun c => ?_) (fun c => ?_)
  · replace k := k.1 c
    refine aw_aload_n (j := 0) (i := 0) dX12_rungOf_15 rfl rfl rfl ?_
    refine aw_callV (M' := mX12_triesAll) (S := []) (as := []) (k := 0) dX12_rungOf_16 rfl (by decide) rfl rfl gw_1943 gw_1945 gw_64 mb_X12_triesAll rfl (Nat.zero_le _) (Nat.le_of_ble_eq_true rfl) rfl (CL.imp k (fun _ h3 k => ?_) (fun _ _ k => k))
    obtain ⟨rfl, k⟩ := oV_of k
    show AW X (d + 1) rb mX12_rungOf 19 _ [] h3 Qr Qx
    refine aw_aload_n (j := 0) (i := 0) dX12_rungOf_19 rfl rfl rfl ?_
    refine aw_getf (k := 20) (z := 63) dX12_rungOf_20 rfl (by decide) rfl rfl rfl cb_12 (by decide) gw_1614 ?_
    refine aw_iload_n (j := 1) (i := 1) dX12_rungOf_23 rfl rfl rfl ?_
    refine aw_iald dX12_rungOf_24 rfl (by decide) rfl k.1 ?_
    replace k := k.2
    exact aw_iret dX12_rungOf_25 rfl k
  · replace k := k.2 c
    refine aw_iconst (v := 0) dX12_rungOf_13 rfl (by decide) ?_
    exact aw_iret dX12_rungOf_14 rfl k
set_option maxHeartbeats 4000000 in
set_option maxRecDepth 100000 in
theorem vc_X12_rungUnits_0 {X : WD → State → Prop} {d rb : Nat} {h : Hp} {Qr : Option AV → Hp → Prop} {Qx : String → Hp → Prop} {a1 : Int32}  (k : CL 0 d mX12_in [vI a1, vI 0, vI ((h.1 56 0 2) - 1)] (hp_i h 12 0 0 0) (oI fun r2 h1 => CL 0 d mX12_throwsIf [vR 12 0, vI (if ¬ r2 = 0 then (0 : Int32) else 1), vI 1] h1 (oI fun r4 h3 => ((r4 = 0) → CL 0 d mX12_triesAll [vR 12 0] h3 (oV fun h5 => (vp_in a1 6) ∧ Qr (some (vI (h5.1 64 0 a1.toNatClampNeg))) h5) Qx) ∧ ((¬ r4 = 0) → Qr (some (vI 0)) h3)) Qx) Qx) : AW X (d + 1) rb mX12_rungUnits 0 [(0, vR 12 0), (1, vI a1)] [] h Qr Qx := by
  refine aw_aload_n (j := 0) (i := 0) dX12_rungUnits_0 rfl rfl rfl ?_
  refine aw_iconst (v := 0) dX12_rungUnits_1 rfl (by decide) ?_
  refine aw_puti (k := 0) dX12_rungUnits_2 rfl (by decide) rfl rfl cb_12 (by decide) rfl rfl gw_1594 ?_
  refine aw_aload_n (j := 0) (i := 0) dX12_rungUnits_5 rfl rfl rfl ?_
  refine aw_iload_n (j := 1) (i := 1) dX12_rungUnits_6 rfl rfl rfl ?_
  refine aw_iconst (v := 0) dX12_rungUnits_7 rfl (by decide) ?_
  refine aw_aload_n (j := 0) (i := 0) dX12_rungUnits_8 rfl rfl rfl ?_
  refine aw_getf (k := 11) (z := 56) dX12_rungUnits_9 rfl (by decide) rfl rfl rfl cb_12 (by decide) gw_1605 ?_
  refine aw_iconst (v := 2) dX12_rungUnits_12 rfl (by decide) ?_
  refine aw_iald dX12_rungUnits_13 rfl (by decide) rfl (by unfold vp_in; decide) ?_
  refine aw_iconst (v := 1) dX12_rungUnits_14 rfl (by decide) ?_
  refine aw_isub dX12_rungUnits_15 rfl ?_
  refine aw_callS (M' := mX12_in) (S := [vR 12 0]) (as := [vI a1, vI 0, vI ((h.1 56 0 2) - 1)]) (k := 0) dX12_rungUnits_16 rfl gw_1713 gw_1714 mb_X12_in rfl (Nat.zero_le _) (Nat.le_of_ble_eq_true rfl) rfl (CL.imp k (fun _ h1 k => ?_) (fun _ _ k => k))
  obtain ⟨r2, rfl, k⟩ := oI_of k
  show AW X (d + 1) rb mX12_rungUnits 19 _ [vI r2, vR 12 0] h1 Qr Qx
  have kk : AW X (d + 1) rb mX12_rungUnits 27 [(0, vR 12 0), (1, vI a1)] [vI (if ¬ r2 = 0 then (0 : Int32) else 1), vR 12 0] h1 Qr Qx := by
    refine aw_iconst (v := 1) dX12_rungUnits_27 rfl (by decide) ?_
    refine aw_callV (M' := mX12_throwsIf) (S := []) (as := [vI (if ¬ r2 = 0 then (0 : Int32) else 1), vI 1]) (k := 0) dX12_rungUnits_28 rfl (by decide) rfl rfl gw_1748 gw_1750 gw_48 mb_X12_throwsIf rfl (Nat.zero_le _) (Nat.le_of_ble_eq_true rfl) rfl (CL.imp k (fun _ h3 k => ?_) (fun _ _ k => k))
    obtain ⟨r4, rfl, k⟩ := oI_of k
    show AW X (d + 1) rb mX12_rungUnits 31 _ [vI r4] h3 Qr Qx
    refine aw_if_eq 36 dX12_rungUnits_31 rfl rfl (fun c => ?_) (fun c => ?_)
    · replace k := k.1 c
      refine aw_aload_n (j := 0) (i := 0) dX12_rungUnits_36 rfl rfl rfl ?_
      refine aw_callV (M' := mX12_triesAll) (S := []) (as := []) (k := 0) dX12_rungUnits_37 rfl (by decide) rfl rfl gw_1943 gw_1945 gw_64 mb_X12_triesAll rfl (Nat.zero_le _) (Nat.le_of_ble_eq_true rfl) rfl (CL.imp k (fun _ h5 k => ?_) (fun _ _ k => k))
      obtain ⟨rfl, k⟩ := oV_of k
      show AW X (d + 1) rb mX12_rungUnits 40 _ [] h5 Qr Qx
      refine aw_aload_n (j := 0) (i := 0) dX12_rungUnits_40 rfl rfl rfl ?_
      refine aw_getf (k := 21) (z := 64) dX12_rungUnits_41 rfl (by decide) rfl rfl rfl cb_12 (by decide) gw_1615 ?_
      refine aw_iload_n (j := 1) (i := 1) dX12_rungUnits_44 rfl rfl rfl ?_
      refine aw_iald dX12_rungUnits_45 rfl (by decide) rfl k.1 ?_
      replace k := k.2
      exact aw_iret dX12_rungUnits_46 rfl k
    · replace k := k.2 c
      refine aw_iconst (v := 0) dX12_rungUnits_34 rfl (by decide) ?_
      exact aw_iret dX12_rungUnits_35 rfl k
  refine aw_if_ne 26 dX12_rungUnits_19 rfl rfl (fun (c0 : ¬ r2 = 0) => ?_) (fun (c0 : r2 = 0) => ?_)
  · refine aw_iconst (v := 0) dX12_rungUnits_26 rfl (by decide) ?_
    simp only [if_pos c0] at kk
    exact kk
  · refine aw_iconst (v := 1) dX12_rungUnits_22 rfl (by decide) ?_
    refine aw_goto 27 dX12_rungUnits_23 rfl ?_
    simp only [if_neg (oa_nn c0)] at kk
    exact kk
set_option maxHeartbeats 4000000 in
set_option maxRecDepth 100000 in
theorem vc_X12_missingPieces_0 {X : WD → State → Prop} {d rb : Nat} {h : Hp} {Qr : Option AV → Hp → Prop} {Qx : String → Hp → Prop} {a1 : Int32}  (k : CL 0 d mX12_noOrder [vR 12 0, vI a1] (hp_i h 12 0 0 0) (oI fun r2 h1 => ((r2 = 0) → AW X (d + 1) rb mX12_missingPieces 19 [(0, vR 12 0), (1, vI a1), (2, vI 0), (3, vI 0)] [] h1 Qr Qx) ∧ ((¬ r2 = 0) → Qr (some (vI 0)) h1)) Qx) : AW X (d + 1) rb mX12_missingPieces 0 [(0, vR 12 0), (1, vI a1)] [] h Qr Qx := by
  refine aw_aload_n (j := 0) (i := 0) dX12_missingPieces_0 rfl rfl rfl ?_
  refine aw_iconst (v := 0) dX12_missingPieces_1 rfl (by decide) ?_
  refine aw_puti (k := 0) dX12_missingPieces_2 rfl (by decide) rfl rfl cb_12 (by decide) rfl rfl gw_1594 ?_
  refine aw_aload_n (j := 0) (i := 0) dX12_missingPieces_5 rfl rfl rfl ?_
  refine aw_iload_n (j := 1) (i := 1) dX12_missingPieces_6 rfl rfl rfl ?_
  refine aw_callV (M' := mX12_noOrder) (S := []) (as := [vI a1]) (k := 0) dX12_missingPieces_7 rfl (by decide) rfl rfl gw_1867 gw_1869 gw_57 mb_X12_noOrder rfl (Nat.zero_le _) (Nat.le_of_ble_eq_true rfl) rfl (CL.imp k (fun _ h1 k => ?_) (fun _ _ k => k))
  obtain ⟨r2, rfl, k⟩ := oI_of k
  show AW X (d + 1) rb mX12_missingPieces 10 _ [vI r2] h1 Qr Qx
  refine aw_if_eq 15 dX12_missingPieces_10 rfl rfl (fun c => ?_) (fun c => ?_)
  · replace k := k.1 c
    refine aw_iconst (v := 0) dX12_missingPieces_15 rfl (by decide) ?_
    refine aw_istore_n (i := 2) (L2 := [(2, vI 0), (0, vR 12 0), (1, vI a1)]) dX12_missingPieces_16 rfl rfl (by decide) rfl ?_
    refine aw_iconst (v := 0) dX12_missingPieces_17 rfl (by decide) ?_
    refine aw_istore_n (i := 3) (L2 := [(3, vI 0), (2, vI 0), (0, vR 12 0), (1, vI a1)]) dX12_missingPieces_18 rfl rfl (by decide) rfl ?_
    exact aw_sub [2, 3, 1, 0] rfl k
  · replace k := k.2 c
    refine aw_iconst (v := 0) dX12_missingPieces_13 rfl (by decide) ?_
    exact aw_iret dX12_missingPieces_14 rfl k
set_option maxHeartbeats 4000000 in
set_option maxRecDepth 100000 in
theorem vc_X12_missingPieces_19 {X : WD → State → Prop} {d rb : Nat} {h : Hp} {Qr : Option AV → Hp → Prop} {Qx : String → Hp → Prop} {x1 : Int32} {x2 : Int32} {x3 : Int32}  (k : (((h.1 56 0 0) ≤ x3) → Qr (some (vI x2)) h) ∧ ((¬ (h.1 56 0 0) ≤ x3) → CL 0 d mX12_open [vR 12 0, vI x1] h (oI fun r2 h1 => CL 0 d mX12_of [vR 12 0, vI x1, vI 0] h1 (oI fun r4 h3 => CL 0 d mX12_needs [vR 12 0, vI r4, vI x3] h3 (oI fun r6 h5 => CL 0 d mX12_free [vR 12 0, vI x3] h5 (oI fun r8 h7 => AW X (d + 1) rb mX12_missingPieces 19 [(0, vR 12 0), (1, vI x1), (2, vI (x2 + (if 0 < ((r2 * r6) - r8) then ((r2 * r6) - r8) else 0))), (3, vI (x3 + 1))] [] h7 Qr Qx) Qx) Qx) Qx) Qx)) : AW X (d + 1) rb mX12_missingPieces 19 [(0, vR 12 0), (1, vI x1), (2, vI x2), (3, vI x3)] [] h Qr Qx := by
  refine aw_iload_n (j := 3) (i := 3) dX12_missingPieces_19 rfl rfl rfl ?_
  refine aw_aload_n (j := 0) (i := 0) dX12_missingPieces_20 rfl rfl rfl ?_
  refine aw_getf (k := 11) (z := 56) dX12_missingPieces_21 rfl (by decide) rfl rfl rfl cb_12 (by decide) gw_1605 ?_
  refine aw_iconst (v := 0) dX12_missingPieces_24 rfl (by decide) ?_
  refine aw_iald dX12_missingPieces_25 rfl (by decide) rfl (by unfold vp_in; decide) ?_
  refine aw_icmp_ge 65 dX12_missingPieces_26 rfl rfl (fun c => ?_) (fun c => ?_)
  · replace k := k.1 c
    refine aw_iload_n (j := 2) (i := 2) dX12_missingPieces_65 rfl rfl rfl ?_
    exact aw_iret dX12_missingPieces_66 rfl k
  · replace k := k.2 c
    refine aw_iload_n (j := 2) (i := 2) dX12_missingPieces_29 rfl rfl rfl ?_
    refine aw_iconst (v := 0) dX12_missingPieces_30 rfl (by decide) ?_
    refine aw_aload_n (j := 0) (i := 0) dX12_missingPieces_31 rfl rfl rfl ?_
    refine aw_iload_n (j := 1) (i := 1) dX12_missingPieces_32 rfl rfl rfl ?_
    refine aw_callV (M' := mX12_open) (S := [vI 0, vI x2]) (as := [vI x1]) (k := 0) dX12_missingPieces_33 rfl (by decide) rfl rfl gw_1875 gw_1877 gw_59 mb_X12_open rfl (Nat.zero_le _) (Nat.le_of_ble_eq_true rfl) rfl (CL.imp k (fun _ h1 k => ?_) (fun _ _ k => k))
    obtain ⟨r2, rfl, k⟩ := oI_of k
    show AW X (d + 1) rb mX12_missingPieces 36 _ [vI r2, vI 0, vI x2] h1 Qr Qx
    refine aw_aload_n (j := 0) (i := 0) dX12_missingPieces_36 rfl rfl rfl ?_
    refine aw_aload_n (j := 0) (i := 0) dX12_missingPieces_37 rfl rfl rfl ?_
    refine aw_iload_n (j := 1) (i := 1) dX12_missingPieces_38 rfl rfl rfl ?_
    refine aw_iconst (v := 0) dX12_missingPieces_39 rfl (by decide) ?_
    refine aw_callV (M' := mX12_of) (S := [vR 12 0, vI r2, vI 0, vI x2]) (as := [vI x1, vI 0]) (k := 0) dX12_missingPieces_40 rfl (by decide) rfl rfl gw_1871 gw_1873 gw_58 mb_X12_of rfl (Nat.zero_le _) (Nat.le_of_ble_eq_true rfl) rfl (CL.imp k (fun _ h3 k => ?_) (fun _ _ k => k))
    obtain ⟨r4, rfl, k⟩ := oI_of k
    show AW X (d + 1) rb mX12_missingPieces 43 _ [vI r4, vR 12 0, vI r2, vI 0, vI x2] h3 Qr Qx
    refine aw_iload_n (j := 3) (i := 3) dX12_missingPieces_43 rfl rfl rfl ?_
    refine aw_callV (M' := mX12_needs) (S := [vI r2, vI 0, vI x2]) (as := [vI r4, vI x3]) (k := 0) dX12_missingPieces_44 rfl (by decide) rfl rfl gw_1788 gw_1790 gw_51 mb_X12_needs rfl (Nat.zero_le _) (Nat.le_of_ble_eq_true rfl) rfl (CL.imp k (fun _ h5 k => ?_) (fun _ _ k => k))
    obtain ⟨r6, rfl, k⟩ := oI_of k
    show AW X (d + 1) rb mX12_missingPieces 47 _ [vI r6, vI r2, vI 0, vI x2] h5 Qr Qx
    refine aw_imul dX12_missingPieces_47 rfl ?_
    refine aw_aload_n (j := 0) (i := 0) dX12_missingPieces_48 rfl rfl rfl ?_
    refine aw_iload_n (j := 3) (i := 3) dX12_missingPieces_49 rfl rfl rfl ?_
    refine aw_callV (M' := mX12_free) (S := [vI (r2 * r6), vI 0, vI x2]) (as := [vI x3]) (k := 0) dX12_missingPieces_50 rfl (by decide) rfl rfl gw_1850 gw_1852 gw_56 mb_X12_free rfl (Nat.zero_le _) (Nat.le_of_ble_eq_true rfl) rfl (CL.imp k (fun _ h7 k => ?_) (fun _ _ k => k))
    obtain ⟨r8, rfl, k⟩ := oI_of k
    show AW X (d + 1) rb mX12_missingPieces 53 _ [vI r8, vI (r2 * r6), vI 0, vI x2] h7 Qr Qx
    refine aw_isub dX12_missingPieces_53 rfl ?_
    refine aw_max dX12_missingPieces_54 rfl gw_1800 gw_534 gw_104 gw_535 (Nat.le_of_ble_eq_true rfl) ?_
    refine aw_iadd dX12_missingPieces_57 rfl ?_
    refine aw_istore_n (i := 2) (L2 := [(2, vI (x2 + (if 0 < ((r2 * r6) - r8) then ((r2 * r6) - r8) else 0))), (0, vR 12 0), (1, vI x1), (3, vI x3)]) dX12_missingPieces_58 rfl rfl (by decide) rfl ?_
    refine aw_iinc (i := 3) (j := 3) (v := x3 + 1) (L2 := [(3, vI (x3 + 1)), (2, vI (x2 + (if 0 < ((r2 * r6) - r8) then ((r2 * r6) - r8) else 0))), (0, vR 12 0), (1, vI x1)]) dX12_missingPieces_59 rfl (by decide) rfl rfl rfl ?_
    refine aw_goto 19 dX12_missingPieces_62 rfl ?_
    exact aw_sub [2, 3, 1, 0] rfl k
set_option maxHeartbeats 4000000 in
set_option maxRecDepth 100000 in
theorem vc_X12_buildableAfter_0 {X : WD → State → Prop} {d rb : Nat} {h : Hp} {Qr : Option AV → Hp → Prop} {Qx : String → Hp → Prop} {a1 : Int32} {a2 : Int32} {a3 : Int32}  (k : CL 0 d mX12_noProduct [vR 12 0, vI a1] (hp_i h 12 0 0 0) (oI fun r2 h1 => ((¬ r2 = 0) → Qr (some (vI 0)) h1) ∧ ((r2 = 0) → CL 0 d mX12_noProduct [vR 12 0, vI a2] h1 (oI fun r4 h3 => ((¬ r4 = 0) → Qr (some (vI 0)) h3) ∧ ((r4 = 0) → ((a1 = a2) → CL 0 d mX12_throwsIf [vR 12 0, vI 1, vI 2] h3 (oI fun r6 h5 => ((r6 = 0) → CL 0 d mX12_builds [vR 12 0, vI a1] h5 (oI fun r8 h7 => AW X (d + 1) rb mX12_buildableAfter 62 [(0, vR 12 0), (1, vI a1), (2, vI a2), (3, vI a3), (4, vI r8), (5, vI 0)] [] h7 Qr Qx) Qx) ∧ ((¬ r6 = 0) → Qr (some (vI 0)) h5)) Qx) ∧ ((¬ a1 = a2) → CL 0 d mX12_in [vI a3, vI 0, vI 999] h3 (oI fun r10 h9 => CL 0 d mX12_throwsIf [vR 12 0, vI (if ¬ r10 = 0 then (0 : Int32) else 1), vI 2] h9 (oI fun r12 h11 => ((r12 = 0) → CL 0 d mX12_builds [vR 12 0, vI a1] h11 (oI fun r14 h13 => AW X (d + 1) rb mX12_buildableAfter 62 [(0, vR 12 0), (1, vI a1), (2, vI a2), (3, vI a3), (4, vI r14), (5, vI 0)] [] h13 Qr Qx) Qx) ∧ ((¬ r12 = 0) → Qr (some (vI 0)) h11)) Qx) Qx))) Qx)) Qx) : AW X (d + 1) rb mX12_buildableAfter 0 [(0, vR 12 0), (1, vI a1), (2, vI a2), (3, vI a3)] [] h Qr Qx := by
  refine aw_aload_n (j := 0) (i := 0) dX12_buildableAfter_0 rfl rfl rfl ?_
  refine aw_iconst (v := 0) dX12_buildableAfter_1 rfl (by decide) ?_
  refine aw_puti (k := 0) dX12_buildableAfter_2 rfl (by decide) rfl rfl cb_12 (by decide) rfl rfl gw_1594 ?_
  refine aw_aload_n (j := 0) (i := 0) dX12_buildableAfter_5 rfl rfl rfl ?_
  refine aw_iload_n (j := 1) (i := 1) dX12_buildableAfter_6 rfl rfl rfl ?_
  refine aw_callV (M' := mX12_noProduct) (S := []) (as := [vI a1]) (k := 0) dX12_buildableAfter_7 rfl (by decide) rfl rfl gw_1768 gw_1770 gw_49 mb_X12_noProduct rfl (Nat.zero_le _) (Nat.le_of_ble_eq_true rfl) rfl (CL.imp k (fun _ h1 k => ?_) (fun _ _ k => k))
  obtain ⟨r2, rfl, k⟩ := oI_of k
  show AW X (d + 1) rb mX12_buildableAfter 10 _ [vI r2] h1 Qr Qx
  refine aw_if_ne 50 dX12_buildableAfter_10 rfl rfl (fun c => ?_) (fun c => ?_)
  · replace k := k.1 c
    refine aw_iconst (v := 0) dX12_buildableAfter_50 rfl (by decide) ?_
    exact aw_iret dX12_buildableAfter_51 rfl k
  · replace k := k.2 c
    refine aw_aload_n (j := 0) (i := 0) dX12_buildableAfter_13 rfl rfl rfl ?_
    refine aw_iload_n (j := 2) (i := 2) dX12_buildableAfter_14 rfl rfl rfl ?_
    refine aw_callV (M' := mX12_noProduct) (S := []) (as := [vI a2]) (k := 0) dX12_buildableAfter_15 rfl (by decide) rfl rfl gw_1768 gw_1770 gw_49 mb_X12_noProduct rfl (Nat.zero_le _) (Nat.le_of_ble_eq_true rfl) rfl (CL.imp k (fun _ h3 k => ?_) (fun _ _ k => k))
    obtain ⟨r4, rfl, k⟩ := oI_of k
    show AW X (d + 1) rb mX12_buildableAfter 18 _ [vI r4] h3 Qr Qx
    refine aw_if_ne 50 dX12_buildableAfter_18 rfl rfl (fun c => ?_) (fun c => ?_)
    · replace k := k.1 c
      refine aw_iconst (v := 0) dX12_buildableAfter_50 rfl (by decide) ?_
      exact aw_iret dX12_buildableAfter_51 rfl k
    · replace k := k.2 c
      refine aw_aload_n (j := 0) (i := 0) dX12_buildableAfter_21 rfl rfl rfl ?_
      refine aw_iload_n (j := 1) (i := 1) dX12_buildableAfter_22 rfl rfl rfl ?_
      refine aw_iload_n (j := 2) (i := 2) dX12_buildableAfter_23 rfl rfl rfl ?_
      refine aw_icmp_eq 38 dX12_buildableAfter_24 rfl rfl (fun c => ?_) (fun c => ?_)
      · replace k := k.1 c
        refine aw_iconst (v := 1) dX12_buildableAfter_38 rfl (by decide) ?_
        refine aw_goto 43 dX12_buildableAfter_39 rfl ?_
        refine aw_iconst (v := 2) dX12_buildableAfter_43 rfl (by decide) ?_
        refine aw_callV (M' := mX12_throwsIf) (S := []) (as := [vI 1, vI 2]) (k := 0) dX12_buildableAfter_44 rfl (by decide) rfl rfl gw_1748 gw_1750 gw_48 mb_X12_throwsIf rfl (Nat.zero_le _) (Nat.le_of_ble_eq_true rfl) rfl (CL.imp k (fun _ h5 k => ?_) (fun _ _ k => k))
        obtain ⟨r6, rfl, k⟩ := oI_of k
        show AW X (d + 1) rb mX12_buildableAfter 47 _ [vI r6] h5 Qr Qx
        refine aw_if_eq 52 dX12_buildableAfter_47 rfl rfl (fun c => ?_) (fun c => ?_)
        · replace k := k.1 c
          refine aw_aload_n (j := 0) (i := 0) dX12_buildableAfter_52 rfl rfl rfl ?_
          refine aw_iload_n (j := 1) (i := 1) dX12_buildableAfter_53 rfl rfl rfl ?_
          refine aw_callV (M' := mX12_builds) (S := []) (as := [vI a1]) (k := 0) dX12_buildableAfter_54 rfl (by decide) rfl rfl gw_1842 gw_1844 gw_54 mb_X12_builds rfl (Nat.zero_le _) (Nat.le_of_ble_eq_true rfl) rfl (CL.imp k (fun _ h7 k => ?_) (fun _ _ k => k))
          obtain ⟨r8, rfl, k⟩ := oI_of k
          show AW X (d + 1) rb mX12_buildableAfter 57 _ [vI r8] h7 Qr Qx
          refine aw_istore (i := 4) (L2 := [(4, vI r8), (0, vR 12 0), (1, vI a1), (2, vI a2), (3, vI a3)]) dX12_buildableAfter_57 rfl (by decide) rfl ?_
          refine aw_iconst (v := 0) dX12_buildableAfter_59 rfl (by decide) ?_
          refine aw_istore (i := 5) (L2 := [(5, vI 0), (4, vI r8), (0, vR 12 0), (1, vI a1), (2, vI a2), (3, vI a3)]) dX12_buildableAfter_60 rfl (by decide) rfl ?_
          exact aw_sub [2, 3, 4, 5, 1, 0] rfl k
        · replace k := k.2 c
          refine aw_iconst (v := 0) dX12_buildableAfter_50 rfl (by decide) ?_
          exact aw_iret dX12_buildableAfter_51 rfl k
      · replace k := k.2 c
        refine aw_iload_n (j := 3) (i := 3) dX12_buildableAfter_27 rfl rfl rfl ?_
        refine aw_iconst (v := 0) dX12_buildableAfter_28 rfl (by decide) ?_
        refine aw_sipush (v := 999) dX12_buildableAfter_29 rfl (by decide) ?_
        refine aw_callS (M' := mX12_in) (S := [vR 12 0]) (as := [vI a3, vI 0, vI 999]) (k := 0) dX12_buildableAfter_32 rfl gw_1713 gw_1714 mb_X12_in rfl (Nat.zero_le _) (Nat.le_of_ble_eq_true rfl) rfl (CL.imp k (fun _ h9 k => ?_) (fun _ _ k => k))
        obtain ⟨r10, rfl, k⟩ := oI_of k
        show AW X (d + 1) rb mX12_buildableAfter 35 _ [vI r10, vR 12 0] h9 Qr Qx
        have kk : AW X (d + 1) rb mX12_buildableAfter 43 [(0, vR 12 0), (1, vI a1), (2, vI a2), (3, vI a3)] [vI (if ¬ r10 = 0 then (0 : Int32) else 1), vR 12 0] h9 Qr Qx := by
          refine aw_iconst (v := 2) dX12_buildableAfter_43 rfl (by decide) ?_
          refine aw_callV (M' := mX12_throwsIf) (S := []) (as := [vI (if ¬ r10 = 0 then (0 : Int32) else 1), vI 2]) (k := 0) dX12_buildableAfter_44 rfl (by decide) rfl rfl gw_1748 gw_1750 gw_48 mb_X12_throwsIf rfl (Nat.zero_le _) (Nat.le_of_ble_eq_true rfl) rfl (CL.imp k (fun _ h11 k => ?_) (fun _ _ k => k))
          obtain ⟨r12, rfl, k⟩ := oI_of k
          show AW X (d + 1) rb mX12_buildableAfter 47 _ [vI r12] h11 Qr Qx
          refine aw_if_eq 52 dX12_buildableAfter_47 rfl rfl (fun c => ?_) (fun c => ?_)
          · replace k := k.1 c
            refine aw_aload_n (j := 0) (i := 0) dX12_buildableAfter_52 rfl rfl rfl ?_
            refine aw_iload_n (j := 1) (i := 1) dX12_buildableAfter_53 rfl rfl rfl ?_
            refine aw_callV (M' := mX12_builds) (S := []) (as := [vI a1]) (k := 0) dX12_buildableAfter_54 rfl (by decide) rfl rfl gw_1842 gw_1844 gw_54 mb_X12_builds rfl (Nat.zero_le _) (Nat.le_of_ble_eq_true rfl) rfl (CL.imp k (fun _ h13 k => ?_) (fun _ _ k => k))
            obtain ⟨r14, rfl, k⟩ := oI_of k
            show AW X (d + 1) rb mX12_buildableAfter 57 _ [vI r14] h13 Qr Qx
            refine aw_istore (i := 4) (L2 := [(4, vI r14), (0, vR 12 0), (1, vI a1), (2, vI a2), (3, vI a3)]) dX12_buildableAfter_57 rfl (by decide) rfl ?_
            refine aw_iconst (v := 0) dX12_buildableAfter_59 rfl (by decide) ?_
            refine aw_istore (i := 5) (L2 := [(5, vI 0), (4, vI r14), (0, vR 12 0), (1, vI a1), (2, vI a2), (3, vI a3)]) dX12_buildableAfter_60 rfl (by decide) rfl ?_
            exact aw_sub [2, 3, 4, 5, 1, 0] rfl k
          · replace k := k.2 c
            refine aw_iconst (v := 0) dX12_buildableAfter_50 rfl (by decide) ?_
            exact aw_iret dX12_buildableAfter_51 rfl k
        refine aw_if_ne 42 dX12_buildableAfter_35 rfl rfl (fun (c0 : ¬ r10 = 0) => ?_) (fun (c0 : r10 = 0) => ?_)
        · refine aw_iconst (v := 0) dX12_buildableAfter_42 rfl (by decide) ?_
          simp only [if_pos c0] at kk
          exact kk
        · refine aw_iconst (v := 1) dX12_buildableAfter_38 rfl (by decide) ?_
          refine aw_goto 43 dX12_buildableAfter_39 rfl ?_
          simp only [if_neg (oa_nn c0)] at kk
          exact kk
set_option maxHeartbeats 4000000 in
set_option maxRecDepth 100000 in
theorem vc_X12_buildableAfter_62 {X : WD → State → Prop} {d rb : Nat} {h : Hp} {Qr : Option AV → Hp → Prop} {Qx : String → Hp → Prop} {x1 : Int32} {x2 : Int32} {x3 : Int32} {x4 : Int32} {x5 : Int32}  (k : (((h.1 56 0 0) ≤ x5) → Qr (some (vI x4)) h) ∧ ((¬ (h.1 56 0 0) ≤ x5) → CL 0 d mX12_free [vR 12 0, vI x5] h (oI fun r2 h1 => CL 0 d mX12_needs [vR 12 0, vI x2, vI x5] h1 (oI fun r4 h3 => CL 0 d mX12_needs [vR 12 0, vI x2, vI x5] h3 (oI fun r6 h5 => ((r6 ≤ 0) → CL 0 d mX12_needs [vR 12 0, vI x1, vI x5] h5 (oI fun r8 h7 => ((r8 ≤ 0) → AW X (d + 1) rb mX12_buildableAfter 62 [(0, vR 12 0), (1, vI x1), (2, vI x2), (3, vI x3), (4, vI x4), (5, vI (x5 + 1))] [] h7 Qr Qx) ∧ ((¬ r8 ≤ 0) → CL 0 d mX12_needs [vR 12 0, vI x1, vI x5] h7 (oI fun r10 h9 => (¬ r10 = 0) ∧ AW X (d + 1) rb mX12_buildableAfter 62 [(0, vR 12 0), (1, vI x1), (2, vI x2), (3, vI x3), (4, vI (if ((r2 - (x3 * r4)) / r10) < x4 then ((r2 - (x3 * r4)) / r10) else x4)), (5, vI (x5 + 1))] [] h9 Qr Qx) Qx)) Qx) ∧ ((¬ r6 ≤ 0) → ((0 ≤ (r2 - (x3 * r4))) → CL 0 d mX12_needs [vR 12 0, vI x1, vI x5] h5 (oI fun r12 h11 => ((r12 ≤ 0) → AW X (d + 1) rb mX12_buildableAfter 62 [(0, vR 12 0), (1, vI x1), (2, vI x2), (3, vI x3), (4, vI x4), (5, vI (x5 + 1))] [] h11 Qr Qx) ∧ ((¬ r12 ≤ 0) → CL 0 d mX12_needs [vR 12 0, vI x1, vI x5] h11 (oI fun r14 h13 => (¬ r14 = 0) ∧ AW X (d + 1) rb mX12_buildableAfter 62 [(0, vR 12 0), (1, vI x1), (2, vI x2), (3, vI x3), (4, vI (if ((r2 - (x3 * r4)) / r14) < x4 then ((r2 - (x3 * r4)) / r14) else x4)), (5, vI (x5 + 1))] [] h13 Qr Qx) Qx)) Qx) ∧ ((¬ 0 ≤ (r2 - (x3 * r4))) → Qr (some (vI (-1))) h5))) Qx) Qx) Qx)) : AW X (d + 1) rb mX12_buildableAfter 62 [(0, vR 12 0), (1, vI x1), (2, vI x2), (3, vI x3), (4, vI x4), (5, vI x5)] [] h Qr Qx := by
  refine aw_iload (j := 5) (i := 5) dX12_buildableAfter_62 rfl rfl ?_
  refine aw_aload_n (j := 0) (i := 0) dX12_buildableAfter_64 rfl rfl rfl ?_
  refine aw_getf (k := 11) (z := 56) dX12_buildableAfter_65 rfl (by decide) rfl rfl rfl cb_12 (by decide) gw_1605 ?_
  refine aw_iconst (v := 0) dX12_buildableAfter_68 rfl (by decide) ?_
  refine aw_iald dX12_buildableAfter_69 rfl (by decide) rfl (by unfold vp_in; decide) ?_
  refine aw_icmp_ge 141 dX12_buildableAfter_70 rfl rfl (fun c => ?_) (fun c => ?_)
  · replace k := k.1 c
    refine aw_iload (j := 4) (i := 4) dX12_buildableAfter_141 rfl rfl ?_
    exact aw_iret dX12_buildableAfter_143 rfl k
  · replace k := k.2 c
    refine aw_aload_n (j := 0) (i := 0) dX12_buildableAfter_73 rfl rfl rfl ?_
    refine aw_iload (j := 5) (i := 5) dX12_buildableAfter_74 rfl rfl ?_
    refine aw_callV (M' := mX12_free) (S := []) (as := [vI x5]) (k := 0) dX12_buildableAfter_76 rfl (by decide) rfl rfl gw_1850 gw_1852 gw_56 mb_X12_free rfl (Nat.zero_le _) (Nat.le_of_ble_eq_true rfl) rfl (CL.imp k (fun _ h1 k => ?_) (fun _ _ k => k))
    obtain ⟨r2, rfl, k⟩ := oI_of k
    show AW X (d + 1) rb mX12_buildableAfter 79 _ [vI r2] h1 Qr Qx
    refine aw_iload_n (j := 3) (i := 3) dX12_buildableAfter_79 rfl rfl rfl ?_
    refine aw_aload_n (j := 0) (i := 0) dX12_buildableAfter_80 rfl rfl rfl ?_
    refine aw_iload_n (j := 2) (i := 2) dX12_buildableAfter_81 rfl rfl rfl ?_
    refine aw_iload (j := 5) (i := 5) dX12_buildableAfter_82 rfl rfl ?_
    refine aw_callV (M' := mX12_needs) (S := [vI x3, vI r2]) (as := [vI x2, vI x5]) (k := 0) dX12_buildableAfter_84 rfl (by decide) rfl rfl gw_1788 gw_1790 gw_51 mb_X12_needs rfl (Nat.zero_le _) (Nat.le_of_ble_eq_true rfl) rfl (CL.imp k (fun _ h3 k => ?_) (fun _ _ k => k))
    obtain ⟨r4, rfl, k⟩ := oI_of k
    show AW X (d + 1) rb mX12_buildableAfter 87 _ [vI r4, vI x3, vI r2] h3 Qr Qx
    refine aw_imul dX12_buildableAfter_87 rfl ?_
    refine aw_isub dX12_buildableAfter_88 rfl ?_
    refine aw_istore (i := 6) (L2 := [(6, vI (r2 - (x3 * r4))), (0, vR 12 0), (1, vI x1), (2, vI x2), (3, vI x3), (4, vI x4), (5, vI x5)]) dX12_buildableAfter_89 rfl (by decide) rfl ?_
    refine aw_aload_n (j := 1) (i := 0) dX12_buildableAfter_91 rfl rfl rfl ?_
    refine aw_iload_n (j := 3) (i := 2) dX12_buildableAfter_92 rfl rfl rfl ?_
    refine aw_iload (j := 6) (i := 5) dX12_buildableAfter_93 rfl rfl ?_
    refine aw_callV (M' := mX12_needs) (S := []) (as := [vI x2, vI x5]) (k := 0) dX12_buildableAfter_95 rfl (by decide) rfl rfl gw_1788 gw_1790 gw_51 mb_X12_needs rfl (Nat.zero_le _) (Nat.le_of_ble_eq_true rfl) rfl (CL.imp k (fun _ h5 k => ?_) (fun _ _ k => k))
    obtain ⟨r6, rfl, k⟩ := oI_of k
    show AW X (d + 1) rb mX12_buildableAfter 98 _ [vI r6] h5 Qr Qx
    refine aw_if_le 108 dX12_buildableAfter_98 rfl rfl (fun c => ?_) (fun c => ?_)
    · replace k := k.1 c
      refine aw_aload_n (j := 1) (i := 0) dX12_buildableAfter_108 rfl rfl rfl ?_
      refine aw_iload_n (j := 2) (i := 1) dX12_buildableAfter_109 rfl rfl rfl ?_
      refine aw_iload (j := 6) (i := 5) dX12_buildableAfter_110 rfl rfl ?_
      refine aw_callV (M' := mX12_needs) (S := []) (as := [vI x1, vI x5]) (k := 0) dX12_buildableAfter_112 rfl (by decide) rfl rfl gw_1788 gw_1790 gw_51 mb_X12_needs rfl (Nat.zero_le _) (Nat.le_of_ble_eq_true rfl) rfl (CL.imp k (fun _ h7 k => ?_) (fun _ _ k => k))
      obtain ⟨r8, rfl, k⟩ := oI_of k
      show AW X (d + 1) rb mX12_buildableAfter 115 _ [vI r8] h7 Qr Qx
      refine aw_if_le 135 dX12_buildableAfter_115 rfl rfl (fun c => ?_) (fun c => ?_)
      · replace k := k.1 c
        refine aw_iinc (i := 5) (j := 6) (v := x5 + 1) (L2 := [(5, vI (x5 + 1)), (6, vI (r2 - (x3 * r4))), (0, vR 12 0), (1, vI x1), (2, vI x2), (3, vI x3), (4, vI x4)]) dX12_buildableAfter_135 rfl (by decide) rfl rfl rfl ?_
        refine aw_goto 62 dX12_buildableAfter_138 rfl ?_
        exact aw_sub [2, 3, 4, 5, 6, 0] rfl k
      · replace k := k.2 c
        refine aw_iload (j := 5) (i := 4) dX12_buildableAfter_118 rfl rfl ?_
        refine aw_iload (j := 0) (i := 6) dX12_buildableAfter_120 rfl rfl ?_
        refine aw_aload_n (j := 1) (i := 0) dX12_buildableAfter_122 rfl rfl rfl ?_
        refine aw_iload_n (j := 2) (i := 1) dX12_buildableAfter_123 rfl rfl rfl ?_
        refine aw_iload (j := 6) (i := 5) dX12_buildableAfter_124 rfl rfl ?_
        refine aw_callV (M' := mX12_needs) (S := [vI (r2 - (x3 * r4)), vI x4]) (as := [vI x1, vI x5]) (k := 0) dX12_buildableAfter_126 rfl (by decide) rfl rfl gw_1788 gw_1790 gw_51 mb_X12_needs rfl (Nat.zero_le _) (Nat.le_of_ble_eq_true rfl) rfl (CL.imp k (fun _ h9 k => ?_) (fun _ _ k => k))
        obtain ⟨r10, rfl, k⟩ := oI_of k
        show AW X (d + 1) rb mX12_buildableAfter 129 _ [vI r10, vI (r2 - (x3 * r4)), vI x4] h9 Qr Qx
        refine aw_idiv dX12_buildableAfter_129 rfl k.1 ?_
        replace k := k.2
        refine aw_min dX12_buildableAfter_130 rfl gw_1862 gw_649 gw_104 gw_650 (Nat.le_of_ble_eq_true rfl) ?_
        refine aw_istore (i := 4) (L2 := [(4, vI (if ((r2 - (x3 * r4)) / r10) < x4 then ((r2 - (x3 * r4)) / r10) else x4)), (6, vI (r2 - (x3 * r4))), (0, vR 12 0), (1, vI x1), (2, vI x2), (3, vI x3), (5, vI x5)]) dX12_buildableAfter_133 rfl (by decide) rfl ?_
        refine aw_iinc (i := 5) (j := 6) (v := x5 + 1) (L2 := [(5, vI (x5 + 1)), (4, vI (if ((r2 - (x3 * r4)) / r10) < x4 then ((r2 - (x3 * r4)) / r10) else x4)), (6, vI (r2 - (x3 * r4))), (0, vR 12 0), (1, vI x1), (2, vI x2), (3, vI x3)]) dX12_buildableAfter_135 rfl (by decide) rfl rfl rfl ?_
        refine aw_goto 62 dX12_buildableAfter_138 rfl ?_
        exact aw_sub [3, 4, 5, 6, 1, 0] rfl k
    · replace k := k.2 c
      refine aw_iload (j := 0) (i := 6) dX12_buildableAfter_101 rfl rfl ?_
      refine aw_if_ge 108 dX12_buildableAfter_103 rfl rfl (fun c => ?_) (fun c => ?_)
      · replace k := k.1 c
        refine aw_aload_n (j := 1) (i := 0) dX12_buildableAfter_108 rfl rfl rfl ?_
        refine aw_iload_n (j := 2) (i := 1) dX12_buildableAfter_109 rfl rfl rfl ?_
        refine aw_iload (j := 6) (i := 5) dX12_buildableAfter_110 rfl rfl ?_
        refine aw_callV (M' := mX12_needs) (S := []) (as := [vI x1, vI x5]) (k := 0) dX12_buildableAfter_112 rfl (by decide) rfl rfl gw_1788 gw_1790 gw_51 mb_X12_needs rfl (Nat.zero_le _) (Nat.le_of_ble_eq_true rfl) rfl (CL.imp k (fun _ h11 k => ?_) (fun _ _ k => k))
        obtain ⟨r12, rfl, k⟩ := oI_of k
        show AW X (d + 1) rb mX12_buildableAfter 115 _ [vI r12] h11 Qr Qx
        refine aw_if_le 135 dX12_buildableAfter_115 rfl rfl (fun c => ?_) (fun c => ?_)
        · replace k := k.1 c
          refine aw_iinc (i := 5) (j := 6) (v := x5 + 1) (L2 := [(5, vI (x5 + 1)), (6, vI (r2 - (x3 * r4))), (0, vR 12 0), (1, vI x1), (2, vI x2), (3, vI x3), (4, vI x4)]) dX12_buildableAfter_135 rfl (by decide) rfl rfl rfl ?_
          refine aw_goto 62 dX12_buildableAfter_138 rfl ?_
          exact aw_sub [2, 3, 4, 5, 6, 0] rfl k
        · replace k := k.2 c
          refine aw_iload (j := 5) (i := 4) dX12_buildableAfter_118 rfl rfl ?_
          refine aw_iload (j := 0) (i := 6) dX12_buildableAfter_120 rfl rfl ?_
          refine aw_aload_n (j := 1) (i := 0) dX12_buildableAfter_122 rfl rfl rfl ?_
          refine aw_iload_n (j := 2) (i := 1) dX12_buildableAfter_123 rfl rfl rfl ?_
          refine aw_iload (j := 6) (i := 5) dX12_buildableAfter_124 rfl rfl ?_
          refine aw_callV (M' := mX12_needs) (S := [vI (r2 - (x3 * r4)), vI x4]) (as := [vI x1, vI x5]) (k := 0) dX12_buildableAfter_126 rfl (by decide) rfl rfl gw_1788 gw_1790 gw_51 mb_X12_needs rfl (Nat.zero_le _) (Nat.le_of_ble_eq_true rfl) rfl (CL.imp k (fun _ h13 k => ?_) (fun _ _ k => k))
          obtain ⟨r14, rfl, k⟩ := oI_of k
          show AW X (d + 1) rb mX12_buildableAfter 129 _ [vI r14, vI (r2 - (x3 * r4)), vI x4] h13 Qr Qx
          refine aw_idiv dX12_buildableAfter_129 rfl k.1 ?_
          replace k := k.2
          refine aw_min dX12_buildableAfter_130 rfl gw_1862 gw_649 gw_104 gw_650 (Nat.le_of_ble_eq_true rfl) ?_
          refine aw_istore (i := 4) (L2 := [(4, vI (if ((r2 - (x3 * r4)) / r14) < x4 then ((r2 - (x3 * r4)) / r14) else x4)), (6, vI (r2 - (x3 * r4))), (0, vR 12 0), (1, vI x1), (2, vI x2), (3, vI x3), (5, vI x5)]) dX12_buildableAfter_133 rfl (by decide) rfl ?_
          refine aw_iinc (i := 5) (j := 6) (v := x5 + 1) (L2 := [(5, vI (x5 + 1)), (4, vI (if ((r2 - (x3 * r4)) / r14) < x4 then ((r2 - (x3 * r4)) / r14) else x4)), (6, vI (r2 - (x3 * r4))), (0, vR 12 0), (1, vI x1), (2, vI x2), (3, vI x3)]) dX12_buildableAfter_135 rfl (by decide) rfl rfl rfl ?_
          refine aw_goto 62 dX12_buildableAfter_138 rfl ?_
          exact aw_sub [3, 4, 5, 6, 1, 0] rfl k
      · replace k := k.2 c
        refine aw_iconst (v := (-1)) dX12_buildableAfter_106 rfl (by decide) ?_
        exact aw_iret dX12_buildableAfter_107 rfl k
set_option maxHeartbeats 4000000 in
set_option maxRecDepth 100000 in
theorem vc_X12_coveredOrders_0 {X : WD → State → Prop} {d rb : Nat} {h : Hp} {Qr : Option AV → Hp → Prop} {Qx : String → Hp → Prop}   (k : AW X (d + 1) rb mX12_coveredOrders 7 [(0, vR 12 0), (1, vI 0)] [] (hp_i h 12 0 0 0) Qr Qx) : AW X (d + 1) rb mX12_coveredOrders 0 [(0, vR 12 0)] [] h Qr Qx := by
  refine aw_aload_n (j := 0) (i := 0) dX12_coveredOrders_0 rfl rfl rfl ?_
  refine aw_iconst (v := 0) dX12_coveredOrders_1 rfl (by decide) ?_
  refine aw_puti (k := 0) dX12_coveredOrders_2 rfl (by decide) rfl rfl cb_12 (by decide) rfl rfl gw_1594 ?_
  refine aw_iconst (v := 0) dX12_coveredOrders_5 rfl (by decide) ?_
  refine aw_istore_n (i := 1) (L2 := [(1, vI 0), (0, vR 12 0)]) dX12_coveredOrders_6 rfl rfl (by decide) rfl ?_
  exact aw_sub [1, 0] rfl k
set_option maxHeartbeats 4000000 in
set_option maxRecDepth 100000 in
theorem vc_X12_coveredOrders_7 {X : WD → State → Prop} {d rb : Nat} {h : Hp} {Qr : Option AV → Hp → Prop} {Qx : String → Hp → Prop} {x1 : Int32}  (k : ((12 ≤ x1) → CL 0 d mX12_nextOpen [vR 12 0, vI 0] h (oI fun r2 h1 => AW X (d + 1) rb mX12_coveredOrders 40 [(0, vR 12 0), (1, vI 0), (2, vI 0), (3, vI r2)] [] h1 Qr Qx) Qx) ∧ ((¬ 12 ≤ x1) → CL 0 d mX12_free [vR 12 0, vI x1] h (oI fun r4 h3 => (vp_in x1 12) ∧ AW X (d + 1) rb mX12_coveredOrders 7 [(0, vR 12 0), (1, vI (x1 + 1))] [] (hp_i h3 60 0 x1.toNatClampNeg r4) Qr Qx) Qx)) : AW X (d + 1) rb mX12_coveredOrders 7 [(0, vR 12 0), (1, vI x1)] [] h Qr Qx := by
  refine aw_iload_n (j := 1) (i := 1) dX12_coveredOrders_7 rfl rfl rfl ?_
  refine aw_bipush (v := 12) dX12_coveredOrders_8 rfl (by decide) ?_
  refine aw_icmp_ge 30 dX12_coveredOrders_10 rfl rfl (fun c => ?_) (fun c => ?_)
  · replace k := k.1 c
    refine aw_iconst (v := 0) dX12_coveredOrders_30 rfl (by decide) ?_
    refine aw_istore_n (i := 1) (L2 := [(1, vI 0), (0, vR 12 0)]) dX12_coveredOrders_31 rfl rfl (by decide) rfl ?_
    refine aw_iconst (v := 0) dX12_coveredOrders_32 rfl (by decide) ?_
    refine aw_istore_n (i := 2) (L2 := [(2, vI 0), (1, vI 0), (0, vR 12 0)]) dX12_coveredOrders_33 rfl rfl (by decide) rfl ?_
    refine aw_aload_n (j := 2) (i := 0) dX12_coveredOrders_34 rfl rfl rfl ?_
    refine aw_iload_n (j := 0) (i := 2) dX12_coveredOrders_35 rfl rfl rfl ?_
    refine aw_callV (M' := mX12_nextOpen) (S := []) (as := [vI 0]) (k := 0) dX12_coveredOrders_36 rfl (by decide) rfl rfl gw_1987 gw_1989 gw_70 mb_X12_nextOpen rfl (Nat.zero_le _) (Nat.le_of_ble_eq_true rfl) rfl (CL.imp k (fun _ h1 k => ?_) (fun _ _ k => k))
    obtain ⟨r2, rfl, k⟩ := oI_of k
    show AW X (d + 1) rb mX12_coveredOrders 39 _ [vI r2] h1 Qr Qx
    refine aw_istore_n (i := 3) (L2 := [(3, vI r2), (2, vI 0), (1, vI 0), (0, vR 12 0)]) dX12_coveredOrders_39 rfl rfl (by decide) rfl ?_
    exact aw_sub [3, 2, 1, 0] rfl k
  · replace k := k.2 c
    refine aw_aload_n (j := 0) (i := 0) dX12_coveredOrders_13 rfl rfl rfl ?_
    refine aw_getf (k := 17) (z := 60) dX12_coveredOrders_14 rfl (by decide) rfl rfl rfl cb_12 (by decide) gw_1611 ?_
    refine aw_iload_n (j := 1) (i := 1) dX12_coveredOrders_17 rfl rfl rfl ?_
    refine aw_aload_n (j := 0) (i := 0) dX12_coveredOrders_18 rfl rfl rfl ?_
    refine aw_iload_n (j := 1) (i := 1) dX12_coveredOrders_19 rfl rfl rfl ?_
    refine aw_callV (M' := mX12_free) (S := [vI x1, vR 60 0]) (as := [vI x1]) (k := 0) dX12_coveredOrders_20 rfl (by decide) rfl rfl gw_1850 gw_1852 gw_56 mb_X12_free rfl (Nat.zero_le _) (Nat.le_of_ble_eq_true rfl) rfl (CL.imp k (fun _ h3 k => ?_) (fun _ _ k => k))
    obtain ⟨r4, rfl, k⟩ := oI_of k
    show AW X (d + 1) rb mX12_coveredOrders 23 _ [vI r4, vI x1, vR 60 0] h3 Qr Qx
    refine aw_iast dX12_coveredOrders_23 rfl (by decide) rfl k.1 ?_
    replace k := k.2
    refine aw_iinc (i := 1) (j := 1) (v := x1 + 1) (L2 := [(1, vI (x1 + 1)), (0, vR 12 0)]) dX12_coveredOrders_24 rfl (by decide) rfl rfl rfl ?_
    refine aw_goto 7 dX12_coveredOrders_27 rfl ?_
    exact aw_sub [1, 0] rfl k
set_option maxHeartbeats 4000000 in
set_option maxRecDepth 100000 in
theorem vc_X12_coveredOrders_40 {X : WD → State → Prop} {d rb : Nat} {h : Hp} {Qr : Option AV → Hp → Prop} {Qx : String → Hp → Prop} {x1 : Int32} {x2 : Int32} {x3 : Int32}  (k : ((x3 = (-1)) → Qr (some (vI x1)) h) ∧ ((¬ x3 = (-1)) → CL 0 d mX12_isCovered [vR 12 0, vI x3] h (oI fun r2 h1 => ((r2 = 0) → CL 0 d mX12_nextOpen [vR 12 0, vI (x2 ||| (1 <<< (x3 &&& 31)))] h1 (oI fun r4 h3 => AW X (d + 1) rb mX12_coveredOrders 40 [(0, vR 12 0), (1, vI x1), (2, vI (x2 ||| (1 <<< (x3 &&& 31)))), (3, vI r4)] [] h3 Qr Qx) Qx) ∧ ((¬ r2 = 0) → CL 0 d mX12_nextOpen [vR 12 0, vI (x2 ||| (1 <<< (x3 &&& 31)))] h1 (oI fun r6 h5 => AW X (d + 1) rb mX12_coveredOrders 40 [(0, vR 12 0), (1, vI (x1 ||| (1 <<< (x3 &&& 31)))), (2, vI (x2 ||| (1 <<< (x3 &&& 31)))), (3, vI r6)] [] h5 Qr Qx) Qx)) Qx)) : AW X (d + 1) rb mX12_coveredOrders 40 [(0, vR 12 0), (1, vI x1), (2, vI x2), (3, vI x3)] [] h Qr Qx := by
  refine aw_iload_n (j := 3) (i := 3) dX12_coveredOrders_40 rfl rfl rfl ?_
  refine aw_iconst (v := (-1)) dX12_coveredOrders_41 rfl (by decide) ?_
  refine aw_icmp_eq 74 dX12_coveredOrders_42 rfl rfl (fun c => ?_) (fun c => ?_)
  · replace k := k.1 c
    refine aw_iload_n (j := 1) (i := 1) dX12_coveredOrders_74 rfl rfl rfl ?_
    exact aw_iret dX12_coveredOrders_75 rfl k
  · replace k := k.2 c
    refine aw_iload_n (j := 2) (i := 2) dX12_coveredOrders_45 rfl rfl rfl ?_
    refine aw_iconst (v := 1) dX12_coveredOrders_46 rfl (by decide) ?_
    refine aw_iload_n (j := 3) (i := 3) dX12_coveredOrders_47 rfl rfl rfl ?_
    refine aw_ishl dX12_coveredOrders_48 rfl ?_
    refine aw_ior dX12_coveredOrders_49 rfl ?_
    refine aw_istore_n (i := 2) (L2 := [(2, vI (x2 ||| (1 <<< (x3 &&& 31)))), (0, vR 12 0), (1, vI x1), (3, vI x3)]) dX12_coveredOrders_50 rfl rfl (by decide) rfl ?_
    refine aw_aload_n (j := 1) (i := 0) dX12_coveredOrders_51 rfl rfl rfl ?_
    refine aw_iload_n (j := 3) (i := 3) dX12_coveredOrders_52 rfl rfl rfl ?_
    refine aw_callV (M' := mX12_isCovered) (S := []) (as := [vI x3]) (k := 0) dX12_coveredOrders_53 rfl (by decide) rfl rfl gw_1991 gw_1993 gw_71 mb_X12_isCovered rfl (Nat.zero_le _) (Nat.le_of_ble_eq_true rfl) rfl (CL.imp k (fun _ h1 k => ?_) (fun _ _ k => k))
    obtain ⟨r2, rfl, k⟩ := oI_of k
    show AW X (d + 1) rb mX12_coveredOrders 56 _ [vI r2] h1 Qr Qx
    refine aw_if_eq 65 dX12_coveredOrders_56 rfl rfl (fun c => ?_) (fun c => ?_)
    · replace k := k.1 c
      refine aw_aload_n (j := 1) (i := 0) dX12_coveredOrders_65 rfl rfl rfl ?_
      refine aw_iload_n (j := 0) (i := 2) dX12_coveredOrders_66 rfl rfl rfl ?_
      refine aw_callV (M' := mX12_nextOpen) (S := []) (as := [vI (x2 ||| (1 <<< (x3 &&& 31)))]) (k := 0) dX12_coveredOrders_67 rfl (by decide) rfl rfl gw_1987 gw_1989 gw_70 mb_X12_nextOpen rfl (Nat.zero_le _) (Nat.le_of_ble_eq_true rfl) rfl (CL.imp k (fun _ h3 k => ?_) (fun _ _ k => k))
      obtain ⟨r4, rfl, k⟩ := oI_of k
      show AW X (d + 1) rb mX12_coveredOrders 70 _ [vI r4] h3 Qr Qx
      refine aw_istore_n (i := 3) (L2 := [(3, vI r4), (2, vI (x2 ||| (1 <<< (x3 &&& 31)))), (0, vR 12 0), (1, vI x1)]) dX12_coveredOrders_70 rfl rfl (by decide) rfl ?_
      refine aw_goto 40 dX12_coveredOrders_71 rfl ?_
      exact aw_sub [2, 3, 1, 0] rfl k
    · replace k := k.2 c
      refine aw_iload_n (j := 2) (i := 1) dX12_coveredOrders_59 rfl rfl rfl ?_
      refine aw_iconst (v := 1) dX12_coveredOrders_60 rfl (by decide) ?_
      refine aw_iload_n (j := 3) (i := 3) dX12_coveredOrders_61 rfl rfl rfl ?_
      refine aw_ishl dX12_coveredOrders_62 rfl ?_
      refine aw_ior dX12_coveredOrders_63 rfl ?_
      refine aw_istore_n (i := 1) (L2 := [(1, vI (x1 ||| (1 <<< (x3 &&& 31)))), (2, vI (x2 ||| (1 <<< (x3 &&& 31)))), (0, vR 12 0), (3, vI x3)]) dX12_coveredOrders_64 rfl rfl (by decide) rfl ?_
      refine aw_aload_n (j := 2) (i := 0) dX12_coveredOrders_65 rfl rfl rfl ?_
      refine aw_iload_n (j := 1) (i := 2) dX12_coveredOrders_66 rfl rfl rfl ?_
      refine aw_callV (M' := mX12_nextOpen) (S := []) (as := [vI (x2 ||| (1 <<< (x3 &&& 31)))]) (k := 0) dX12_coveredOrders_67 rfl (by decide) rfl rfl gw_1987 gw_1989 gw_70 mb_X12_nextOpen rfl (Nat.zero_le _) (Nat.le_of_ble_eq_true rfl) rfl (CL.imp k (fun _ h5 k => ?_) (fun _ _ k => k))
      obtain ⟨r6, rfl, k⟩ := oI_of k
      show AW X (d + 1) rb mX12_coveredOrders 70 _ [vI r6] h5 Qr Qx
      refine aw_istore_n (i := 3) (L2 := [(3, vI r6), (1, vI (x1 ||| (1 <<< (x3 &&& 31)))), (2, vI (x2 ||| (1 <<< (x3 &&& 31)))), (0, vR 12 0)]) dX12_coveredOrders_70 rfl rfl (by decide) rfl ?_
      refine aw_goto 40 dX12_coveredOrders_71 rfl ?_
      exact aw_sub [3, 1, 2, 0] rfl k
set_option maxHeartbeats 4000000 in
set_option maxRecDepth 100000 in
theorem vc_X12_nextOpen_0 {X : WD → State → Prop} {d rb : Nat} {h : Hp} {Qr : Option AV → Hp → Prop} {Qx : String → Hp → Prop} {a1 : Int32}  (k : AW X (d + 1) rb mX12_nextOpen 4 [(0, vR 12 0), (1, vI a1), (2, vI (-1)), (3, vI 0)] [] h Qr Qx) : AW X (d + 1) rb mX12_nextOpen 0 [(0, vR 12 0), (1, vI a1)] [] h Qr Qx := by
  refine aw_iconst (v := (-1)) dX12_nextOpen_0 rfl (by decide) ?_
  refine aw_istore_n (i := 2) (L2 := [(2, vI (-1)), (0, vR 12 0), (1, vI a1)]) dX12_nextOpen_1 rfl rfl (by decide) rfl ?_
  refine aw_iconst (v := 0) dX12_nextOpen_2 rfl (by decide) ?_
  refine aw_istore_n (i := 3) (L2 := [(3, vI 0), (2, vI (-1)), (0, vR 12 0), (1, vI a1)]) dX12_nextOpen_3 rfl rfl (by decide) rfl ?_
  exact aw_sub [2, 3, 1, 0] rfl k
set_option maxHeartbeats 4000000 in
set_option maxRecDepth 100000 in
theorem vc_X12_nextOpen_4 {X : WD → State → Prop} {d rb : Nat} {h : Hp} {Qr : Option AV → Hp → Prop} {Qx : String → Hp → Prop} {x1 : Int32} {x2 : Int32} {x3 : Int32}  (k : (((h.1 58 0 1) ≤ x3) → Qr (some (vI x2)) h) ∧ ((¬ (h.1 58 0 1) ≤ x3) → ((¬ ((x1 >>> (x3 &&& 31)) &&& 1) = 0) → AW X (d + 1) rb mX12_nextOpen 4 [(0, vR 12 0), (1, vI x1), (2, vI x2), (3, vI (x3 + 1))] [] h Qr Qx) ∧ ((((x1 >>> (x3 &&& 31)) &&& 1) = 0) → CL 0 d mX12_open [vR 12 0, vI x3] h (oI fun r2 h1 => ((r2 ≤ 0) → AW X (d + 1) rb mX12_nextOpen 4 [(0, vR 12 0), (1, vI x1), (2, vI x2), (3, vI (x3 + 1))] [] h1 Qr Qx) ∧ ((¬ r2 ≤ 0) → ((x2 = (-1)) → AW X (d + 1) rb mX12_nextOpen 4 [(0, vR 12 0), (1, vI x1), (2, vI x3), (3, vI (x3 + 1))] [] h1 Qr Qx) ∧ ((¬ x2 = (-1)) → CL 0 d mX12_isAhead [vR 12 0, vI x3, vI x2] h1 (oI fun r4 h3 => ((r4 = 0) → AW X (d + 1) rb mX12_nextOpen 4 [(0, vR 12 0), (1, vI x1), (2, vI x2), (3, vI (x3 + 1))] [] h3 Qr Qx) ∧ ((¬ r4 = 0) → AW X (d + 1) rb mX12_nextOpen 4 [(0, vR 12 0), (1, vI x1), (2, vI x3), (3, vI (x3 + 1))] [] h3 Qr Qx)) Qx))) Qx))) : AW X (d + 1) rb mX12_nextOpen 4 [(0, vR 12 0), (1, vI x1), (2, vI x2), (3, vI x3)] [] h Qr Qx := by
  refine aw_iload_n (j := 3) (i := 3) dX12_nextOpen_4 rfl rfl rfl ?_
  refine aw_aload_n (j := 0) (i := 0) dX12_nextOpen_5 rfl rfl rfl ?_
  refine aw_getf (k := 14) (z := 58) dX12_nextOpen_6 rfl (by decide) rfl rfl rfl cb_12 (by decide) gw_1608 ?_
  refine aw_iconst (v := 1) dX12_nextOpen_9 rfl (by decide) ?_
  refine aw_iald dX12_nextOpen_10 rfl (by decide) rfl (by unfold vp_in; decide) ?_
  refine aw_icmp_ge 52 dX12_nextOpen_11 rfl rfl (fun c => ?_) (fun c => ?_)
  · replace k := k.1 c
    refine aw_iload_n (j := 2) (i := 2) dX12_nextOpen_52 rfl rfl rfl ?_
    exact aw_iret dX12_nextOpen_53 rfl k
  · replace k := k.2 c
    refine aw_iload_n (j := 1) (i := 1) dX12_nextOpen_14 rfl rfl rfl ?_
    refine aw_iload_n (j := 3) (i := 3) dX12_nextOpen_15 rfl rfl rfl ?_
    refine aw_ishr dX12_nextOpen_16 rfl ?_
    refine aw_iconst (v := 1) dX12_nextOpen_17 rfl (by decide) ?_
    refine aw_iand dX12_nextOpen_18 rfl ?_
    refine aw_if_ne 46 dX12_nextOpen_19 rfl rfl (fun c => ?_) (fun c => ?_)
    · replace k := k.1 c
      refine aw_iinc (i := 3) (j := 3) (v := x3 + 1) (L2 := [(3, vI (x3 + 1)), (0, vR 12 0), (1, vI x1), (2, vI x2)]) dX12_nextOpen_46 rfl (by decide) rfl rfl rfl ?_
      refine aw_goto 4 dX12_nextOpen_49 rfl ?_
      exact aw_sub [1, 2, 3, 0] rfl k
    · replace k := k.2 c
      refine aw_aload_n (j := 0) (i := 0) dX12_nextOpen_22 rfl rfl rfl ?_
      refine aw_iload_n (j := 3) (i := 3) dX12_nextOpen_23 rfl rfl rfl ?_
      refine aw_callV (M' := mX12_open) (S := []) (as := [vI x3]) (k := 0) dX12_nextOpen_24 rfl (by decide) rfl rfl gw_1875 gw_1877 gw_59 mb_X12_open rfl (Nat.zero_le _) (Nat.le_of_ble_eq_true rfl) rfl (CL.imp k (fun _ h1 k => ?_) (fun _ _ k => k))
      obtain ⟨r2, rfl, k⟩ := oI_of k
      show AW X (d + 1) rb mX12_nextOpen 27 _ [vI r2] h1 Qr Qx
      refine aw_if_le 46 dX12_nextOpen_27 rfl rfl (fun c => ?_) (fun c => ?_)
      · replace k := k.1 c
        refine aw_iinc (i := 3) (j := 3) (v := x3 + 1) (L2 := [(3, vI (x3 + 1)), (0, vR 12 0), (1, vI x1), (2, vI x2)]) dX12_nextOpen_46 rfl (by decide) rfl rfl rfl ?_
        refine aw_goto 4 dX12_nextOpen_49 rfl ?_
        exact aw_sub [1, 2, 3, 0] rfl k
      · replace k := k.2 c
        refine aw_iload_n (j := 2) (i := 2) dX12_nextOpen_30 rfl rfl rfl ?_
        refine aw_iconst (v := (-1)) dX12_nextOpen_31 rfl (by decide) ?_
        refine aw_icmp_eq 44 dX12_nextOpen_32 rfl rfl (fun c => ?_) (fun c => ?_)
        · replace k := k.1 c
          refine aw_iload_n (j := 3) (i := 3) dX12_nextOpen_44 rfl rfl rfl ?_
          refine aw_istore_n (i := 2) (L2 := [(2, vI x3), (0, vR 12 0), (1, vI x1), (3, vI x3)]) dX12_nextOpen_45 rfl rfl (by decide) rfl ?_
          refine aw_iinc (i := 3) (j := 3) (v := x3 + 1) (L2 := [(3, vI (x3 + 1)), (2, vI x3), (0, vR 12 0), (1, vI x1)]) dX12_nextOpen_46 rfl (by decide) rfl rfl rfl ?_
          refine aw_goto 4 dX12_nextOpen_49 rfl ?_
          exact aw_sub [2, 3, 1, 0] rfl k
        · replace k := k.2 c
          refine aw_aload_n (j := 0) (i := 0) dX12_nextOpen_35 rfl rfl rfl ?_
          refine aw_iload_n (j := 3) (i := 3) dX12_nextOpen_36 rfl rfl rfl ?_
          refine aw_iload_n (j := 2) (i := 2) dX12_nextOpen_37 rfl rfl rfl ?_
          refine aw_callV (M' := mX12_isAhead) (S := []) (as := [vI x3, vI x2]) (k := 0) dX12_nextOpen_38 rfl (by decide) rfl rfl gw_1955 gw_1957 gw_67 mb_X12_isAhead rfl (Nat.zero_le _) (Nat.le_of_ble_eq_true rfl) rfl (CL.imp k (fun _ h3 k => ?_) (fun _ _ k => k))
          obtain ⟨r4, rfl, k⟩ := oI_of k
          show AW X (d + 1) rb mX12_nextOpen 41 _ [vI r4] h3 Qr Qx
          refine aw_if_eq 46 dX12_nextOpen_41 rfl rfl (fun c => ?_) (fun c => ?_)
          · replace k := k.1 c
            refine aw_iinc (i := 3) (j := 3) (v := x3 + 1) (L2 := [(3, vI (x3 + 1)), (0, vR 12 0), (1, vI x1), (2, vI x2)]) dX12_nextOpen_46 rfl (by decide) rfl rfl rfl ?_
            refine aw_goto 4 dX12_nextOpen_49 rfl ?_
            exact aw_sub [1, 2, 3, 0] rfl k
          · replace k := k.2 c
            refine aw_iload_n (j := 3) (i := 3) dX12_nextOpen_44 rfl rfl rfl ?_
            refine aw_istore_n (i := 2) (L2 := [(2, vI x3), (0, vR 12 0), (1, vI x1), (3, vI x3)]) dX12_nextOpen_45 rfl rfl (by decide) rfl ?_
            refine aw_iinc (i := 3) (j := 3) (v := x3 + 1) (L2 := [(3, vI (x3 + 1)), (2, vI x3), (0, vR 12 0), (1, vI x1)]) dX12_nextOpen_46 rfl (by decide) rfl rfl rfl ?_
            refine aw_goto 4 dX12_nextOpen_49 rfl ?_
            exact aw_sub [2, 3, 1, 0] rfl k
set_option maxHeartbeats 4000000 in
set_option maxRecDepth 100000 in
theorem vc_X12_isCovered_0 {X : WD → State → Prop} {d rb : Nat} {h : Hp} {Qr : Option AV → Hp → Prop} {Qx : String → Hp → Prop} {a1 : Int32}  (k : AW X (d + 1) rb mX12_isCovered 2 [(0, vR 12 0), (1, vI a1), (2, vI 0)] [] h Qr Qx) : AW X (d + 1) rb mX12_isCovered 0 [(0, vR 12 0), (1, vI a1)] [] h Qr Qx := by
  refine aw_iconst (v := 0) dX12_isCovered_0 rfl (by decide) ?_
  refine aw_istore_n (i := 2) (L2 := [(2, vI 0), (0, vR 12 0), (1, vI a1)]) dX12_isCovered_1 rfl rfl (by decide) rfl ?_
  exact aw_sub [1, 2, 0] rfl k
set_option maxHeartbeats 4000000 in
set_option maxRecDepth 100000 in
theorem vc_X12_isCovered_2 {X : WD → State → Prop} {d rb : Nat} {h : Hp} {Qr : Option AV → Hp → Prop} {Qx : String → Hp → Prop} {x1 : Int32} {x2 : Int32}  (k : (((h.1 56 0 0) ≤ x2) → AW X (d + 1) rb mX12_isCovered 48 [(0, vR 12 0), (1, vI x1), (2, vI 0)] [] h Qr Qx) ∧ ((¬ (h.1 56 0 0) ≤ x2) → CL 0 d mX12_open [vR 12 0, vI x1] h (oI fun r2 h1 => CL 0 d mX12_of [vR 12 0, vI x1, vI 0] h1 (oI fun r4 h3 => CL 0 d mX12_needs [vR 12 0, vI r4, vI x2] h3 (oI fun r6 h5 => (vp_in x2 12) ∧ (((r2 * r6) ≤ (h5.1 60 0 x2.toNatClampNeg)) → AW X (d + 1) rb mX12_isCovered 2 [(0, vR 12 0), (1, vI x1), (2, vI (x2 + 1))] [] h5 Qr Qx) ∧ ((¬ (r2 * r6) ≤ (h5.1 60 0 x2.toNatClampNeg)) → Qr (some (vI 0)) h5)) Qx) Qx) Qx)) : AW X (d + 1) rb mX12_isCovered 2 [(0, vR 12 0), (1, vI x1), (2, vI x2)] [] h Qr Qx := by
  refine aw_iload_n (j := 2) (i := 2) dX12_isCovered_2 rfl rfl rfl ?_
  refine aw_aload_n (j := 0) (i := 0) dX12_isCovered_3 rfl rfl rfl ?_
  refine aw_getf (k := 11) (z := 56) dX12_isCovered_4 rfl (by decide) rfl rfl rfl cb_12 (by decide) gw_1605 ?_
  refine aw_iconst (v := 0) dX12_isCovered_7 rfl (by decide) ?_
  refine aw_iald dX12_isCovered_8 rfl (by decide) rfl (by unfold vp_in; decide) ?_
  refine aw_icmp_ge 46 dX12_isCovered_9 rfl rfl (fun c => ?_) (fun c => ?_)
  · replace k := k.1 c
    refine aw_iconst (v := 0) dX12_isCovered_46 rfl (by decide) ?_
    refine aw_istore_n (i := 2) (L2 := [(2, vI 0), (0, vR 12 0), (1, vI x1)]) dX12_isCovered_47 rfl rfl (by decide) rfl ?_
    exact aw_sub [1, 2, 0] rfl k
  · replace k := k.2 c
    refine aw_aload_n (j := 0) (i := 0) dX12_isCovered_12 rfl rfl rfl ?_
    refine aw_iload_n (j := 1) (i := 1) dX12_isCovered_13 rfl rfl rfl ?_
    refine aw_callV (M' := mX12_open) (S := []) (as := [vI x1]) (k := 0) dX12_isCovered_14 rfl (by decide) rfl rfl gw_1875 gw_1877 gw_59 mb_X12_open rfl (Nat.zero_le _) (Nat.le_of_ble_eq_true rfl) rfl (CL.imp k (fun _ h1 k => ?_) (fun _ _ k => k))
    obtain ⟨r2, rfl, k⟩ := oI_of k
    show AW X (d + 1) rb mX12_isCovered 17 _ [vI r2] h1 Qr Qx
    refine aw_aload_n (j := 0) (i := 0) dX12_isCovered_17 rfl rfl rfl ?_
    refine aw_aload_n (j := 0) (i := 0) dX12_isCovered_18 rfl rfl rfl ?_
    refine aw_iload_n (j := 1) (i := 1) dX12_isCovered_19 rfl rfl rfl ?_
    refine aw_iconst (v := 0) dX12_isCovered_20 rfl (by decide) ?_
    refine aw_callV (M' := mX12_of) (S := [vR 12 0, vI r2]) (as := [vI x1, vI 0]) (k := 0) dX12_isCovered_21 rfl (by decide) rfl rfl gw_1871 gw_1873 gw_58 mb_X12_of rfl (Nat.zero_le _) (Nat.le_of_ble_eq_true rfl) rfl (CL.imp k (fun _ h3 k => ?_) (fun _ _ k => k))
    obtain ⟨r4, rfl, k⟩ := oI_of k
    show AW X (d + 1) rb mX12_isCovered 24 _ [vI r4, vR 12 0, vI r2] h3 Qr Qx
    refine aw_iload_n (j := 2) (i := 2) dX12_isCovered_24 rfl rfl rfl ?_
    refine aw_callV (M' := mX12_needs) (S := [vI r2]) (as := [vI r4, vI x2]) (k := 0) dX12_isCovered_25 rfl (by decide) rfl rfl gw_1788 gw_1790 gw_51 mb_X12_needs rfl (Nat.zero_le _) (Nat.le_of_ble_eq_true rfl) rfl (CL.imp k (fun _ h5 k => ?_) (fun _ _ k => k))
    obtain ⟨r6, rfl, k⟩ := oI_of k
    show AW X (d + 1) rb mX12_isCovered 28 _ [vI r6, vI r2] h5 Qr Qx
    refine aw_imul dX12_isCovered_28 rfl ?_
    refine aw_aload_n (j := 0) (i := 0) dX12_isCovered_29 rfl rfl rfl ?_
    refine aw_getf (k := 17) (z := 60) dX12_isCovered_30 rfl (by decide) rfl rfl rfl cb_12 (by decide) gw_1611 ?_
    refine aw_iload_n (j := 2) (i := 2) dX12_isCovered_33 rfl rfl rfl ?_
    refine aw_iald dX12_isCovered_34 rfl (by decide) rfl k.1 ?_
    replace k := k.2
    refine aw_icmp_le 40 dX12_isCovered_35 rfl rfl (fun c => ?_) (fun c => ?_)
    · replace k := k.1 c
      refine aw_iinc (i := 2) (j := 2) (v := x2 + 1) (L2 := [(2, vI (x2 + 1)), (0, vR 12 0), (1, vI x1)]) dX12_isCovered_40 rfl (by decide) rfl rfl rfl ?_
      refine aw_goto 2 dX12_isCovered_43 rfl ?_
      exact aw_sub [1, 2, 0] rfl k
    · replace k := k.2 c
      refine aw_iconst (v := 0) dX12_isCovered_38 rfl (by decide) ?_
      exact aw_zret dX12_isCovered_39 rfl (by decide) k
set_option maxHeartbeats 4000000 in
set_option maxRecDepth 100000 in
theorem vc_X12_isCovered_48 {X : WD → State → Prop} {d rb : Nat} {h : Hp} {Qr : Option AV → Hp → Prop} {Qx : String → Hp → Prop} {x1 : Int32} {x2 : Int32}  (k : (((h.1 56 0 0) ≤ x2) → Qr (some (vI 1)) h) ∧ ((¬ (h.1 56 0 0) ≤ x2) → (vp_in x2 12) ∧ CL 0 d mX12_open [vR 12 0, vI x1] h (oI fun r2 h1 => CL 0 d mX12_of [vR 12 0, vI x1, vI 0] h1 (oI fun r4 h3 => CL 0 d mX12_needs [vR 12 0, vI r4, vI x2] h3 (oI fun r6 h5 => (vp_in x2 12) ∧ AW X (d + 1) rb mX12_isCovered 48 [(0, vR 12 0), (1, vI x1), (2, vI (x2 + 1))] [] (hp_i h5 60 0 x2.toNatClampNeg ((h.1 60 0 x2.toNatClampNeg) - (r2 * r6))) Qr Qx) Qx) Qx) Qx)) : AW X (d + 1) rb mX12_isCovered 48 [(0, vR 12 0), (1, vI x1), (2, vI x2)] [] h Qr Qx := by
  refine aw_iload_n (j := 2) (i := 2) dX12_isCovered_48 rfl rfl rfl ?_
  refine aw_aload_n (j := 0) (i := 0) dX12_isCovered_49 rfl rfl rfl ?_
  refine aw_getf (k := 11) (z := 56) dX12_isCovered_50 rfl (by decide) rfl rfl rfl cb_12 (by decide) gw_1605 ?_
  refine aw_iconst (v := 0) dX12_isCovered_53 rfl (by decide) ?_
  refine aw_iald dX12_isCovered_54 rfl (by decide) rfl (by unfold vp_in; decide) ?_
  refine aw_icmp_ge 90 dX12_isCovered_55 rfl rfl (fun c => ?_) (fun c => ?_)
  · replace k := k.1 c
    refine aw_iconst (v := 1) dX12_isCovered_90 rfl (by decide) ?_
    exact aw_zret dX12_isCovered_91 rfl (by decide) k
  · replace k := k.2 c
    refine aw_aload_n (j := 0) (i := 0) dX12_isCovered_58 rfl rfl rfl ?_
    refine aw_getf (k := 17) (z := 60) dX12_isCovered_59 rfl (by decide) rfl rfl rfl cb_12 (by decide) gw_1611 ?_
    refine aw_iload_n (j := 2) (i := 2) dX12_isCovered_62 rfl rfl rfl ?_
    refine aw_dup2 dX12_isCovered_63 rfl rfl rfl ?_
    refine aw_iald dX12_isCovered_64 rfl (by decide) rfl k.1 ?_
    replace k := k.2
    refine aw_aload_n (j := 0) (i := 0) dX12_isCovered_65 rfl rfl rfl ?_
    refine aw_iload_n (j := 1) (i := 1) dX12_isCovered_66 rfl rfl rfl ?_
    refine aw_callV (M' := mX12_open) (S := [vI (h.1 60 0 x2.toNatClampNeg), vI x2, vR 60 0]) (as := [vI x1]) (k := 0) dX12_isCovered_67 rfl (by decide) rfl rfl gw_1875 gw_1877 gw_59 mb_X12_open rfl (Nat.zero_le _) (Nat.le_of_ble_eq_true rfl) rfl (CL.imp k (fun _ h1 k => ?_) (fun _ _ k => k))
    obtain ⟨r2, rfl, k⟩ := oI_of k
    show AW X (d + 1) rb mX12_isCovered 70 _ [vI r2, vI (h.1 60 0 x2.toNatClampNeg), vI x2, vR 60 0] h1 Qr Qx
    refine aw_aload_n (j := 0) (i := 0) dX12_isCovered_70 rfl rfl rfl ?_
    refine aw_aload_n (j := 0) (i := 0) dX12_isCovered_71 rfl rfl rfl ?_
    refine aw_iload_n (j := 1) (i := 1) dX12_isCovered_72 rfl rfl rfl ?_
    refine aw_iconst (v := 0) dX12_isCovered_73 rfl (by decide) ?_
    refine aw_callV (M' := mX12_of) (S := [vR 12 0, vI r2, vI (h.1 60 0 x2.toNatClampNeg), vI x2, vR 60 0]) (as := [vI x1, vI 0]) (k := 0) dX12_isCovered_74 rfl (by decide) rfl rfl gw_1871 gw_1873 gw_58 mb_X12_of rfl (Nat.zero_le _) (Nat.le_of_ble_eq_true rfl) rfl (CL.imp k (fun _ h3 k => ?_) (fun _ _ k => k))
    obtain ⟨r4, rfl, k⟩ := oI_of k
    show AW X (d + 1) rb mX12_isCovered 77 _ [vI r4, vR 12 0, vI r2, vI (h.1 60 0 x2.toNatClampNeg), vI x2, vR 60 0] h3 Qr Qx
    refine aw_iload_n (j := 2) (i := 2) dX12_isCovered_77 rfl rfl rfl ?_
    refine aw_callV (M' := mX12_needs) (S := [vI r2, vI (h.1 60 0 x2.toNatClampNeg), vI x2, vR 60 0]) (as := [vI r4, vI x2]) (k := 0) dX12_isCovered_78 rfl (by decide) rfl rfl gw_1788 gw_1790 gw_51 mb_X12_needs rfl (Nat.zero_le _) (Nat.le_of_ble_eq_true rfl) rfl (CL.imp k (fun _ h5 k => ?_) (fun _ _ k => k))
    obtain ⟨r6, rfl, k⟩ := oI_of k
    show AW X (d + 1) rb mX12_isCovered 81 _ [vI r6, vI r2, vI (h.1 60 0 x2.toNatClampNeg), vI x2, vR 60 0] h5 Qr Qx
    refine aw_imul dX12_isCovered_81 rfl ?_
    refine aw_isub dX12_isCovered_82 rfl ?_
    refine aw_iast dX12_isCovered_83 rfl (by decide) rfl k.1 ?_
    replace k := k.2
    refine aw_iinc (i := 2) (j := 2) (v := x2 + 1) (L2 := [(2, vI (x2 + 1)), (0, vR 12 0), (1, vI x1)]) dX12_isCovered_84 rfl (by decide) rfl rfl rfl ?_
    refine aw_goto 48 dX12_isCovered_87 rfl ?_
    exact aw_sub [1, 2, 0] rfl k
set_option maxHeartbeats 4000000 in
set_option maxRecDepth 100000 in
theorem vc_X12_promiseOfAll_0 {X : WD → State → Prop} {d rb : Nat} {h : Hp} {Qr : Option AV → Hp → Prop} {Qx : String → Hp → Prop}   (k : AW X (d + 1) rb mX12_promiseOfAll 14 [(0, vR 12 0), (1, vI (h.1 58 0 0)), (2, vI 0)] [] (hp_i h 12 0 0 0) Qr Qx) : AW X (d + 1) rb mX12_promiseOfAll 0 [(0, vR 12 0)] [] h Qr Qx := by
  refine aw_aload_n (j := 0) (i := 0) dX12_promiseOfAll_0 rfl rfl rfl ?_
  refine aw_iconst (v := 0) dX12_promiseOfAll_1 rfl (by decide) ?_
  refine aw_puti (k := 0) dX12_promiseOfAll_2 rfl (by decide) rfl rfl cb_12 (by decide) rfl rfl gw_1594 ?_
  refine aw_aload_n (j := 0) (i := 0) dX12_promiseOfAll_5 rfl rfl rfl ?_
  refine aw_getf (k := 14) (z := 58) dX12_promiseOfAll_6 rfl (by decide) rfl rfl rfl cb_12 (by decide) gw_1608 ?_
  refine aw_iconst (v := 0) dX12_promiseOfAll_9 rfl (by decide) ?_
  refine aw_iald dX12_promiseOfAll_10 rfl (by decide) rfl (by unfold vp_in; decide) ?_
  refine aw_istore_n (i := 1) (L2 := [(1, vI (h.1 58 0 0)), (0, vR 12 0)]) dX12_promiseOfAll_11 rfl rfl (by decide) rfl ?_
  refine aw_iconst (v := 0) dX12_promiseOfAll_12 rfl (by decide) ?_
  refine aw_istore_n (i := 2) (L2 := [(2, vI 0), (1, vI (h.1 58 0 0)), (0, vR 12 0)]) dX12_promiseOfAll_13 rfl rfl (by decide) rfl ?_
  exact aw_sub [2, 1, 0] rfl k
set_option maxHeartbeats 4000000 in
set_option maxRecDepth 100000 in
theorem vc_X12_promiseOfAll_14 {X : WD → State → Prop} {d rb : Nat} {h : Hp} {Qr : Option AV → Hp → Prop} {Qx : String → Hp → Prop} {x1 : Int32} {x2 : Int32}  (k : (((h.1 56 0 0) ≤ x2) → Qr (some (vI x1)) h) ∧ ((¬ (h.1 56 0 0) ≤ x2) → AW X (d + 1) rb mX12_promiseOfAll 29 [(0, vR 12 0), (1, vI x1), (2, vI x2), (3, vI 0), (4, vI 0)] [] h Qr Qx)) : AW X (d + 1) rb mX12_promiseOfAll 14 [(0, vR 12 0), (1, vI x1), (2, vI x2)] [] h Qr Qx := by
  refine aw_iload_n (j := 2) (i := 2) dX12_promiseOfAll_14 rfl rfl rfl ?_
  refine aw_aload_n (j := 0) (i := 0) dX12_promiseOfAll_15 rfl rfl rfl ?_
  refine aw_getf (k := 11) (z := 56) dX12_promiseOfAll_16 rfl (by decide) rfl rfl rfl cb_12 (by decide) gw_1605 ?_
  refine aw_iconst (v := 0) dX12_promiseOfAll_19 rfl (by decide) ?_
  refine aw_iald dX12_promiseOfAll_20 rfl (by decide) rfl (by unfold vp_in; decide) ?_
  refine aw_icmp_ge 89 dX12_promiseOfAll_21 rfl rfl (fun c => ?_) (fun c => ?_)
  · replace k := k.1 c
    refine aw_iload_n (j := 1) (i := 1) dX12_promiseOfAll_89 rfl rfl rfl ?_
    exact aw_iret dX12_promiseOfAll_90 rfl k
  · replace k := k.2 c
    refine aw_iconst (v := 0) dX12_promiseOfAll_24 rfl (by decide) ?_
    refine aw_istore_n (i := 3) (L2 := [(3, vI 0), (0, vR 12 0), (1, vI x1), (2, vI x2)]) dX12_promiseOfAll_25 rfl rfl (by decide) rfl ?_
    refine aw_iconst (v := 0) dX12_promiseOfAll_26 rfl (by decide) ?_
    refine aw_istore (i := 4) (L2 := [(4, vI 0), (3, vI 0), (0, vR 12 0), (1, vI x1), (2, vI x2)]) dX12_promiseOfAll_27 rfl (by decide) rfl ?_
    exact aw_sub [2, 3, 4, 1, 0] rfl k
set_option maxHeartbeats 4000000 in
set_option maxRecDepth 100000 in
theorem vc_X12_promiseOfAll_29 {X : WD → State → Prop} {d rb : Nat} {h : Hp} {Qr : Option AV → Hp → Prop} {Qx : String → Hp → Prop} {x1 : Int32} {x2 : Int32} {x3 : Int32} {x4 : Int32}  (k : (((h.1 58 0 1) ≤ x4) → AW X (d + 1) rb mX12_promiseOfAll 68 [(0, vR 12 0), (1, vI x1), (2, vI x2), (3, vI x3), (4, vI x4)] [] h Qr Qx) ∧ ((¬ (h.1 58 0 1) ≤ x4) → CL 0 d mX12_open [vR 12 0, vI x4] h (oI fun r2 h1 => CL 0 d mX12_of [vR 12 0, vI x4, vI 0] h1 (oI fun r4 h3 => CL 0 d mX12_needs [vR 12 0, vI r4, vI x2] h3 (oI fun r6 h5 => AW X (d + 1) rb mX12_promiseOfAll 29 [(0, vR 12 0), (1, vI x1), (2, vI x2), (3, vI (x3 + (r2 * r6))), (4, vI (x4 + 1))] [] h5 Qr Qx) Qx) Qx) Qx)) : AW X (d + 1) rb mX12_promiseOfAll 29 [(0, vR 12 0), (1, vI x1), (2, vI x2), (3, vI x3), (4, vI x4)] [] h Qr Qx := by
  refine aw_iload (j := 4) (i := 4) dX12_promiseOfAll_29 rfl rfl ?_
  refine aw_aload_n (j := 0) (i := 0) dX12_promiseOfAll_31 rfl rfl rfl ?_
  refine aw_getf (k := 14) (z := 58) dX12_promiseOfAll_32 rfl (by decide) rfl rfl rfl cb_12 (by decide) gw_1608 ?_
  refine aw_iconst (v := 1) dX12_promiseOfAll_35 rfl (by decide) ?_
  refine aw_iald dX12_promiseOfAll_36 rfl (by decide) rfl (by unfold vp_in; decide) ?_
  refine aw_icmp_ge 68 dX12_promiseOfAll_37 rfl rfl (fun c => ?_) (fun c => ?_)
  · replace k := k.1 c
    exact aw_sub [0, 1, 2, 3, 4] rfl k
  · replace k := k.2 c
    refine aw_iload_n (j := 3) (i := 3) dX12_promiseOfAll_40 rfl rfl rfl ?_
    refine aw_aload_n (j := 0) (i := 0) dX12_promiseOfAll_41 rfl rfl rfl ?_
    refine aw_iload (j := 4) (i := 4) dX12_promiseOfAll_42 rfl rfl ?_
    refine aw_callV (M' := mX12_open) (S := [vI x3]) (as := [vI x4]) (k := 0) dX12_promiseOfAll_44 rfl (by decide) rfl rfl gw_1875 gw_1877 gw_59 mb_X12_open rfl (Nat.zero_le _) (Nat.le_of_ble_eq_true rfl) rfl (CL.imp k (fun _ h1 k => ?_) (fun _ _ k => k))
    obtain ⟨r2, rfl, k⟩ := oI_of k
    show AW X (d + 1) rb mX12_promiseOfAll 47 _ [vI r2, vI x3] h1 Qr Qx
    refine aw_aload_n (j := 0) (i := 0) dX12_promiseOfAll_47 rfl rfl rfl ?_
    refine aw_aload_n (j := 0) (i := 0) dX12_promiseOfAll_48 rfl rfl rfl ?_
    refine aw_iload (j := 4) (i := 4) dX12_promiseOfAll_49 rfl rfl ?_
    refine aw_iconst (v := 0) dX12_promiseOfAll_51 rfl (by decide) ?_
    refine aw_callV (M' := mX12_of) (S := [vR 12 0, vI r2, vI x3]) (as := [vI x4, vI 0]) (k := 0) dX12_promiseOfAll_52 rfl (by decide) rfl rfl gw_1871 gw_1873 gw_58 mb_X12_of rfl (Nat.zero_le _) (Nat.le_of_ble_eq_true rfl) rfl (CL.imp k (fun _ h3 k => ?_) (fun _ _ k => k))
    obtain ⟨r4, rfl, k⟩ := oI_of k
    show AW X (d + 1) rb mX12_promiseOfAll 55 _ [vI r4, vR 12 0, vI r2, vI x3] h3 Qr Qx
    refine aw_iload_n (j := 2) (i := 2) dX12_promiseOfAll_55 rfl rfl rfl ?_
    refine aw_callV (M' := mX12_needs) (S := [vI r2, vI x3]) (as := [vI r4, vI x2]) (k := 0) dX12_promiseOfAll_56 rfl (by decide) rfl rfl gw_1788 gw_1790 gw_51 mb_X12_needs rfl (Nat.zero_le _) (Nat.le_of_ble_eq_true rfl) rfl (CL.imp k (fun _ h5 k => ?_) (fun _ _ k => k))
    obtain ⟨r6, rfl, k⟩ := oI_of k
    show AW X (d + 1) rb mX12_promiseOfAll 59 _ [vI r6, vI r2, vI x3] h5 Qr Qx
    refine aw_imul dX12_promiseOfAll_59 rfl ?_
    refine aw_iadd dX12_promiseOfAll_60 rfl ?_
    refine aw_istore_n (i := 3) (L2 := [(3, vI (x3 + (r2 * r6))), (0, vR 12 0), (1, vI x1), (2, vI x2), (4, vI x4)]) dX12_promiseOfAll_61 rfl rfl (by decide) rfl ?_
    refine aw_iinc (i := 4) (j := 4) (v := x4 + 1) (L2 := [(4, vI (x4 + 1)), (3, vI (x3 + (r2 * r6))), (0, vR 12 0), (1, vI x1), (2, vI x2)]) dX12_promiseOfAll_62 rfl (by decide) rfl rfl rfl ?_
    refine aw_goto 29 dX12_promiseOfAll_65 rfl ?_
    exact aw_sub [2, 3, 4, 1, 0] rfl k
set_option maxHeartbeats 4000000 in
set_option maxRecDepth 100000 in
theorem vc_X12_promiseOfAll_68 {X : WD → State → Prop} {d rb : Nat} {h : Hp} {Qr : Option AV → Hp → Prop} {Qx : String → Hp → Prop} {x1 : Int32} {x2 : Int32} {x3 : Int32} {x4 : Int32}  (k : ((x3 ≤ 0) → AW X (d + 1) rb mX12_promiseOfAll 14 [(0, vR 12 0), (1, vI x1), (2, vI (x2 + 1))] [] h Qr Qx) ∧ ((¬ x3 ≤ 0) → CL 0 d mX12_dayOf [vR 12 0, vI x2, vI x3] h (oI fun r2 h1 => AW X (d + 1) rb mX12_promiseOfAll 14 [(0, vR 12 0), (1, vI (if x1 < r2 then r2 else x1)), (2, vI (x2 + 1))] [] h1 Qr Qx) Qx)) : AW X (d + 1) rb mX12_promiseOfAll 68 [(0, vR 12 0), (1, vI x1), (2, vI x2), (3, vI x3), (4, vI x4)] [] h Qr Qx := by
  refine aw_iload_n (j := 3) (i := 3) dX12_promiseOfAll_68 rfl rfl rfl ?_
  refine aw_if_le 83 dX12_promiseOfAll_69 rfl rfl (fun c => ?_) (fun c => ?_)
  · replace k := k.1 c
    refine aw_iinc (i := 2) (j := 2) (v := x2 + 1) (L2 := [(2, vI (x2 + 1)), (0, vR 12 0), (1, vI x1), (3, vI x3), (4, vI x4)]) dX12_promiseOfAll_83 rfl (by decide) rfl rfl rfl ?_
    refine aw_goto 14 dX12_promiseOfAll_86 rfl ?_
    exact aw_sub [1, 2, 0] rfl k
  · replace k := k.2 c
    refine aw_iload_n (j := 1) (i := 1) dX12_promiseOfAll_72 rfl rfl rfl ?_
    refine aw_aload_n (j := 0) (i := 0) dX12_promiseOfAll_73 rfl rfl rfl ?_
    refine aw_iload_n (j := 2) (i := 2) dX12_promiseOfAll_74 rfl rfl rfl ?_
    refine aw_iload_n (j := 3) (i := 3) dX12_promiseOfAll_75 rfl rfl rfl ?_
    refine aw_callV (M' := mX12_dayOf) (S := [vI x1]) (as := [vI x2, vI x3]) (k := 0) dX12_promiseOfAll_76 rfl (by decide) rfl rfl gw_1919 gw_1921 gw_62 mb_X12_dayOf rfl (Nat.zero_le _) (Nat.le_of_ble_eq_true rfl) rfl (CL.imp k (fun _ h1 k => ?_) (fun _ _ k => k))
    obtain ⟨r2, rfl, k⟩ := oI_of k
    show AW X (d + 1) rb mX12_promiseOfAll 79 _ [vI r2, vI x1] h1 Qr Qx
    refine aw_max dX12_promiseOfAll_79 rfl gw_1800 gw_534 gw_104 gw_535 (Nat.le_of_ble_eq_true rfl) ?_
    refine aw_istore_n (i := 1) (L2 := [(1, vI (if x1 < r2 then r2 else x1)), (0, vR 12 0), (2, vI x2), (3, vI x3), (4, vI x4)]) dX12_promiseOfAll_82 rfl rfl (by decide) rfl ?_
    refine aw_iinc (i := 2) (j := 2) (v := x2 + 1) (L2 := [(2, vI (x2 + 1)), (1, vI (if x1 < r2 then r2 else x1)), (0, vR 12 0), (3, vI x3), (4, vI x4)]) dX12_promiseOfAll_83 rfl (by decide) rfl rfl rfl ?_
    refine aw_goto 14 dX12_promiseOfAll_86 rfl ?_
    exact aw_sub [2, 1, 0] rfl k
set_option maxHeartbeats 4000000 in
set_option maxRecDepth 100000 in
theorem vc_X12_addOrder_0 {X : WD → State → Prop} {d rb : Nat} {h : Hp} {Qr : Option AV → Hp → Prop} {Qx : String → Hp → Prop} {a1 : Int32} {a2 : Int32} {a3 : Int32} {a4 : Int32} {a5 : Int32}  (k : CL 0 d mX12_in [vI a2, vI 1, vI 99] (hp_i h 12 0 0 0) (oI fun r2 h1 => ((r2 = 0) → CL 0 d mX12_noProduct [vR 12 0, vI a1] h1 (oI fun r4 h3 => ((¬ r4 = 0) → Qr (some (vI 0)) h3) ∧ ((r4 = 0) → CL 0 d mX12_throwsIf [vR 12 0, vI 1, vI 2] h3 (oI fun r6 h5 => ((¬ r6 = 0) → Qr (some (vI 0)) h5) ∧ ((r6 = 0) → CL 0 d mX12_throwsIf [vR 12 0, vI (if ¬ (h5.1 58 0 1) = 20 then (0 : Int32) else 1), vI 3] h5 (oI fun r8 h7 => ((r8 = 0) → CL 0 d mX12_keeps [vR 12 0] h7 (oV fun h9 => AW X (d + 1) rb mX12_addOrder 109 [(0, vR 12 0), (1, vI a1), (2, vI a2), (3, vI a3), (4, vI a4), (5, vI a5), (6, vI 1), (7, vI (93 + (8 * (h9.1 58 0 1)))), (8, vI 0)] [] h9 Qr Qx) Qx) ∧ ((¬ r8 = 0) → Qr (some (vI 0)) h7)) Qx)) Qx)) Qx) ∧ ((¬ r2 = 0) → CL 0 d mX12_in [vI a3, vI 0, vI 9] h1 (oI fun r11 h10 => ((r11 = 0) → CL 0 d mX12_noProduct [vR 12 0, vI a1] h10 (oI fun r13 h12 => ((¬ r13 = 0) → Qr (some (vI 0)) h12) ∧ ((r13 = 0) → CL 0 d mX12_throwsIf [vR 12 0, vI 1, vI 2] h12 (oI fun r15 h14 => ((¬ r15 = 0) → Qr (some (vI 0)) h14) ∧ ((r15 = 0) → CL 0 d mX12_throwsIf [vR 12 0, vI (if ¬ (h14.1 58 0 1) = 20 then (0 : Int32) else 1), vI 3] h14 (oI fun r17 h16 => ((r17 = 0) → CL 0 d mX12_keeps [vR 12 0] h16 (oV fun h18 => AW X (d + 1) rb mX12_addOrder 109 [(0, vR 12 0), (1, vI a1), (2, vI a2), (3, vI a3), (4, vI a4), (5, vI a5), (6, vI 1), (7, vI (93 + (8 * (h18.1 58 0 1)))), (8, vI 0)] [] h18 Qr Qx) Qx) ∧ ((¬ r17 = 0) → Qr (some (vI 0)) h16)) Qx)) Qx)) Qx) ∧ ((¬ r11 = 0) → CL 0 d mX12_in [vI a4, vI 0, vI 999] h10 (oI fun r20 h19 => CL 0 d mX12_noProduct [vR 12 0, vI a1] h19 (oI fun r22 h21 => ((¬ r22 = 0) → Qr (some (vI 0)) h21) ∧ ((r22 = 0) → CL 0 d mX12_throwsIf [vR 12 0, vI (if ¬ r20 = 0 then (0 : Int32) else 1), vI 2] h21 (oI fun r24 h23 => ((¬ r24 = 0) → Qr (some (vI 0)) h23) ∧ ((r24 = 0) → CL 0 d mX12_throwsIf [vR 12 0, vI (if ¬ (h23.1 58 0 1) = 20 then (0 : Int32) else 1), vI 3] h23 (oI fun r26 h25 => ((r26 = 0) → CL 0 d mX12_keeps [vR 12 0] h25 (oV fun h27 => AW X (d + 1) rb mX12_addOrder 109 [(0, vR 12 0), (1, vI a1), (2, vI a2), (3, vI a3), (4, vI a4), (5, vI a5), (6, vI (if ¬ r20 = 0 then (0 : Int32) else 1)), (7, vI (93 + (8 * (h27.1 58 0 1)))), (8, vI 0)] [] h27 Qr Qx) Qx) ∧ ((¬ r26 = 0) → Qr (some (vI 0)) h25)) Qx)) Qx)) Qx) Qx)) Qx)) Qx) : AW X (d + 1) rb mX12_addOrder 0 [(0, vR 12 0), (1, vI a1), (2, vI a2), (3, vI a3), (4, vI a4), (5, vI a5)] [] h Qr Qx := by
  refine aw_aload_n (j := 0) (i := 0) dX12_addOrder_0 rfl rfl rfl ?_
  refine aw_iconst (v := 0) dX12_addOrder_1 rfl (by decide) ?_
  refine aw_puti (k := 0) dX12_addOrder_2 rfl (by decide) rfl rfl cb_12 (by decide) rfl rfl gw_1594 ?_
  refine aw_iload_n (j := 2) (i := 2) dX12_addOrder_5 rfl rfl rfl ?_
  refine aw_iconst (v := 1) dX12_addOrder_6 rfl (by decide) ?_
  refine aw_bipush (v := 99) dX12_addOrder_7 rfl (by decide) ?_
  refine aw_callS (M' := mX12_in) (S := []) (as := [vI a2, vI 1, vI 99]) (k := 0) dX12_addOrder_9 rfl gw_1713 gw_1714 mb_X12_in rfl (Nat.zero_le _) (Nat.le_of_ble_eq_true rfl) rfl (CL.imp k (fun _ h1 k => ?_) (fun _ _ k => k))
  obtain ⟨r2, rfl, k⟩ := oI_of k
  show AW X (d + 1) rb mX12_addOrder 12 _ [vI r2] h1 Qr Qx
  refine aw_if_eq 37 dX12_addOrder_12 rfl rfl (fun c => ?_) (fun c => ?_)
  · replace k := k.1 c
    refine aw_iconst (v := 1) dX12_addOrder_37 rfl (by decide) ?_
    refine aw_goto 42 dX12_addOrder_38 rfl ?_
    refine aw_istore (i := 6) (L2 := [(6, vI 1), (0, vR 12 0), (1, vI a1), (2, vI a2), (3, vI a3), (4, vI a4), (5, vI a5)]) dX12_addOrder_42 rfl (by decide) rfl ?_
    refine aw_aload_n (j := 1) (i := 0) dX12_addOrder_44 rfl rfl rfl ?_
    refine aw_iload_n (j := 2) (i := 1) dX12_addOrder_45 rfl rfl rfl ?_
    refine aw_callV (M' := mX12_noProduct) (S := []) (as := [vI a1]) (k := 0) dX12_addOrder_46 rfl (by decide) rfl rfl gw_1768 gw_1770 gw_49 mb_X12_noProduct rfl (Nat.zero_le _) (Nat.le_of_ble_eq_true rfl) rfl (CL.imp k (fun _ h3 k => ?_) (fun _ _ k => k))
    obtain ⟨r4, rfl, k⟩ := oI_of k
    show AW X (d + 1) rb mX12_addOrder 49 _ [vI r4] h3 Qr Qx
    refine aw_if_ne 86 dX12_addOrder_49 rfl rfl (fun c => ?_) (fun c => ?_)
    · replace k := k.1 c
      refine aw_iconst (v := 0) dX12_addOrder_86 rfl (by decide) ?_
      exact aw_iret dX12_addOrder_87 rfl k
    · replace k := k.2 c
      refine aw_aload_n (j := 1) (i := 0) dX12_addOrder_52 rfl rfl rfl ?_
      refine aw_iload (j := 0) (i := 6) dX12_addOrder_53 rfl rfl ?_
      refine aw_iconst (v := 2) dX12_addOrder_55 rfl (by decide) ?_
      refine aw_callV (M' := mX12_throwsIf) (S := []) (as := [vI 1, vI 2]) (k := 0) dX12_addOrder_56 rfl (by decide) rfl rfl gw_1748 gw_1750 gw_48 mb_X12_throwsIf rfl (Nat.zero_le _) (Nat.le_of_ble_eq_true rfl) rfl (CL.imp k (fun _ h5 k => ?_) (fun _ _ k => k))
      obtain ⟨r6, rfl, k⟩ := oI_of k
      show AW X (d + 1) rb mX12_addOrder 59 _ [vI r6] h5 Qr Qx
      refine aw_if_ne 86 dX12_addOrder_59 rfl rfl (fun c => ?_) (fun c => ?_)
      · replace k := k.1 c
        refine aw_iconst (v := 0) dX12_addOrder_86 rfl (by decide) ?_
        exact aw_iret dX12_addOrder_87 rfl k
      · replace k := k.2 c
        refine aw_aload_n (j := 1) (i := 0) dX12_addOrder_62 rfl rfl rfl ?_
        refine aw_aload_n (j := 1) (i := 0) dX12_addOrder_63 rfl rfl rfl ?_
        refine aw_getf (k := 14) (z := 58) dX12_addOrder_64 rfl (by decide) rfl rfl rfl cb_12 (by decide) gw_1608 ?_
        refine aw_iconst (v := 1) dX12_addOrder_67 rfl (by decide) ?_
        refine aw_iald dX12_addOrder_68 rfl (by decide) rfl (by unfold vp_in; decide) ?_
        refine aw_bipush (v := 20) dX12_addOrder_69 rfl (by decide) ?_
        have kk : AW X (d + 1) rb mX12_addOrder 79 [(6, vI 1), (0, vR 12 0), (1, vI a1), (2, vI a2), (3, vI a3), (4, vI a4), (5, vI a5)] [vI (if ¬ (h5.1 58 0 1) = 20 then (0 : Int32) else 1), vR 12 0] h5 Qr Qx := by
          refine aw_iconst (v := 3) dX12_addOrder_79 rfl (by decide) ?_
          refine aw_callV (M' := mX12_throwsIf) (S := []) (as := [vI (if ¬ (h5.1 58 0 1) = 20 then (0 : Int32) else 1), vI 3]) (k := 0) dX12_addOrder_80 rfl (by decide) rfl rfl gw_1748 gw_1750 gw_48 mb_X12_throwsIf rfl (Nat.zero_le _) (Nat.le_of_ble_eq_true rfl) rfl (CL.imp k (fun _ h7 k => ?_) (fun _ _ k => k))
          obtain ⟨r8, rfl, k⟩ := oI_of k
          show AW X (d + 1) rb mX12_addOrder 83 _ [vI r8] h7 Qr Qx
          refine aw_if_eq 88 dX12_addOrder_83 rfl rfl (fun c => ?_) (fun c => ?_)
          · replace k := k.1 c
            refine aw_aload_n (j := 1) (i := 0) dX12_addOrder_88 rfl rfl rfl ?_
            refine aw_callV (M' := mX12_keeps) (S := []) (as := []) (k := 0) dX12_addOrder_89 rfl (by decide) rfl rfl gw_2003 gw_2005 gw_72 mb_X12_keeps rfl (Nat.zero_le _) (Nat.le_of_ble_eq_true rfl) rfl (CL.imp k (fun _ h9 k => ?_) (fun _ _ k => k))
            obtain ⟨rfl, k⟩ := oV_of k
            show AW X (d + 1) rb mX12_addOrder 92 _ [] h9 Qr Qx
            refine aw_bipush (v := 93) dX12_addOrder_92 rfl (by decide) ?_
            refine aw_bipush (v := 8) dX12_addOrder_94 rfl (by decide) ?_
            refine aw_aload_n (j := 1) (i := 0) dX12_addOrder_96 rfl rfl rfl ?_
            refine aw_getf (k := 14) (z := 58) dX12_addOrder_97 rfl (by decide) rfl rfl rfl cb_12 (by decide) gw_1608 ?_
            refine aw_iconst (v := 1) dX12_addOrder_100 rfl (by decide) ?_
            refine aw_iald dX12_addOrder_101 rfl (by decide) rfl (by unfold vp_in; decide) ?_
            refine aw_imul dX12_addOrder_102 rfl ?_
            refine aw_iadd dX12_addOrder_103 rfl ?_
            refine aw_istore (i := 7) (L2 := [(7, vI (93 + (8 * (h9.1 58 0 1)))), (6, vI 1), (0, vR 12 0), (1, vI a1), (2, vI a2), (3, vI a3), (4, vI a4), (5, vI a5)]) dX12_addOrder_104 rfl (by decide) rfl ?_
            refine aw_iconst (v := 0) dX12_addOrder_106 rfl (by decide) ?_
            refine aw_istore (i := 8) (L2 := [(8, vI 0), (7, vI (93 + (8 * (h9.1 58 0 1)))), (6, vI 1), (0, vR 12 0), (1, vI a1), (2, vI a2), (3, vI a3), (4, vI a4), (5, vI a5)]) dX12_addOrder_107 rfl (by decide) rfl ?_
            exact aw_sub [3, 4, 5, 6, 7, 8, 2, 1, 0] rfl k
          · replace k := k.2 c
            refine aw_iconst (v := 0) dX12_addOrder_86 rfl (by decide) ?_
            exact aw_iret dX12_addOrder_87 rfl k
        refine aw_icmp_ne 78 dX12_addOrder_71 rfl rfl (fun (c0 : ¬ (h5.1 58 0 1) = 20) => ?_) (fun (c0 : (h5.1 58 0 1) = 20) => ?_)
        · refine aw_iconst (v := 0) dX12_addOrder_78 rfl (by decide) ?_
          simp only [if_pos c0] at kk
          exact kk
        · refine aw_iconst (v := 1) dX12_addOrder_74 rfl (by decide) ?_
          refine aw_goto 79 dX12_addOrder_75 rfl ?_
          simp only [if_neg (oa_nn c0)] at kk
          exact kk
  · replace k := k.2 c
    refine aw_iload_n (j := 3) (i := 3) dX12_addOrder_15 rfl rfl rfl ?_
    refine aw_iconst (v := 0) dX12_addOrder_16 rfl (by decide) ?_
    refine aw_bipush (v := 9) dX12_addOrder_17 rfl (by decide) ?_
    refine aw_callS (M' := mX12_in) (S := []) (as := [vI a3, vI 0, vI 9]) (k := 0) dX12_addOrder_19 rfl gw_1713 gw_1714 mb_X12_in rfl (Nat.zero_le _) (Nat.le_of_ble_eq_true rfl) rfl (CL.imp k (fun _ h10 k => ?_) (fun _ _ k => k))
    obtain ⟨r11, rfl, k⟩ := oI_of k
    show AW X (d + 1) rb mX12_addOrder 22 _ [vI r11] h10 Qr Qx
    refine aw_if_eq 37 dX12_addOrder_22 rfl rfl (fun c => ?_) (fun c => ?_)
    · replace k := k.1 c
      refine aw_iconst (v := 1) dX12_addOrder_37 rfl (by decide) ?_
      refine aw_goto 42 dX12_addOrder_38 rfl ?_
      refine aw_istore (i := 6) (L2 := [(6, vI 1), (0, vR 12 0), (1, vI a1), (2, vI a2), (3, vI a3), (4, vI a4), (5, vI a5)]) dX12_addOrder_42 rfl (by decide) rfl ?_
      refine aw_aload_n (j := 1) (i := 0) dX12_addOrder_44 rfl rfl rfl ?_
      refine aw_iload_n (j := 2) (i := 1) dX12_addOrder_45 rfl rfl rfl ?_
      refine aw_callV (M' := mX12_noProduct) (S := []) (as := [vI a1]) (k := 0) dX12_addOrder_46 rfl (by decide) rfl rfl gw_1768 gw_1770 gw_49 mb_X12_noProduct rfl (Nat.zero_le _) (Nat.le_of_ble_eq_true rfl) rfl (CL.imp k (fun _ h12 k => ?_) (fun _ _ k => k))
      obtain ⟨r13, rfl, k⟩ := oI_of k
      show AW X (d + 1) rb mX12_addOrder 49 _ [vI r13] h12 Qr Qx
      refine aw_if_ne 86 dX12_addOrder_49 rfl rfl (fun c => ?_) (fun c => ?_)
      · replace k := k.1 c
        refine aw_iconst (v := 0) dX12_addOrder_86 rfl (by decide) ?_
        exact aw_iret dX12_addOrder_87 rfl k
      · replace k := k.2 c
        refine aw_aload_n (j := 1) (i := 0) dX12_addOrder_52 rfl rfl rfl ?_
        refine aw_iload (j := 0) (i := 6) dX12_addOrder_53 rfl rfl ?_
        refine aw_iconst (v := 2) dX12_addOrder_55 rfl (by decide) ?_
        refine aw_callV (M' := mX12_throwsIf) (S := []) (as := [vI 1, vI 2]) (k := 0) dX12_addOrder_56 rfl (by decide) rfl rfl gw_1748 gw_1750 gw_48 mb_X12_throwsIf rfl (Nat.zero_le _) (Nat.le_of_ble_eq_true rfl) rfl (CL.imp k (fun _ h14 k => ?_) (fun _ _ k => k))
        obtain ⟨r15, rfl, k⟩ := oI_of k
        show AW X (d + 1) rb mX12_addOrder 59 _ [vI r15] h14 Qr Qx
        refine aw_if_ne 86 dX12_addOrder_59 rfl rfl (fun c => ?_) (fun c => ?_)
        · replace k := k.1 c
          refine aw_iconst (v := 0) dX12_addOrder_86 rfl (by decide) ?_
          exact aw_iret dX12_addOrder_87 rfl k
        · replace k := k.2 c
          refine aw_aload_n (j := 1) (i := 0) dX12_addOrder_62 rfl rfl rfl ?_
          refine aw_aload_n (j := 1) (i := 0) dX12_addOrder_63 rfl rfl rfl ?_
          refine aw_getf (k := 14) (z := 58) dX12_addOrder_64 rfl (by decide) rfl rfl rfl cb_12 (by decide) gw_1608 ?_
          refine aw_iconst (v := 1) dX12_addOrder_67 rfl (by decide) ?_
          refine aw_iald dX12_addOrder_68 rfl (by decide) rfl (by unfold vp_in; decide) ?_
          refine aw_bipush (v := 20) dX12_addOrder_69 rfl (by decide) ?_
          have kk : AW X (d + 1) rb mX12_addOrder 79 [(6, vI 1), (0, vR 12 0), (1, vI a1), (2, vI a2), (3, vI a3), (4, vI a4), (5, vI a5)] [vI (if ¬ (h14.1 58 0 1) = 20 then (0 : Int32) else 1), vR 12 0] h14 Qr Qx := by
            refine aw_iconst (v := 3) dX12_addOrder_79 rfl (by decide) ?_
            refine aw_callV (M' := mX12_throwsIf) (S := []) (as := [vI (if ¬ (h14.1 58 0 1) = 20 then (0 : Int32) else 1), vI 3]) (k := 0) dX12_addOrder_80 rfl (by decide) rfl rfl gw_1748 gw_1750 gw_48 mb_X12_throwsIf rfl (Nat.zero_le _) (Nat.le_of_ble_eq_true rfl) rfl (CL.imp k (fun _ h16 k => ?_) (fun _ _ k => k))
            obtain ⟨r17, rfl, k⟩ := oI_of k
            show AW X (d + 1) rb mX12_addOrder 83 _ [vI r17] h16 Qr Qx
            refine aw_if_eq 88 dX12_addOrder_83 rfl rfl (fun c => ?_) (fun c => ?_)
            · replace k := k.1 c
              refine aw_aload_n (j := 1) (i := 0) dX12_addOrder_88 rfl rfl rfl ?_
              refine aw_callV (M' := mX12_keeps) (S := []) (as := []) (k := 0) dX12_addOrder_89 rfl (by decide) rfl rfl gw_2003 gw_2005 gw_72 mb_X12_keeps rfl (Nat.zero_le _) (Nat.le_of_ble_eq_true rfl) rfl (CL.imp k (fun _ h18 k => ?_) (fun _ _ k => k))
              obtain ⟨rfl, k⟩ := oV_of k
              show AW X (d + 1) rb mX12_addOrder 92 _ [] h18 Qr Qx
              refine aw_bipush (v := 93) dX12_addOrder_92 rfl (by decide) ?_
              refine aw_bipush (v := 8) dX12_addOrder_94 rfl (by decide) ?_
              refine aw_aload_n (j := 1) (i := 0) dX12_addOrder_96 rfl rfl rfl ?_
              refine aw_getf (k := 14) (z := 58) dX12_addOrder_97 rfl (by decide) rfl rfl rfl cb_12 (by decide) gw_1608 ?_
              refine aw_iconst (v := 1) dX12_addOrder_100 rfl (by decide) ?_
              refine aw_iald dX12_addOrder_101 rfl (by decide) rfl (by unfold vp_in; decide) ?_
              refine aw_imul dX12_addOrder_102 rfl ?_
              refine aw_iadd dX12_addOrder_103 rfl ?_
              refine aw_istore (i := 7) (L2 := [(7, vI (93 + (8 * (h18.1 58 0 1)))), (6, vI 1), (0, vR 12 0), (1, vI a1), (2, vI a2), (3, vI a3), (4, vI a4), (5, vI a5)]) dX12_addOrder_104 rfl (by decide) rfl ?_
              refine aw_iconst (v := 0) dX12_addOrder_106 rfl (by decide) ?_
              refine aw_istore (i := 8) (L2 := [(8, vI 0), (7, vI (93 + (8 * (h18.1 58 0 1)))), (6, vI 1), (0, vR 12 0), (1, vI a1), (2, vI a2), (3, vI a3), (4, vI a4), (5, vI a5)]) dX12_addOrder_107 rfl (by decide) rfl ?_
              exact aw_sub [3, 4, 5, 6, 7, 8, 2, 1, 0] rfl k
            · replace k := k.2 c
              refine aw_iconst (v := 0) dX12_addOrder_86 rfl (by decide) ?_
              exact aw_iret dX12_addOrder_87 rfl k
          refine aw_icmp_ne 78 dX12_addOrder_71 rfl rfl (fun (c0 : ¬ (h14.1 58 0 1) = 20) => ?_) (fun (c0 : (h14.1 58 0 1) = 20) => ?_)
          · refine aw_iconst (v := 0) dX12_addOrder_78 rfl (by decide) ?_
            simp only [if_pos c0] at kk
            exact kk
          · refine aw_iconst (v := 1) dX12_addOrder_74 rfl (by decide) ?_
            refine aw_goto 79 dX12_addOrder_75 rfl ?_
            simp only [if_neg (oa_nn c0)] at kk
            exact kk
    · replace k := k.2 c
      refine aw_iload (j := 4) (i := 4) dX12_addOrder_25 rfl rfl ?_
      refine aw_iconst (v := 0) dX12_addOrder_27 rfl (by decide) ?_
      refine aw_sipush (v := 999) dX12_addOrder_28 rfl (by decide) ?_
      refine aw_callS (M' := mX12_in) (S := []) (as := [vI a4, vI 0, vI 999]) (k := 0) dX12_addOrder_31 rfl gw_1713 gw_1714 mb_X12_in rfl (Nat.zero_le _) (Nat.le_of_ble_eq_true rfl) rfl (CL.imp k (fun _ h19 k => ?_) (fun _ _ k => k))
      obtain ⟨r20, rfl, k⟩ := oI_of k
      show AW X (d + 1) rb mX12_addOrder 34 _ [vI r20] h19 Qr Qx
      have kk : AW X (d + 1) rb mX12_addOrder 42 [(0, vR 12 0), (1, vI a1), (2, vI a2), (3, vI a3), (4, vI a4), (5, vI a5)] [vI (if ¬ r20 = 0 then (0 : Int32) else 1)] h19 Qr Qx := by
        refine aw_istore (i := 6) (L2 := [(6, vI (if ¬ r20 = 0 then (0 : Int32) else 1)), (0, vR 12 0), (1, vI a1), (2, vI a2), (3, vI a3), (4, vI a4), (5, vI a5)]) dX12_addOrder_42 rfl (by decide) rfl ?_
        refine aw_aload_n (j := 1) (i := 0) dX12_addOrder_44 rfl rfl rfl ?_
        refine aw_iload_n (j := 2) (i := 1) dX12_addOrder_45 rfl rfl rfl ?_
        refine aw_callV (M' := mX12_noProduct) (S := []) (as := [vI a1]) (k := 0) dX12_addOrder_46 rfl (by decide) rfl rfl gw_1768 gw_1770 gw_49 mb_X12_noProduct rfl (Nat.zero_le _) (Nat.le_of_ble_eq_true rfl) rfl (CL.imp k (fun _ h21 k => ?_) (fun _ _ k => k))
        obtain ⟨r22, rfl, k⟩ := oI_of k
        show AW X (d + 1) rb mX12_addOrder 49 _ [vI r22] h21 Qr Qx
        refine aw_if_ne 86 dX12_addOrder_49 rfl rfl (fun c => ?_) (fun c => ?_)
        · replace k := k.1 c
          refine aw_iconst (v := 0) dX12_addOrder_86 rfl (by decide) ?_
          exact aw_iret dX12_addOrder_87 rfl k
        · replace k := k.2 c
          refine aw_aload_n (j := 1) (i := 0) dX12_addOrder_52 rfl rfl rfl ?_
          refine aw_iload (j := 0) (i := 6) dX12_addOrder_53 rfl rfl ?_
          refine aw_iconst (v := 2) dX12_addOrder_55 rfl (by decide) ?_
          refine aw_callV (M' := mX12_throwsIf) (S := []) (as := [vI (if ¬ r20 = 0 then (0 : Int32) else 1), vI 2]) (k := 0) dX12_addOrder_56 rfl (by decide) rfl rfl gw_1748 gw_1750 gw_48 mb_X12_throwsIf rfl (Nat.zero_le _) (Nat.le_of_ble_eq_true rfl) rfl (CL.imp k (fun _ h23 k => ?_) (fun _ _ k => k))
          obtain ⟨r24, rfl, k⟩ := oI_of k
          show AW X (d + 1) rb mX12_addOrder 59 _ [vI r24] h23 Qr Qx
          refine aw_if_ne 86 dX12_addOrder_59 rfl rfl (fun c => ?_) (fun c => ?_)
          · replace k := k.1 c
            refine aw_iconst (v := 0) dX12_addOrder_86 rfl (by decide) ?_
            exact aw_iret dX12_addOrder_87 rfl k
          · replace k := k.2 c
            refine aw_aload_n (j := 1) (i := 0) dX12_addOrder_62 rfl rfl rfl ?_
            refine aw_aload_n (j := 1) (i := 0) dX12_addOrder_63 rfl rfl rfl ?_
            refine aw_getf (k := 14) (z := 58) dX12_addOrder_64 rfl (by decide) rfl rfl rfl cb_12 (by decide) gw_1608 ?_
            refine aw_iconst (v := 1) dX12_addOrder_67 rfl (by decide) ?_
            refine aw_iald dX12_addOrder_68 rfl (by decide) rfl (by unfold vp_in; decide) ?_
            refine aw_bipush (v := 20) dX12_addOrder_69 rfl (by decide) ?_
            have kk : AW X (d + 1) rb mX12_addOrder 79 [(6, vI (if ¬ r20 = 0 then (0 : Int32) else 1)), (0, vR 12 0), (1, vI a1), (2, vI a2), (3, vI a3), (4, vI a4), (5, vI a5)] [vI (if ¬ (h23.1 58 0 1) = 20 then (0 : Int32) else 1), vR 12 0] h23 Qr Qx := by
              refine aw_iconst (v := 3) dX12_addOrder_79 rfl (by decide) ?_
              refine aw_callV (M' := mX12_throwsIf) (S := []) (as := [vI (if ¬ (h23.1 58 0 1) = 20 then (0 : Int32) else 1), vI 3]) (k := 0) dX12_addOrder_80 rfl (by decide) rfl rfl gw_1748 gw_1750 gw_48 mb_X12_throwsIf rfl (Nat.zero_le _) (Nat.le_of_ble_eq_true rfl) rfl (CL.imp k (fun _ h25 k => ?_) (fun _ _ k => k))
              obtain ⟨r26, rfl, k⟩ := oI_of k
              show AW X (d + 1) rb mX12_addOrder 83 _ [vI r26] h25 Qr Qx
              refine aw_if_eq 88 dX12_addOrder_83 rfl rfl (fun c => ?_) (fun c => ?_)
              · replace k := k.1 c
                refine aw_aload_n (j := 1) (i := 0) dX12_addOrder_88 rfl rfl rfl ?_
                refine aw_callV (M' := mX12_keeps) (S := []) (as := []) (k := 0) dX12_addOrder_89 rfl (by decide) rfl rfl gw_2003 gw_2005 gw_72 mb_X12_keeps rfl (Nat.zero_le _) (Nat.le_of_ble_eq_true rfl) rfl (CL.imp k (fun _ h27 k => ?_) (fun _ _ k => k))
                obtain ⟨rfl, k⟩ := oV_of k
                show AW X (d + 1) rb mX12_addOrder 92 _ [] h27 Qr Qx
                refine aw_bipush (v := 93) dX12_addOrder_92 rfl (by decide) ?_
                refine aw_bipush (v := 8) dX12_addOrder_94 rfl (by decide) ?_
                refine aw_aload_n (j := 1) (i := 0) dX12_addOrder_96 rfl rfl rfl ?_
                refine aw_getf (k := 14) (z := 58) dX12_addOrder_97 rfl (by decide) rfl rfl rfl cb_12 (by decide) gw_1608 ?_
                refine aw_iconst (v := 1) dX12_addOrder_100 rfl (by decide) ?_
                refine aw_iald dX12_addOrder_101 rfl (by decide) rfl (by unfold vp_in; decide) ?_
                refine aw_imul dX12_addOrder_102 rfl ?_
                refine aw_iadd dX12_addOrder_103 rfl ?_
                refine aw_istore (i := 7) (L2 := [(7, vI (93 + (8 * (h27.1 58 0 1)))), (6, vI (if ¬ r20 = 0 then (0 : Int32) else 1)), (0, vR 12 0), (1, vI a1), (2, vI a2), (3, vI a3), (4, vI a4), (5, vI a5)]) dX12_addOrder_104 rfl (by decide) rfl ?_
                refine aw_iconst (v := 0) dX12_addOrder_106 rfl (by decide) ?_
                refine aw_istore (i := 8) (L2 := [(8, vI 0), (7, vI (93 + (8 * (h27.1 58 0 1)))), (6, vI (if ¬ r20 = 0 then (0 : Int32) else 1)), (0, vR 12 0), (1, vI a1), (2, vI a2), (3, vI a3), (4, vI a4), (5, vI a5)]) dX12_addOrder_107 rfl (by decide) rfl ?_
                exact aw_sub [3, 4, 5, 6, 7, 8, 2, 1, 0] rfl k
              · replace k := k.2 c
                refine aw_iconst (v := 0) dX12_addOrder_86 rfl (by decide) ?_
                exact aw_iret dX12_addOrder_87 rfl k
            refine aw_icmp_ne 78 dX12_addOrder_71 rfl rfl (fun (c0 : ¬ (h23.1 58 0 1) = 20) => ?_) (fun (c0 : (h23.1 58 0 1) = 20) => ?_)
            · refine aw_iconst (v := 0) dX12_addOrder_78 rfl (by decide) ?_
              simp only [if_pos c0] at kk
              exact kk
            · refine aw_iconst (v := 1) dX12_addOrder_74 rfl (by decide) ?_
              refine aw_goto 79 dX12_addOrder_75 rfl ?_
              simp only [if_neg (oa_nn c0)] at kk
              exact kk
      refine aw_if_ne 41 dX12_addOrder_34 rfl rfl (fun (c0 : ¬ r20 = 0) => ?_) (fun (c0 : r20 = 0) => ?_)
      · refine aw_iconst (v := 0) dX12_addOrder_41 rfl (by decide) ?_
        simp only [if_pos c0] at kk
        exact kk
      · refine aw_iconst (v := 1) dX12_addOrder_37 rfl (by decide) ?_
        refine aw_goto 42 dX12_addOrder_38 rfl ?_
        simp only [if_neg (oa_nn c0)] at kk
        exact kk
set_option maxHeartbeats 4000000 in
set_option maxRecDepth 100000 in
theorem vc_X12_addOrder_109 {X : WD → State → Prop} {d rb : Nat} {h : Hp} {Qr : Option AV → Hp → Prop} {Qx : String → Hp → Prop} {x1 : Int32} {x2 : Int32} {x3 : Int32} {x4 : Int32} {x5 : Int32} {x6 : Int32} {x7 : Int32} {x8 : Int32}  (k : ((8 ≤ x8) → (vp_in (x7 + 0) 301) ∧ (vp_in (x7 + 1) 301) ∧ (vp_in (x7 + 2) 301) ∧ (vp_in (x7 + 3) 301) ∧ (vp_in (x7 + 4) 301) ∧ Qr (some (vI (((hp_i (hp_i (hp_i (hp_i (hp_i (hp_i h 58 0 ((x7 + 0).toNatClampNeg) x1) 58 0 ((x7 + 1).toNatClampNeg) x2) 58 0 ((x7 + 2).toNatClampNeg) x3) 58 0 ((x7 + 3).toNatClampNeg) x4) 58 0 ((x7 + 4).toNatClampNeg) (if x5 = 0 then (0 : Int32) else 1)) 58 0 1 (((hp_i (hp_i (hp_i (hp_i (hp_i h 58 0 ((x7 + 0).toNatClampNeg) x1) 58 0 ((x7 + 1).toNatClampNeg) x2) 58 0 ((x7 + 2).toNatClampNeg) x3) 58 0 ((x7 + 3).toNatClampNeg) x4) 58 0 ((x7 + 4).toNatClampNeg) (if x5 = 0 then (0 : Int32) else 1)).1 58 0 1) + 1)).1 58 0 1) - 1))) (hp_i (hp_i (hp_i (hp_i (hp_i (hp_i h 58 0 ((x7 + 0).toNatClampNeg) x1) 58 0 ((x7 + 1).toNatClampNeg) x2) 58 0 ((x7 + 2).toNatClampNeg) x3) 58 0 ((x7 + 3).toNatClampNeg) x4) 58 0 ((x7 + 4).toNatClampNeg) (if x5 = 0 then (0 : Int32) else 1)) 58 0 1 (((hp_i (hp_i (hp_i (hp_i (hp_i h 58 0 ((x7 + 0).toNatClampNeg) x1) 58 0 ((x7 + 1).toNatClampNeg) x2) 58 0 ((x7 + 2).toNatClampNeg) x3) 58 0 ((x7 + 3).toNatClampNeg) x4) 58 0 ((x7 + 4).toNatClampNeg) (if x5 = 0 then (0 : Int32) else 1)).1 58 0 1) + 1))) ∧ ((¬ 8 ≤ x8) → (vp_in (x7 + x8) 301) ∧ AW X (d + 1) rb mX12_addOrder 109 [(0, vR 12 0), (1, vI x1), (2, vI x2), (3, vI x3), (4, vI x4), (5, vI x5), (6, vI x6), (7, vI x7), (8, vI (x8 + 1))] [] (hp_i h 58 0 ((x7 + x8).toNatClampNeg) 0) Qr Qx)) : AW X (d + 1) rb mX12_addOrder 109 [(0, vR 12 0), (1, vI x1), (2, vI x2), (3, vI x3), (4, vI x4), (5, vI x5), (6, vI x6), (7, vI x7), (8, vI x8)] [] h Qr Qx := by
  refine aw_iload (j := 8) (i := 8) dX12_addOrder_109 rfl rfl ?_
  refine aw_bipush (v := 8) dX12_addOrder_111 rfl (by decide) ?_
  refine aw_icmp_ge 133 dX12_addOrder_113 rfl rfl (fun c => ?_) (fun c => ?_)
  · replace k := k.1 c
    refine aw_aload_n (j := 0) (i := 0) dX12_addOrder_133 rfl rfl rfl ?_
    refine aw_getf (k := 14) (z := 58) dX12_addOrder_134 rfl (by decide) rfl rfl rfl cb_12 (by decide) gw_1608 ?_
    refine aw_iload (j := 7) (i := 7) dX12_addOrder_137 rfl rfl ?_
    refine aw_iconst (v := 0) dX12_addOrder_139 rfl (by decide) ?_
    refine aw_iadd dX12_addOrder_140 rfl ?_
    refine aw_iload_n (j := 1) (i := 1) dX12_addOrder_141 rfl rfl rfl ?_
    refine aw_iast dX12_addOrder_142 rfl (by decide) rfl k.1 ?_
    replace k := k.2
    refine aw_aload_n (j := 0) (i := 0) dX12_addOrder_143 rfl rfl rfl ?_
    refine aw_getf (k := 14) (z := 58) dX12_addOrder_144 rfl (by decide) rfl rfl rfl cb_12 (by decide) gw_1608 ?_
    refine aw_iload (j := 7) (i := 7) dX12_addOrder_147 rfl rfl ?_
    refine aw_iconst (v := 1) dX12_addOrder_149 rfl (by decide) ?_
    refine aw_iadd dX12_addOrder_150 rfl ?_
    refine aw_iload_n (j := 2) (i := 2) dX12_addOrder_151 rfl rfl rfl ?_
    refine aw_iast dX12_addOrder_152 rfl (by decide) rfl k.1 ?_
    replace k := k.2
    refine aw_aload_n (j := 0) (i := 0) dX12_addOrder_153 rfl rfl rfl ?_
    refine aw_getf (k := 14) (z := 58) dX12_addOrder_154 rfl (by decide) rfl rfl rfl cb_12 (by decide) gw_1608 ?_
    refine aw_iload (j := 7) (i := 7) dX12_addOrder_157 rfl rfl ?_
    refine aw_iconst (v := 2) dX12_addOrder_159 rfl (by decide) ?_
    refine aw_iadd dX12_addOrder_160 rfl ?_
    refine aw_iload_n (j := 3) (i := 3) dX12_addOrder_161 rfl rfl rfl ?_
    refine aw_iast dX12_addOrder_162 rfl (by decide) rfl k.1 ?_
    replace k := k.2
    refine aw_aload_n (j := 0) (i := 0) dX12_addOrder_163 rfl rfl rfl ?_
    refine aw_getf (k := 14) (z := 58) dX12_addOrder_164 rfl (by decide) rfl rfl rfl cb_12 (by decide) gw_1608 ?_
    refine aw_iload (j := 7) (i := 7) dX12_addOrder_167 rfl rfl ?_
    refine aw_iconst (v := 3) dX12_addOrder_169 rfl (by decide) ?_
    refine aw_iadd dX12_addOrder_170 rfl ?_
    refine aw_iload (j := 4) (i := 4) dX12_addOrder_171 rfl rfl ?_
    refine aw_iast dX12_addOrder_173 rfl (by decide) rfl k.1 ?_
    replace k := k.2
    refine aw_aload_n (j := 0) (i := 0) dX12_addOrder_174 rfl rfl rfl ?_
    refine aw_getf (k := 14) (z := 58) dX12_addOrder_175 rfl (by decide) rfl rfl rfl cb_12 (by decide) gw_1608 ?_
    refine aw_iload (j := 7) (i := 7) dX12_addOrder_178 rfl rfl ?_
    refine aw_iconst (v := 4) dX12_addOrder_180 rfl (by decide) ?_
    refine aw_iadd dX12_addOrder_181 rfl ?_
    refine aw_iload (j := 5) (i := 5) dX12_addOrder_182 rfl rfl ?_
    have kk : AW X (d + 1) rb mX12_addOrder 192 [(0, vR 12 0), (1, vI x1), (2, vI x2), (3, vI x3), (4, vI x4), (5, vI x5), (6, vI x6), (7, vI x7), (8, vI x8)] [vI (if x5 = 0 then (0 : Int32) else 1), vI (x7 + 4), vR 58 0] (hp_i (hp_i (hp_i (hp_i h 58 0 ((x7 + 0).toNatClampNeg) x1) 58 0 ((x7 + 1).toNatClampNeg) x2) 58 0 ((x7 + 2).toNatClampNeg) x3) 58 0 ((x7 + 3).toNatClampNeg) x4) Qr Qx := by
      refine aw_iast dX12_addOrder_192 rfl (by decide) rfl k.1 ?_
      replace k := k.2
      refine aw_aload_n (j := 0) (i := 0) dX12_addOrder_193 rfl rfl rfl ?_
      refine aw_getf (k := 14) (z := 58) dX12_addOrder_194 rfl (by decide) rfl rfl rfl cb_12 (by decide) gw_1608 ?_
      refine aw_iconst (v := 1) dX12_addOrder_197 rfl (by decide) ?_
      refine aw_dup2 dX12_addOrder_198 rfl rfl rfl ?_
      refine aw_iald dX12_addOrder_199 rfl (by decide) rfl (by unfold vp_in; decide) ?_
      refine aw_iconst (v := 1) dX12_addOrder_200 rfl (by decide) ?_
      refine aw_iadd dX12_addOrder_201 rfl ?_
      refine aw_iast dX12_addOrder_202 rfl (by decide) rfl (by unfold vp_in; decide) ?_
      refine aw_aload_n (j := 0) (i := 0) dX12_addOrder_203 rfl rfl rfl ?_
      refine aw_getf (k := 14) (z := 58) dX12_addOrder_204 rfl (by decide) rfl rfl rfl cb_12 (by decide) gw_1608 ?_
      refine aw_iconst (v := 1) dX12_addOrder_207 rfl (by decide) ?_
      refine aw_iald dX12_addOrder_208 rfl (by decide) rfl (by unfold vp_in; decide) ?_
      refine aw_iconst (v := 1) dX12_addOrder_209 rfl (by decide) ?_
      refine aw_isub dX12_addOrder_210 rfl ?_
      exact aw_iret dX12_addOrder_211 rfl k
    refine aw_if_eq 191 dX12_addOrder_184 rfl rfl (fun (c0 : x5 = 0) => ?_) (fun (c0 : ¬ x5 = 0) => ?_)
    · refine aw_iconst (v := 0) dX12_addOrder_191 rfl (by decide) ?_
      simp only [if_pos c0] at kk
      exact kk
    · refine aw_iconst (v := 1) dX12_addOrder_187 rfl (by decide) ?_
      refine aw_goto 192 dX12_addOrder_188 rfl ?_
      simp only [if_neg c0] at kk
      exact kk
  · replace k := k.2 c
    refine aw_aload_n (j := 0) (i := 0) dX12_addOrder_116 rfl rfl rfl ?_
    refine aw_getf (k := 14) (z := 58) dX12_addOrder_117 rfl (by decide) rfl rfl rfl cb_12 (by decide) gw_1608 ?_
    refine aw_iload (j := 7) (i := 7) dX12_addOrder_120 rfl rfl ?_
    refine aw_iload (j := 8) (i := 8) dX12_addOrder_122 rfl rfl ?_
    refine aw_iadd dX12_addOrder_124 rfl ?_
    refine aw_iconst (v := 0) dX12_addOrder_125 rfl (by decide) ?_
    refine aw_iast dX12_addOrder_126 rfl (by decide) rfl k.1 ?_
    replace k := k.2
    refine aw_iinc (i := 8) (j := 8) (v := x8 + 1) (L2 := [(8, vI (x8 + 1)), (0, vR 12 0), (1, vI x1), (2, vI x2), (3, vI x3), (4, vI x4), (5, vI x5), (6, vI x6), (7, vI x7)]) dX12_addOrder_127 rfl (by decide) rfl rfl rfl ?_
    refine aw_goto 109 dX12_addOrder_130 rfl ?_
    exact aw_sub [1, 2, 3, 4, 5, 6, 7, 8, 0] rfl k
set_option maxHeartbeats 4000000 in
set_option maxRecDepth 100000 in
theorem vc_X12_holds_0 {X : WD → State → Prop} {d rb : Nat} {h : Hp} {Qr : Option AV → Hp → Prop} {Qx : String → Hp → Prop} {a1 : Int32} {a2 : Int32}  (k : CL 0 d mX12_grows [vR 12 0, vI a1, vI 6, vI a2] h (oV fun h1 => AW X (d + 1) rb mX12_holds 10 [(0, vR 12 0), (1, vI a1), (2, vI a2), (3, vI 0)] [] h1 Qr Qx) Qx) : AW X (d + 1) rb mX12_holds 0 [(0, vR 12 0), (1, vI a1), (2, vI a2)] [] h Qr Qx := by
  refine aw_aload_n (j := 0) (i := 0) dX12_holds_0 rfl rfl rfl ?_
  refine aw_iload_n (j := 1) (i := 1) dX12_holds_1 rfl rfl rfl ?_
  refine aw_bipush (v := 6) dX12_holds_2 rfl (by decide) ?_
  refine aw_iload_n (j := 2) (i := 2) dX12_holds_4 rfl rfl rfl ?_
  refine aw_callV (M' := mX12_grows) (S := []) (as := [vI a1, vI 6, vI a2]) (k := 0) dX12_holds_5 rfl (by decide) rfl rfl gw_2015 gw_2017 gw_74 mb_X12_grows rfl (Nat.zero_le _) (Nat.le_of_ble_eq_true rfl) rfl (CL.imp k (fun _ h1 k => ?_) (fun _ _ k => k))
  obtain ⟨rfl, k⟩ := oV_of k
  show AW X (d + 1) rb mX12_holds 8 _ [] h1 Qr Qx
  refine aw_iconst (v := 0) dX12_holds_8 rfl (by decide) ?_
  refine aw_istore_n (i := 3) (L2 := [(3, vI 0), (0, vR 12 0), (1, vI a1), (2, vI a2)]) dX12_holds_9 rfl rfl (by decide) rfl ?_
  exact aw_sub [1, 2, 3, 0] rfl k
set_option maxHeartbeats 4000000 in
set_option maxRecDepth 100000 in
theorem vc_X12_holds_10 {X : WD → State → Prop} {d rb : Nat} {h : Hp} {Qr : Option AV → Hp → Prop} {Qx : String → Hp → Prop} {x1 : Int32} {x2 : Int32} {x3 : Int32}  (k : (((h.1 56 0 0) ≤ x3) → Qr none h) ∧ ((¬ (h.1 56 0 0) ≤ x3) → (vp_in (21 + x3) 301) ∧ CL 0 d mX12_of [vR 12 0, vI x1, vI 0] h (oI fun r2 h1 => CL 0 d mX12_needs [vR 12 0, vI r2, vI x3] h1 (oI fun r4 h3 => (vp_in (21 + x3) 301) ∧ AW X (d + 1) rb mX12_holds 10 [(0, vR 12 0), (1, vI x1), (2, vI x2), (3, vI (x3 + 1))] [] (hp_i h3 58 0 ((21 + x3).toNatClampNeg) ((h.1 58 0 ((21 + x3).toNatClampNeg)) + (x2 * r4))) Qr Qx) Qx) Qx)) : AW X (d + 1) rb mX12_holds 10 [(0, vR 12 0), (1, vI x1), (2, vI x2), (3, vI x3)] [] h Qr Qx := by
  refine aw_iload_n (j := 3) (i := 3) dX12_holds_10 rfl rfl rfl ?_
  refine aw_aload_n (j := 0) (i := 0) dX12_holds_11 rfl rfl rfl ?_
  refine aw_getf (k := 11) (z := 56) dX12_holds_12 rfl (by decide) rfl rfl rfl cb_12 (by decide) gw_1605 ?_
  refine aw_iconst (v := 0) dX12_holds_15 rfl (by decide) ?_
  refine aw_iald dX12_holds_16 rfl (by decide) rfl (by unfold vp_in; decide) ?_
  refine aw_icmp_ge 51 dX12_holds_17 rfl rfl (fun c => ?_) (fun c => ?_)
  · replace k := k.1 c
    exact aw_vret dX12_holds_51 rfl k
  · replace k := k.2 c
    refine aw_aload_n (j := 0) (i := 0) dX12_holds_20 rfl rfl rfl ?_
    refine aw_getf (k := 14) (z := 58) dX12_holds_21 rfl (by decide) rfl rfl rfl cb_12 (by decide) gw_1608 ?_
    refine aw_bipush (v := 21) dX12_holds_24 rfl (by decide) ?_
    refine aw_iload_n (j := 3) (i := 3) dX12_holds_26 rfl rfl rfl ?_
    refine aw_iadd dX12_holds_27 rfl ?_
    refine aw_dup2 dX12_holds_28 rfl rfl rfl ?_
    refine aw_iald dX12_holds_29 rfl (by decide) rfl k.1 ?_
    replace k := k.2
    refine aw_iload_n (j := 2) (i := 2) dX12_holds_30 rfl rfl rfl ?_
    refine aw_aload_n (j := 0) (i := 0) dX12_holds_31 rfl rfl rfl ?_
    refine aw_aload_n (j := 0) (i := 0) dX12_holds_32 rfl rfl rfl ?_
    refine aw_iload_n (j := 1) (i := 1) dX12_holds_33 rfl rfl rfl ?_
    refine aw_iconst (v := 0) dX12_holds_34 rfl (by decide) ?_
    refine aw_callV (M' := mX12_of) (S := [vR 12 0, vI x2, vI (h.1 58 0 ((21 + x3).toNatClampNeg)), vI (21 + x3), vR 58 0]) (as := [vI x1, vI 0]) (k := 0) dX12_holds_35 rfl (by decide) rfl rfl gw_1871 gw_1873 gw_58 mb_X12_of rfl (Nat.zero_le _) (Nat.le_of_ble_eq_true rfl) rfl (CL.imp k (fun _ h1 k => ?_) (fun _ _ k => k))
    obtain ⟨r2, rfl, k⟩ := oI_of k
    show AW X (d + 1) rb mX12_holds 38 _ [vI r2, vR 12 0, vI x2, vI (h.1 58 0 ((21 + x3).toNatClampNeg)), vI (21 + x3), vR 58 0] h1 Qr Qx
    refine aw_iload_n (j := 3) (i := 3) dX12_holds_38 rfl rfl rfl ?_
    refine aw_callV (M' := mX12_needs) (S := [vI x2, vI (h.1 58 0 ((21 + x3).toNatClampNeg)), vI (21 + x3), vR 58 0]) (as := [vI r2, vI x3]) (k := 0) dX12_holds_39 rfl (by decide) rfl rfl gw_1788 gw_1790 gw_51 mb_X12_needs rfl (Nat.zero_le _) (Nat.le_of_ble_eq_true rfl) rfl (CL.imp k (fun _ h3 k => ?_) (fun _ _ k => k))
    obtain ⟨r4, rfl, k⟩ := oI_of k
    show AW X (d + 1) rb mX12_holds 42 _ [vI r4, vI x2, vI (h.1 58 0 ((21 + x3).toNatClampNeg)), vI (21 + x3), vR 58 0] h3 Qr Qx
    refine aw_imul dX12_holds_42 rfl ?_
    refine aw_iadd dX12_holds_43 rfl ?_
    refine aw_iast dX12_holds_44 rfl (by decide) rfl k.1 ?_
    replace k := k.2
    refine aw_iinc (i := 3) (j := 3) (v := x3 + 1) (L2 := [(3, vI (x3 + 1)), (0, vR 12 0), (1, vI x1), (2, vI x2)]) dX12_holds_45 rfl (by decide) rfl rfl rfl ?_
    refine aw_goto 10 dX12_holds_48 rfl ?_
    exact aw_sub [1, 2, 3, 0] rfl k
set_option maxHeartbeats 4000000 in
set_option maxRecDepth 100000 in
theorem vc_X12_cancel_0 {X : WD → State → Prop} {d rb : Nat} {h : Hp} {Qr : Option AV → Hp → Prop} {Qx : String → Hp → Prop} {a1 : Int32}  (k : CL 0 d mX12_noOrder [vR 12 0, vI a1] (hp_i h 12 0 0 0) (oI fun r2 h1 => ((¬ r2 = 0) → Qr (some (vI 0)) h1) ∧ ((r2 = 0) → CL 0 d mX12_isOver [vR 12 0, vI a1] h1 (oI fun r4 h3 => CL 0 d mX12_throwsIf [vR 12 0, vI r4, vI 2] h3 (oI fun r6 h5 => ((r6 = 0) → CL 0 d mX12_keeps [vR 12 0] h5 (oV fun h7 => CL 0 d mX12_of [vR 12 0, vI a1, vI 6] h7 (oI fun r9 h8 => CL 0 d mX12_holds [vR 12 0, vI a1, vI (-r9)] h8 (oV fun h10 => CL 0 d mX12_grows [vR 12 0, vI a1, vI 7, vI 1] h10 (oV fun h11 => Qr (some (vI r9)) h11) Qx) Qx) Qx) Qx) ∧ ((¬ r6 = 0) → Qr (some (vI 0)) h5)) Qx) Qx)) Qx) : AW X (d + 1) rb mX12_cancel 0 [(0, vR 12 0), (1, vI a1)] [] h Qr Qx := by
  refine aw_aload_n (j := 0) (i := 0) dX12_cancel_0 rfl rfl rfl ?_
  refine aw_iconst (v := 0) dX12_cancel_1 rfl (by decide) ?_
  refine aw_puti (k := 0) dX12_cancel_2 rfl (by decide) rfl rfl cb_12 (by decide) rfl rfl gw_1594 ?_
  refine aw_aload_n (j := 0) (i := 0) dX12_cancel_5 rfl rfl rfl ?_
  refine aw_iload_n (j := 1) (i := 1) dX12_cancel_6 rfl rfl rfl ?_
  refine aw_callV (M' := mX12_noOrder) (S := []) (as := [vI a1]) (k := 0) dX12_cancel_7 rfl (by decide) rfl rfl gw_1867 gw_1869 gw_57 mb_X12_noOrder rfl (Nat.zero_le _) (Nat.le_of_ble_eq_true rfl) rfl (CL.imp k (fun _ h1 k => ?_) (fun _ _ k => k))
  obtain ⟨r2, rfl, k⟩ := oI_of k
  show AW X (d + 1) rb mX12_cancel 10 _ [vI r2] h1 Qr Qx
  refine aw_if_ne 26 dX12_cancel_10 rfl rfl (fun c => ?_) (fun c => ?_)
  · replace k := k.1 c
    refine aw_iconst (v := 0) dX12_cancel_26 rfl (by decide) ?_
    exact aw_iret dX12_cancel_27 rfl k
  · replace k := k.2 c
    refine aw_aload_n (j := 0) (i := 0) dX12_cancel_13 rfl rfl rfl ?_
    refine aw_aload_n (j := 0) (i := 0) dX12_cancel_14 rfl rfl rfl ?_
    refine aw_iload_n (j := 1) (i := 1) dX12_cancel_15 rfl rfl rfl ?_
    refine aw_callV (M' := mX12_isOver) (S := [vR 12 0]) (as := [vI a1]) (k := 0) dX12_cancel_16 rfl (by decide) rfl rfl gw_1927 gw_1929 gw_63 mb_X12_isOver rfl (Nat.zero_le _) (Nat.le_of_ble_eq_true rfl) rfl (CL.imp k (fun _ h3 k => ?_) (fun _ _ k => k))
    obtain ⟨r4, rfl, k⟩ := oI_of k
    show AW X (d + 1) rb mX12_cancel 19 _ [vI r4, vR 12 0] h3 Qr Qx
    refine aw_iconst (v := 2) dX12_cancel_19 rfl (by decide) ?_
    refine aw_callV (M' := mX12_throwsIf) (S := []) (as := [vI r4, vI 2]) (k := 0) dX12_cancel_20 rfl (by decide) rfl rfl gw_1748 gw_1750 gw_48 mb_X12_throwsIf rfl (Nat.zero_le _) (Nat.le_of_ble_eq_true rfl) rfl (CL.imp k (fun _ h5 k => ?_) (fun _ _ k => k))
    obtain ⟨r6, rfl, k⟩ := oI_of k
    show AW X (d + 1) rb mX12_cancel 23 _ [vI r6] h5 Qr Qx
    refine aw_if_eq 28 dX12_cancel_23 rfl rfl (fun c => ?_) (fun c => ?_)
    · replace k := k.1 c
      refine aw_aload_n (j := 0) (i := 0) dX12_cancel_28 rfl rfl rfl ?_
      refine aw_callV (M' := mX12_keeps) (S := []) (as := []) (k := 0) dX12_cancel_29 rfl (by decide) rfl rfl gw_2003 gw_2005 gw_72 mb_X12_keeps rfl (Nat.zero_le _) (Nat.le_of_ble_eq_true rfl) rfl (CL.imp k (fun _ h7 k => ?_) (fun _ _ k => k))
      obtain ⟨rfl, k⟩ := oV_of k
      show AW X (d + 1) rb mX12_cancel 32 _ [] h7 Qr Qx
      refine aw_aload_n (j := 0) (i := 0) dX12_cancel_32 rfl rfl rfl ?_
      refine aw_iload_n (j := 1) (i := 1) dX12_cancel_33 rfl rfl rfl ?_
      refine aw_bipush (v := 6) dX12_cancel_34 rfl (by decide) ?_
      refine aw_callV (M' := mX12_of) (S := []) (as := [vI a1, vI 6]) (k := 0) dX12_cancel_36 rfl (by decide) rfl rfl gw_1871 gw_1873 gw_58 mb_X12_of rfl (Nat.zero_le _) (Nat.le_of_ble_eq_true rfl) rfl (CL.imp k (fun _ h8 k => ?_) (fun _ _ k => k))
      obtain ⟨r9, rfl, k⟩ := oI_of k
      show AW X (d + 1) rb mX12_cancel 39 _ [vI r9] h8 Qr Qx
      refine aw_istore_n (i := 2) (L2 := [(2, vI r9), (0, vR 12 0), (1, vI a1)]) dX12_cancel_39 rfl rfl (by decide) rfl ?_
      refine aw_aload_n (j := 1) (i := 0) dX12_cancel_40 rfl rfl rfl ?_
      refine aw_iload_n (j := 2) (i := 1) dX12_cancel_41 rfl rfl rfl ?_
      refine aw_iload_n (j := 0) (i := 2) dX12_cancel_42 rfl rfl rfl ?_
      refine aw_ineg dX12_cancel_43 rfl ?_
      refine aw_callV (M' := mX12_holds) (S := []) (as := [vI a1, vI (-r9)]) (k := 0) dX12_cancel_44 rfl (by decide) rfl rfl gw_2011 gw_2013 gw_73 mb_X12_holds rfl (Nat.zero_le _) (Nat.le_of_ble_eq_true rfl) rfl (CL.imp k (fun _ h10 k => ?_) (fun _ _ k => k))
      obtain ⟨rfl, k⟩ := oV_of k
      show AW X (d + 1) rb mX12_cancel 47 _ [] h10 Qr Qx
      refine aw_aload_n (j := 1) (i := 0) dX12_cancel_47 rfl rfl rfl ?_
      refine aw_iload_n (j := 2) (i := 1) dX12_cancel_48 rfl rfl rfl ?_
      refine aw_bipush (v := 7) dX12_cancel_49 rfl (by decide) ?_
      refine aw_iconst (v := 1) dX12_cancel_51 rfl (by decide) ?_
      refine aw_callV (M' := mX12_grows) (S := []) (as := [vI a1, vI 7, vI 1]) (k := 0) dX12_cancel_52 rfl (by decide) rfl rfl gw_2015 gw_2017 gw_74 mb_X12_grows rfl (Nat.zero_le _) (Nat.le_of_ble_eq_true rfl) rfl (CL.imp k (fun _ h11 k => ?_) (fun _ _ k => k))
      obtain ⟨rfl, k⟩ := oV_of k
      show AW X (d + 1) rb mX12_cancel 55 _ [] h11 Qr Qx
      refine aw_iload_n (j := 0) (i := 2) dX12_cancel_55 rfl rfl rfl ?_
      exact aw_iret dX12_cancel_56 rfl k
    · replace k := k.2 c
      refine aw_iconst (v := 0) dX12_cancel_26 rfl (by decide) ?_
      exact aw_iret dX12_cancel_27 rfl k
set_option maxHeartbeats 4000000 in
set_option maxRecDepth 100000 in
theorem vc_X12_hasFor_0 {X : WD → State → Prop} {d rb : Nat} {h : Hp} {Qr : Option AV → Hp → Prop} {Qx : String → Hp → Prop} {a1 : Int32} {a2 : Int32}  (k : AW X (d + 1) rb mX12_hasFor 2 [(0, vR 12 0), (1, vI a1), (2, vI a2), (3, vI 0)] [] h Qr Qx) : AW X (d + 1) rb mX12_hasFor 0 [(0, vR 12 0), (1, vI a1), (2, vI a2)] [] h Qr Qx := by
  refine aw_iconst (v := 0) dX12_hasFor_0 rfl (by decide) ?_
  refine aw_istore_n (i := 3) (L2 := [(3, vI 0), (0, vR 12 0), (1, vI a1), (2, vI a2)]) dX12_hasFor_1 rfl rfl (by decide) rfl ?_
  exact aw_sub [1, 2, 3, 0] rfl k
set_option maxHeartbeats 4000000 in
set_option maxRecDepth 100000 in
theorem vc_X12_hasFor_2 {X : WD → State → Prop} {d rb : Nat} {h : Hp} {Qr : Option AV → Hp → Prop} {Qx : String → Hp → Prop} {x1 : Int32} {x2 : Int32} {x3 : Int32}  (k : (((h.1 56 0 0) ≤ x3) → Qr (some (vI 1)) h) ∧ ((¬ (h.1 56 0 0) ≤ x3) → CL 0 d mX12_of [vR 12 0, vI x1, vI 0] h (oI fun r2 h1 => CL 0 d mX12_needs [vR 12 0, vI r2, vI x3] h1 (oI fun r4 h3 => CL 0 d mX12_free [vR 12 0, vI x3] h3 (oI fun r6 h5 => (((lg_cmp (x2.toInt64 * r4.toInt64) r6.toInt64) ≤ 0) → AW X (d + 1) rb mX12_hasFor 2 [(0, vR 12 0), (1, vI x1), (2, vI x2), (3, vI (x3 + 1))] [] h5 Qr Qx) ∧ ((¬ (lg_cmp (x2.toInt64 * r4.toInt64) r6.toInt64) ≤ 0) → Qr (some (vI 0)) h5)) Qx) Qx) Qx)) : AW X (d + 1) rb mX12_hasFor 2 [(0, vR 12 0), (1, vI x1), (2, vI x2), (3, vI x3)] [] h Qr Qx := by
  refine aw_iload_n (j := 3) (i := 3) dX12_hasFor_2 rfl rfl rfl ?_
  refine aw_aload_n (j := 0) (i := 0) dX12_hasFor_3 rfl rfl rfl ?_
  refine aw_getf (k := 11) (z := 56) dX12_hasFor_4 rfl (by decide) rfl rfl rfl cb_12 (by decide) gw_1605 ?_
  refine aw_iconst (v := 0) dX12_hasFor_7 rfl (by decide) ?_
  refine aw_iald dX12_hasFor_8 rfl (by decide) rfl (by unfold vp_in; decide) ?_
  refine aw_icmp_ge 45 dX12_hasFor_9 rfl rfl (fun c => ?_) (fun c => ?_)
  · replace k := k.1 c
    refine aw_iconst (v := 1) dX12_hasFor_45 rfl (by decide) ?_
    exact aw_zret dX12_hasFor_46 rfl (by decide) k
  · replace k := k.2 c
    refine aw_iload_n (j := 2) (i := 2) dX12_hasFor_12 rfl rfl rfl ?_
    refine aw_i2l dX12_hasFor_13 rfl ?_
    refine aw_aload_n (j := 0) (i := 0) dX12_hasFor_14 rfl rfl rfl ?_
    refine aw_aload_n (j := 0) (i := 0) dX12_hasFor_15 rfl rfl rfl ?_
    refine aw_iload_n (j := 1) (i := 1) dX12_hasFor_16 rfl rfl rfl ?_
    refine aw_iconst (v := 0) dX12_hasFor_17 rfl (by decide) ?_
    refine aw_callV (M' := mX12_of) (S := [vR 12 0, vJ x2.toInt64]) (as := [vI x1, vI 0]) (k := 0) dX12_hasFor_18 rfl (by decide) rfl rfl gw_1871 gw_1873 gw_58 mb_X12_of rfl (Nat.zero_le _) (Nat.le_of_ble_eq_true rfl) rfl (CL.imp k (fun _ h1 k => ?_) (fun _ _ k => k))
    obtain ⟨r2, rfl, k⟩ := oI_of k
    show AW X (d + 1) rb mX12_hasFor 21 _ [vI r2, vR 12 0, vJ x2.toInt64] h1 Qr Qx
    refine aw_iload_n (j := 3) (i := 3) dX12_hasFor_21 rfl rfl rfl ?_
    refine aw_callV (M' := mX12_needs) (S := [vJ x2.toInt64]) (as := [vI r2, vI x3]) (k := 0) dX12_hasFor_22 rfl (by decide) rfl rfl gw_1788 gw_1790 gw_51 mb_X12_needs rfl (Nat.zero_le _) (Nat.le_of_ble_eq_true rfl) rfl (CL.imp k (fun _ h3 k => ?_) (fun _ _ k => k))
    obtain ⟨r4, rfl, k⟩ := oI_of k
    show AW X (d + 1) rb mX12_hasFor 25 _ [vI r4, vJ x2.toInt64] h3 Qr Qx
    refine aw_i2l dX12_hasFor_25 rfl ?_
    refine aw_lmul dX12_hasFor_26 rfl ?_
    refine aw_aload_n (j := 0) (i := 0) dX12_hasFor_27 rfl rfl rfl ?_
    refine aw_iload_n (j := 3) (i := 3) dX12_hasFor_28 rfl rfl rfl ?_
    refine aw_callV (M' := mX12_free) (S := [vJ (x2.toInt64 * r4.toInt64)]) (as := [vI x3]) (k := 0) dX12_hasFor_29 rfl (by decide) rfl rfl gw_1850 gw_1852 gw_56 mb_X12_free rfl (Nat.zero_le _) (Nat.le_of_ble_eq_true rfl) rfl (CL.imp k (fun _ h5 k => ?_) (fun _ _ k => k))
    obtain ⟨r6, rfl, k⟩ := oI_of k
    show AW X (d + 1) rb mX12_hasFor 32 _ [vI r6, vJ (x2.toInt64 * r4.toInt64)] h5 Qr Qx
    refine aw_i2l dX12_hasFor_32 rfl ?_
    refine aw_lcmp dX12_hasFor_33 rfl ?_
    refine aw_if_le 39 dX12_hasFor_34 rfl rfl (fun c => ?_) (fun c => ?_)
    · replace k := k.1 c
      refine aw_iinc (i := 3) (j := 3) (v := x3 + 1) (L2 := [(3, vI (x3 + 1)), (0, vR 12 0), (1, vI x1), (2, vI x2)]) dX12_hasFor_39 rfl (by decide) rfl rfl rfl ?_
      refine aw_goto 2 dX12_hasFor_42 rfl ?_
      exact aw_sub [1, 2, 3, 0] rfl k
    · replace k := k.2 c
      refine aw_iconst (v := 0) dX12_hasFor_37 rfl (by decide) ?_
      exact aw_zret dX12_hasFor_38 rfl (by decide) k
set_option maxHeartbeats 4000000 in
set_option maxRecDepth 100000 in
theorem vc_X12_isOff_0 {X : WD → State → Prop} {d rb : Nat} {h : Hp} {Qr : Option AV → Hp → Prop} {Qx : String → Hp → Prop} {a1 : Int32} {a2 : Int32}  (k : CL 0 d mX12_of [vR 12 0, vI a1, vI 4] h (oI fun r2 h1 => ((¬ r2 = 1) → Qr (some (vI 0)) h1) ∧ ((r2 = 1) → CL 0 d mX12_of [vR 12 0, vI a1, vI 1] h1 (oI fun r4 h3 => ((if a2 = r4 then (0 : Int32) else 1) = 0 ∨ (if a2 = r4 then (0 : Int32) else 1) = 1) ∧ Qr (some (vI (if a2 = r4 then (0 : Int32) else 1))) h3) Qx)) Qx) : AW X (d + 1) rb mX12_isOff 0 [(0, vR 12 0), (1, vI a1), (2, vI a2)] [] h Qr Qx := by
  refine aw_aload_n (j := 0) (i := 0) dX12_isOff_0 rfl rfl rfl ?_
  refine aw_iload_n (j := 1) (i := 1) dX12_isOff_1 rfl rfl rfl ?_
  refine aw_iconst (v := 4) dX12_isOff_2 rfl (by decide) ?_
  refine aw_callV (M' := mX12_of) (S := []) (as := [vI a1, vI 4]) (k := 0) dX12_isOff_3 rfl (by decide) rfl rfl gw_1871 gw_1873 gw_58 mb_X12_of rfl (Nat.zero_le _) (Nat.le_of_ble_eq_true rfl) rfl (CL.imp k (fun _ h1 k => ?_) (fun _ _ k => k))
  obtain ⟨r2, rfl, k⟩ := oI_of k
  show AW X (d + 1) rb mX12_isOff 6 _ [vI r2] h1 Qr Qx
  refine aw_iconst (v := 1) dX12_isOff_6 rfl (by decide) ?_
  refine aw_icmp_ne 24 dX12_isOff_7 rfl rfl (fun c => ?_) (fun c => ?_)
  · replace k := k.1 c
    refine aw_iconst (v := 0) dX12_isOff_24 rfl (by decide) ?_
    exact aw_zret dX12_isOff_25 rfl (by decide) k
  · replace k := k.2 c
    refine aw_iload_n (j := 2) (i := 2) dX12_isOff_10 rfl rfl rfl ?_
    refine aw_aload_n (j := 0) (i := 0) dX12_isOff_11 rfl rfl rfl ?_
    refine aw_iload_n (j := 1) (i := 1) dX12_isOff_12 rfl rfl rfl ?_
    refine aw_iconst (v := 1) dX12_isOff_13 rfl (by decide) ?_
    refine aw_callV (M' := mX12_of) (S := [vI a2]) (as := [vI a1, vI 1]) (k := 0) dX12_isOff_14 rfl (by decide) rfl rfl gw_1871 gw_1873 gw_58 mb_X12_of rfl (Nat.zero_le _) (Nat.le_of_ble_eq_true rfl) rfl (CL.imp k (fun _ h3 k => ?_) (fun _ _ k => k))
    obtain ⟨r4, rfl, k⟩ := oI_of k
    show AW X (d + 1) rb mX12_isOff 17 _ [vI r4, vI a2] h3 Qr Qx
    have kk : AW X (d + 1) rb mX12_isOff 25 [(0, vR 12 0), (1, vI a1), (2, vI a2)] [vI (if a2 = r4 then (0 : Int32) else 1)] h3 Qr Qx := by
      exact aw_zret dX12_isOff_25 rfl k.1 k.2
    refine aw_icmp_eq 24 dX12_isOff_17 rfl rfl (fun (c0 : a2 = r4) => ?_) (fun (c0 : ¬ a2 = r4) => ?_)
    · refine aw_iconst (v := 0) dX12_isOff_24 rfl (by decide) ?_
      simp only [if_pos c0] at kk
      exact kk
    · refine aw_iconst (v := 1) dX12_isOff_20 rfl (by decide) ?_
      refine aw_goto 25 dX12_isOff_21 rfl ?_
      simp only [if_neg c0] at kk
      exact kk
set_option maxHeartbeats 4000000 in
set_option maxRecDepth 100000 in
theorem vc_X12_reserve_0 {X : WD → State → Prop} {d rb : Nat} {h : Hp} {Qr : Option AV → Hp → Prop} {Qx : String → Hp → Prop} {a1 : Int32} {a2 : Int32}  (k : CL 0 d mX12_noOrder [vR 12 0, vI a1] (hp_i h 12 0 0 0) (oI fun r2 h1 => ((¬ r2 = 0) → Qr (some (vI 0)) h1) ∧ ((r2 = 0) → CL 0 d mX12_throwsIf [vR 12 0, vI (if 1 ≤ a2 then (0 : Int32) else 1), vI 2] h1 (oI fun r4 h3 => ((¬ r4 = 0) → Qr (some (vI 0)) h3) ∧ ((r4 = 0) → CL 0 d mX12_open [vR 12 0, vI a1] h3 (oI fun r6 h5 => ((r6 < a2) → CL 0 d mX12_throwsIf [vR 12 0, vI 1, vI 3] h5 (oI fun r8 h7 => ((r8 = 0) → CL 0 d mX12_keeps [vR 12 0] h7 (oV fun h9 => CL 0 d mX12_holds [vR 12 0, vI a1, vI a2] h9 (oV fun h10 => CL 0 d mX12_open [vR 12 0, vI a1] h10 (oI fun r12 h11 => Qr (some (vI r12)) h11) Qx) Qx) Qx) ∧ ((¬ r8 = 0) → Qr (some (vI 0)) h7)) Qx) ∧ ((¬ r6 < a2) → CL 0 d mX12_isOff [vR 12 0, vI a1, vI a2] h5 (oI fun r14 h13 => ((¬ r14 = 0) → CL 0 d mX12_throwsIf [vR 12 0, vI 1, vI 3] h13 (oI fun r16 h15 => ((r16 = 0) → CL 0 d mX12_keeps [vR 12 0] h15 (oV fun h17 => CL 0 d mX12_holds [vR 12 0, vI a1, vI a2] h17 (oV fun h18 => CL 0 d mX12_open [vR 12 0, vI a1] h18 (oI fun r20 h19 => Qr (some (vI r20)) h19) Qx) Qx) Qx) ∧ ((¬ r16 = 0) → Qr (some (vI 0)) h15)) Qx) ∧ ((r14 = 0) → CL 0 d mX12_hasFor [vR 12 0, vI a1, vI a2] h13 (oI fun r22 h21 => CL 0 d mX12_throwsIf [vR 12 0, vI (if ¬ r22 = 0 then (0 : Int32) else 1), vI 3] h21 (oI fun r24 h23 => ((r24 = 0) → CL 0 d mX12_keeps [vR 12 0] h23 (oV fun h25 => CL 0 d mX12_holds [vR 12 0, vI a1, vI a2] h25 (oV fun h26 => CL 0 d mX12_open [vR 12 0, vI a1] h26 (oI fun r28 h27 => Qr (some (vI r28)) h27) Qx) Qx) Qx) ∧ ((¬ r24 = 0) → Qr (some (vI 0)) h23)) Qx) Qx)) Qx)) Qx)) Qx)) Qx) : AW X (d + 1) rb mX12_reserve 0 [(0, vR 12 0), (1, vI a1), (2, vI a2)] [] h Qr Qx := by
  refine aw_aload_n (j := 0) (i := 0) dX12_reserve_0 rfl rfl rfl ?_
  refine aw_iconst (v := 0) dX12_reserve_1 rfl (by decide) ?_
  refine aw_puti (k := 0) dX12_reserve_2 rfl (by decide) rfl rfl cb_12 (by decide) rfl rfl gw_1594 ?_
  refine aw_aload_n (j := 0) (i := 0) dX12_reserve_5 rfl rfl rfl ?_
  refine aw_iload_n (j := 1) (i := 1) dX12_reserve_6 rfl rfl rfl ?_
  refine aw_callV (M' := mX12_noOrder) (S := []) (as := [vI a1]) (k := 0) dX12_reserve_7 rfl (by decide) rfl rfl gw_1867 gw_1869 gw_57 mb_X12_noOrder rfl (Nat.zero_le _) (Nat.le_of_ble_eq_true rfl) rfl (CL.imp k (fun _ h1 k => ?_) (fun _ _ k => k))
  obtain ⟨r2, rfl, k⟩ := oI_of k
  show AW X (d + 1) rb mX12_reserve 10 _ [vI r2] h1 Qr Qx
  refine aw_if_ne 71 dX12_reserve_10 rfl rfl (fun c => ?_) (fun c => ?_)
  · replace k := k.1 c
    refine aw_iconst (v := 0) dX12_reserve_71 rfl (by decide) ?_
    exact aw_iret dX12_reserve_72 rfl k
  · replace k := k.2 c
    refine aw_aload_n (j := 0) (i := 0) dX12_reserve_13 rfl rfl rfl ?_
    refine aw_iload_n (j := 2) (i := 2) dX12_reserve_14 rfl rfl rfl ?_
    refine aw_iconst (v := 1) dX12_reserve_15 rfl (by decide) ?_
    have kk : AW X (d + 1) rb mX12_reserve 24 [(0, vR 12 0), (1, vI a1), (2, vI a2)] [vI (if 1 ≤ a2 then (0 : Int32) else 1), vR 12 0] h1 Qr Qx := by
      refine aw_iconst (v := 2) dX12_reserve_24 rfl (by decide) ?_
      refine aw_callV (M' := mX12_throwsIf) (S := []) (as := [vI (if 1 ≤ a2 then (0 : Int32) else 1), vI 2]) (k := 0) dX12_reserve_25 rfl (by decide) rfl rfl gw_1748 gw_1750 gw_48 mb_X12_throwsIf rfl (Nat.zero_le _) (Nat.le_of_ble_eq_true rfl) rfl (CL.imp k (fun _ h3 k => ?_) (fun _ _ k => k))
      obtain ⟨r4, rfl, k⟩ := oI_of k
      show AW X (d + 1) rb mX12_reserve 28 _ [vI r4] h3 Qr Qx
      refine aw_if_ne 71 dX12_reserve_28 rfl rfl (fun c => ?_) (fun c => ?_)
      · replace k := k.1 c
        refine aw_iconst (v := 0) dX12_reserve_71 rfl (by decide) ?_
        exact aw_iret dX12_reserve_72 rfl k
      · replace k := k.2 c
        refine aw_aload_n (j := 0) (i := 0) dX12_reserve_31 rfl rfl rfl ?_
        refine aw_iload_n (j := 2) (i := 2) dX12_reserve_32 rfl rfl rfl ?_
        refine aw_aload_n (j := 0) (i := 0) dX12_reserve_33 rfl rfl rfl ?_
        refine aw_iload_n (j := 1) (i := 1) dX12_reserve_34 rfl rfl rfl ?_
        refine aw_callV (M' := mX12_open) (S := [vI a2, vR 12 0]) (as := [vI a1]) (k := 0) dX12_reserve_35 rfl (by decide) rfl rfl gw_1875 gw_1877 gw_59 mb_X12_open rfl (Nat.zero_le _) (Nat.le_of_ble_eq_true rfl) rfl (CL.imp k (fun _ h5 k => ?_) (fun _ _ k => k))
        obtain ⟨r6, rfl, k⟩ := oI_of k
        show AW X (d + 1) rb mX12_reserve 38 _ [vI r6, vI a2, vR 12 0] h5 Qr Qx
        refine aw_icmp_gt 59 dX12_reserve_38 rfl rfl (fun c => ?_) (fun c => ?_)
        · replace k := k.1 c
          refine aw_iconst (v := 1) dX12_reserve_59 rfl (by decide) ?_
          refine aw_goto 64 dX12_reserve_60 rfl ?_
          refine aw_iconst (v := 3) dX12_reserve_64 rfl (by decide) ?_
          refine aw_callV (M' := mX12_throwsIf) (S := []) (as := [vI 1, vI 3]) (k := 0) dX12_reserve_65 rfl (by decide) rfl rfl gw_1748 gw_1750 gw_48 mb_X12_throwsIf rfl (Nat.zero_le _) (Nat.le_of_ble_eq_true rfl) rfl (CL.imp k (fun _ h7 k => ?_) (fun _ _ k => k))
          obtain ⟨r8, rfl, k⟩ := oI_of k
          show AW X (d + 1) rb mX12_reserve 68 _ [vI r8] h7 Qr Qx
          refine aw_if_eq 73 dX12_reserve_68 rfl rfl (fun c => ?_) (fun c => ?_)
          · replace k := k.1 c
            refine aw_aload_n (j := 0) (i := 0) dX12_reserve_73 rfl rfl rfl ?_
            refine aw_callV (M' := mX12_keeps) (S := []) (as := []) (k := 0) dX12_reserve_74 rfl (by decide) rfl rfl gw_2003 gw_2005 gw_72 mb_X12_keeps rfl (Nat.zero_le _) (Nat.le_of_ble_eq_true rfl) rfl (CL.imp k (fun _ h9 k => ?_) (fun _ _ k => k))
            obtain ⟨rfl, k⟩ := oV_of k
            show AW X (d + 1) rb mX12_reserve 77 _ [] h9 Qr Qx
            refine aw_aload_n (j := 0) (i := 0) dX12_reserve_77 rfl rfl rfl ?_
            refine aw_iload_n (j := 1) (i := 1) dX12_reserve_78 rfl rfl rfl ?_
            refine aw_iload_n (j := 2) (i := 2) dX12_reserve_79 rfl rfl rfl ?_
            refine aw_callV (M' := mX12_holds) (S := []) (as := [vI a1, vI a2]) (k := 0) dX12_reserve_80 rfl (by decide) rfl rfl gw_2011 gw_2013 gw_73 mb_X12_holds rfl (Nat.zero_le _) (Nat.le_of_ble_eq_true rfl) rfl (CL.imp k (fun _ h10 k => ?_) (fun _ _ k => k))
            obtain ⟨rfl, k⟩ := oV_of k
            show AW X (d + 1) rb mX12_reserve 83 _ [] h10 Qr Qx
            refine aw_aload_n (j := 0) (i := 0) dX12_reserve_83 rfl rfl rfl ?_
            refine aw_iload_n (j := 1) (i := 1) dX12_reserve_84 rfl rfl rfl ?_
            refine aw_callV (M' := mX12_open) (S := []) (as := [vI a1]) (k := 0) dX12_reserve_85 rfl (by decide) rfl rfl gw_1875 gw_1877 gw_59 mb_X12_open rfl (Nat.zero_le _) (Nat.le_of_ble_eq_true rfl) rfl (CL.imp k (fun _ h11 k => ?_) (fun _ _ k => k))
            obtain ⟨r12, rfl, k⟩ := oI_of k
            show AW X (d + 1) rb mX12_reserve 88 _ [vI r12] h11 Qr Qx
            exact aw_iret dX12_reserve_88 rfl k
          · replace k := k.2 c
            refine aw_iconst (v := 0) dX12_reserve_71 rfl (by decide) ?_
            exact aw_iret dX12_reserve_72 rfl k
        · replace k := k.2 c
          refine aw_aload_n (j := 0) (i := 0) dX12_reserve_41 rfl rfl rfl ?_
          refine aw_iload_n (j := 1) (i := 1) dX12_reserve_42 rfl rfl rfl ?_
          refine aw_iload_n (j := 2) (i := 2) dX12_reserve_43 rfl rfl rfl ?_
          refine aw_callV (M' := mX12_isOff) (S := [vR 12 0]) (as := [vI a1, vI a2]) (k := 0) dX12_reserve_44 rfl (by decide) rfl rfl gw_2023 gw_2025 gw_75 mb_X12_isOff rfl (Nat.zero_le _) (Nat.le_of_ble_eq_true rfl) rfl (CL.imp k (fun _ h13 k => ?_) (fun _ _ k => k))
          obtain ⟨r14, rfl, k⟩ := oI_of k
          show AW X (d + 1) rb mX12_reserve 47 _ [vI r14, vR 12 0] h13 Qr Qx
          refine aw_if_ne 59 dX12_reserve_47 rfl rfl (fun c => ?_) (fun c => ?_)
          · replace k := k.1 c
            refine aw_iconst (v := 1) dX12_reserve_59 rfl (by decide) ?_
            refine aw_goto 64 dX12_reserve_60 rfl ?_
            refine aw_iconst (v := 3) dX12_reserve_64 rfl (by decide) ?_
            refine aw_callV (M' := mX12_throwsIf) (S := []) (as := [vI 1, vI 3]) (k := 0) dX12_reserve_65 rfl (by decide) rfl rfl gw_1748 gw_1750 gw_48 mb_X12_throwsIf rfl (Nat.zero_le _) (Nat.le_of_ble_eq_true rfl) rfl (CL.imp k (fun _ h15 k => ?_) (fun _ _ k => k))
            obtain ⟨r16, rfl, k⟩ := oI_of k
            show AW X (d + 1) rb mX12_reserve 68 _ [vI r16] h15 Qr Qx
            refine aw_if_eq 73 dX12_reserve_68 rfl rfl (fun c => ?_) (fun c => ?_)
            · replace k := k.1 c
              refine aw_aload_n (j := 0) (i := 0) dX12_reserve_73 rfl rfl rfl ?_
              refine aw_callV (M' := mX12_keeps) (S := []) (as := []) (k := 0) dX12_reserve_74 rfl (by decide) rfl rfl gw_2003 gw_2005 gw_72 mb_X12_keeps rfl (Nat.zero_le _) (Nat.le_of_ble_eq_true rfl) rfl (CL.imp k (fun _ h17 k => ?_) (fun _ _ k => k))
              obtain ⟨rfl, k⟩ := oV_of k
              show AW X (d + 1) rb mX12_reserve 77 _ [] h17 Qr Qx
              refine aw_aload_n (j := 0) (i := 0) dX12_reserve_77 rfl rfl rfl ?_
              refine aw_iload_n (j := 1) (i := 1) dX12_reserve_78 rfl rfl rfl ?_
              refine aw_iload_n (j := 2) (i := 2) dX12_reserve_79 rfl rfl rfl ?_
              refine aw_callV (M' := mX12_holds) (S := []) (as := [vI a1, vI a2]) (k := 0) dX12_reserve_80 rfl (by decide) rfl rfl gw_2011 gw_2013 gw_73 mb_X12_holds rfl (Nat.zero_le _) (Nat.le_of_ble_eq_true rfl) rfl (CL.imp k (fun _ h18 k => ?_) (fun _ _ k => k))
              obtain ⟨rfl, k⟩ := oV_of k
              show AW X (d + 1) rb mX12_reserve 83 _ [] h18 Qr Qx
              refine aw_aload_n (j := 0) (i := 0) dX12_reserve_83 rfl rfl rfl ?_
              refine aw_iload_n (j := 1) (i := 1) dX12_reserve_84 rfl rfl rfl ?_
              refine aw_callV (M' := mX12_open) (S := []) (as := [vI a1]) (k := 0) dX12_reserve_85 rfl (by decide) rfl rfl gw_1875 gw_1877 gw_59 mb_X12_open rfl (Nat.zero_le _) (Nat.le_of_ble_eq_true rfl) rfl (CL.imp k (fun _ h19 k => ?_) (fun _ _ k => k))
              obtain ⟨r20, rfl, k⟩ := oI_of k
              show AW X (d + 1) rb mX12_reserve 88 _ [vI r20] h19 Qr Qx
              exact aw_iret dX12_reserve_88 rfl k
            · replace k := k.2 c
              refine aw_iconst (v := 0) dX12_reserve_71 rfl (by decide) ?_
              exact aw_iret dX12_reserve_72 rfl k
          · replace k := k.2 c
            refine aw_aload_n (j := 0) (i := 0) dX12_reserve_50 rfl rfl rfl ?_
            refine aw_iload_n (j := 1) (i := 1) dX12_reserve_51 rfl rfl rfl ?_
            refine aw_iload_n (j := 2) (i := 2) dX12_reserve_52 rfl rfl rfl ?_
            refine aw_callV (M' := mX12_hasFor) (S := [vR 12 0]) (as := [vI a1, vI a2]) (k := 0) dX12_reserve_53 rfl (by decide) rfl rfl gw_2027 gw_2029 gw_76 mb_X12_hasFor rfl (Nat.zero_le _) (Nat.le_of_ble_eq_true rfl) rfl (CL.imp k (fun _ h21 k => ?_) (fun _ _ k => k))
            obtain ⟨r22, rfl, k⟩ := oI_of k
            show AW X (d + 1) rb mX12_reserve 56 _ [vI r22, vR 12 0] h21 Qr Qx
            have kk : AW X (d + 1) rb mX12_reserve 64 [(0, vR 12 0), (1, vI a1), (2, vI a2)] [vI (if ¬ r22 = 0 then (0 : Int32) else 1), vR 12 0] h21 Qr Qx := by
              refine aw_iconst (v := 3) dX12_reserve_64 rfl (by decide) ?_
              refine aw_callV (M' := mX12_throwsIf) (S := []) (as := [vI (if ¬ r22 = 0 then (0 : Int32) else 1), vI 3]) (k := 0) dX12_reserve_65 rfl (by decide) rfl rfl gw_1748 gw_1750 gw_48 mb_X12_throwsIf rfl (Nat.zero_le _) (Nat.le_of_ble_eq_true rfl) rfl (CL.imp k (fun _ h23 k => ?_) (fun _ _ k => k))
              obtain ⟨r24, rfl, k⟩ := oI_of k
              show AW X (d + 1) rb mX12_reserve 68 _ [vI r24] h23 Qr Qx
              refine aw_if_eq 73 dX12_reserve_68 rfl rfl (fun c => ?_) (fun c => ?_)
              · replace k := k.1 c
                refine aw_aload_n (j := 0) (i := 0) dX12_reserve_73 rfl rfl rfl ?_
                refine aw_callV (M' := mX12_keeps) (S := []) (as := []) (k := 0) dX12_reserve_74 rfl (by decide) rfl rfl gw_2003 gw_2005 gw_72 mb_X12_keeps rfl (Nat.zero_le _) (Nat.le_of_ble_eq_true rfl) rfl (CL.imp k (fun _ h25 k => ?_) (fun _ _ k => k))
                obtain ⟨rfl, k⟩ := oV_of k
                show AW X (d + 1) rb mX12_reserve 77 _ [] h25 Qr Qx
                refine aw_aload_n (j := 0) (i := 0) dX12_reserve_77 rfl rfl rfl ?_
                refine aw_iload_n (j := 1) (i := 1) dX12_reserve_78 rfl rfl rfl ?_
                refine aw_iload_n (j := 2) (i := 2) dX12_reserve_79 rfl rfl rfl ?_
                refine aw_callV (M' := mX12_holds) (S := []) (as := [vI a1, vI a2]) (k := 0) dX12_reserve_80 rfl (by decide) rfl rfl gw_2011 gw_2013 gw_73 mb_X12_holds rfl (Nat.zero_le _) (Nat.le_of_ble_eq_true rfl) rfl (CL.imp k (fun _ h26 k => ?_) (fun _ _ k => k))
                obtain ⟨rfl, k⟩ := oV_of k
                show AW X (d + 1) rb mX12_reserve 83 _ [] h26 Qr Qx
                refine aw_aload_n (j := 0) (i := 0) dX12_reserve_83 rfl rfl rfl ?_
                refine aw_iload_n (j := 1) (i := 1) dX12_reserve_84 rfl rfl rfl ?_
                refine aw_callV (M' := mX12_open) (S := []) (as := [vI a1]) (k := 0) dX12_reserve_85 rfl (by decide) rfl rfl gw_1875 gw_1877 gw_59 mb_X12_open rfl (Nat.zero_le _) (Nat.le_of_ble_eq_true rfl) rfl (CL.imp k (fun _ h27 k => ?_) (fun _ _ k => k))
                obtain ⟨r28, rfl, k⟩ := oI_of k
                show AW X (d + 1) rb mX12_reserve 88 _ [vI r28] h27 Qr Qx
                exact aw_iret dX12_reserve_88 rfl k
              · replace k := k.2 c
                refine aw_iconst (v := 0) dX12_reserve_71 rfl (by decide) ?_
                exact aw_iret dX12_reserve_72 rfl k
            refine aw_if_ne 63 dX12_reserve_56 rfl rfl (fun (c0 : ¬ r22 = 0) => ?_) (fun (c0 : r22 = 0) => ?_)
            · refine aw_iconst (v := 0) dX12_reserve_63 rfl (by decide) ?_
              simp only [if_pos c0] at kk
              exact kk
            · refine aw_iconst (v := 1) dX12_reserve_59 rfl (by decide) ?_
              refine aw_goto 64 dX12_reserve_60 rfl ?_
              simp only [if_neg (oa_nn c0)] at kk
              exact kk
    refine aw_icmp_ge 23 dX12_reserve_16 rfl rfl (fun (c0 : 1 ≤ a2) => ?_) (fun (c0 : ¬ 1 ≤ a2) => ?_)
    · refine aw_iconst (v := 0) dX12_reserve_23 rfl (by decide) ?_
      simp only [if_pos c0] at kk
      exact kk
    · refine aw_iconst (v := 1) dX12_reserve_19 rfl (by decide) ?_
      refine aw_goto 24 dX12_reserve_20 rfl ?_
      simp only [if_neg c0] at kk
      exact kk
set_option maxHeartbeats 4000000 in
set_option maxRecDepth 100000 in
theorem vc_X12_release_0 {X : WD → State → Prop} {d rb : Nat} {h : Hp} {Qr : Option AV → Hp → Prop} {Qx : String → Hp → Prop} {a1 : Int32} {a2 : Int32}  (k : CL 0 d mX12_noOrder [vR 12 0, vI a1] (hp_i h 12 0 0 0) (oI fun r2 h1 => ((¬ r2 = 0) → Qr (some (vI 0)) h1) ∧ ((r2 = 0) → CL 0 d mX12_throwsIf [vR 12 0, vI (if 1 ≤ a2 then (0 : Int32) else 1), vI 2] h1 (oI fun r4 h3 => ((¬ r4 = 0) → Qr (some (vI 0)) h3) ∧ ((r4 = 0) → CL 0 d mX12_of [vR 12 0, vI a1, vI 6] h3 (oI fun r6 h5 => ((r6 < a2) → CL 0 d mX12_throwsIf [vR 12 0, vI 1, vI 3] h5 (oI fun r8 h7 => ((r8 = 0) → CL 0 d mX12_keeps [vR 12 0] h7 (oV fun h9 => CL 0 d mX12_holds [vR 12 0, vI a1, vI (-a2)] h9 (oV fun h10 => CL 0 d mX12_of [vR 12 0, vI a1, vI 6] h10 (oI fun r12 h11 => Qr (some (vI r12)) h11) Qx) Qx) Qx) ∧ ((¬ r8 = 0) → Qr (some (vI 0)) h7)) Qx) ∧ ((¬ r6 < a2) → CL 0 d mX12_isOff [vR 12 0, vI a1, vI a2] h5 (oI fun r14 h13 => CL 0 d mX12_throwsIf [vR 12 0, vI (if r14 = 0 then (0 : Int32) else 1), vI 3] h13 (oI fun r16 h15 => ((r16 = 0) → CL 0 d mX12_keeps [vR 12 0] h15 (oV fun h17 => CL 0 d mX12_holds [vR 12 0, vI a1, vI (-a2)] h17 (oV fun h18 => CL 0 d mX12_of [vR 12 0, vI a1, vI 6] h18 (oI fun r20 h19 => Qr (some (vI r20)) h19) Qx) Qx) Qx) ∧ ((¬ r16 = 0) → Qr (some (vI 0)) h15)) Qx) Qx)) Qx)) Qx)) Qx) : AW X (d + 1) rb mX12_release 0 [(0, vR 12 0), (1, vI a1), (2, vI a2)] [] h Qr Qx := by
  refine aw_aload_n (j := 0) (i := 0) dX12_release_0 rfl rfl rfl ?_
  refine aw_iconst (v := 0) dX12_release_1 rfl (by decide) ?_
  refine aw_puti (k := 0) dX12_release_2 rfl (by decide) rfl rfl cb_12 (by decide) rfl rfl gw_1594 ?_
  refine aw_aload_n (j := 0) (i := 0) dX12_release_5 rfl rfl rfl ?_
  refine aw_iload_n (j := 1) (i := 1) dX12_release_6 rfl rfl rfl ?_
  refine aw_callV (M' := mX12_noOrder) (S := []) (as := [vI a1]) (k := 0) dX12_release_7 rfl (by decide) rfl rfl gw_1867 gw_1869 gw_57 mb_X12_noOrder rfl (Nat.zero_le _) (Nat.le_of_ble_eq_true rfl) rfl (CL.imp k (fun _ h1 k => ?_) (fun _ _ k => k))
  obtain ⟨r2, rfl, k⟩ := oI_of k
  show AW X (d + 1) rb mX12_release 10 _ [vI r2] h1 Qr Qx
  refine aw_if_ne 64 dX12_release_10 rfl rfl (fun c => ?_) (fun c => ?_)
  · replace k := k.1 c
    refine aw_iconst (v := 0) dX12_release_64 rfl (by decide) ?_
    exact aw_iret dX12_release_65 rfl k
  · replace k := k.2 c
    refine aw_aload_n (j := 0) (i := 0) dX12_release_13 rfl rfl rfl ?_
    refine aw_iload_n (j := 2) (i := 2) dX12_release_14 rfl rfl rfl ?_
    refine aw_iconst (v := 1) dX12_release_15 rfl (by decide) ?_
    have kk : AW X (d + 1) rb mX12_release 24 [(0, vR 12 0), (1, vI a1), (2, vI a2)] [vI (if 1 ≤ a2 then (0 : Int32) else 1), vR 12 0] h1 Qr Qx := by
      refine aw_iconst (v := 2) dX12_release_24 rfl (by decide) ?_
      refine aw_callV (M' := mX12_throwsIf) (S := []) (as := [vI (if 1 ≤ a2 then (0 : Int32) else 1), vI 2]) (k := 0) dX12_release_25 rfl (by decide) rfl rfl gw_1748 gw_1750 gw_48 mb_X12_throwsIf rfl (Nat.zero_le _) (Nat.le_of_ble_eq_true rfl) rfl (CL.imp k (fun _ h3 k => ?_) (fun _ _ k => k))
      obtain ⟨r4, rfl, k⟩ := oI_of k
      show AW X (d + 1) rb mX12_release 28 _ [vI r4] h3 Qr Qx
      refine aw_if_ne 64 dX12_release_28 rfl rfl (fun c => ?_) (fun c => ?_)
      · replace k := k.1 c
        refine aw_iconst (v := 0) dX12_release_64 rfl (by decide) ?_
        exact aw_iret dX12_release_65 rfl k
      · replace k := k.2 c
        refine aw_aload_n (j := 0) (i := 0) dX12_release_31 rfl rfl rfl ?_
        refine aw_iload_n (j := 2) (i := 2) dX12_release_32 rfl rfl rfl ?_
        refine aw_aload_n (j := 0) (i := 0) dX12_release_33 rfl rfl rfl ?_
        refine aw_iload_n (j := 1) (i := 1) dX12_release_34 rfl rfl rfl ?_
        refine aw_bipush (v := 6) dX12_release_35 rfl (by decide) ?_
        refine aw_callV (M' := mX12_of) (S := [vI a2, vR 12 0]) (as := [vI a1, vI 6]) (k := 0) dX12_release_37 rfl (by decide) rfl rfl gw_1871 gw_1873 gw_58 mb_X12_of rfl (Nat.zero_le _) (Nat.le_of_ble_eq_true rfl) rfl (CL.imp k (fun _ h5 k => ?_) (fun _ _ k => k))
        obtain ⟨r6, rfl, k⟩ := oI_of k
        show AW X (d + 1) rb mX12_release 40 _ [vI r6, vI a2, vR 12 0] h5 Qr Qx
        refine aw_icmp_gt 52 dX12_release_40 rfl rfl (fun c => ?_) (fun c => ?_)
        · replace k := k.1 c
          refine aw_iconst (v := 1) dX12_release_52 rfl (by decide) ?_
          refine aw_goto 57 dX12_release_53 rfl ?_
          refine aw_iconst (v := 3) dX12_release_57 rfl (by decide) ?_
          refine aw_callV (M' := mX12_throwsIf) (S := []) (as := [vI 1, vI 3]) (k := 0) dX12_release_58 rfl (by decide) rfl rfl gw_1748 gw_1750 gw_48 mb_X12_throwsIf rfl (Nat.zero_le _) (Nat.le_of_ble_eq_true rfl) rfl (CL.imp k (fun _ h7 k => ?_) (fun _ _ k => k))
          obtain ⟨r8, rfl, k⟩ := oI_of k
          show AW X (d + 1) rb mX12_release 61 _ [vI r8] h7 Qr Qx
          refine aw_if_eq 66 dX12_release_61 rfl rfl (fun c => ?_) (fun c => ?_)
          · replace k := k.1 c
            refine aw_aload_n (j := 0) (i := 0) dX12_release_66 rfl rfl rfl ?_
            refine aw_callV (M' := mX12_keeps) (S := []) (as := []) (k := 0) dX12_release_67 rfl (by decide) rfl rfl gw_2003 gw_2005 gw_72 mb_X12_keeps rfl (Nat.zero_le _) (Nat.le_of_ble_eq_true rfl) rfl (CL.imp k (fun _ h9 k => ?_) (fun _ _ k => k))
            obtain ⟨rfl, k⟩ := oV_of k
            show AW X (d + 1) rb mX12_release 70 _ [] h9 Qr Qx
            refine aw_aload_n (j := 0) (i := 0) dX12_release_70 rfl rfl rfl ?_
            refine aw_iload_n (j := 1) (i := 1) dX12_release_71 rfl rfl rfl ?_
            refine aw_iload_n (j := 2) (i := 2) dX12_release_72 rfl rfl rfl ?_
            refine aw_ineg dX12_release_73 rfl ?_
            refine aw_callV (M' := mX12_holds) (S := []) (as := [vI a1, vI (-a2)]) (k := 0) dX12_release_74 rfl (by decide) rfl rfl gw_2011 gw_2013 gw_73 mb_X12_holds rfl (Nat.zero_le _) (Nat.le_of_ble_eq_true rfl) rfl (CL.imp k (fun _ h10 k => ?_) (fun _ _ k => k))
            obtain ⟨rfl, k⟩ := oV_of k
            show AW X (d + 1) rb mX12_release 77 _ [] h10 Qr Qx
            refine aw_aload_n (j := 0) (i := 0) dX12_release_77 rfl rfl rfl ?_
            refine aw_iload_n (j := 1) (i := 1) dX12_release_78 rfl rfl rfl ?_
            refine aw_bipush (v := 6) dX12_release_79 rfl (by decide) ?_
            refine aw_callV (M' := mX12_of) (S := []) (as := [vI a1, vI 6]) (k := 0) dX12_release_81 rfl (by decide) rfl rfl gw_1871 gw_1873 gw_58 mb_X12_of rfl (Nat.zero_le _) (Nat.le_of_ble_eq_true rfl) rfl (CL.imp k (fun _ h11 k => ?_) (fun _ _ k => k))
            obtain ⟨r12, rfl, k⟩ := oI_of k
            show AW X (d + 1) rb mX12_release 84 _ [vI r12] h11 Qr Qx
            exact aw_iret dX12_release_84 rfl k
          · replace k := k.2 c
            refine aw_iconst (v := 0) dX12_release_64 rfl (by decide) ?_
            exact aw_iret dX12_release_65 rfl k
        · replace k := k.2 c
          refine aw_aload_n (j := 0) (i := 0) dX12_release_43 rfl rfl rfl ?_
          refine aw_iload_n (j := 1) (i := 1) dX12_release_44 rfl rfl rfl ?_
          refine aw_iload_n (j := 2) (i := 2) dX12_release_45 rfl rfl rfl ?_
          refine aw_callV (M' := mX12_isOff) (S := [vR 12 0]) (as := [vI a1, vI a2]) (k := 0) dX12_release_46 rfl (by decide) rfl rfl gw_2023 gw_2025 gw_75 mb_X12_isOff rfl (Nat.zero_le _) (Nat.le_of_ble_eq_true rfl) rfl (CL.imp k (fun _ h13 k => ?_) (fun _ _ k => k))
          obtain ⟨r14, rfl, k⟩ := oI_of k
          show AW X (d + 1) rb mX12_release 49 _ [vI r14, vR 12 0] h13 Qr Qx
          have kk : AW X (d + 1) rb mX12_release 57 [(0, vR 12 0), (1, vI a1), (2, vI a2)] [vI (if r14 = 0 then (0 : Int32) else 1), vR 12 0] h13 Qr Qx := by
            refine aw_iconst (v := 3) dX12_release_57 rfl (by decide) ?_
            refine aw_callV (M' := mX12_throwsIf) (S := []) (as := [vI (if r14 = 0 then (0 : Int32) else 1), vI 3]) (k := 0) dX12_release_58 rfl (by decide) rfl rfl gw_1748 gw_1750 gw_48 mb_X12_throwsIf rfl (Nat.zero_le _) (Nat.le_of_ble_eq_true rfl) rfl (CL.imp k (fun _ h15 k => ?_) (fun _ _ k => k))
            obtain ⟨r16, rfl, k⟩ := oI_of k
            show AW X (d + 1) rb mX12_release 61 _ [vI r16] h15 Qr Qx
            refine aw_if_eq 66 dX12_release_61 rfl rfl (fun c => ?_) (fun c => ?_)
            · replace k := k.1 c
              refine aw_aload_n (j := 0) (i := 0) dX12_release_66 rfl rfl rfl ?_
              refine aw_callV (M' := mX12_keeps) (S := []) (as := []) (k := 0) dX12_release_67 rfl (by decide) rfl rfl gw_2003 gw_2005 gw_72 mb_X12_keeps rfl (Nat.zero_le _) (Nat.le_of_ble_eq_true rfl) rfl (CL.imp k (fun _ h17 k => ?_) (fun _ _ k => k))
              obtain ⟨rfl, k⟩ := oV_of k
              show AW X (d + 1) rb mX12_release 70 _ [] h17 Qr Qx
              refine aw_aload_n (j := 0) (i := 0) dX12_release_70 rfl rfl rfl ?_
              refine aw_iload_n (j := 1) (i := 1) dX12_release_71 rfl rfl rfl ?_
              refine aw_iload_n (j := 2) (i := 2) dX12_release_72 rfl rfl rfl ?_
              refine aw_ineg dX12_release_73 rfl ?_
              refine aw_callV (M' := mX12_holds) (S := []) (as := [vI a1, vI (-a2)]) (k := 0) dX12_release_74 rfl (by decide) rfl rfl gw_2011 gw_2013 gw_73 mb_X12_holds rfl (Nat.zero_le _) (Nat.le_of_ble_eq_true rfl) rfl (CL.imp k (fun _ h18 k => ?_) (fun _ _ k => k))
              obtain ⟨rfl, k⟩ := oV_of k
              show AW X (d + 1) rb mX12_release 77 _ [] h18 Qr Qx
              refine aw_aload_n (j := 0) (i := 0) dX12_release_77 rfl rfl rfl ?_
              refine aw_iload_n (j := 1) (i := 1) dX12_release_78 rfl rfl rfl ?_
              refine aw_bipush (v := 6) dX12_release_79 rfl (by decide) ?_
              refine aw_callV (M' := mX12_of) (S := []) (as := [vI a1, vI 6]) (k := 0) dX12_release_81 rfl (by decide) rfl rfl gw_1871 gw_1873 gw_58 mb_X12_of rfl (Nat.zero_le _) (Nat.le_of_ble_eq_true rfl) rfl (CL.imp k (fun _ h19 k => ?_) (fun _ _ k => k))
              obtain ⟨r20, rfl, k⟩ := oI_of k
              show AW X (d + 1) rb mX12_release 84 _ [vI r20] h19 Qr Qx
              exact aw_iret dX12_release_84 rfl k
            · replace k := k.2 c
              refine aw_iconst (v := 0) dX12_release_64 rfl (by decide) ?_
              exact aw_iret dX12_release_65 rfl k
          refine aw_if_eq 56 dX12_release_49 rfl rfl (fun (c0 : r14 = 0) => ?_) (fun (c0 : ¬ r14 = 0) => ?_)
          · refine aw_iconst (v := 0) dX12_release_56 rfl (by decide) ?_
            simp only [if_pos c0] at kk
            exact kk
          · refine aw_iconst (v := 1) dX12_release_52 rfl (by decide) ?_
            refine aw_goto 57 dX12_release_53 rfl ?_
            simp only [if_neg c0] at kk
            exact kk
    refine aw_icmp_ge 23 dX12_release_16 rfl rfl (fun (c0 : 1 ≤ a2) => ?_) (fun (c0 : ¬ 1 ≤ a2) => ?_)
    · refine aw_iconst (v := 0) dX12_release_23 rfl (by decide) ?_
      simp only [if_pos c0] at kk
      exact kk
    · refine aw_iconst (v := 1) dX12_release_19 rfl (by decide) ?_
      refine aw_goto 24 dX12_release_20 rfl ?_
      simp only [if_neg c0] at kk
      exact kk
set_option maxHeartbeats 4000000 in
set_option maxRecDepth 100000 in
theorem vc_X12_allocate_0 {X : WD → State → Prop} {d rb : Nat} {h : Hp} {Qr : Option AV → Hp → Prop} {Qx : String → Hp → Prop}   (k : CL 0 d mX12_keeps [vR 12 0] (hp_i h 12 0 0 0) (oV fun h1 => CL 0 d mX12_triesAll [vR 12 0] h1 (oV fun h2 => AW X (d + 1) rb mX12_allocate 17 [(0, vR 12 0), (1, vI 0), (2, vI 0)] [] h2 Qr Qx) Qx) Qx) : AW X (d + 1) rb mX12_allocate 0 [(0, vR 12 0)] [] h Qr Qx := by
  refine aw_aload_n (j := 0) (i := 0) dX12_allocate_0 rfl rfl rfl ?_
  refine aw_iconst (v := 0) dX12_allocate_1 rfl (by decide) ?_
  refine aw_puti (k := 0) dX12_allocate_2 rfl (by decide) rfl rfl cb_12 (by decide) rfl rfl gw_1594 ?_
  refine aw_aload_n (j := 0) (i := 0) dX12_allocate_5 rfl rfl rfl ?_
  refine aw_callV (M' := mX12_keeps) (S := []) (as := []) (k := 0) dX12_allocate_6 rfl (by decide) rfl rfl gw_2003 gw_2005 gw_72 mb_X12_keeps rfl (Nat.zero_le _) (Nat.le_of_ble_eq_true rfl) rfl (CL.imp k (fun _ h1 k => ?_) (fun _ _ k => k))
  obtain ⟨rfl, k⟩ := oV_of k
  show AW X (d + 1) rb mX12_allocate 9 _ [] h1 Qr Qx
  refine aw_aload_n (j := 0) (i := 0) dX12_allocate_9 rfl rfl rfl ?_
  refine aw_callV (M' := mX12_triesAll) (S := []) (as := []) (k := 0) dX12_allocate_10 rfl (by decide) rfl rfl gw_1943 gw_1945 gw_64 mb_X12_triesAll rfl (Nat.zero_le _) (Nat.le_of_ble_eq_true rfl) rfl (CL.imp k (fun _ h2 k => ?_) (fun _ _ k => k))
  obtain ⟨rfl, k⟩ := oV_of k
  show AW X (d + 1) rb mX12_allocate 13 _ [] h2 Qr Qx
  refine aw_iconst (v := 0) dX12_allocate_13 rfl (by decide) ?_
  refine aw_istore_n (i := 1) (L2 := [(1, vI 0), (0, vR 12 0)]) dX12_allocate_14 rfl rfl (by decide) rfl ?_
  refine aw_iconst (v := 0) dX12_allocate_15 rfl (by decide) ?_
  refine aw_istore_n (i := 2) (L2 := [(2, vI 0), (1, vI 0), (0, vR 12 0)]) dX12_allocate_16 rfl rfl (by decide) rfl ?_
  exact aw_sub [2, 1, 0] rfl k
set_option maxHeartbeats 4000000 in
set_option maxRecDepth 100000 in
theorem vc_X12_allocate_17 {X : WD → State → Prop} {d rb : Nat} {h : Hp} {Qr : Option AV → Hp → Prop} {Qx : String → Hp → Prop} {x1 : Int32} {x2 : Int32}  (k : (((h.1 58 0 1) ≤ x2) → Qr (some (vI x1)) h) ∧ ((¬ (h.1 58 0 1) ≤ x2) → (vp_in x2 20) ∧ CL 0 d mX12_holds [vR 12 0, vI x2, vI (h.1 62 0 x2.toNatClampNeg)] h (oV fun h1 => (vp_in x2 20) ∧ AW X (d + 1) rb mX12_allocate 17 [(0, vR 12 0), (1, vI (x1 + (h1.1 62 0 x2.toNatClampNeg))), (2, vI (x2 + 1))] [] h1 Qr Qx) Qx)) : AW X (d + 1) rb mX12_allocate 17 [(0, vR 12 0), (1, vI x1), (2, vI x2)] [] h Qr Qx := by
  refine aw_iload_n (j := 2) (i := 2) dX12_allocate_17 rfl rfl rfl ?_
  refine aw_aload_n (j := 0) (i := 0) dX12_allocate_18 rfl rfl rfl ?_
  refine aw_getf (k := 14) (z := 58) dX12_allocate_19 rfl (by decide) rfl rfl rfl cb_12 (by decide) gw_1608 ?_
  refine aw_iconst (v := 1) dX12_allocate_22 rfl (by decide) ?_
  refine aw_iald dX12_allocate_23 rfl (by decide) rfl (by unfold vp_in; decide) ?_
  refine aw_icmp_ge 53 dX12_allocate_24 rfl rfl (fun c => ?_) (fun c => ?_)
  · replace k := k.1 c
    refine aw_iload_n (j := 1) (i := 1) dX12_allocate_53 rfl rfl rfl ?_
    exact aw_iret dX12_allocate_54 rfl k
  · replace k := k.2 c
    refine aw_aload_n (j := 0) (i := 0) dX12_allocate_27 rfl rfl rfl ?_
    refine aw_iload_n (j := 2) (i := 2) dX12_allocate_28 rfl rfl rfl ?_
    refine aw_aload_n (j := 0) (i := 0) dX12_allocate_29 rfl rfl rfl ?_
    refine aw_getf (k := 19) (z := 62) dX12_allocate_30 rfl (by decide) rfl rfl rfl cb_12 (by decide) gw_1613 ?_
    refine aw_iload_n (j := 2) (i := 2) dX12_allocate_33 rfl rfl rfl ?_
    refine aw_iald dX12_allocate_34 rfl (by decide) rfl k.1 ?_
    replace k := k.2
    refine aw_callV (M' := mX12_holds) (S := []) (as := [vI x2, vI (h.1 62 0 x2.toNatClampNeg)]) (k := 0) dX12_allocate_35 rfl (by decide) rfl rfl gw_2011 gw_2013 gw_73 mb_X12_holds rfl (Nat.zero_le _) (Nat.le_of_ble_eq_true rfl) rfl (CL.imp k (fun _ h1 k => ?_) (fun _ _ k => k))
    obtain ⟨rfl, k⟩ := oV_of k
    show AW X (d + 1) rb mX12_allocate 38 _ [] h1 Qr Qx
    refine aw_iload_n (j := 1) (i := 1) dX12_allocate_38 rfl rfl rfl ?_
    refine aw_aload_n (j := 0) (i := 0) dX12_allocate_39 rfl rfl rfl ?_
    refine aw_getf (k := 19) (z := 62) dX12_allocate_40 rfl (by decide) rfl rfl rfl cb_12 (by decide) gw_1613 ?_
    refine aw_iload_n (j := 2) (i := 2) dX12_allocate_43 rfl rfl rfl ?_
    refine aw_iald dX12_allocate_44 rfl (by decide) rfl k.1 ?_
    replace k := k.2
    refine aw_iadd dX12_allocate_45 rfl ?_
    refine aw_istore_n (i := 1) (L2 := [(1, vI (x1 + (h1.1 62 0 x2.toNatClampNeg))), (0, vR 12 0), (2, vI x2)]) dX12_allocate_46 rfl rfl (by decide) rfl ?_
    refine aw_iinc (i := 2) (j := 2) (v := x2 + 1) (L2 := [(2, vI (x2 + 1)), (1, vI (x1 + (h1.1 62 0 x2.toNatClampNeg))), (0, vR 12 0)]) dX12_allocate_47 rfl (by decide) rfl rfl rfl ?_
    refine aw_goto 17 dX12_allocate_50 rfl ?_
    exact aw_sub [2, 1, 0] rfl k
set_option maxHeartbeats 4000000 in
set_option maxRecDepth 100000 in
theorem vc_X12_ship_0 {X : WD → State → Prop} {d rb : Nat} {h : Hp} {Qr : Option AV → Hp → Prop} {Qx : String → Hp → Prop} {a1 : Int32}  (k : CL 0 d mX12_noOrder [vR 12 0, vI a1] (hp_i h 12 0 0 0) (oI fun r2 h1 => ((¬ r2 = 0) → Qr (some (vI 0)) h1) ∧ ((r2 = 0) → CL 0 d mX12_of [vR 12 0, vI a1, vI 6] h1 (oI fun r4 h3 => CL 0 d mX12_throwsIf [vR 12 0, vI (if ¬ r4 = 0 then (0 : Int32) else 1), vI 2] h3 (oI fun r6 h5 => ((r6 = 0) → CL 0 d mX12_keeps [vR 12 0] h5 (oV fun h7 => CL 0 d mX12_of [vR 12 0, vI a1, vI 6] h7 (oI fun r9 h8 => CL 0 d mX12_holds [vR 12 0, vI a1, vI (-r9)] h8 (oV fun h10 => CL 0 d mX12_grows [vR 12 0, vI a1, vI 5, vI r9] h10 (oV fun h11 => AW X (d + 1) rb mX12_ship 66 [(0, vR 12 0), (1, vI a1), (2, vI r9), (3, vI 0)] [] h11 Qr Qx) Qx) Qx) Qx) Qx) ∧ ((¬ r6 = 0) → Qr (some (vI 0)) h5)) Qx) Qx)) Qx) : AW X (d + 1) rb mX12_ship 0 [(0, vR 12 0), (1, vI a1)] [] h Qr Qx := by
  refine aw_aload_n (j := 0) (i := 0) dX12_ship_0 rfl rfl rfl ?_
  refine aw_iconst (v := 0) dX12_ship_1 rfl (by decide) ?_
  refine aw_puti (k := 0) dX12_ship_2 rfl (by decide) rfl rfl cb_12 (by decide) rfl rfl gw_1594 ?_
  refine aw_aload_n (j := 0) (i := 0) dX12_ship_5 rfl rfl rfl ?_
  refine aw_iload_n (j := 1) (i := 1) dX12_ship_6 rfl rfl rfl ?_
  refine aw_callV (M' := mX12_noOrder) (S := []) (as := [vI a1]) (k := 0) dX12_ship_7 rfl (by decide) rfl rfl gw_1867 gw_1869 gw_57 mb_X12_noOrder rfl (Nat.zero_le _) (Nat.le_of_ble_eq_true rfl) rfl (CL.imp k (fun _ h1 k => ?_) (fun _ _ k => k))
  obtain ⟨r2, rfl, k⟩ := oI_of k
  show AW X (d + 1) rb mX12_ship 10 _ [vI r2] h1 Qr Qx
  refine aw_if_ne 36 dX12_ship_10 rfl rfl (fun c => ?_) (fun c => ?_)
  · replace k := k.1 c
    refine aw_iconst (v := 0) dX12_ship_36 rfl (by decide) ?_
    exact aw_iret dX12_ship_37 rfl k
  · replace k := k.2 c
    refine aw_aload_n (j := 0) (i := 0) dX12_ship_13 rfl rfl rfl ?_
    refine aw_aload_n (j := 0) (i := 0) dX12_ship_14 rfl rfl rfl ?_
    refine aw_iload_n (j := 1) (i := 1) dX12_ship_15 rfl rfl rfl ?_
    refine aw_bipush (v := 6) dX12_ship_16 rfl (by decide) ?_
    refine aw_callV (M' := mX12_of) (S := [vR 12 0]) (as := [vI a1, vI 6]) (k := 0) dX12_ship_18 rfl (by decide) rfl rfl gw_1871 gw_1873 gw_58 mb_X12_of rfl (Nat.zero_le _) (Nat.le_of_ble_eq_true rfl) rfl (CL.imp k (fun _ h3 k => ?_) (fun _ _ k => k))
    obtain ⟨r4, rfl, k⟩ := oI_of k
    show AW X (d + 1) rb mX12_ship 21 _ [vI r4, vR 12 0] h3 Qr Qx
    have kk : AW X (d + 1) rb mX12_ship 29 [(0, vR 12 0), (1, vI a1)] [vI (if ¬ r4 = 0 then (0 : Int32) else 1), vR 12 0] h3 Qr Qx := by
      refine aw_iconst (v := 2) dX12_ship_29 rfl (by decide) ?_
      refine aw_callV (M' := mX12_throwsIf) (S := []) (as := [vI (if ¬ r4 = 0 then (0 : Int32) else 1), vI 2]) (k := 0) dX12_ship_30 rfl (by decide) rfl rfl gw_1748 gw_1750 gw_48 mb_X12_throwsIf rfl (Nat.zero_le _) (Nat.le_of_ble_eq_true rfl) rfl (CL.imp k (fun _ h5 k => ?_) (fun _ _ k => k))
      obtain ⟨r6, rfl, k⟩ := oI_of k
      show AW X (d + 1) rb mX12_ship 33 _ [vI r6] h5 Qr Qx
      refine aw_if_eq 38 dX12_ship_33 rfl rfl (fun c => ?_) (fun c => ?_)
      · replace k := k.1 c
        refine aw_aload_n (j := 0) (i := 0) dX12_ship_38 rfl rfl rfl ?_
        refine aw_callV (M' := mX12_keeps) (S := []) (as := []) (k := 0) dX12_ship_39 rfl (by decide) rfl rfl gw_2003 gw_2005 gw_72 mb_X12_keeps rfl (Nat.zero_le _) (Nat.le_of_ble_eq_true rfl) rfl (CL.imp k (fun _ h7 k => ?_) (fun _ _ k => k))
        obtain ⟨rfl, k⟩ := oV_of k
        show AW X (d + 1) rb mX12_ship 42 _ [] h7 Qr Qx
        refine aw_aload_n (j := 0) (i := 0) dX12_ship_42 rfl rfl rfl ?_
        refine aw_iload_n (j := 1) (i := 1) dX12_ship_43 rfl rfl rfl ?_
        refine aw_bipush (v := 6) dX12_ship_44 rfl (by decide) ?_
        refine aw_callV (M' := mX12_of) (S := []) (as := [vI a1, vI 6]) (k := 0) dX12_ship_46 rfl (by decide) rfl rfl gw_1871 gw_1873 gw_58 mb_X12_of rfl (Nat.zero_le _) (Nat.le_of_ble_eq_true rfl) rfl (CL.imp k (fun _ h8 k => ?_) (fun _ _ k => k))
        obtain ⟨r9, rfl, k⟩ := oI_of k
        show AW X (d + 1) rb mX12_ship 49 _ [vI r9] h8 Qr Qx
        refine aw_istore_n (i := 2) (L2 := [(2, vI r9), (0, vR 12 0), (1, vI a1)]) dX12_ship_49 rfl rfl (by decide) rfl ?_
        refine aw_aload_n (j := 1) (i := 0) dX12_ship_50 rfl rfl rfl ?_
        refine aw_iload_n (j := 2) (i := 1) dX12_ship_51 rfl rfl rfl ?_
        refine aw_iload_n (j := 0) (i := 2) dX12_ship_52 rfl rfl rfl ?_
        refine aw_ineg dX12_ship_53 rfl ?_
        refine aw_callV (M' := mX12_holds) (S := []) (as := [vI a1, vI (-r9)]) (k := 0) dX12_ship_54 rfl (by decide) rfl rfl gw_2011 gw_2013 gw_73 mb_X12_holds rfl (Nat.zero_le _) (Nat.le_of_ble_eq_true rfl) rfl (CL.imp k (fun _ h10 k => ?_) (fun _ _ k => k))
        obtain ⟨rfl, k⟩ := oV_of k
        show AW X (d + 1) rb mX12_ship 57 _ [] h10 Qr Qx
        refine aw_aload_n (j := 1) (i := 0) dX12_ship_57 rfl rfl rfl ?_
        refine aw_iload_n (j := 2) (i := 1) dX12_ship_58 rfl rfl rfl ?_
        refine aw_iconst (v := 5) dX12_ship_59 rfl (by decide) ?_
        refine aw_iload_n (j := 0) (i := 2) dX12_ship_60 rfl rfl rfl ?_
        refine aw_callV (M' := mX12_grows) (S := []) (as := [vI a1, vI 5, vI r9]) (k := 0) dX12_ship_61 rfl (by decide) rfl rfl gw_2015 gw_2017 gw_74 mb_X12_grows rfl (Nat.zero_le _) (Nat.le_of_ble_eq_true rfl) rfl (CL.imp k (fun _ h11 k => ?_) (fun _ _ k => k))
        obtain ⟨rfl, k⟩ := oV_of k
        show AW X (d + 1) rb mX12_ship 64 _ [] h11 Qr Qx
        refine aw_iconst (v := 0) dX12_ship_64 rfl (by decide) ?_
        refine aw_istore_n (i := 3) (L2 := [(3, vI 0), (2, vI r9), (0, vR 12 0), (1, vI a1)]) dX12_ship_65 rfl rfl (by decide) rfl ?_
        exact aw_sub [2, 3, 1, 0] rfl k
      · replace k := k.2 c
        refine aw_iconst (v := 0) dX12_ship_36 rfl (by decide) ?_
        exact aw_iret dX12_ship_37 rfl k
    refine aw_if_ne 28 dX12_ship_21 rfl rfl (fun (c0 : ¬ r4 = 0) => ?_) (fun (c0 : r4 = 0) => ?_)
    · refine aw_iconst (v := 0) dX12_ship_28 rfl (by decide) ?_
      simp only [if_pos c0] at kk
      exact kk
    · refine aw_iconst (v := 1) dX12_ship_24 rfl (by decide) ?_
      refine aw_goto 29 dX12_ship_25 rfl ?_
      simp only [if_neg (oa_nn c0)] at kk
      exact kk
set_option maxHeartbeats 4000000 in
set_option maxRecDepth 100000 in
theorem vc_X12_ship_66 {X : WD → State → Prop} {d rb : Nat} {h : Hp} {Qr : Option AV → Hp → Prop} {Qx : String → Hp → Prop} {x1 : Int32} {x2 : Int32} {x3 : Int32}  (k : (((h.1 56 0 0) ≤ x3) → CL 0 d mX12_of [vR 12 0, vI x1, vI 3] h (oI fun r2 h1 => CL 0 d mX12_logs [vR 12 0, vI x1, vI x2] (hp_i (hp_i (hp_i (hp_i h1 58 0 4 ((h1.1 58 0 4) + 1)) 58 0 5 (((hp_i h1 58 0 4 ((h1.1 58 0 4) + 1)).1 58 0 5) + x2)) 58 0 6 (((hp_i (hp_i h1 58 0 4 ((h1.1 58 0 4) + 1)) 58 0 5 (((hp_i h1 58 0 4 ((h1.1 58 0 4) + 1)).1 58 0 5) + x2)).1 58 0 6) + (if (if 0 < ((h.1 58 0 0) - r2) then ((h.1 58 0 0) - r2) else 0) ≤ 0 then (0 : Int32) else x2))) 58 0 7 (((hp_i (hp_i (hp_i h1 58 0 4 ((h1.1 58 0 4) + 1)) 58 0 5 (((hp_i h1 58 0 4 ((h1.1 58 0 4) + 1)).1 58 0 5) + x2)) 58 0 6 (((hp_i (hp_i h1 58 0 4 ((h1.1 58 0 4) + 1)) 58 0 5 (((hp_i h1 58 0 4 ((h1.1 58 0 4) + 1)).1 58 0 5) + x2)).1 58 0 6) + (if (if 0 < ((h.1 58 0 0) - r2) then ((h.1 58 0 0) - r2) else 0) ≤ 0 then (0 : Int32) else x2))).1 58 0 7) + ((if 0 < ((h.1 58 0 0) - r2) then ((h.1 58 0 0) - r2) else 0) * x2))) (oV fun h3 => Qr (some (vI x2)) h3) Qx) Qx) ∧ ((¬ (h.1 56 0 0) ≤ x3) → (vp_in (9 + x3) 301) ∧ CL 0 d mX12_of [vR 12 0, vI x1, vI 0] h (oI fun r5 h4 => CL 0 d mX12_needs [vR 12 0, vI r5, vI x3] h4 (oI fun r7 h6 => (vp_in (9 + x3) 301) ∧ AW X (d + 1) rb mX12_ship 66 [(0, vR 12 0), (1, vI x1), (2, vI x2), (3, vI (x3 + 1))] [] (hp_i h6 58 0 ((9 + x3).toNatClampNeg) ((h.1 58 0 ((9 + x3).toNatClampNeg)) - (x2 * r7))) Qr Qx) Qx) Qx)) : AW X (d + 1) rb mX12_ship 66 [(0, vR 12 0), (1, vI x1), (2, vI x2), (3, vI x3)] [] h Qr Qx := by
  refine aw_iload_n (j := 3) (i := 3) dX12_ship_66 rfl rfl rfl ?_
  refine aw_aload_n (j := 0) (i := 0) dX12_ship_67 rfl rfl rfl ?_
  refine aw_getf (k := 11) (z := 56) dX12_ship_68 rfl (by decide) rfl rfl rfl cb_12 (by decide) gw_1605 ?_
  refine aw_iconst (v := 0) dX12_ship_71 rfl (by decide) ?_
  refine aw_iald dX12_ship_72 rfl (by decide) rfl (by unfold vp_in; decide) ?_
  refine aw_icmp_ge 107 dX12_ship_73 rfl rfl (fun c => ?_) (fun c => ?_)
  · replace k := k.1 c
    refine aw_iconst (v := 0) dX12_ship_107 rfl (by decide) ?_
    refine aw_aload_n (j := 0) (i := 0) dX12_ship_108 rfl rfl rfl ?_
    refine aw_getf (k := 14) (z := 58) dX12_ship_109 rfl (by decide) rfl rfl rfl cb_12 (by decide) gw_1608 ?_
    refine aw_iconst (v := 0) dX12_ship_112 rfl (by decide) ?_
    refine aw_iald dX12_ship_113 rfl (by decide) rfl (by unfold vp_in; decide) ?_
    refine aw_aload_n (j := 0) (i := 0) dX12_ship_114 rfl rfl rfl ?_
    refine aw_iload_n (j := 1) (i := 1) dX12_ship_115 rfl rfl rfl ?_
    refine aw_iconst (v := 3) dX12_ship_116 rfl (by decide) ?_
    refine aw_callV (M' := mX12_of) (S := [vI (h.1 58 0 0), vI 0]) (as := [vI x1, vI 3]) (k := 0) dX12_ship_117 rfl (by decide) rfl rfl gw_1871 gw_1873 gw_58 mb_X12_of rfl (Nat.zero_le _) (Nat.le_of_ble_eq_true rfl) rfl (CL.imp k (fun _ h1 k => ?_) (fun _ _ k => k))
    obtain ⟨r2, rfl, k⟩ := oI_of k
    show AW X (d + 1) rb mX12_ship 120 _ [vI r2, vI (h.1 58 0 0), vI 0] h1 Qr Qx
    refine aw_isub dX12_ship_120 rfl ?_
    refine aw_max dX12_ship_121 rfl gw_1800 gw_534 gw_104 gw_535 (Nat.le_of_ble_eq_true rfl) ?_
    refine aw_istore_n (i := 3) (L2 := [(3, vI (if 0 < ((h.1 58 0 0) - r2) then ((h.1 58 0 0) - r2) else 0)), (0, vR 12 0), (1, vI x1), (2, vI x2)]) dX12_ship_124 rfl rfl (by decide) rfl ?_
    refine aw_aload_n (j := 1) (i := 0) dX12_ship_125 rfl rfl rfl ?_
    refine aw_getf (k := 14) (z := 58) dX12_ship_126 rfl (by decide) rfl rfl rfl cb_12 (by decide) gw_1608 ?_
    refine aw_iconst (v := 4) dX12_ship_129 rfl (by decide) ?_
    refine aw_dup2 dX12_ship_130 rfl rfl rfl ?_
    refine aw_iald dX12_ship_131 rfl (by decide) rfl (by unfold vp_in; decide) ?_
    refine aw_iconst (v := 1) dX12_ship_132 rfl (by decide) ?_
    refine aw_iadd dX12_ship_133 rfl ?_
    refine aw_iast dX12_ship_134 rfl (by decide) rfl (by unfold vp_in; decide) ?_
    refine aw_aload_n (j := 1) (i := 0) dX12_ship_135 rfl rfl rfl ?_
    refine aw_getf (k := 14) (z := 58) dX12_ship_136 rfl (by decide) rfl rfl rfl cb_12 (by decide) gw_1608 ?_
    refine aw_iconst (v := 5) dX12_ship_139 rfl (by decide) ?_
    refine aw_dup2 dX12_ship_140 rfl rfl rfl ?_
    refine aw_iald dX12_ship_141 rfl (by decide) rfl (by unfold vp_in; decide) ?_
    refine aw_iload_n (j := 3) (i := 2) dX12_ship_142 rfl rfl rfl ?_
    refine aw_iadd dX12_ship_143 rfl ?_
    refine aw_iast dX12_ship_144 rfl (by decide) rfl (by unfold vp_in; decide) ?_
    refine aw_aload_n (j := 1) (i := 0) dX12_ship_145 rfl rfl rfl ?_
    refine aw_getf (k := 14) (z := 58) dX12_ship_146 rfl (by decide) rfl rfl rfl cb_12 (by decide) gw_1608 ?_
    refine aw_bipush (v := 6) dX12_ship_149 rfl (by decide) ?_
    refine aw_dup2 dX12_ship_151 rfl rfl rfl ?_
    refine aw_iald dX12_ship_152 rfl (by decide) rfl (by unfold vp_in; decide) ?_
    refine aw_iload_n (j := 0) (i := 3) dX12_ship_153 rfl rfl rfl ?_
    have kk : AW X (d + 1) rb mX12_ship 162 [(3, vI (if 0 < ((h.1 58 0 0) - r2) then ((h.1 58 0 0) - r2) else 0)), (0, vR 12 0), (1, vI x1), (2, vI x2)] [vI (if (if 0 < ((h.1 58 0 0) - r2) then ((h.1 58 0 0) - r2) else 0) ≤ 0 then (0 : Int32) else x2), vI ((hp_i (hp_i h1 58 0 4 ((h1.1 58 0 4) + 1)) 58 0 5 (((hp_i h1 58 0 4 ((h1.1 58 0 4) + 1)).1 58 0 5) + x2)).1 58 0 6), vI 6, vR 58 0] (hp_i (hp_i h1 58 0 4 ((h1.1 58 0 4) + 1)) 58 0 5 (((hp_i h1 58 0 4 ((h1.1 58 0 4) + 1)).1 58 0 5) + x2)) Qr Qx := by
      refine aw_iadd dX12_ship_162 rfl ?_
      refine aw_iast dX12_ship_163 rfl (by decide) rfl (by unfold vp_in; decide) ?_
      refine aw_aload_n (j := 1) (i := 0) dX12_ship_164 rfl rfl rfl ?_
      refine aw_getf (k := 14) (z := 58) dX12_ship_165 rfl (by decide) rfl rfl rfl cb_12 (by decide) gw_1608 ?_
      refine aw_bipush (v := 7) dX12_ship_168 rfl (by decide) ?_
      refine aw_dup2 dX12_ship_170 rfl rfl rfl ?_
      refine aw_iald dX12_ship_171 rfl (by decide) rfl (by unfold vp_in; decide) ?_
      refine aw_iload_n (j := 0) (i := 3) dX12_ship_172 rfl rfl rfl ?_
      refine aw_iload_n (j := 3) (i := 2) dX12_ship_173 rfl rfl rfl ?_
      refine aw_imul dX12_ship_174 rfl ?_
      refine aw_iadd dX12_ship_175 rfl ?_
      refine aw_iast dX12_ship_176 rfl (by decide) rfl (by unfold vp_in; decide) ?_
      refine aw_aload_n (j := 1) (i := 0) dX12_ship_177 rfl rfl rfl ?_
      refine aw_iload_n (j := 2) (i := 1) dX12_ship_178 rfl rfl rfl ?_
      refine aw_iload_n (j := 3) (i := 2) dX12_ship_179 rfl rfl rfl ?_
      refine aw_callV (M' := mX12_logs) (S := []) (as := [vI x1, vI x2]) (k := 0) dX12_ship_180 rfl (by decide) rfl rfl gw_2043 gw_2045 gw_77 mb_X12_logs rfl (Nat.zero_le _) (Nat.le_of_ble_eq_true rfl) rfl (CL.imp k (fun _ h3 k => ?_) (fun _ _ k => k))
      obtain ⟨rfl, k⟩ := oV_of k
      show AW X (d + 1) rb mX12_ship 183 _ [] h3 Qr Qx
      refine aw_iload_n (j := 3) (i := 2) dX12_ship_183 rfl rfl rfl ?_
      exact aw_iret dX12_ship_184 rfl k
    refine aw_if_le 161 dX12_ship_154 rfl rfl (fun (c0 : (if 0 < ((h.1 58 0 0) - r2) then ((h.1 58 0 0) - r2) else 0) ≤ 0) => ?_) (fun (c0 : ¬ (if 0 < ((h.1 58 0 0) - r2) then ((h.1 58 0 0) - r2) else 0) ≤ 0) => ?_)
    · refine aw_iconst (v := 0) dX12_ship_161 rfl (by decide) ?_
      simp only [if_pos c0] at kk
      exact kk
    · refine aw_iload_n (j := 3) (i := 2) dX12_ship_157 rfl rfl rfl ?_
      refine aw_goto 162 dX12_ship_158 rfl ?_
      simp only [if_neg c0] at kk
      exact kk
  · replace k := k.2 c
    refine aw_aload_n (j := 0) (i := 0) dX12_ship_76 rfl rfl rfl ?_
    refine aw_getf (k := 14) (z := 58) dX12_ship_77 rfl (by decide) rfl rfl rfl cb_12 (by decide) gw_1608 ?_
    refine aw_bipush (v := 9) dX12_ship_80 rfl (by decide) ?_
    refine aw_iload_n (j := 3) (i := 3) dX12_ship_82 rfl rfl rfl ?_
    refine aw_iadd dX12_ship_83 rfl ?_
    refine aw_dup2 dX12_ship_84 rfl rfl rfl ?_
    refine aw_iald dX12_ship_85 rfl (by decide) rfl k.1 ?_
    replace k := k.2
    refine aw_iload_n (j := 2) (i := 2) dX12_ship_86 rfl rfl rfl ?_
    refine aw_aload_n (j := 0) (i := 0) dX12_ship_87 rfl rfl rfl ?_
    refine aw_aload_n (j := 0) (i := 0) dX12_ship_88 rfl rfl rfl ?_
    refine aw_iload_n (j := 1) (i := 1) dX12_ship_89 rfl rfl rfl ?_
    refine aw_iconst (v := 0) dX12_ship_90 rfl (by decide) ?_
    refine aw_callV (M' := mX12_of) (S := [vR 12 0, vI x2, vI (h.1 58 0 ((9 + x3).toNatClampNeg)), vI (9 + x3), vR 58 0]) (as := [vI x1, vI 0]) (k := 0) dX12_ship_91 rfl (by decide) rfl rfl gw_1871 gw_1873 gw_58 mb_X12_of rfl (Nat.zero_le _) (Nat.le_of_ble_eq_true rfl) rfl (CL.imp k (fun _ h4 k => ?_) (fun _ _ k => k))
    obtain ⟨r5, rfl, k⟩ := oI_of k
    show AW X (d + 1) rb mX12_ship 94 _ [vI r5, vR 12 0, vI x2, vI (h.1 58 0 ((9 + x3).toNatClampNeg)), vI (9 + x3), vR 58 0] h4 Qr Qx
    refine aw_iload_n (j := 3) (i := 3) dX12_ship_94 rfl rfl rfl ?_
    refine aw_callV (M' := mX12_needs) (S := [vI x2, vI (h.1 58 0 ((9 + x3).toNatClampNeg)), vI (9 + x3), vR 58 0]) (as := [vI r5, vI x3]) (k := 0) dX12_ship_95 rfl (by decide) rfl rfl gw_1788 gw_1790 gw_51 mb_X12_needs rfl (Nat.zero_le _) (Nat.le_of_ble_eq_true rfl) rfl (CL.imp k (fun _ h6 k => ?_) (fun _ _ k => k))
    obtain ⟨r7, rfl, k⟩ := oI_of k
    show AW X (d + 1) rb mX12_ship 98 _ [vI r7, vI x2, vI (h.1 58 0 ((9 + x3).toNatClampNeg)), vI (9 + x3), vR 58 0] h6 Qr Qx
    refine aw_imul dX12_ship_98 rfl ?_
    refine aw_isub dX12_ship_99 rfl ?_
    refine aw_iast dX12_ship_100 rfl (by decide) rfl k.1 ?_
    replace k := k.2
    refine aw_iinc (i := 3) (j := 3) (v := x3 + 1) (L2 := [(3, vI (x3 + 1)), (0, vR 12 0), (1, vI x1), (2, vI x2)]) dX12_ship_101 rfl (by decide) rfl rfl rfl ?_
    refine aw_goto 66 dX12_ship_104 rfl ?_
    exact aw_sub [1, 2, 3, 0] rfl k
set_option maxHeartbeats 4000000 in
set_option maxRecDepth 100000 in
theorem vc_X12_logs_0 {X : WD → State → Prop} {d rb : Nat} {h : Hp} {Qr : Option AV → Hp → Prop} {Qx : String → Hp → Prop} {a1 : Int32} {a2 : Int32}  (k : ((¬ (h.1 58 0 3) = 16) → (vp_in (253 + (3 * (h.1 58 0 3))) 301) ∧ (vp_in ((253 + (3 * (h.1 58 0 3))) + 1) 301) ∧ (vp_in ((253 + (3 * (h.1 58 0 3))) + 2) 301) ∧ Qr none (hp_i (hp_i (hp_i (hp_i h 58 0 ((253 + (3 * (h.1 58 0 3))).toNatClampNeg) a1) 58 0 (((253 + (3 * (h.1 58 0 3))) + 1).toNatClampNeg) a2) 58 0 (((253 + (3 * (h.1 58 0 3))) + 2).toNatClampNeg) ((hp_i (hp_i h 58 0 ((253 + (3 * (h.1 58 0 3))).toNatClampNeg) a1) 58 0 (((253 + (3 * (h.1 58 0 3))) + 1).toNatClampNeg) a2).1 58 0 0)) 58 0 3 (((hp_i (hp_i (hp_i h 58 0 ((253 + (3 * (h.1 58 0 3))).toNatClampNeg) a1) 58 0 (((253 + (3 * (h.1 58 0 3))) + 1).toNatClampNeg) a2) 58 0 (((253 + (3 * (h.1 58 0 3))) + 2).toNatClampNeg) ((hp_i (hp_i h 58 0 ((253 + (3 * (h.1 58 0 3))).toNatClampNeg) a1) 58 0 (((253 + (3 * (h.1 58 0 3))) + 1).toNatClampNeg) a2).1 58 0 0)).1 58 0 3) + 1))) ∧ (((h.1 58 0 3) = 16) → AW X (d + 1) rb mX12_logs 13 [(0, vR 12 0), (1, vI a1), (2, vI a2), (3, vI 3)] [] h Qr Qx)) : AW X (d + 1) rb mX12_logs 0 [(0, vR 12 0), (1, vI a1), (2, vI a2)] [] h Qr Qx := by
  refine aw_aload_n (j := 0) (i := 0) dX12_logs_0 rfl rfl rfl ?_
  refine aw_getf (k := 14) (z := 58) dX12_logs_1 rfl (by decide) rfl rfl rfl cb_12 (by decide) gw_1608 ?_
  refine aw_iconst (v := 3) dX12_logs_4 rfl (by decide) ?_
  refine aw_iald dX12_logs_5 rfl (by decide) rfl (by unfold vp_in; decide) ?_
  refine aw_bipush (v := 16) dX12_logs_6 rfl (by decide) ?_
  refine aw_icmp_ne 57 dX12_logs_8 rfl rfl (fun c => ?_) (fun c => ?_)
  · replace k := k.1 c
    refine aw_sipush (v := 253) dX12_logs_57 rfl (by decide) ?_
    refine aw_iconst (v := 3) dX12_logs_60 rfl (by decide) ?_
    refine aw_aload_n (j := 0) (i := 0) dX12_logs_61 rfl rfl rfl ?_
    refine aw_getf (k := 14) (z := 58) dX12_logs_62 rfl (by decide) rfl rfl rfl cb_12 (by decide) gw_1608 ?_
    refine aw_iconst (v := 3) dX12_logs_65 rfl (by decide) ?_
    refine aw_iald dX12_logs_66 rfl (by decide) rfl (by unfold vp_in; decide) ?_
    refine aw_imul dX12_logs_67 rfl ?_
    refine aw_iadd dX12_logs_68 rfl ?_
    refine aw_istore_n (i := 3) (L2 := [(3, vI (253 + (3 * (h.1 58 0 3)))), (0, vR 12 0), (1, vI a1), (2, vI a2)]) dX12_logs_69 rfl rfl (by decide) rfl ?_
    refine aw_aload_n (j := 1) (i := 0) dX12_logs_70 rfl rfl rfl ?_
    refine aw_getf (k := 14) (z := 58) dX12_logs_71 rfl (by decide) rfl rfl rfl cb_12 (by decide) gw_1608 ?_
    refine aw_iload_n (j := 0) (i := 3) dX12_logs_74 rfl rfl rfl ?_
    refine aw_iload_n (j := 2) (i := 1) dX12_logs_75 rfl rfl rfl ?_
    refine aw_iast dX12_logs_76 rfl (by decide) rfl k.1 ?_
    replace k := k.2
    refine aw_aload_n (j := 1) (i := 0) dX12_logs_77 rfl rfl rfl ?_
    refine aw_getf (k := 14) (z := 58) dX12_logs_78 rfl (by decide) rfl rfl rfl cb_12 (by decide) gw_1608 ?_
    refine aw_iload_n (j := 0) (i := 3) dX12_logs_81 rfl rfl rfl ?_
    refine aw_iconst (v := 1) dX12_logs_82 rfl (by decide) ?_
    refine aw_iadd dX12_logs_83 rfl ?_
    refine aw_iload_n (j := 3) (i := 2) dX12_logs_84 rfl rfl rfl ?_
    refine aw_iast dX12_logs_85 rfl (by decide) rfl k.1 ?_
    replace k := k.2
    refine aw_aload_n (j := 1) (i := 0) dX12_logs_86 rfl rfl rfl ?_
    refine aw_getf (k := 14) (z := 58) dX12_logs_87 rfl (by decide) rfl rfl rfl cb_12 (by decide) gw_1608 ?_
    refine aw_iload_n (j := 0) (i := 3) dX12_logs_90 rfl rfl rfl ?_
    refine aw_iconst (v := 2) dX12_logs_91 rfl (by decide) ?_
    refine aw_iadd dX12_logs_92 rfl ?_
    refine aw_aload_n (j := 1) (i := 0) dX12_logs_93 rfl rfl rfl ?_
    refine aw_getf (k := 14) (z := 58) dX12_logs_94 rfl (by decide) rfl rfl rfl cb_12 (by decide) gw_1608 ?_
    refine aw_iconst (v := 0) dX12_logs_97 rfl (by decide) ?_
    refine aw_iald dX12_logs_98 rfl (by decide) rfl (by unfold vp_in; decide) ?_
    refine aw_iast dX12_logs_99 rfl (by decide) rfl k.1 ?_
    replace k := k.2
    refine aw_aload_n (j := 1) (i := 0) dX12_logs_100 rfl rfl rfl ?_
    refine aw_getf (k := 14) (z := 58) dX12_logs_101 rfl (by decide) rfl rfl rfl cb_12 (by decide) gw_1608 ?_
    refine aw_iconst (v := 3) dX12_logs_104 rfl (by decide) ?_
    refine aw_dup2 dX12_logs_105 rfl rfl rfl ?_
    refine aw_iald dX12_logs_106 rfl (by decide) rfl (by unfold vp_in; decide) ?_
    refine aw_iconst (v := 1) dX12_logs_107 rfl (by decide) ?_
    refine aw_iadd dX12_logs_108 rfl ?_
    refine aw_iast dX12_logs_109 rfl (by decide) rfl (by unfold vp_in; decide) ?_
    exact aw_vret dX12_logs_110 rfl k
  · replace k := k.2 c
    refine aw_iconst (v := 3) dX12_logs_11 rfl (by decide) ?_
    refine aw_istore_n (i := 3) (L2 := [(3, vI 3), (0, vR 12 0), (1, vI a1), (2, vI a2)]) dX12_logs_12 rfl rfl (by decide) rfl ?_
    exact aw_sub [1, 2, 3, 0] rfl k
set_option maxHeartbeats 4000000 in
set_option maxRecDepth 100000 in
theorem vc_X12_logs_13 {X : WD → State → Prop} {d rb : Nat} {h : Hp} {Qr : Option AV → Hp → Prop} {Qx : String → Hp → Prop} {x1 : Int32} {x2 : Int32} {x3 : Int32}  (k : ((48 ≤ x3) → (vp_in (253 + (3 * ((hp_i h 58 0 3 ((h.1 58 0 3) - 1)).1 58 0 3))) 301) ∧ (vp_in ((253 + (3 * ((hp_i h 58 0 3 ((h.1 58 0 3) - 1)).1 58 0 3))) + 1) 301) ∧ (vp_in ((253 + (3 * ((hp_i h 58 0 3 ((h.1 58 0 3) - 1)).1 58 0 3))) + 2) 301) ∧ Qr none (hp_i (hp_i (hp_i (hp_i (hp_i h 58 0 3 ((h.1 58 0 3) - 1)) 58 0 ((253 + (3 * ((hp_i h 58 0 3 ((h.1 58 0 3) - 1)).1 58 0 3))).toNatClampNeg) x1) 58 0 (((253 + (3 * ((hp_i h 58 0 3 ((h.1 58 0 3) - 1)).1 58 0 3))) + 1).toNatClampNeg) x2) 58 0 (((253 + (3 * ((hp_i h 58 0 3 ((h.1 58 0 3) - 1)).1 58 0 3))) + 2).toNatClampNeg) ((hp_i (hp_i (hp_i h 58 0 3 ((h.1 58 0 3) - 1)) 58 0 ((253 + (3 * ((hp_i h 58 0 3 ((h.1 58 0 3) - 1)).1 58 0 3))).toNatClampNeg) x1) 58 0 (((253 + (3 * ((hp_i h 58 0 3 ((h.1 58 0 3) - 1)).1 58 0 3))) + 1).toNatClampNeg) x2).1 58 0 0)) 58 0 3 (((hp_i (hp_i (hp_i (hp_i h 58 0 3 ((h.1 58 0 3) - 1)) 58 0 ((253 + (3 * ((hp_i h 58 0 3 ((h.1 58 0 3) - 1)).1 58 0 3))).toNatClampNeg) x1) 58 0 (((253 + (3 * ((hp_i h 58 0 3 ((h.1 58 0 3) - 1)).1 58 0 3))) + 1).toNatClampNeg) x2) 58 0 (((253 + (3 * ((hp_i h 58 0 3 ((h.1 58 0 3) - 1)).1 58 0 3))) + 2).toNatClampNeg) ((hp_i (hp_i (hp_i h 58 0 3 ((h.1 58 0 3) - 1)) 58 0 ((253 + (3 * ((hp_i h 58 0 3 ((h.1 58 0 3) - 1)).1 58 0 3))).toNatClampNeg) x1) 58 0 (((253 + (3 * ((hp_i h 58 0 3 ((h.1 58 0 3) - 1)).1 58 0 3))) + 1).toNatClampNeg) x2).1 58 0 0)).1 58 0 3) + 1))) ∧ ((¬ 48 ≤ x3) → (vp_in (253 + x3) 301) ∧ (vp_in ((253 + x3) - 3) 301) ∧ AW X (d + 1) rb mX12_logs 13 [(0, vR 12 0), (1, vI x1), (2, vI x2), (3, vI (x3 + 1))] [] (hp_i h 58 0 (((253 + x3) - 3).toNatClampNeg) (h.1 58 0 ((253 + x3).toNatClampNeg))) Qr Qx)) : AW X (d + 1) rb mX12_logs 13 [(0, vR 12 0), (1, vI x1), (2, vI x2), (3, vI x3)] [] h Qr Qx := by
  refine aw_iload_n (j := 3) (i := 3) dX12_logs_13 rfl rfl rfl ?_
  refine aw_bipush (v := 48) dX12_logs_14 rfl (by decide) ?_
  refine aw_icmp_ge 47 dX12_logs_16 rfl rfl (fun c => ?_) (fun c => ?_)
  · replace k := k.1 c
    refine aw_aload_n (j := 0) (i := 0) dX12_logs_47 rfl rfl rfl ?_
    refine aw_getf (k := 14) (z := 58) dX12_logs_48 rfl (by decide) rfl rfl rfl cb_12 (by decide) gw_1608 ?_
    refine aw_iconst (v := 3) dX12_logs_51 rfl (by decide) ?_
    refine aw_dup2 dX12_logs_52 rfl rfl rfl ?_
    refine aw_iald dX12_logs_53 rfl (by decide) rfl (by unfold vp_in; decide) ?_
    refine aw_iconst (v := 1) dX12_logs_54 rfl (by decide) ?_
    refine aw_isub dX12_logs_55 rfl ?_
    refine aw_iast dX12_logs_56 rfl (by decide) rfl (by unfold vp_in; decide) ?_
    refine aw_sipush (v := 253) dX12_logs_57 rfl (by decide) ?_
    refine aw_iconst (v := 3) dX12_logs_60 rfl (by decide) ?_
    refine aw_aload_n (j := 0) (i := 0) dX12_logs_61 rfl rfl rfl ?_
    refine aw_getf (k := 14) (z := 58) dX12_logs_62 rfl (by decide) rfl rfl rfl cb_12 (by decide) gw_1608 ?_
    refine aw_iconst (v := 3) dX12_logs_65 rfl (by decide) ?_
    refine aw_iald dX12_logs_66 rfl (by decide) rfl (by unfold vp_in; decide) ?_
    refine aw_imul dX12_logs_67 rfl ?_
    refine aw_iadd dX12_logs_68 rfl ?_
    refine aw_istore_n (i := 3) (L2 := [(3, vI (253 + (3 * ((hp_i h 58 0 3 ((h.1 58 0 3) - 1)).1 58 0 3)))), (0, vR 12 0), (1, vI x1), (2, vI x2)]) dX12_logs_69 rfl rfl (by decide) rfl ?_
    refine aw_aload_n (j := 1) (i := 0) dX12_logs_70 rfl rfl rfl ?_
    refine aw_getf (k := 14) (z := 58) dX12_logs_71 rfl (by decide) rfl rfl rfl cb_12 (by decide) gw_1608 ?_
    refine aw_iload_n (j := 0) (i := 3) dX12_logs_74 rfl rfl rfl ?_
    refine aw_iload_n (j := 2) (i := 1) dX12_logs_75 rfl rfl rfl ?_
    refine aw_iast dX12_logs_76 rfl (by decide) rfl k.1 ?_
    replace k := k.2
    refine aw_aload_n (j := 1) (i := 0) dX12_logs_77 rfl rfl rfl ?_
    refine aw_getf (k := 14) (z := 58) dX12_logs_78 rfl (by decide) rfl rfl rfl cb_12 (by decide) gw_1608 ?_
    refine aw_iload_n (j := 0) (i := 3) dX12_logs_81 rfl rfl rfl ?_
    refine aw_iconst (v := 1) dX12_logs_82 rfl (by decide) ?_
    refine aw_iadd dX12_logs_83 rfl ?_
    refine aw_iload_n (j := 3) (i := 2) dX12_logs_84 rfl rfl rfl ?_
    refine aw_iast dX12_logs_85 rfl (by decide) rfl k.1 ?_
    replace k := k.2
    refine aw_aload_n (j := 1) (i := 0) dX12_logs_86 rfl rfl rfl ?_
    refine aw_getf (k := 14) (z := 58) dX12_logs_87 rfl (by decide) rfl rfl rfl cb_12 (by decide) gw_1608 ?_
    refine aw_iload_n (j := 0) (i := 3) dX12_logs_90 rfl rfl rfl ?_
    refine aw_iconst (v := 2) dX12_logs_91 rfl (by decide) ?_
    refine aw_iadd dX12_logs_92 rfl ?_
    refine aw_aload_n (j := 1) (i := 0) dX12_logs_93 rfl rfl rfl ?_
    refine aw_getf (k := 14) (z := 58) dX12_logs_94 rfl (by decide) rfl rfl rfl cb_12 (by decide) gw_1608 ?_
    refine aw_iconst (v := 0) dX12_logs_97 rfl (by decide) ?_
    refine aw_iald dX12_logs_98 rfl (by decide) rfl (by unfold vp_in; decide) ?_
    refine aw_iast dX12_logs_99 rfl (by decide) rfl k.1 ?_
    replace k := k.2
    refine aw_aload_n (j := 1) (i := 0) dX12_logs_100 rfl rfl rfl ?_
    refine aw_getf (k := 14) (z := 58) dX12_logs_101 rfl (by decide) rfl rfl rfl cb_12 (by decide) gw_1608 ?_
    refine aw_iconst (v := 3) dX12_logs_104 rfl (by decide) ?_
    refine aw_dup2 dX12_logs_105 rfl rfl rfl ?_
    refine aw_iald dX12_logs_106 rfl (by decide) rfl (by unfold vp_in; decide) ?_
    refine aw_iconst (v := 1) dX12_logs_107 rfl (by decide) ?_
    refine aw_iadd dX12_logs_108 rfl ?_
    refine aw_iast dX12_logs_109 rfl (by decide) rfl (by unfold vp_in; decide) ?_
    exact aw_vret dX12_logs_110 rfl k
  · replace k := k.2 c
    refine aw_aload_n (j := 0) (i := 0) dX12_logs_19 rfl rfl rfl ?_
    refine aw_getf (k := 14) (z := 58) dX12_logs_20 rfl (by decide) rfl rfl rfl cb_12 (by decide) gw_1608 ?_
    refine aw_sipush (v := 253) dX12_logs_23 rfl (by decide) ?_
    refine aw_iload_n (j := 3) (i := 3) dX12_logs_26 rfl rfl rfl ?_
    refine aw_iadd dX12_logs_27 rfl ?_
    refine aw_iconst (v := 3) dX12_logs_28 rfl (by decide) ?_
    refine aw_isub dX12_logs_29 rfl ?_
    refine aw_aload_n (j := 0) (i := 0) dX12_logs_30 rfl rfl rfl ?_
    refine aw_getf (k := 14) (z := 58) dX12_logs_31 rfl (by decide) rfl rfl rfl cb_12 (by decide) gw_1608 ?_
    refine aw_sipush (v := 253) dX12_logs_34 rfl (by decide) ?_
    refine aw_iload_n (j := 3) (i := 3) dX12_logs_37 rfl rfl rfl ?_
    refine aw_iadd dX12_logs_38 rfl ?_
    refine aw_iald dX12_logs_39 rfl (by decide) rfl k.1 ?_
    replace k := k.2
    refine aw_iast dX12_logs_40 rfl (by decide) rfl k.1 ?_
    replace k := k.2
    refine aw_iinc (i := 3) (j := 3) (v := x3 + 1) (L2 := [(3, vI (x3 + 1)), (0, vR 12 0), (1, vI x1), (2, vI x2)]) dX12_logs_41 rfl (by decide) rfl rfl rfl ?_
    refine aw_goto 13 dX12_logs_44 rfl ?_
    exact aw_sub [1, 2, 3, 0] rfl k
set_option maxHeartbeats 4000000 in
set_option maxRecDepth 100000 in
theorem vc_X12_buy_0 {X : WD → State → Prop} {d rb : Nat} {h : Hp} {Qr : Option AV → Hp → Prop} {Qx : String → Hp → Prop} {a1 : Int32} {a2 : Int32}  (k : CL 0 d mX12_noPart [vR 12 0, vI a1] (hp_i h 12 0 0 0) (oI fun r2 h1 => ((¬ r2 = 0) → Qr (some (vI 0)) h1) ∧ ((r2 = 0) → CL 0 d mX12_in [vI a2, vI 1, vI 999] h1 (oI fun r4 h3 => CL 0 d mX12_throwsIf [vR 12 0, vI (if ¬ r4 = 0 then (0 : Int32) else 1), vI 2] h3 (oI fun r6 h5 => ((¬ r6 = 0) → Qr (some (vI 0)) h5) ∧ ((r6 = 0) → CL 0 d mX12_throwsIf [vR 12 0, vI (if ¬ (h5.1 58 0 2) = 20 then (0 : Int32) else 1), vI 3] h5 (oI fun r8 h7 => ((r8 = 0) → CL 0 d mX12_keeps [vR 12 0] h7 (oV fun h9 => (vp_in (33 + (3 * (h9.1 58 0 2))) 301) ∧ (vp_in ((33 + (3 * (h9.1 58 0 2))) + 1) 301) ∧ (vp_in (176 + a1) 506) ∧ (vp_in ((33 + (3 * (h9.1 58 0 2))) + 2) 301) ∧ (vp_in ((33 + (3 * (h9.1 58 0 2))) + 2) 301) ∧ Qr (some (vI ((hp_i (hp_i (hp_i (hp_i (hp_i h9 58 0 ((33 + (3 * (h9.1 58 0 2))).toNatClampNeg) a1) 58 0 (((33 + (3 * (h9.1 58 0 2))) + 1).toNatClampNeg) a2) 58 0 (((33 + (3 * (h9.1 58 0 2))) + 2).toNatClampNeg) (((hp_i (hp_i h9 58 0 ((33 + (3 * (h9.1 58 0 2))).toNatClampNeg) a1) 58 0 (((33 + (3 * (h9.1 58 0 2))) + 1).toNatClampNeg) a2).1 58 0 0) + (h9.1 56 0 ((176 + a1).toNatClampNeg)))) 58 0 2 (((hp_i (hp_i (hp_i h9 58 0 ((33 + (3 * (h9.1 58 0 2))).toNatClampNeg) a1) 58 0 (((33 + (3 * (h9.1 58 0 2))) + 1).toNatClampNeg) a2) 58 0 (((33 + (3 * (h9.1 58 0 2))) + 2).toNatClampNeg) (((hp_i (hp_i h9 58 0 ((33 + (3 * (h9.1 58 0 2))).toNatClampNeg) a1) 58 0 (((33 + (3 * (h9.1 58 0 2))) + 1).toNatClampNeg) a2).1 58 0 0) + (h9.1 56 0 ((176 + a1).toNatClampNeg)))).1 58 0 2) + 1)) 58 0 8 (((hp_i (hp_i (hp_i (hp_i h9 58 0 ((33 + (3 * (h9.1 58 0 2))).toNatClampNeg) a1) 58 0 (((33 + (3 * (h9.1 58 0 2))) + 1).toNatClampNeg) a2) 58 0 (((33 + (3 * (h9.1 58 0 2))) + 2).toNatClampNeg) (((hp_i (hp_i h9 58 0 ((33 + (3 * (h9.1 58 0 2))).toNatClampNeg) a1) 58 0 (((33 + (3 * (h9.1 58 0 2))) + 1).toNatClampNeg) a2).1 58 0 0) + (h9.1 56 0 ((176 + a1).toNatClampNeg)))) 58 0 2 (((hp_i (hp_i (hp_i h9 58 0 ((33 + (3 * (h9.1 58 0 2))).toNatClampNeg) a1) 58 0 (((33 + (3 * (h9.1 58 0 2))) + 1).toNatClampNeg) a2) 58 0 (((33 + (3 * (h9.1 58 0 2))) + 2).toNatClampNeg) (((hp_i (hp_i h9 58 0 ((33 + (3 * (h9.1 58 0 2))).toNatClampNeg) a1) 58 0 (((33 + (3 * (h9.1 58 0 2))) + 1).toNatClampNeg) a2).1 58 0 0) + (h9.1 56 0 ((176 + a1).toNatClampNeg)))).1 58 0 2) + 1)).1 58 0 8) + a2)).1 58 0 (((33 + (3 * (h9.1 58 0 2))) + 2).toNatClampNeg)))) (hp_i (hp_i (hp_i (hp_i (hp_i h9 58 0 ((33 + (3 * (h9.1 58 0 2))).toNatClampNeg) a1) 58 0 (((33 + (3 * (h9.1 58 0 2))) + 1).toNatClampNeg) a2) 58 0 (((33 + (3 * (h9.1 58 0 2))) + 2).toNatClampNeg) (((hp_i (hp_i h9 58 0 ((33 + (3 * (h9.1 58 0 2))).toNatClampNeg) a1) 58 0 (((33 + (3 * (h9.1 58 0 2))) + 1).toNatClampNeg) a2).1 58 0 0) + (h9.1 56 0 ((176 + a1).toNatClampNeg)))) 58 0 2 (((hp_i (hp_i (hp_i h9 58 0 ((33 + (3 * (h9.1 58 0 2))).toNatClampNeg) a1) 58 0 (((33 + (3 * (h9.1 58 0 2))) + 1).toNatClampNeg) a2) 58 0 (((33 + (3 * (h9.1 58 0 2))) + 2).toNatClampNeg) (((hp_i (hp_i h9 58 0 ((33 + (3 * (h9.1 58 0 2))).toNatClampNeg) a1) 58 0 (((33 + (3 * (h9.1 58 0 2))) + 1).toNatClampNeg) a2).1 58 0 0) + (h9.1 56 0 ((176 + a1).toNatClampNeg)))).1 58 0 2) + 1)) 58 0 8 (((hp_i (hp_i (hp_i (hp_i h9 58 0 ((33 + (3 * (h9.1 58 0 2))).toNatClampNeg) a1) 58 0 (((33 + (3 * (h9.1 58 0 2))) + 1).toNatClampNeg) a2) 58 0 (((33 + (3 * (h9.1 58 0 2))) + 2).toNatClampNeg) (((hp_i (hp_i h9 58 0 ((33 + (3 * (h9.1 58 0 2))).toNatClampNeg) a1) 58 0 (((33 + (3 * (h9.1 58 0 2))) + 1).toNatClampNeg) a2).1 58 0 0) + (h9.1 56 0 ((176 + a1).toNatClampNeg)))) 58 0 2 (((hp_i (hp_i (hp_i h9 58 0 ((33 + (3 * (h9.1 58 0 2))).toNatClampNeg) a1) 58 0 (((33 + (3 * (h9.1 58 0 2))) + 1).toNatClampNeg) a2) 58 0 (((33 + (3 * (h9.1 58 0 2))) + 2).toNatClampNeg) (((hp_i (hp_i h9 58 0 ((33 + (3 * (h9.1 58 0 2))).toNatClampNeg) a1) 58 0 (((33 + (3 * (h9.1 58 0 2))) + 1).toNatClampNeg) a2).1 58 0 0) + (h9.1 56 0 ((176 + a1).toNatClampNeg)))).1 58 0 2) + 1)).1 58 0 8) + a2))) Qx) ∧ ((¬ r8 = 0) → Qr (some (vI 0)) h7)) Qx)) Qx) Qx)) Qx) : AW X (d + 1) rb mX12_buy 0 [(0, vR 12 0), (1, vI a1), (2, vI a2)] [] h Qr Qx := by
  refine aw_aload_n (j := 0) (i := 0) dX12_buy_0 rfl rfl rfl ?_
  refine aw_iconst (v := 0) dX12_buy_1 rfl (by decide) ?_
  refine aw_puti (k := 0) dX12_buy_2 rfl (by decide) rfl rfl cb_12 (by decide) rfl rfl gw_1594 ?_
  refine aw_aload_n (j := 0) (i := 0) dX12_buy_5 rfl rfl rfl ?_
  refine aw_iload_n (j := 1) (i := 1) dX12_buy_6 rfl rfl rfl ?_
  refine aw_callV (M' := mX12_noPart) (S := []) (as := [vI a1]) (k := 0) dX12_buy_7 rfl (by decide) rfl rfl gw_1784 gw_1786 gw_50 mb_X12_noPart rfl (Nat.zero_le _) (Nat.le_of_ble_eq_true rfl) rfl (CL.imp k (fun _ h1 k => ?_) (fun _ _ k => k))
  obtain ⟨r2, rfl, k⟩ := oI_of k
  show AW X (d + 1) rb mX12_buy 10 _ [vI r2] h1 Qr Qx
  refine aw_if_ne 61 dX12_buy_10 rfl rfl (fun c => ?_) (fun c => ?_)
  · replace k := k.1 c
    refine aw_iconst (v := 0) dX12_buy_61 rfl (by decide) ?_
    exact aw_iret dX12_buy_62 rfl k
  · replace k := k.2 c
    refine aw_aload_n (j := 0) (i := 0) dX12_buy_13 rfl rfl rfl ?_
    refine aw_iload_n (j := 2) (i := 2) dX12_buy_14 rfl rfl rfl ?_
    refine aw_iconst (v := 1) dX12_buy_15 rfl (by decide) ?_
    refine aw_sipush (v := 999) dX12_buy_16 rfl (by decide) ?_
    refine aw_callS (M' := mX12_in) (S := [vR 12 0]) (as := [vI a2, vI 1, vI 999]) (k := 0) dX12_buy_19 rfl gw_1713 gw_1714 mb_X12_in rfl (Nat.zero_le _) (Nat.le_of_ble_eq_true rfl) rfl (CL.imp k (fun _ h3 k => ?_) (fun _ _ k => k))
    obtain ⟨r4, rfl, k⟩ := oI_of k
    show AW X (d + 1) rb mX12_buy 22 _ [vI r4, vR 12 0] h3 Qr Qx
    have kk : AW X (d + 1) rb mX12_buy 30 [(0, vR 12 0), (1, vI a1), (2, vI a2)] [vI (if ¬ r4 = 0 then (0 : Int32) else 1), vR 12 0] h3 Qr Qx := by
      refine aw_iconst (v := 2) dX12_buy_30 rfl (by decide) ?_
      refine aw_callV (M' := mX12_throwsIf) (S := []) (as := [vI (if ¬ r4 = 0 then (0 : Int32) else 1), vI 2]) (k := 0) dX12_buy_31 rfl (by decide) rfl rfl gw_1748 gw_1750 gw_48 mb_X12_throwsIf rfl (Nat.zero_le _) (Nat.le_of_ble_eq_true rfl) rfl (CL.imp k (fun _ h5 k => ?_) (fun _ _ k => k))
      obtain ⟨r6, rfl, k⟩ := oI_of k
      show AW X (d + 1) rb mX12_buy 34 _ [vI r6] h5 Qr Qx
      refine aw_if_ne 61 dX12_buy_34 rfl rfl (fun c => ?_) (fun c => ?_)
      · replace k := k.1 c
        refine aw_iconst (v := 0) dX12_buy_61 rfl (by decide) ?_
        exact aw_iret dX12_buy_62 rfl k
      · replace k := k.2 c
        refine aw_aload_n (j := 0) (i := 0) dX12_buy_37 rfl rfl rfl ?_
        refine aw_aload_n (j := 0) (i := 0) dX12_buy_38 rfl rfl rfl ?_
        refine aw_getf (k := 14) (z := 58) dX12_buy_39 rfl (by decide) rfl rfl rfl cb_12 (by decide) gw_1608 ?_
        refine aw_iconst (v := 2) dX12_buy_42 rfl (by decide) ?_
        refine aw_iald dX12_buy_43 rfl (by decide) rfl (by unfold vp_in; decide) ?_
        refine aw_bipush (v := 20) dX12_buy_44 rfl (by decide) ?_
        have kk : AW X (d + 1) rb mX12_buy 54 [(0, vR 12 0), (1, vI a1), (2, vI a2)] [vI (if ¬ (h5.1 58 0 2) = 20 then (0 : Int32) else 1), vR 12 0] h5 Qr Qx := by
          refine aw_iconst (v := 3) dX12_buy_54 rfl (by decide) ?_
          refine aw_callV (M' := mX12_throwsIf) (S := []) (as := [vI (if ¬ (h5.1 58 0 2) = 20 then (0 : Int32) else 1), vI 3]) (k := 0) dX12_buy_55 rfl (by decide) rfl rfl gw_1748 gw_1750 gw_48 mb_X12_throwsIf rfl (Nat.zero_le _) (Nat.le_of_ble_eq_true rfl) rfl (CL.imp k (fun _ h7 k => ?_) (fun _ _ k => k))
          obtain ⟨r8, rfl, k⟩ := oI_of k
          show AW X (d + 1) rb mX12_buy 58 _ [vI r8] h7 Qr Qx
          refine aw_if_eq 63 dX12_buy_58 rfl rfl (fun c => ?_) (fun c => ?_)
          · replace k := k.1 c
            refine aw_aload_n (j := 0) (i := 0) dX12_buy_63 rfl rfl rfl ?_
            refine aw_callV (M' := mX12_keeps) (S := []) (as := []) (k := 0) dX12_buy_64 rfl (by decide) rfl rfl gw_2003 gw_2005 gw_72 mb_X12_keeps rfl (Nat.zero_le _) (Nat.le_of_ble_eq_true rfl) rfl (CL.imp k (fun _ h9 k => ?_) (fun _ _ k => k))
            obtain ⟨rfl, k⟩ := oV_of k
            show AW X (d + 1) rb mX12_buy 67 _ [] h9 Qr Qx
            refine aw_bipush (v := 33) dX12_buy_67 rfl (by decide) ?_
            refine aw_iconst (v := 3) dX12_buy_69 rfl (by decide) ?_
            refine aw_aload_n (j := 0) (i := 0) dX12_buy_70 rfl rfl rfl ?_
            refine aw_getf (k := 14) (z := 58) dX12_buy_71 rfl (by decide) rfl rfl rfl cb_12 (by decide) gw_1608 ?_
            refine aw_iconst (v := 2) dX12_buy_74 rfl (by decide) ?_
            refine aw_iald dX12_buy_75 rfl (by decide) rfl (by unfold vp_in; decide) ?_
            refine aw_imul dX12_buy_76 rfl ?_
            refine aw_iadd dX12_buy_77 rfl ?_
            refine aw_istore_n (i := 3) (L2 := [(3, vI (33 + (3 * (h9.1 58 0 2)))), (0, vR 12 0), (1, vI a1), (2, vI a2)]) dX12_buy_78 rfl rfl (by decide) rfl ?_
            refine aw_aload_n (j := 1) (i := 0) dX12_buy_79 rfl rfl rfl ?_
            refine aw_getf (k := 14) (z := 58) dX12_buy_80 rfl (by decide) rfl rfl rfl cb_12 (by decide) gw_1608 ?_
            refine aw_iload_n (j := 0) (i := 3) dX12_buy_83 rfl rfl rfl ?_
            refine aw_iload_n (j := 2) (i := 1) dX12_buy_84 rfl rfl rfl ?_
            refine aw_iast dX12_buy_85 rfl (by decide) rfl k.1 ?_
            replace k := k.2
            refine aw_aload_n (j := 1) (i := 0) dX12_buy_86 rfl rfl rfl ?_
            refine aw_getf (k := 14) (z := 58) dX12_buy_87 rfl (by decide) rfl rfl rfl cb_12 (by decide) gw_1608 ?_
            refine aw_iload_n (j := 0) (i := 3) dX12_buy_90 rfl rfl rfl ?_
            refine aw_iconst (v := 1) dX12_buy_91 rfl (by decide) ?_
            refine aw_iadd dX12_buy_92 rfl ?_
            refine aw_iload_n (j := 3) (i := 2) dX12_buy_93 rfl rfl rfl ?_
            refine aw_iast dX12_buy_94 rfl (by decide) rfl k.1 ?_
            replace k := k.2
            refine aw_aload_n (j := 1) (i := 0) dX12_buy_95 rfl rfl rfl ?_
            refine aw_getf (k := 14) (z := 58) dX12_buy_96 rfl (by decide) rfl rfl rfl cb_12 (by decide) gw_1608 ?_
            refine aw_iload_n (j := 0) (i := 3) dX12_buy_99 rfl rfl rfl ?_
            refine aw_iconst (v := 2) dX12_buy_100 rfl (by decide) ?_
            refine aw_iadd dX12_buy_101 rfl ?_
            refine aw_aload_n (j := 1) (i := 0) dX12_buy_102 rfl rfl rfl ?_
            refine aw_getf (k := 14) (z := 58) dX12_buy_103 rfl (by decide) rfl rfl rfl cb_12 (by decide) gw_1608 ?_
            refine aw_iconst (v := 0) dX12_buy_106 rfl (by decide) ?_
            refine aw_iald dX12_buy_107 rfl (by decide) rfl (by unfold vp_in; decide) ?_
            refine aw_aload_n (j := 1) (i := 0) dX12_buy_108 rfl rfl rfl ?_
            refine aw_getf (k := 11) (z := 56) dX12_buy_109 rfl (by decide) rfl rfl rfl cb_12 (by decide) gw_1605 ?_
            refine aw_sipush (v := 176) dX12_buy_112 rfl (by decide) ?_
            refine aw_iload_n (j := 2) (i := 1) dX12_buy_115 rfl rfl rfl ?_
            refine aw_iadd dX12_buy_116 rfl ?_
            refine aw_iald dX12_buy_117 rfl (by decide) rfl k.1 ?_
            replace k := k.2
            refine aw_iadd dX12_buy_118 rfl ?_
            refine aw_iast dX12_buy_119 rfl (by decide) rfl k.1 ?_
            replace k := k.2
            refine aw_aload_n (j := 1) (i := 0) dX12_buy_120 rfl rfl rfl ?_
            refine aw_getf (k := 14) (z := 58) dX12_buy_121 rfl (by decide) rfl rfl rfl cb_12 (by decide) gw_1608 ?_
            refine aw_iconst (v := 2) dX12_buy_124 rfl (by decide) ?_
            refine aw_dup2 dX12_buy_125 rfl rfl rfl ?_
            refine aw_iald dX12_buy_126 rfl (by decide) rfl (by unfold vp_in; decide) ?_
            refine aw_iconst (v := 1) dX12_buy_127 rfl (by decide) ?_
            refine aw_iadd dX12_buy_128 rfl ?_
            refine aw_iast dX12_buy_129 rfl (by decide) rfl (by unfold vp_in; decide) ?_
            refine aw_aload_n (j := 1) (i := 0) dX12_buy_130 rfl rfl rfl ?_
            refine aw_getf (k := 14) (z := 58) dX12_buy_131 rfl (by decide) rfl rfl rfl cb_12 (by decide) gw_1608 ?_
            refine aw_bipush (v := 8) dX12_buy_134 rfl (by decide) ?_
            refine aw_dup2 dX12_buy_136 rfl rfl rfl ?_
            refine aw_iald dX12_buy_137 rfl (by decide) rfl (by unfold vp_in; decide) ?_
            refine aw_iload_n (j := 3) (i := 2) dX12_buy_138 rfl rfl rfl ?_
            refine aw_iadd dX12_buy_139 rfl ?_
            refine aw_iast dX12_buy_140 rfl (by decide) rfl (by unfold vp_in; decide) ?_
            refine aw_aload_n (j := 1) (i := 0) dX12_buy_141 rfl rfl rfl ?_
            refine aw_getf (k := 14) (z := 58) dX12_buy_142 rfl (by decide) rfl rfl rfl cb_12 (by decide) gw_1608 ?_
            refine aw_iload_n (j := 0) (i := 3) dX12_buy_145 rfl rfl rfl ?_
            refine aw_iconst (v := 2) dX12_buy_146 rfl (by decide) ?_
            refine aw_iadd dX12_buy_147 rfl ?_
            refine aw_iald dX12_buy_148 rfl (by decide) rfl k.1 ?_
            replace k := k.2
            exact aw_iret dX12_buy_149 rfl k
          · replace k := k.2 c
            refine aw_iconst (v := 0) dX12_buy_61 rfl (by decide) ?_
            exact aw_iret dX12_buy_62 rfl k
        refine aw_icmp_ne 53 dX12_buy_46 rfl rfl (fun (c0 : ¬ (h5.1 58 0 2) = 20) => ?_) (fun (c0 : (h5.1 58 0 2) = 20) => ?_)
        · refine aw_iconst (v := 0) dX12_buy_53 rfl (by decide) ?_
          simp only [if_pos c0] at kk
          exact kk
        · refine aw_iconst (v := 1) dX12_buy_49 rfl (by decide) ?_
          refine aw_goto 54 dX12_buy_50 rfl ?_
          simp only [if_neg (oa_nn c0)] at kk
          exact kk
    refine aw_if_ne 29 dX12_buy_22 rfl rfl (fun (c0 : ¬ r4 = 0) => ?_) (fun (c0 : r4 = 0) => ?_)
    · refine aw_iconst (v := 0) dX12_buy_29 rfl (by decide) ?_
      simp only [if_pos c0] at kk
      exact kk
    · refine aw_iconst (v := 1) dX12_buy_25 rfl (by decide) ?_
      refine aw_goto 30 dX12_buy_26 rfl ?_
      simp only [if_neg (oa_nn c0)] at kk
      exact kk
set_option maxHeartbeats 4000000 in
set_option maxRecDepth 100000 in
theorem vc_X12_loser_0 {X : WD → State → Prop} {d rb : Nat} {h : Hp} {Qr : Option AV → Hp → Prop} {Qx : String → Hp → Prop} {a1 : Int32}  (k : AW X (d + 1) rb mX12_loser 4 [(0, vR 12 0), (1, vI a1), (2, vI (-1)), (3, vI 0)] [] h Qr Qx) : AW X (d + 1) rb mX12_loser 0 [(0, vR 12 0), (1, vI a1)] [] h Qr Qx := by
  refine aw_iconst (v := (-1)) dX12_loser_0 rfl (by decide) ?_
  refine aw_istore_n (i := 2) (L2 := [(2, vI (-1)), (0, vR 12 0), (1, vI a1)]) dX12_loser_1 rfl rfl (by decide) rfl ?_
  refine aw_iconst (v := 0) dX12_loser_2 rfl (by decide) ?_
  refine aw_istore_n (i := 3) (L2 := [(3, vI 0), (2, vI (-1)), (0, vR 12 0), (1, vI a1)]) dX12_loser_3 rfl rfl (by decide) rfl ?_
  exact aw_sub [2, 3, 1, 0] rfl k
set_option maxHeartbeats 4000000 in
set_option maxRecDepth 100000 in
theorem vc_X12_loser_4 {X : WD → State → Prop} {d rb : Nat} {h : Hp} {Qr : Option AV → Hp → Prop} {Qx : String → Hp → Prop} {x1 : Int32} {x2 : Int32} {x3 : Int32}  (k : (((h.1 58 0 1) ≤ x3) → Qr (some (vI x2)) h) ∧ ((¬ (h.1 58 0 1) ≤ x3) → CL 0 d mX12_of [vR 12 0, vI x3, vI 6] h (oI fun r2 h1 => ((r2 = 0) → AW X (d + 1) rb mX12_loser 4 [(0, vR 12 0), (1, vI x1), (2, vI x2), (3, vI (x3 + 1))] [] h1 Qr Qx) ∧ ((¬ r2 = 0) → CL 0 d mX12_of [vR 12 0, vI x3, vI 0] h1 (oI fun r4 h3 => CL 0 d mX12_needs [vR 12 0, vI r4, vI x1] h3 (oI fun r6 h5 => ((¬ r6 = 0) → ((x2 = (-1)) → AW X (d + 1) rb mX12_loser 4 [(0, vR 12 0), (1, vI x1), (2, vI x3), (3, vI (x3 + 1))] [] h5 Qr Qx) ∧ ((¬ x2 = (-1)) → CL 0 d mX12_of [vR 12 0, vI x3, vI 2] h5 (oI fun r8 h7 => CL 0 d mX12_of [vR 12 0, vI x2, vI 2] h7 (oI fun r10 h9 => ((r8 < r10) → AW X (d + 1) rb mX12_loser 4 [(0, vR 12 0), (1, vI x1), (2, vI x3), (3, vI (x3 + 1))] [] h9 Qr Qx) ∧ ((¬ r8 < r10) → CL 0 d mX12_of [vR 12 0, vI x3, vI 2] h9 (oI fun r12 h11 => CL 0 d mX12_of [vR 12 0, vI x2, vI 2] h11 (oI fun r14 h13 => ((¬ r12 = r14) → AW X (d + 1) rb mX12_loser 4 [(0, vR 12 0), (1, vI x1), (2, vI x2), (3, vI (x3 + 1))] [] h13 Qr Qx) ∧ ((r12 = r14) → CL 0 d mX12_of [vR 12 0, vI x3, vI 3] h13 (oI fun r16 h15 => CL 0 d mX12_of [vR 12 0, vI x2, vI 3] h15 (oI fun r18 h17 => AW X (d + 1) rb mX12_loser 4 [(0, vR 12 0), (1, vI x1), (2, vI (if (if r16 < r18 then (0 : Int32) else 1) = 0 then (x2 : Int32) else x3)), (3, vI (x3 + 1))] [] h17 Qr Qx) Qx) Qx)) Qx) Qx)) Qx) Qx)) ∧ ((r6 = 0) → AW X (d + 1) rb mX12_loser 4 [(0, vR 12 0), (1, vI x1), (2, vI x2), (3, vI (x3 + 1))] [] h5 Qr Qx)) Qx) Qx)) Qx)) : AW X (d + 1) rb mX12_loser 4 [(0, vR 12 0), (1, vI x1), (2, vI x2), (3, vI x3)] [] h Qr Qx := by
  refine aw_iload_n (j := 3) (i := 3) dX12_loser_4 rfl rfl rfl ?_
  refine aw_aload_n (j := 0) (i := 0) dX12_loser_5 rfl rfl rfl ?_
  refine aw_getf (k := 14) (z := 58) dX12_loser_6 rfl (by decide) rfl rfl rfl cb_12 (by decide) gw_1608 ?_
  refine aw_iconst (v := 1) dX12_loser_9 rfl (by decide) ?_
  refine aw_iald dX12_loser_10 rfl (by decide) rfl (by unfold vp_in; decide) ?_
  refine aw_icmp_ge 115 dX12_loser_11 rfl rfl (fun c => ?_) (fun c => ?_)
  · replace k := k.1 c
    refine aw_iload_n (j := 2) (i := 2) dX12_loser_115 rfl rfl rfl ?_
    exact aw_iret dX12_loser_116 rfl k
  · replace k := k.2 c
    refine aw_aload_n (j := 0) (i := 0) dX12_loser_14 rfl rfl rfl ?_
    refine aw_iload_n (j := 3) (i := 3) dX12_loser_15 rfl rfl rfl ?_
    refine aw_bipush (v := 6) dX12_loser_16 rfl (by decide) ?_
    refine aw_callV (M' := mX12_of) (S := []) (as := [vI x3, vI 6]) (k := 0) dX12_loser_18 rfl (by decide) rfl rfl gw_1871 gw_1873 gw_58 mb_X12_of rfl (Nat.zero_le _) (Nat.le_of_ble_eq_true rfl) rfl (CL.imp k (fun _ h1 k => ?_) (fun _ _ k => k))
    obtain ⟨r2, rfl, k⟩ := oI_of k
    show AW X (d + 1) rb mX12_loser 21 _ [vI r2] h1 Qr Qx
    refine aw_if_eq 109 dX12_loser_21 rfl rfl (fun c => ?_) (fun c => ?_)
    · replace k := k.1 c
      refine aw_iinc (i := 3) (j := 3) (v := x3 + 1) (L2 := [(3, vI (x3 + 1)), (0, vR 12 0), (1, vI x1), (2, vI x2)]) dX12_loser_109 rfl (by decide) rfl rfl rfl ?_
      refine aw_goto 4 dX12_loser_112 rfl ?_
      exact aw_sub [1, 2, 3, 0] rfl k
    · replace k := k.2 c
      refine aw_aload_n (j := 0) (i := 0) dX12_loser_24 rfl rfl rfl ?_
      refine aw_aload_n (j := 0) (i := 0) dX12_loser_25 rfl rfl rfl ?_
      refine aw_iload_n (j := 3) (i := 3) dX12_loser_26 rfl rfl rfl ?_
      refine aw_iconst (v := 0) dX12_loser_27 rfl (by decide) ?_
      refine aw_callV (M' := mX12_of) (S := [vR 12 0]) (as := [vI x3, vI 0]) (k := 0) dX12_loser_28 rfl (by decide) rfl rfl gw_1871 gw_1873 gw_58 mb_X12_of rfl (Nat.zero_le _) (Nat.le_of_ble_eq_true rfl) rfl (CL.imp k (fun _ h3 k => ?_) (fun _ _ k => k))
      obtain ⟨r4, rfl, k⟩ := oI_of k
      show AW X (d + 1) rb mX12_loser 31 _ [vI r4, vR 12 0] h3 Qr Qx
      refine aw_iload_n (j := 1) (i := 1) dX12_loser_31 rfl rfl rfl ?_
      refine aw_callV (M' := mX12_needs) (S := []) (as := [vI r4, vI x1]) (k := 0) dX12_loser_32 rfl (by decide) rfl rfl gw_1788 gw_1790 gw_51 mb_X12_needs rfl (Nat.zero_le _) (Nat.le_of_ble_eq_true rfl) rfl (CL.imp k (fun _ h5 k => ?_) (fun _ _ k => k))
      obtain ⟨r6, rfl, k⟩ := oI_of k
      show AW X (d + 1) rb mX12_loser 35 _ [vI r6] h5 Qr Qx
      refine aw_if_ne 41 dX12_loser_35 rfl rfl (fun c => ?_) (fun c => ?_)
      · replace k := k.1 c
        refine aw_iload_n (j := 2) (i := 2) dX12_loser_41 rfl rfl rfl ?_
        refine aw_iconst (v := (-1)) dX12_loser_42 rfl (by decide) ?_
        refine aw_icmp_eq 91 dX12_loser_43 rfl rfl (fun c => ?_) (fun c => ?_)
        · replace k := k.1 c
          refine aw_iconst (v := 1) dX12_loser_91 rfl (by decide) ?_
          refine aw_goto 96 dX12_loser_92 rfl ?_
          refine aw_istore (i := 4) (L2 := [(4, vI 1), (0, vR 12 0), (1, vI x1), (2, vI x2), (3, vI x3)]) dX12_loser_96 rfl (by decide) rfl ?_
          refine aw_iload (j := 0) (i := 4) dX12_loser_98 rfl rfl ?_
          refine aw_if_eq 107 dX12_loser_100 rfl rfl (fun z => absurd z (by decide)) (fun _ => ?_)
          refine aw_iload_n (j := 4) (i := 3) dX12_loser_103 rfl rfl rfl ?_
          refine aw_goto 108 dX12_loser_104 rfl ?_
          refine aw_istore_n (i := 2) (L2 := [(2, vI x3), (4, vI 1), (0, vR 12 0), (1, vI x1), (3, vI x3)]) dX12_loser_108 rfl rfl (by decide) rfl ?_
          refine aw_iinc (i := 3) (j := 4) (v := x3 + 1) (L2 := [(3, vI (x3 + 1)), (2, vI x3), (4, vI 1), (0, vR 12 0), (1, vI x1)]) dX12_loser_109 rfl (by decide) rfl rfl rfl ?_
          refine aw_goto 4 dX12_loser_112 rfl ?_
          exact aw_sub [3, 4, 1, 0] rfl k
        · replace k := k.2 c
          refine aw_aload_n (j := 0) (i := 0) dX12_loser_46 rfl rfl rfl ?_
          refine aw_iload_n (j := 3) (i := 3) dX12_loser_47 rfl rfl rfl ?_
          refine aw_iconst (v := 2) dX12_loser_48 rfl (by decide) ?_
          refine aw_callV (M' := mX12_of) (S := []) (as := [vI x3, vI 2]) (k := 0) dX12_loser_49 rfl (by decide) rfl rfl gw_1871 gw_1873 gw_58 mb_X12_of rfl (Nat.zero_le _) (Nat.le_of_ble_eq_true rfl) rfl (CL.imp k (fun _ h7 k => ?_) (fun _ _ k => k))
          obtain ⟨r8, rfl, k⟩ := oI_of k
          show AW X (d + 1) rb mX12_loser 52 _ [vI r8] h7 Qr Qx
          refine aw_aload_n (j := 0) (i := 0) dX12_loser_52 rfl rfl rfl ?_
          refine aw_iload_n (j := 2) (i := 2) dX12_loser_53 rfl rfl rfl ?_
          refine aw_iconst (v := 2) dX12_loser_54 rfl (by decide) ?_
          refine aw_callV (M' := mX12_of) (S := [vI r8]) (as := [vI x2, vI 2]) (k := 0) dX12_loser_55 rfl (by decide) rfl rfl gw_1871 gw_1873 gw_58 mb_X12_of rfl (Nat.zero_le _) (Nat.le_of_ble_eq_true rfl) rfl (CL.imp k (fun _ h9 k => ?_) (fun _ _ k => k))
          obtain ⟨r10, rfl, k⟩ := oI_of k
          show AW X (d + 1) rb mX12_loser 58 _ [vI r10, vI r8] h9 Qr Qx
          refine aw_icmp_lt 91 dX12_loser_58 rfl rfl (fun c => ?_) (fun c => ?_)
          · replace k := k.1 c
            refine aw_iconst (v := 1) dX12_loser_91 rfl (by decide) ?_
            refine aw_goto 96 dX12_loser_92 rfl ?_
            refine aw_istore (i := 4) (L2 := [(4, vI 1), (0, vR 12 0), (1, vI x1), (2, vI x2), (3, vI x3)]) dX12_loser_96 rfl (by decide) rfl ?_
            refine aw_iload (j := 0) (i := 4) dX12_loser_98 rfl rfl ?_
            refine aw_if_eq 107 dX12_loser_100 rfl rfl (fun z => absurd z (by decide)) (fun _ => ?_)
            refine aw_iload_n (j := 4) (i := 3) dX12_loser_103 rfl rfl rfl ?_
            refine aw_goto 108 dX12_loser_104 rfl ?_
            refine aw_istore_n (i := 2) (L2 := [(2, vI x3), (4, vI 1), (0, vR 12 0), (1, vI x1), (3, vI x3)]) dX12_loser_108 rfl rfl (by decide) rfl ?_
            refine aw_iinc (i := 3) (j := 4) (v := x3 + 1) (L2 := [(3, vI (x3 + 1)), (2, vI x3), (4, vI 1), (0, vR 12 0), (1, vI x1)]) dX12_loser_109 rfl (by decide) rfl rfl rfl ?_
            refine aw_goto 4 dX12_loser_112 rfl ?_
            exact aw_sub [3, 4, 1, 0] rfl k
          · replace k := k.2 c
            refine aw_aload_n (j := 0) (i := 0) dX12_loser_61 rfl rfl rfl ?_
            refine aw_iload_n (j := 3) (i := 3) dX12_loser_62 rfl rfl rfl ?_
            refine aw_iconst (v := 2) dX12_loser_63 rfl (by decide) ?_
            refine aw_callV (M' := mX12_of) (S := []) (as := [vI x3, vI 2]) (k := 0) dX12_loser_64 rfl (by decide) rfl rfl gw_1871 gw_1873 gw_58 mb_X12_of rfl (Nat.zero_le _) (Nat.le_of_ble_eq_true rfl) rfl (CL.imp k (fun _ h11 k => ?_) (fun _ _ k => k))
            obtain ⟨r12, rfl, k⟩ := oI_of k
            show AW X (d + 1) rb mX12_loser 67 _ [vI r12] h11 Qr Qx
            refine aw_aload_n (j := 0) (i := 0) dX12_loser_67 rfl rfl rfl ?_
            refine aw_iload_n (j := 2) (i := 2) dX12_loser_68 rfl rfl rfl ?_
            refine aw_iconst (v := 2) dX12_loser_69 rfl (by decide) ?_
            refine aw_callV (M' := mX12_of) (S := [vI r12]) (as := [vI x2, vI 2]) (k := 0) dX12_loser_70 rfl (by decide) rfl rfl gw_1871 gw_1873 gw_58 mb_X12_of rfl (Nat.zero_le _) (Nat.le_of_ble_eq_true rfl) rfl (CL.imp k (fun _ h13 k => ?_) (fun _ _ k => k))
            obtain ⟨r14, rfl, k⟩ := oI_of k
            show AW X (d + 1) rb mX12_loser 73 _ [vI r14, vI r12] h13 Qr Qx
            refine aw_icmp_ne 95 dX12_loser_73 rfl rfl (fun c => ?_) (fun c => ?_)
            · replace k := k.1 c
              refine aw_iconst (v := 0) dX12_loser_95 rfl (by decide) ?_
              refine aw_istore (i := 4) (L2 := [(4, vI 0), (0, vR 12 0), (1, vI x1), (2, vI x2), (3, vI x3)]) dX12_loser_96 rfl (by decide) rfl ?_
              refine aw_iload (j := 0) (i := 4) dX12_loser_98 rfl rfl ?_
              refine aw_if_eq 107 dX12_loser_100 rfl rfl (fun _ => ?_) (fun z => absurd z (by decide))
              refine aw_iload_n (j := 3) (i := 2) dX12_loser_107 rfl rfl rfl ?_
              refine aw_istore_n (i := 2) (L2 := [(2, vI x2), (4, vI 0), (0, vR 12 0), (1, vI x1), (3, vI x3)]) dX12_loser_108 rfl rfl (by decide) rfl ?_
              refine aw_iinc (i := 3) (j := 4) (v := x3 + 1) (L2 := [(3, vI (x3 + 1)), (2, vI x2), (4, vI 0), (0, vR 12 0), (1, vI x1)]) dX12_loser_109 rfl (by decide) rfl rfl rfl ?_
              refine aw_goto 4 dX12_loser_112 rfl ?_
              exact aw_sub [3, 4, 1, 0] rfl k
            · replace k := k.2 c
              refine aw_aload_n (j := 0) (i := 0) dX12_loser_76 rfl rfl rfl ?_
              refine aw_iload_n (j := 3) (i := 3) dX12_loser_77 rfl rfl rfl ?_
              refine aw_iconst (v := 3) dX12_loser_78 rfl (by decide) ?_
              refine aw_callV (M' := mX12_of) (S := []) (as := [vI x3, vI 3]) (k := 0) dX12_loser_79 rfl (by decide) rfl rfl gw_1871 gw_1873 gw_58 mb_X12_of rfl (Nat.zero_le _) (Nat.le_of_ble_eq_true rfl) rfl (CL.imp k (fun _ h15 k => ?_) (fun _ _ k => k))
              obtain ⟨r16, rfl, k⟩ := oI_of k
              show AW X (d + 1) rb mX12_loser 82 _ [vI r16] h15 Qr Qx
              refine aw_aload_n (j := 0) (i := 0) dX12_loser_82 rfl rfl rfl ?_
              refine aw_iload_n (j := 2) (i := 2) dX12_loser_83 rfl rfl rfl ?_
              refine aw_iconst (v := 3) dX12_loser_84 rfl (by decide) ?_
              refine aw_callV (M' := mX12_of) (S := [vI r16]) (as := [vI x2, vI 3]) (k := 0) dX12_loser_85 rfl (by decide) rfl rfl gw_1871 gw_1873 gw_58 mb_X12_of rfl (Nat.zero_le _) (Nat.le_of_ble_eq_true rfl) rfl (CL.imp k (fun _ h17 k => ?_) (fun _ _ k => k))
              obtain ⟨r18, rfl, k⟩ := oI_of k
              show AW X (d + 1) rb mX12_loser 88 _ [vI r18, vI r16] h17 Qr Qx
              have kk : AW X (d + 1) rb mX12_loser 96 [(0, vR 12 0), (1, vI x1), (2, vI x2), (3, vI x3)] [vI (if r16 < r18 then (0 : Int32) else 1)] h17 Qr Qx := by
                refine aw_istore (i := 4) (L2 := [(4, vI (if r16 < r18 then (0 : Int32) else 1)), (0, vR 12 0), (1, vI x1), (2, vI x2), (3, vI x3)]) dX12_loser_96 rfl (by decide) rfl ?_
                refine aw_iload (j := 0) (i := 4) dX12_loser_98 rfl rfl ?_
                have kk : AW X (d + 1) rb mX12_loser 108 [(4, vI (if r16 < r18 then (0 : Int32) else 1)), (0, vR 12 0), (1, vI x1), (2, vI x2), (3, vI x3)] [vI (if (if r16 < r18 then (0 : Int32) else 1) = 0 then (x2 : Int32) else x3)] h17 Qr Qx := by
                  refine aw_istore_n (i := 2) (L2 := [(2, vI (if (if r16 < r18 then (0 : Int32) else 1) = 0 then (x2 : Int32) else x3)), (4, vI (if r16 < r18 then (0 : Int32) else 1)), (0, vR 12 0), (1, vI x1), (3, vI x3)]) dX12_loser_108 rfl rfl (by decide) rfl ?_
                  refine aw_iinc (i := 3) (j := 4) (v := x3 + 1) (L2 := [(3, vI (x3 + 1)), (2, vI (if (if r16 < r18 then (0 : Int32) else 1) = 0 then (x2 : Int32) else x3)), (4, vI (if r16 < r18 then (0 : Int32) else 1)), (0, vR 12 0), (1, vI x1)]) dX12_loser_109 rfl (by decide) rfl rfl rfl ?_
                  refine aw_goto 4 dX12_loser_112 rfl ?_
                  exact aw_sub [3, 4, 1, 0] rfl k
                refine aw_if_eq 107 dX12_loser_100 rfl rfl (fun (c0 : (if r16 < r18 then (0 : Int32) else 1) = 0) => ?_) (fun (c0 : ¬ (if r16 < r18 then (0 : Int32) else 1) = 0) => ?_)
                · refine aw_iload_n (j := 3) (i := 2) dX12_loser_107 rfl rfl rfl ?_
                  simp only [if_pos c0] at kk
                  exact kk
                · refine aw_iload_n (j := 4) (i := 3) dX12_loser_103 rfl rfl rfl ?_
                  refine aw_goto 108 dX12_loser_104 rfl ?_
                  simp only [if_neg c0] at kk
                  exact kk
              refine aw_icmp_lt 95 dX12_loser_88 rfl rfl (fun (c0 : r16 < r18) => ?_) (fun (c0 : ¬ r16 < r18) => ?_)
              · refine aw_iconst (v := 0) dX12_loser_95 rfl (by decide) ?_
                simp only [if_pos c0] at kk
                exact kk
              · refine aw_iconst (v := 1) dX12_loser_91 rfl (by decide) ?_
                refine aw_goto 96 dX12_loser_92 rfl ?_
                simp only [if_neg c0] at kk
                exact kk
      · replace k := k.2 c
        refine aw_goto 109 dX12_loser_38 rfl ?_
        refine aw_iinc (i := 3) (j := 3) (v := x3 + 1) (L2 := [(3, vI (x3 + 1)), (0, vR 12 0), (1, vI x1), (2, vI x2)]) dX12_loser_109 rfl (by decide) rfl rfl rfl ?_
        refine aw_goto 4 dX12_loser_112 rfl ?_
        exact aw_sub [1, 2, 3, 0] rfl k
set_option maxHeartbeats 4000000 in
set_option maxRecDepth 100000 in
theorem vc_X12_adjust_0 {X : WD → State → Prop} {d rb : Nat} {h : Hp} {Qr : Option AV → Hp → Prop} {Qx : String → Hp → Prop} {a1 : Int32} {a2 : Int32}  (k : CL 0 d mX12_noPart [vR 12 0, vI a1] (hp_i h 12 0 0 0) (oI fun r2 h1 => ((¬ r2 = 0) → Qr (some (vI 0)) h1) ∧ ((r2 = 0) → CL 0 d mX12_in [vI a2, vI 0, vI 9999] h1 (oI fun r4 h3 => CL 0 d mX12_throwsIf [vR 12 0, vI (if ¬ r4 = 0 then (0 : Int32) else 1), vI 2] h3 (oI fun r6 h5 => ((r6 = 0) → CL 0 d mX12_keeps [vR 12 0] h5 (oV fun h7 => (vp_in (9 + a1) 301) ∧ AW X (d + 1) rb mX12_adjust 55 [(0, vR 12 0), (1, vI a1), (2, vI a2), (3, vI 0)] [] (hp_i h7 58 0 ((9 + a1).toNatClampNeg) a2) Qr Qx) Qx) ∧ ((¬ r6 = 0) → Qr (some (vI 0)) h5)) Qx) Qx)) Qx) : AW X (d + 1) rb mX12_adjust 0 [(0, vR 12 0), (1, vI a1), (2, vI a2)] [] h Qr Qx := by
  refine aw_aload_n (j := 0) (i := 0) dX12_adjust_0 rfl rfl rfl ?_
  refine aw_iconst (v := 0) dX12_adjust_1 rfl (by decide) ?_
  refine aw_puti (k := 0) dX12_adjust_2 rfl (by decide) rfl rfl cb_12 (by decide) rfl rfl gw_1594 ?_
  refine aw_aload_n (j := 0) (i := 0) dX12_adjust_5 rfl rfl rfl ?_
  refine aw_iload_n (j := 1) (i := 1) dX12_adjust_6 rfl rfl rfl ?_
  refine aw_callV (M' := mX12_noPart) (S := []) (as := [vI a1]) (k := 0) dX12_adjust_7 rfl (by decide) rfl rfl gw_1784 gw_1786 gw_50 mb_X12_noPart rfl (Nat.zero_le _) (Nat.le_of_ble_eq_true rfl) rfl (CL.imp k (fun _ h1 k => ?_) (fun _ _ k => k))
  obtain ⟨r2, rfl, k⟩ := oI_of k
  show AW X (d + 1) rb mX12_adjust 10 _ [vI r2] h1 Qr Qx
  refine aw_if_ne 37 dX12_adjust_10 rfl rfl (fun c => ?_) (fun c => ?_)
  · replace k := k.1 c
    refine aw_iconst (v := 0) dX12_adjust_37 rfl (by decide) ?_
    exact aw_iret dX12_adjust_38 rfl k
  · replace k := k.2 c
    refine aw_aload_n (j := 0) (i := 0) dX12_adjust_13 rfl rfl rfl ?_
    refine aw_iload_n (j := 2) (i := 2) dX12_adjust_14 rfl rfl rfl ?_
    refine aw_iconst (v := 0) dX12_adjust_15 rfl (by decide) ?_
    refine aw_sipush (v := 9999) dX12_adjust_16 rfl (by decide) ?_
    refine aw_callS (M' := mX12_in) (S := [vR 12 0]) (as := [vI a2, vI 0, vI 9999]) (k := 0) dX12_adjust_19 rfl gw_1713 gw_1714 mb_X12_in rfl (Nat.zero_le _) (Nat.le_of_ble_eq_true rfl) rfl (CL.imp k (fun _ h3 k => ?_) (fun _ _ k => k))
    obtain ⟨r4, rfl, k⟩ := oI_of k
    show AW X (d + 1) rb mX12_adjust 22 _ [vI r4, vR 12 0] h3 Qr Qx
    have kk : AW X (d + 1) rb mX12_adjust 30 [(0, vR 12 0), (1, vI a1), (2, vI a2)] [vI (if ¬ r4 = 0 then (0 : Int32) else 1), vR 12 0] h3 Qr Qx := by
      refine aw_iconst (v := 2) dX12_adjust_30 rfl (by decide) ?_
      refine aw_callV (M' := mX12_throwsIf) (S := []) (as := [vI (if ¬ r4 = 0 then (0 : Int32) else 1), vI 2]) (k := 0) dX12_adjust_31 rfl (by decide) rfl rfl gw_1748 gw_1750 gw_48 mb_X12_throwsIf rfl (Nat.zero_le _) (Nat.le_of_ble_eq_true rfl) rfl (CL.imp k (fun _ h5 k => ?_) (fun _ _ k => k))
      obtain ⟨r6, rfl, k⟩ := oI_of k
      show AW X (d + 1) rb mX12_adjust 34 _ [vI r6] h5 Qr Qx
      refine aw_if_eq 39 dX12_adjust_34 rfl rfl (fun c => ?_) (fun c => ?_)
      · replace k := k.1 c
        refine aw_aload_n (j := 0) (i := 0) dX12_adjust_39 rfl rfl rfl ?_
        refine aw_callV (M' := mX12_keeps) (S := []) (as := []) (k := 0) dX12_adjust_40 rfl (by decide) rfl rfl gw_2003 gw_2005 gw_72 mb_X12_keeps rfl (Nat.zero_le _) (Nat.le_of_ble_eq_true rfl) rfl (CL.imp k (fun _ h7 k => ?_) (fun _ _ k => k))
        obtain ⟨rfl, k⟩ := oV_of k
        show AW X (d + 1) rb mX12_adjust 43 _ [] h7 Qr Qx
        refine aw_aload_n (j := 0) (i := 0) dX12_adjust_43 rfl rfl rfl ?_
        refine aw_getf (k := 14) (z := 58) dX12_adjust_44 rfl (by decide) rfl rfl rfl cb_12 (by decide) gw_1608 ?_
        refine aw_bipush (v := 9) dX12_adjust_47 rfl (by decide) ?_
        refine aw_iload_n (j := 1) (i := 1) dX12_adjust_49 rfl rfl rfl ?_
        refine aw_iadd dX12_adjust_50 rfl ?_
        refine aw_iload_n (j := 2) (i := 2) dX12_adjust_51 rfl rfl rfl ?_
        refine aw_iast dX12_adjust_52 rfl (by decide) rfl k.1 ?_
        replace k := k.2
        refine aw_iconst (v := 0) dX12_adjust_53 rfl (by decide) ?_
        refine aw_istore_n (i := 3) (L2 := [(3, vI 0), (0, vR 12 0), (1, vI a1), (2, vI a2)]) dX12_adjust_54 rfl rfl (by decide) rfl ?_
        exact aw_sub [1, 2, 3, 0] rfl k
      · replace k := k.2 c
        refine aw_iconst (v := 0) dX12_adjust_37 rfl (by decide) ?_
        exact aw_iret dX12_adjust_38 rfl k
    refine aw_if_ne 29 dX12_adjust_22 rfl rfl (fun (c0 : ¬ r4 = 0) => ?_) (fun (c0 : r4 = 0) => ?_)
    · refine aw_iconst (v := 0) dX12_adjust_29 rfl (by decide) ?_
      simp only [if_pos c0] at kk
      exact kk
    · refine aw_iconst (v := 1) dX12_adjust_25 rfl (by decide) ?_
      refine aw_goto 30 dX12_adjust_26 rfl ?_
      simp only [if_neg (oa_nn c0)] at kk
      exact kk
set_option maxHeartbeats 4000000 in
set_option maxRecDepth 100000 in
theorem vc_X12_adjust_55 {X : WD → State → Prop} {d rb : Nat} {h : Hp} {Qr : Option AV → Hp → Prop} {Qx : String → Hp → Prop} {x1 : Int32} {x2 : Int32} {x3 : Int32}  (k : (vp_in (21 + x1) 301) ∧ (vp_in (9 + x1) 301) ∧ (((h.1 58 0 ((21 + x1).toNatClampNeg)) ≤ (h.1 58 0 ((9 + x1).toNatClampNeg))) → Qr (some (vI x3)) h) ∧ ((¬ (h.1 58 0 ((21 + x1).toNatClampNeg)) ≤ (h.1 58 0 ((9 + x1).toNatClampNeg))) → CL 0 d mX12_loser [vR 12 0, vI x1] h (oI fun r2 h1 => CL 0 d mX12_of [vR 12 0, vI r2, vI 4] h1 (oI fun r4 h3 => ((¬ r4 = 1) → CL 0 d mX12_holds [vR 12 0, vI r2, vI (-1)] h3 (oV fun h5 => AW X (d + 1) rb mX12_adjust 55 [(0, vR 12 0), (1, vI x1), (2, vI x2), (3, vI (x3 + 1))] [] h5 Qr Qx) Qx) ∧ ((r4 = 1) → CL 0 d mX12_of [vR 12 0, vI r2, vI 6] h3 (oI fun r7 h6 => CL 0 d mX12_holds [vR 12 0, vI r2, vI (-r7)] h6 (oV fun h8 => AW X (d + 1) rb mX12_adjust 55 [(0, vR 12 0), (1, vI x1), (2, vI x2), (3, vI (x3 + r7))] [] h8 Qr Qx) Qx) Qx)) Qx) Qx)) : AW X (d + 1) rb mX12_adjust 55 [(0, vR 12 0), (1, vI x1), (2, vI x2), (3, vI x3)] [] h Qr Qx := by
  refine aw_aload_n (j := 0) (i := 0) dX12_adjust_55 rfl rfl rfl ?_
  refine aw_getf (k := 14) (z := 58) dX12_adjust_56 rfl (by decide) rfl rfl rfl cb_12 (by decide) gw_1608 ?_
  refine aw_bipush (v := 21) dX12_adjust_59 rfl (by decide) ?_
  refine aw_iload_n (j := 1) (i := 1) dX12_adjust_61 rfl rfl rfl ?_
  refine aw_iadd dX12_adjust_62 rfl ?_
  refine aw_iald dX12_adjust_63 rfl (by decide) rfl k.1 ?_
  replace k := k.2
  refine aw_aload_n (j := 0) (i := 0) dX12_adjust_64 rfl rfl rfl ?_
  refine aw_getf (k := 14) (z := 58) dX12_adjust_65 rfl (by decide) rfl rfl rfl cb_12 (by decide) gw_1608 ?_
  refine aw_bipush (v := 9) dX12_adjust_68 rfl (by decide) ?_
  refine aw_iload_n (j := 1) (i := 1) dX12_adjust_70 rfl rfl rfl ?_
  refine aw_iadd dX12_adjust_71 rfl ?_
  refine aw_iald dX12_adjust_72 rfl (by decide) rfl k.1 ?_
  replace k := k.2
  refine aw_icmp_le 125 dX12_adjust_73 rfl rfl (fun c => ?_) (fun c => ?_)
  · replace k := k.1 c
    refine aw_iload_n (j := 3) (i := 3) dX12_adjust_125 rfl rfl rfl ?_
    exact aw_iret dX12_adjust_126 rfl k
  · replace k := k.2 c
    refine aw_aload_n (j := 0) (i := 0) dX12_adjust_76 rfl rfl rfl ?_
    refine aw_iload_n (j := 1) (i := 1) dX12_adjust_77 rfl rfl rfl ?_
    refine aw_callV (M' := mX12_loser) (S := []) (as := [vI x1]) (k := 0) dX12_adjust_78 rfl (by decide) rfl rfl gw_2055 gw_2057 gw_78 mb_X12_loser rfl (Nat.zero_le _) (Nat.le_of_ble_eq_true rfl) rfl (CL.imp k (fun _ h1 k => ?_) (fun _ _ k => k))
    obtain ⟨r2, rfl, k⟩ := oI_of k
    show AW X (d + 1) rb mX12_adjust 81 _ [vI r2] h1 Qr Qx
    refine aw_istore (i := 4) (L2 := [(4, vI r2), (0, vR 12 0), (1, vI x1), (2, vI x2), (3, vI x3)]) dX12_adjust_81 rfl (by decide) rfl ?_
    refine aw_aload_n (j := 1) (i := 0) dX12_adjust_83 rfl rfl rfl ?_
    refine aw_iload (j := 0) (i := 4) dX12_adjust_84 rfl rfl ?_
    refine aw_iconst (v := 4) dX12_adjust_86 rfl (by decide) ?_
    refine aw_callV (M' := mX12_of) (S := []) (as := [vI r2, vI 4]) (k := 0) dX12_adjust_87 rfl (by decide) rfl rfl gw_1871 gw_1873 gw_58 mb_X12_of rfl (Nat.zero_le _) (Nat.le_of_ble_eq_true rfl) rfl (CL.imp k (fun _ h3 k => ?_) (fun _ _ k => k))
    obtain ⟨r4, rfl, k⟩ := oI_of k
    show AW X (d + 1) rb mX12_adjust 90 _ [vI r4] h3 Qr Qx
    refine aw_iconst (v := 1) dX12_adjust_90 rfl (by decide) ?_
    refine aw_icmp_ne 105 dX12_adjust_91 rfl rfl (fun c => ?_) (fun c => ?_)
    · replace k := k.1 c
      refine aw_iconst (v := 1) dX12_adjust_105 rfl (by decide) ?_
      refine aw_istore (i := 5) (L2 := [(5, vI 1), (4, vI r2), (0, vR 12 0), (1, vI x1), (2, vI x2), (3, vI x3)]) dX12_adjust_106 rfl (by decide) rfl ?_
      refine aw_aload_n (j := 2) (i := 0) dX12_adjust_108 rfl rfl rfl ?_
      refine aw_iload (j := 1) (i := 4) dX12_adjust_109 rfl rfl ?_
      refine aw_iload (j := 0) (i := 5) dX12_adjust_111 rfl rfl ?_
      refine aw_ineg dX12_adjust_113 rfl ?_
      refine aw_callV (M' := mX12_holds) (S := []) (as := [vI r2, vI (-1)]) (k := 0) dX12_adjust_114 rfl (by decide) rfl rfl gw_2011 gw_2013 gw_73 mb_X12_holds rfl (Nat.zero_le _) (Nat.le_of_ble_eq_true rfl) rfl (CL.imp k (fun _ h5 k => ?_) (fun _ _ k => k))
      obtain ⟨rfl, k⟩ := oV_of k
      show AW X (d + 1) rb mX12_adjust 117 _ [] h5 Qr Qx
      refine aw_iload_n (j := 5) (i := 3) dX12_adjust_117 rfl rfl rfl ?_
      refine aw_iload (j := 0) (i := 5) dX12_adjust_118 rfl rfl ?_
      refine aw_iadd dX12_adjust_120 rfl ?_
      refine aw_istore_n (i := 3) (L2 := [(3, vI (x3 + 1)), (5, vI 1), (4, vI r2), (0, vR 12 0), (1, vI x1), (2, vI x2)]) dX12_adjust_121 rfl rfl (by decide) rfl ?_
      refine aw_goto 55 dX12_adjust_122 rfl ?_
      exact aw_sub [3, 4, 5, 0] rfl k
    · replace k := k.2 c
      refine aw_aload_n (j := 1) (i := 0) dX12_adjust_94 rfl rfl rfl ?_
      refine aw_iload (j := 0) (i := 4) dX12_adjust_95 rfl rfl ?_
      refine aw_bipush (v := 6) dX12_adjust_97 rfl (by decide) ?_
      refine aw_callV (M' := mX12_of) (S := []) (as := [vI r2, vI 6]) (k := 0) dX12_adjust_99 rfl (by decide) rfl rfl gw_1871 gw_1873 gw_58 mb_X12_of rfl (Nat.zero_le _) (Nat.le_of_ble_eq_true rfl) rfl (CL.imp k (fun _ h6 k => ?_) (fun _ _ k => k))
      obtain ⟨r7, rfl, k⟩ := oI_of k
      show AW X (d + 1) rb mX12_adjust 102 _ [vI r7] h6 Qr Qx
      refine aw_goto 106 dX12_adjust_102 rfl ?_
      refine aw_istore (i := 5) (L2 := [(5, vI r7), (4, vI r2), (0, vR 12 0), (1, vI x1), (2, vI x2), (3, vI x3)]) dX12_adjust_106 rfl (by decide) rfl ?_
      refine aw_aload_n (j := 2) (i := 0) dX12_adjust_108 rfl rfl rfl ?_
      refine aw_iload (j := 1) (i := 4) dX12_adjust_109 rfl rfl ?_
      refine aw_iload (j := 0) (i := 5) dX12_adjust_111 rfl rfl ?_
      refine aw_ineg dX12_adjust_113 rfl ?_
      refine aw_callV (M' := mX12_holds) (S := []) (as := [vI r2, vI (-r7)]) (k := 0) dX12_adjust_114 rfl (by decide) rfl rfl gw_2011 gw_2013 gw_73 mb_X12_holds rfl (Nat.zero_le _) (Nat.le_of_ble_eq_true rfl) rfl (CL.imp k (fun _ h8 k => ?_) (fun _ _ k => k))
      obtain ⟨rfl, k⟩ := oV_of k
      show AW X (d + 1) rb mX12_adjust 117 _ [] h8 Qr Qx
      refine aw_iload_n (j := 5) (i := 3) dX12_adjust_117 rfl rfl rfl ?_
      refine aw_iload (j := 0) (i := 5) dX12_adjust_118 rfl rfl ?_
      refine aw_iadd dX12_adjust_120 rfl ?_
      refine aw_istore_n (i := 3) (L2 := [(3, vI (x3 + r7)), (5, vI r7), (4, vI r2), (0, vR 12 0), (1, vI x1), (2, vI x2)]) dX12_adjust_121 rfl rfl (by decide) rfl ?_
      refine aw_goto 55 dX12_adjust_122 rfl ?_
      exact aw_sub [3, 4, 5, 0] rfl k
set_option maxHeartbeats 4000000 in
set_option maxRecDepth 100000 in
theorem vc_X12_comesNow_0 {X : WD → State → Prop} {d rb : Nat} {h : Hp} {Qr : Option AV → Hp → Prop} {Qx : String → Hp → Prop}   (k : AW X (d + 1) rb mX12_comesNow 6 [(0, vR 12 0), (1, vI 0), (2, vI 0), (3, vI 0)] [] h Qr Qx) : AW X (d + 1) rb mX12_comesNow 0 [(0, vR 12 0)] [] h Qr Qx := by
  refine aw_iconst (v := 0) dX12_comesNow_0 rfl (by decide) ?_
  refine aw_istore_n (i := 1) (L2 := [(1, vI 0), (0, vR 12 0)]) dX12_comesNow_1 rfl rfl (by decide) rfl ?_
  refine aw_iconst (v := 0) dX12_comesNow_2 rfl (by decide) ?_
  refine aw_istore_n (i := 2) (L2 := [(2, vI 0), (1, vI 0), (0, vR 12 0)]) dX12_comesNow_3 rfl rfl (by decide) rfl ?_
  refine aw_iconst (v := 0) dX12_comesNow_4 rfl (by decide) ?_
  refine aw_istore_n (i := 3) (L2 := [(3, vI 0), (2, vI 0), (1, vI 0), (0, vR 12 0)]) dX12_comesNow_5 rfl rfl (by decide) rfl ?_
  exact aw_sub [3, 2, 1, 0] rfl k
set_option maxHeartbeats 4000000 in
set_option maxRecDepth 100000 in
theorem vc_X12_comesNow_6 {X : WD → State → Prop} {d rb : Nat} {h : Hp} {Qr : Option AV → Hp → Prop} {Qx : String → Hp → Prop} {x1 : Int32} {x2 : Int32} {x3 : Int32}  (k : (((h.1 58 0 2) ≤ x3) → Qr (some (vI x1)) (hp_i h 58 0 2 x2)) ∧ ((¬ (h.1 58 0 2) ≤ x3) → (vp_in ((33 + (3 * x3)) + 2) 301) ∧ ((¬ (h.1 58 0 (((33 + (3 * x3)) + 2).toNatClampNeg)) = (h.1 58 0 0)) → AW X (d + 1) rb mX12_comesNow 78 [(0, vR 12 0), (1, vI x1), (2, vI x2), (3, vI x3), (4, vI (33 + (3 * x3))), (5, vI 0)] [] h Qr Qx) ∧ (((h.1 58 0 (((33 + (3 * x3)) + 2).toNatClampNeg)) = (h.1 58 0 0)) → (vp_in (33 + (3 * x3)) 301) ∧ (vp_in (9 + (h.1 58 0 ((33 + (3 * x3)).toNatClampNeg))) 301) ∧ (vp_in ((33 + (3 * x3)) + 1) 301) ∧ (vp_in (9 + (h.1 58 0 ((33 + (3 * x3)).toNatClampNeg))) 301) ∧ AW X (d + 1) rb mX12_comesNow 6 [(0, vR 12 0), (1, vI (x1 + 1)), (2, vI x2), (3, vI (x3 + 1))] [] (hp_i h 58 0 ((9 + (h.1 58 0 ((33 + (3 * x3)).toNatClampNeg))).toNatClampNeg) ((h.1 58 0 ((9 + (h.1 58 0 ((33 + (3 * x3)).toNatClampNeg))).toNatClampNeg)) + (h.1 58 0 (((33 + (3 * x3)) + 1).toNatClampNeg)))) Qr Qx))) : AW X (d + 1) rb mX12_comesNow 6 [(0, vR 12 0), (1, vI x1), (2, vI x2), (3, vI x3)] [] h Qr Qx := by
  refine aw_iload_n (j := 3) (i := 3) dX12_comesNow_6 rfl rfl rfl ?_
  refine aw_aload_n (j := 0) (i := 0) dX12_comesNow_7 rfl rfl rfl ?_
  refine aw_getf (k := 14) (z := 58) dX12_comesNow_8 rfl (by decide) rfl rfl rfl cb_12 (by decide) gw_1608 ?_
  refine aw_iconst (v := 2) dX12_comesNow_11 rfl (by decide) ?_
  refine aw_iald dX12_comesNow_12 rfl (by decide) rfl (by unfold vp_in; decide) ?_
  refine aw_icmp_ge 123 dX12_comesNow_13 rfl rfl (fun c => ?_) (fun c => ?_)
  · replace k := k.1 c
    refine aw_aload_n (j := 0) (i := 0) dX12_comesNow_123 rfl rfl rfl ?_
    refine aw_getf (k := 14) (z := 58) dX12_comesNow_124 rfl (by decide) rfl rfl rfl cb_12 (by decide) gw_1608 ?_
    refine aw_iconst (v := 2) dX12_comesNow_127 rfl (by decide) ?_
    refine aw_iload_n (j := 2) (i := 2) dX12_comesNow_128 rfl rfl rfl ?_
    refine aw_iast dX12_comesNow_129 rfl (by decide) rfl (by unfold vp_in; decide) ?_
    refine aw_iload_n (j := 1) (i := 1) dX12_comesNow_130 rfl rfl rfl ?_
    exact aw_iret dX12_comesNow_131 rfl k
  · replace k := k.2 c
    refine aw_bipush (v := 33) dX12_comesNow_16 rfl (by decide) ?_
    refine aw_iconst (v := 3) dX12_comesNow_18 rfl (by decide) ?_
    refine aw_iload_n (j := 3) (i := 3) dX12_comesNow_19 rfl rfl rfl ?_
    refine aw_imul dX12_comesNow_20 rfl ?_
    refine aw_iadd dX12_comesNow_21 rfl ?_
    refine aw_istore (i := 4) (L2 := [(4, vI (33 + (3 * x3))), (0, vR 12 0), (1, vI x1), (2, vI x2), (3, vI x3)]) dX12_comesNow_22 rfl (by decide) rfl ?_
    refine aw_aload_n (j := 1) (i := 0) dX12_comesNow_24 rfl rfl rfl ?_
    refine aw_getf (k := 14) (z := 58) dX12_comesNow_25 rfl (by decide) rfl rfl rfl cb_12 (by decide) gw_1608 ?_
    refine aw_iload (j := 0) (i := 4) dX12_comesNow_28 rfl rfl ?_
    refine aw_iconst (v := 2) dX12_comesNow_30 rfl (by decide) ?_
    refine aw_iadd dX12_comesNow_31 rfl ?_
    refine aw_iald dX12_comesNow_32 rfl (by decide) rfl k.1 ?_
    replace k := k.2
    refine aw_aload_n (j := 1) (i := 0) dX12_comesNow_33 rfl rfl rfl ?_
    refine aw_getf (k := 14) (z := 58) dX12_comesNow_34 rfl (by decide) rfl rfl rfl cb_12 (by decide) gw_1608 ?_
    refine aw_iconst (v := 0) dX12_comesNow_37 rfl (by decide) ?_
    refine aw_iald dX12_comesNow_38 rfl (by decide) rfl (by unfold vp_in; decide) ?_
    refine aw_icmp_ne 75 dX12_comesNow_39 rfl rfl (fun c => ?_) (fun c => ?_)
    · replace k := k.1 c
      refine aw_iconst (v := 0) dX12_comesNow_75 rfl (by decide) ?_
      refine aw_istore (i := 5) (L2 := [(5, vI 0), (4, vI (33 + (3 * x3))), (0, vR 12 0), (1, vI x1), (2, vI x2), (3, vI x3)]) dX12_comesNow_76 rfl (by decide) rfl ?_
      exact aw_sub [2, 3, 4, 5, 1, 0] rfl k
    · replace k := k.2 c
      refine aw_aload_n (j := 1) (i := 0) dX12_comesNow_42 rfl rfl rfl ?_
      refine aw_getf (k := 14) (z := 58) dX12_comesNow_43 rfl (by decide) rfl rfl rfl cb_12 (by decide) gw_1608 ?_
      refine aw_bipush (v := 9) dX12_comesNow_46 rfl (by decide) ?_
      refine aw_aload_n (j := 1) (i := 0) dX12_comesNow_48 rfl rfl rfl ?_
      refine aw_getf (k := 14) (z := 58) dX12_comesNow_49 rfl (by decide) rfl rfl rfl cb_12 (by decide) gw_1608 ?_
      refine aw_iload (j := 0) (i := 4) dX12_comesNow_52 rfl rfl ?_
      refine aw_iald dX12_comesNow_54 rfl (by decide) rfl k.1 ?_
      replace k := k.2
      refine aw_iadd dX12_comesNow_55 rfl ?_
      refine aw_dup2 dX12_comesNow_56 rfl rfl rfl ?_
      refine aw_iald dX12_comesNow_57 rfl (by decide) rfl k.1 ?_
      replace k := k.2
      refine aw_aload_n (j := 1) (i := 0) dX12_comesNow_58 rfl rfl rfl ?_
      refine aw_getf (k := 14) (z := 58) dX12_comesNow_59 rfl (by decide) rfl rfl rfl cb_12 (by decide) gw_1608 ?_
      refine aw_iload (j := 0) (i := 4) dX12_comesNow_62 rfl rfl ?_
      refine aw_iconst (v := 1) dX12_comesNow_64 rfl (by decide) ?_
      refine aw_iadd dX12_comesNow_65 rfl ?_
      refine aw_iald dX12_comesNow_66 rfl (by decide) rfl k.1 ?_
      replace k := k.2
      refine aw_iadd dX12_comesNow_67 rfl ?_
      refine aw_iast dX12_comesNow_68 rfl (by decide) rfl k.1 ?_
      replace k := k.2
      refine aw_iinc (i := 1) (j := 2) (v := x1 + 1) (L2 := [(1, vI (x1 + 1)), (4, vI (33 + (3 * x3))), (0, vR 12 0), (2, vI x2), (3, vI x3)]) dX12_comesNow_69 rfl (by decide) rfl rfl rfl ?_
      refine aw_goto 117 dX12_comesNow_72 rfl ?_
      refine aw_iinc (i := 3) (j := 4) (v := x3 + 1) (L2 := [(3, vI (x3 + 1)), (1, vI (x1 + 1)), (4, vI (33 + (3 * x3))), (0, vR 12 0), (2, vI x2)]) dX12_comesNow_117 rfl (by decide) rfl rfl rfl ?_
      refine aw_goto 6 dX12_comesNow_120 rfl ?_
      exact aw_sub [3, 1, 4, 0] rfl k
set_option maxHeartbeats 4000000 in
set_option maxRecDepth 100000 in
theorem vc_X12_comesNow_78 {X : WD → State → Prop} {d rb : Nat} {h : Hp} {Qr : Option AV → Hp → Prop} {Qx : String → Hp → Prop} {x1 : Int32} {x2 : Int32} {x3 : Int32} {x4 : Int32} {x5 : Int32}  (k : ((3 ≤ x5) → AW X (d + 1) rb mX12_comesNow 114 [(0, vR 12 0), (1, vI x1), (2, vI x2), (3, vI x3), (4, vI x4), (5, vI x5)] [] h Qr Qx) ∧ ((¬ 3 ≤ x5) → (vp_in (x4 + x5) 301) ∧ (vp_in ((33 + (3 * x2)) + x5) 301) ∧ AW X (d + 1) rb mX12_comesNow 78 [(0, vR 12 0), (1, vI x1), (2, vI x2), (3, vI x3), (4, vI x4), (5, vI (x5 + 1))] [] (hp_i h 58 0 (((33 + (3 * x2)) + x5).toNatClampNeg) (h.1 58 0 ((x4 + x5).toNatClampNeg))) Qr Qx)) : AW X (d + 1) rb mX12_comesNow 78 [(0, vR 12 0), (1, vI x1), (2, vI x2), (3, vI x3), (4, vI x4), (5, vI x5)] [] h Qr Qx := by
  refine aw_iload (j := 5) (i := 5) dX12_comesNow_78 rfl rfl ?_
  refine aw_iconst (v := 3) dX12_comesNow_80 rfl (by decide) ?_
  refine aw_icmp_ge 114 dX12_comesNow_81 rfl rfl (fun c => ?_) (fun c => ?_)
  · replace k := k.1 c
    exact aw_sub [0, 1, 2, 3, 4, 5] rfl k
  · replace k := k.2 c
    refine aw_aload_n (j := 0) (i := 0) dX12_comesNow_84 rfl rfl rfl ?_
    refine aw_getf (k := 14) (z := 58) dX12_comesNow_85 rfl (by decide) rfl rfl rfl cb_12 (by decide) gw_1608 ?_
    refine aw_bipush (v := 33) dX12_comesNow_88 rfl (by decide) ?_
    refine aw_iconst (v := 3) dX12_comesNow_90 rfl (by decide) ?_
    refine aw_iload_n (j := 2) (i := 2) dX12_comesNow_91 rfl rfl rfl ?_
    refine aw_imul dX12_comesNow_92 rfl ?_
    refine aw_iadd dX12_comesNow_93 rfl ?_
    refine aw_iload (j := 5) (i := 5) dX12_comesNow_94 rfl rfl ?_
    refine aw_iadd dX12_comesNow_96 rfl ?_
    refine aw_aload_n (j := 0) (i := 0) dX12_comesNow_97 rfl rfl rfl ?_
    refine aw_getf (k := 14) (z := 58) dX12_comesNow_98 rfl (by decide) rfl rfl rfl cb_12 (by decide) gw_1608 ?_
    refine aw_iload (j := 4) (i := 4) dX12_comesNow_101 rfl rfl ?_
    refine aw_iload (j := 5) (i := 5) dX12_comesNow_103 rfl rfl ?_
    refine aw_iadd dX12_comesNow_105 rfl ?_
    refine aw_iald dX12_comesNow_106 rfl (by decide) rfl k.1 ?_
    replace k := k.2
    refine aw_iast dX12_comesNow_107 rfl (by decide) rfl k.1 ?_
    replace k := k.2
    refine aw_iinc (i := 5) (j := 5) (v := x5 + 1) (L2 := [(5, vI (x5 + 1)), (0, vR 12 0), (1, vI x1), (2, vI x2), (3, vI x3), (4, vI x4)]) dX12_comesNow_108 rfl (by decide) rfl rfl rfl ?_
    refine aw_goto 78 dX12_comesNow_111 rfl ?_
    exact aw_sub [1, 2, 3, 4, 5, 0] rfl k
set_option maxHeartbeats 4000000 in
set_option maxRecDepth 100000 in
theorem vc_X12_comesNow_114 {X : WD → State → Prop} {d rb : Nat} {h : Hp} {Qr : Option AV → Hp → Prop} {Qx : String → Hp → Prop} {x1 : Int32} {x2 : Int32} {x3 : Int32} {x4 : Int32} {x5 : Int32}  (k : AW X (d + 1) rb mX12_comesNow 6 [(0, vR 12 0), (1, vI x1), (2, vI (x2 + 1)), (3, vI (x3 + 1))] [] h Qr Qx) : AW X (d + 1) rb mX12_comesNow 114 [(0, vR 12 0), (1, vI x1), (2, vI x2), (3, vI x3), (4, vI x4), (5, vI x5)] [] h Qr Qx := by
  refine aw_iinc (i := 2) (j := 2) (v := x2 + 1) (L2 := [(2, vI (x2 + 1)), (0, vR 12 0), (1, vI x1), (3, vI x3), (4, vI x4), (5, vI x5)]) dX12_comesNow_114 rfl (by decide) rfl rfl rfl ?_
  refine aw_iinc (i := 3) (j := 3) (v := x3 + 1) (L2 := [(3, vI (x3 + 1)), (2, vI (x2 + 1)), (0, vR 12 0), (1, vI x1), (4, vI x4), (5, vI x5)]) dX12_comesNow_117 rfl (by decide) rfl rfl rfl ?_
  refine aw_goto 6 dX12_comesNow_120 rfl ?_
  exact aw_sub [2, 3, 1, 0] rfl k
set_option maxHeartbeats 4000000 in
set_option maxRecDepth 100000 in
theorem vc_X12_advance_0 {X : WD → State → Prop} {d rb : Nat} {h : Hp} {Qr : Option AV → Hp → Prop} {Qx : String → Hp → Prop} {a1 : Int32}  (k : CL 0 d mX12_in [vI a1, vI 1, vI 100] (hp_i h 12 0 0 0) (oI fun r2 h1 => CL 0 d mX12_throwsIf [vR 12 0, vI (if ¬ r2 = 0 then (0 : Int32) else 1), vI 1] h1 (oI fun r4 h3 => ((r4 = 0) → CL 0 d mX12_keeps [vR 12 0] h3 (oV fun h5 => AW X (d + 1) rb mX12_advance 38 [(0, vR 12 0), (1, vI a1), (2, vI 0), (3, vI 0)] [] h5 Qr Qx) Qx) ∧ ((¬ r4 = 0) → Qr (some (vI 0)) h3)) Qx) Qx) : AW X (d + 1) rb mX12_advance 0 [(0, vR 12 0), (1, vI a1)] [] h Qr Qx := by
  refine aw_aload_n (j := 0) (i := 0) dX12_advance_0 rfl rfl rfl ?_
  refine aw_iconst (v := 0) dX12_advance_1 rfl (by decide) ?_
  refine aw_puti (k := 0) dX12_advance_2 rfl (by decide) rfl rfl cb_12 (by decide) rfl rfl gw_1594 ?_
  refine aw_aload_n (j := 0) (i := 0) dX12_advance_5 rfl rfl rfl ?_
  refine aw_iload_n (j := 1) (i := 1) dX12_advance_6 rfl rfl rfl ?_
  refine aw_iconst (v := 1) dX12_advance_7 rfl (by decide) ?_
  refine aw_bipush (v := 100) dX12_advance_8 rfl (by decide) ?_
  refine aw_callS (M' := mX12_in) (S := [vR 12 0]) (as := [vI a1, vI 1, vI 100]) (k := 0) dX12_advance_10 rfl gw_1713 gw_1714 mb_X12_in rfl (Nat.zero_le _) (Nat.le_of_ble_eq_true rfl) rfl (CL.imp k (fun _ h1 k => ?_) (fun _ _ k => k))
  obtain ⟨r2, rfl, k⟩ := oI_of k
  show AW X (d + 1) rb mX12_advance 13 _ [vI r2, vR 12 0] h1 Qr Qx
  have kk : AW X (d + 1) rb mX12_advance 21 [(0, vR 12 0), (1, vI a1)] [vI (if ¬ r2 = 0 then (0 : Int32) else 1), vR 12 0] h1 Qr Qx := by
    refine aw_iconst (v := 1) dX12_advance_21 rfl (by decide) ?_
    refine aw_callV (M' := mX12_throwsIf) (S := []) (as := [vI (if ¬ r2 = 0 then (0 : Int32) else 1), vI 1]) (k := 0) dX12_advance_22 rfl (by decide) rfl rfl gw_1748 gw_1750 gw_48 mb_X12_throwsIf rfl (Nat.zero_le _) (Nat.le_of_ble_eq_true rfl) rfl (CL.imp k (fun _ h3 k => ?_) (fun _ _ k => k))
    obtain ⟨r4, rfl, k⟩ := oI_of k
    show AW X (d + 1) rb mX12_advance 25 _ [vI r4] h3 Qr Qx
    refine aw_if_eq 30 dX12_advance_25 rfl rfl (fun c => ?_) (fun c => ?_)
    · replace k := k.1 c
      refine aw_aload_n (j := 0) (i := 0) dX12_advance_30 rfl rfl rfl ?_
      refine aw_callV (M' := mX12_keeps) (S := []) (as := []) (k := 0) dX12_advance_31 rfl (by decide) rfl rfl gw_2003 gw_2005 gw_72 mb_X12_keeps rfl (Nat.zero_le _) (Nat.le_of_ble_eq_true rfl) rfl (CL.imp k (fun _ h5 k => ?_) (fun _ _ k => k))
      obtain ⟨rfl, k⟩ := oV_of k
      show AW X (d + 1) rb mX12_advance 34 _ [] h5 Qr Qx
      refine aw_iconst (v := 0) dX12_advance_34 rfl (by decide) ?_
      refine aw_istore_n (i := 2) (L2 := [(2, vI 0), (0, vR 12 0), (1, vI a1)]) dX12_advance_35 rfl rfl (by decide) rfl ?_
      refine aw_iconst (v := 0) dX12_advance_36 rfl (by decide) ?_
      refine aw_istore_n (i := 3) (L2 := [(3, vI 0), (2, vI 0), (0, vR 12 0), (1, vI a1)]) dX12_advance_37 rfl rfl (by decide) rfl ?_
      exact aw_sub [2, 3, 1, 0] rfl k
    · replace k := k.2 c
      refine aw_iconst (v := 0) dX12_advance_28 rfl (by decide) ?_
      exact aw_iret dX12_advance_29 rfl k
  refine aw_if_ne 20 dX12_advance_13 rfl rfl (fun (c0 : ¬ r2 = 0) => ?_) (fun (c0 : r2 = 0) => ?_)
  · refine aw_iconst (v := 0) dX12_advance_20 rfl (by decide) ?_
    simp only [if_pos c0] at kk
    exact kk
  · refine aw_iconst (v := 1) dX12_advance_16 rfl (by decide) ?_
    refine aw_goto 21 dX12_advance_17 rfl ?_
    simp only [if_neg (oa_nn c0)] at kk
    exact kk
set_option maxHeartbeats 4000000 in
set_option maxRecDepth 100000 in
theorem vc_X12_advance_38 {X : WD → State → Prop} {d rb : Nat} {h : Hp} {Qr : Option AV → Hp → Prop} {Qx : String → Hp → Prop} {x1 : Int32} {x2 : Int32} {x3 : Int32}  (k : ((x1 ≤ x3) → Qr (some (vI x2)) h) ∧ ((¬ x1 ≤ x3) → CL 0 d mX12_comesNow [vR 12 0] (hp_i h 58 0 0 ((h.1 58 0 0) + 1)) (oI fun r2 h1 => AW X (d + 1) rb mX12_advance 38 [(0, vR 12 0), (1, vI x1), (2, vI (x2 + r2)), (3, vI (x3 + 1))] [] h1 Qr Qx) Qx)) : AW X (d + 1) rb mX12_advance 38 [(0, vR 12 0), (1, vI x1), (2, vI x2), (3, vI x3)] [] h Qr Qx := by
  refine aw_iload_n (j := 3) (i := 3) dX12_advance_38 rfl rfl rfl ?_
  refine aw_iload_n (j := 1) (i := 1) dX12_advance_39 rfl rfl rfl ?_
  refine aw_icmp_ge 66 dX12_advance_40 rfl rfl (fun c => ?_) (fun c => ?_)
  · replace k := k.1 c
    refine aw_iload_n (j := 2) (i := 2) dX12_advance_66 rfl rfl rfl ?_
    exact aw_iret dX12_advance_67 rfl k
  · replace k := k.2 c
    refine aw_aload_n (j := 0) (i := 0) dX12_advance_43 rfl rfl rfl ?_
    refine aw_getf (k := 14) (z := 58) dX12_advance_44 rfl (by decide) rfl rfl rfl cb_12 (by decide) gw_1608 ?_
    refine aw_iconst (v := 0) dX12_advance_47 rfl (by decide) ?_
    refine aw_dup2 dX12_advance_48 rfl rfl rfl ?_
    refine aw_iald dX12_advance_49 rfl (by decide) rfl (by unfold vp_in; decide) ?_
    refine aw_iconst (v := 1) dX12_advance_50 rfl (by decide) ?_
    refine aw_iadd dX12_advance_51 rfl ?_
    refine aw_iast dX12_advance_52 rfl (by decide) rfl (by unfold vp_in; decide) ?_
    refine aw_iload_n (j := 2) (i := 2) dX12_advance_53 rfl rfl rfl ?_
    refine aw_aload_n (j := 0) (i := 0) dX12_advance_54 rfl rfl rfl ?_
    refine aw_callV (M' := mX12_comesNow) (S := [vI x2]) (as := []) (k := 0) dX12_advance_55 rfl (by decide) rfl rfl gw_2063 gw_2065 gw_79 mb_X12_comesNow rfl (Nat.zero_le _) (Nat.le_of_ble_eq_true rfl) rfl (CL.imp k (fun _ h1 k => ?_) (fun _ _ k => k))
    obtain ⟨r2, rfl, k⟩ := oI_of k
    show AW X (d + 1) rb mX12_advance 58 _ [vI r2, vI x2] h1 Qr Qx
    refine aw_iadd dX12_advance_58 rfl ?_
    refine aw_istore_n (i := 2) (L2 := [(2, vI (x2 + r2)), (0, vR 12 0), (1, vI x1), (3, vI x3)]) dX12_advance_59 rfl rfl (by decide) rfl ?_
    refine aw_iinc (i := 3) (j := 3) (v := x3 + 1) (L2 := [(3, vI (x3 + 1)), (2, vI (x2 + r2)), (0, vR 12 0), (1, vI x1)]) dX12_advance_60 rfl (by decide) rfl rfl rfl ?_
    refine aw_goto 38 dX12_advance_63 rfl ?_
    exact aw_sub [2, 3, 1, 0] rfl k
set_option maxHeartbeats 4000000 in
set_option maxRecDepth 100000 in
theorem vc_X12_total_0 {X : WD → State → Prop} {d rb : Nat} {h : Hp} {Qr : Option AV → Hp → Prop} {Qx : String → Hp → Prop} {a1 : Int32}  (k : CL 0 d mX12_in [vI a1, vI 0, vI 4] (hp_i h 12 0 0 0) (oI fun r2 h1 => ((r2 = 0) → Qr (some (vI (-1))) h1) ∧ ((¬ r2 = 0) → (vp_in (4 + a1) 301) ∧ Qr (some (vI (h1.1 58 0 ((4 + a1).toNatClampNeg)))) h1)) Qx) : AW X (d + 1) rb mX12_total 0 [(0, vR 12 0), (1, vI a1)] [] h Qr Qx := by
  refine aw_aload_n (j := 0) (i := 0) dX12_total_0 rfl rfl rfl ?_
  refine aw_iconst (v := 0) dX12_total_1 rfl (by decide) ?_
  refine aw_puti (k := 0) dX12_total_2 rfl (by decide) rfl rfl cb_12 (by decide) rfl rfl gw_1594 ?_
  refine aw_iload_n (j := 1) (i := 1) dX12_total_5 rfl rfl rfl ?_
  refine aw_iconst (v := 0) dX12_total_6 rfl (by decide) ?_
  refine aw_iconst (v := 4) dX12_total_7 rfl (by decide) ?_
  refine aw_callS (M' := mX12_in) (S := []) (as := [vI a1, vI 0, vI 4]) (k := 0) dX12_total_8 rfl gw_1713 gw_1714 mb_X12_in rfl (Nat.zero_le _) (Nat.le_of_ble_eq_true rfl) rfl (CL.imp k (fun _ h1 k => ?_) (fun _ _ k => k))
  obtain ⟨r2, rfl, k⟩ := oI_of k
  show AW X (d + 1) rb mX12_total 11 _ [vI r2] h1 Qr Qx
  refine aw_if_eq 25 dX12_total_11 rfl rfl (fun c => ?_) (fun c => ?_)
  · replace k := k.1 c
    refine aw_iconst (v := (-1)) dX12_total_25 rfl (by decide) ?_
    exact aw_iret dX12_total_26 rfl k
  · replace k := k.2 c
    refine aw_aload_n (j := 0) (i := 0) dX12_total_14 rfl rfl rfl ?_
    refine aw_getf (k := 14) (z := 58) dX12_total_15 rfl (by decide) rfl rfl rfl cb_12 (by decide) gw_1608 ?_
    refine aw_iconst (v := 4) dX12_total_18 rfl (by decide) ?_
    refine aw_iload_n (j := 1) (i := 1) dX12_total_19 rfl rfl rfl ?_
    refine aw_iadd dX12_total_20 rfl ?_
    refine aw_iald dX12_total_21 rfl (by decide) rfl k.1 ?_
    replace k := k.2
    refine aw_goto 26 dX12_total_22 rfl ?_
    exact aw_iret dX12_total_26 rfl k
set_option maxHeartbeats 4000000 in
set_option maxRecDepth 100000 in
theorem vc_X12_shipment_0 {X : WD → State → Prop} {d rb : Nat} {h : Hp} {Qr : Option AV → Hp → Prop} {Qx : String → Hp → Prop} {a1 : Int32} {a2 : Int32}  (k : CL 0 d mX12_in [vI a2, vI 0, vI 2] (hp_i h 12 0 0 0) (oI fun r2 h1 => ((r2 = 0) → Qr (some (vI (-1))) h1) ∧ ((¬ r2 = 0) → CL 0 d mX12_in [vI a1, vI 0, vI ((h1.1 58 0 3) - 1)] h1 (oI fun r4 h3 => ((r4 = 0) → Qr (some (vI (-1))) h3) ∧ ((¬ r4 = 0) → (vp_in ((253 + (3 * (((h3.1 58 0 3) - 1) - a1))) + a2) 301) ∧ Qr (some (vI (h3.1 58 0 (((253 + (3 * (((h3.1 58 0 3) - 1) - a1))) + a2).toNatClampNeg)))) h3)) Qx)) Qx) : AW X (d + 1) rb mX12_shipment 0 [(0, vR 12 0), (1, vI a1), (2, vI a2)] [] h Qr Qx := by
  refine aw_aload_n (j := 0) (i := 0) dX12_shipment_0 rfl rfl rfl ?_
  refine aw_iconst (v := 0) dX12_shipment_1 rfl (by decide) ?_
  refine aw_puti (k := 0) dX12_shipment_2 rfl (by decide) rfl rfl cb_12 (by decide) rfl rfl gw_1594 ?_
  refine aw_iload_n (j := 2) (i := 2) dX12_shipment_5 rfl rfl rfl ?_
  refine aw_iconst (v := 0) dX12_shipment_6 rfl (by decide) ?_
  refine aw_iconst (v := 2) dX12_shipment_7 rfl (by decide) ?_
  refine aw_callS (M' := mX12_in) (S := []) (as := [vI a2, vI 0, vI 2]) (k := 0) dX12_shipment_8 rfl gw_1713 gw_1714 mb_X12_in rfl (Nat.zero_le _) (Nat.le_of_ble_eq_true rfl) rfl (CL.imp k (fun _ h1 k => ?_) (fun _ _ k => k))
  obtain ⟨r2, rfl, k⟩ := oI_of k
  show AW X (d + 1) rb mX12_shipment 11 _ [vI r2] h1 Qr Qx
  refine aw_if_eq 56 dX12_shipment_11 rfl rfl (fun c => ?_) (fun c => ?_)
  · replace k := k.1 c
    refine aw_iconst (v := (-1)) dX12_shipment_56 rfl (by decide) ?_
    exact aw_iret dX12_shipment_57 rfl k
  · replace k := k.2 c
    refine aw_iload_n (j := 1) (i := 1) dX12_shipment_14 rfl rfl rfl ?_
    refine aw_iconst (v := 0) dX12_shipment_15 rfl (by decide) ?_
    refine aw_aload_n (j := 0) (i := 0) dX12_shipment_16 rfl rfl rfl ?_
    refine aw_getf (k := 14) (z := 58) dX12_shipment_17 rfl (by decide) rfl rfl rfl cb_12 (by decide) gw_1608 ?_
    refine aw_iconst (v := 3) dX12_shipment_20 rfl (by decide) ?_
    refine aw_iald dX12_shipment_21 rfl (by decide) rfl (by unfold vp_in; decide) ?_
    refine aw_iconst (v := 1) dX12_shipment_22 rfl (by decide) ?_
    refine aw_isub dX12_shipment_23 rfl ?_
    refine aw_callS (M' := mX12_in) (S := []) (as := [vI a1, vI 0, vI ((h1.1 58 0 3) - 1)]) (k := 0) dX12_shipment_24 rfl gw_1713 gw_1714 mb_X12_in rfl (Nat.zero_le _) (Nat.le_of_ble_eq_true rfl) rfl (CL.imp k (fun _ h3 k => ?_) (fun _ _ k => k))
    obtain ⟨r4, rfl, k⟩ := oI_of k
    show AW X (d + 1) rb mX12_shipment 27 _ [vI r4] h3 Qr Qx
    refine aw_if_eq 56 dX12_shipment_27 rfl rfl (fun c => ?_) (fun c => ?_)
    · replace k := k.1 c
      refine aw_iconst (v := (-1)) dX12_shipment_56 rfl (by decide) ?_
      exact aw_iret dX12_shipment_57 rfl k
    · replace k := k.2 c
      refine aw_aload_n (j := 0) (i := 0) dX12_shipment_30 rfl rfl rfl ?_
      refine aw_getf (k := 14) (z := 58) dX12_shipment_31 rfl (by decide) rfl rfl rfl cb_12 (by decide) gw_1608 ?_
      refine aw_sipush (v := 253) dX12_shipment_34 rfl (by decide) ?_
      refine aw_iconst (v := 3) dX12_shipment_37 rfl (by decide) ?_
      refine aw_aload_n (j := 0) (i := 0) dX12_shipment_38 rfl rfl rfl ?_
      refine aw_getf (k := 14) (z := 58) dX12_shipment_39 rfl (by decide) rfl rfl rfl cb_12 (by decide) gw_1608 ?_
      refine aw_iconst (v := 3) dX12_shipment_42 rfl (by decide) ?_
      refine aw_iald dX12_shipment_43 rfl (by decide) rfl (by unfold vp_in; decide) ?_
      refine aw_iconst (v := 1) dX12_shipment_44 rfl (by decide) ?_
      refine aw_isub dX12_shipment_45 rfl ?_
      refine aw_iload_n (j := 1) (i := 1) dX12_shipment_46 rfl rfl rfl ?_
      refine aw_isub dX12_shipment_47 rfl ?_
      refine aw_imul dX12_shipment_48 rfl ?_
      refine aw_iadd dX12_shipment_49 rfl ?_
      refine aw_iload_n (j := 2) (i := 2) dX12_shipment_50 rfl rfl rfl ?_
      refine aw_iadd dX12_shipment_51 rfl ?_
      refine aw_iald dX12_shipment_52 rfl (by decide) rfl k.1 ?_
      replace k := k.2
      refine aw_goto 57 dX12_shipment_53 rfl ?_
      exact aw_iret dX12_shipment_57 rfl k
set_option maxHeartbeats 4000000 in
set_option maxRecDepth 100000 in
theorem vc_X12_says_0 {X : WD → State → Prop} {d rb : Nat} {h : Hp} {Qr : Option AV → Hp → Prop} {Qx : String → Hp → Prop} {a1 : Int32}  (k : (vp_in (h.1 12 0 24) 320) ∧ Qr none (hp_i (hp_i h 65 0 ((h.1 12 0 24).toNatClampNeg) (vp_nar .byte a1.toInt8.toInt32)) 12 0 24 ((h.1 12 0 24) + 1))) : AW X (d + 1) rb mX12_says 0 [(0, vR 12 0), (1, vI a1)] [] h Qr Qx := by
  refine aw_aload_n (j := 0) (i := 0) dX12_says_0 rfl rfl rfl ?_
  refine aw_getf (k := 23) (z := 65) dX12_says_1 rfl (by decide) rfl rfl rfl cb_12 (by decide) gw_1617 ?_
  refine aw_aload_n (j := 0) (i := 0) dX12_says_4 rfl rfl rfl ?_
  refine aw_geti (k := 24) dX12_says_5 rfl (by decide) rfl rfl cb_12 (by decide) gw_1618 ?_
  refine aw_iload_n (j := 1) (i := 1) dX12_says_8 rfl rfl rfl ?_
  refine aw_i2b dX12_says_9 rfl ?_
  refine aw_bast dX12_says_10 rfl (by decide) rfl k.1 ?_
  replace k := k.2
  refine aw_aload_n (j := 0) (i := 0) dX12_says_11 rfl rfl rfl ?_
  refine aw_dup dX12_says_12 rfl rfl ?_
  refine aw_geti (k := 24) dX12_says_13 rfl (by decide) rfl rfl cb_12 (by decide) gw_1618 ?_
  refine aw_iconst (v := 1) dX12_says_16 rfl (by decide) ?_
  refine aw_iadd dX12_says_17 rfl ?_
  refine aw_puti (k := 24) dX12_says_18 rfl (by decide) rfl rfl cb_12 (by decide) rfl rfl gw_1618 ?_
  exact aw_vret dX12_says_21 rfl k
set_option maxHeartbeats 4000000 in
set_option maxRecDepth 100000 in
theorem vc_X12_saysNumber_0 {X : WD → State → Prop} {d rb : Nat} {h : Hp} {Qr : Option AV → Hp → Prop} {Qx : String → Hp → Prop} {a1 : Int32}  (k : ((a1 ≤ 9) → CL 0 d mX12_says [vR 12 0, vI (48 + (a1 - a1 / 10 * 10))] h (oV fun h1 => Qr none h1) Qx) ∧ ((¬ a1 ≤ 9) → CL 0 d mX12_saysNumber [vR 12 0, vI (a1 / 10)] h (oV fun h2 => CL 0 d mX12_says [vR 12 0, vI (48 + (a1 - a1 / 10 * 10))] h2 (oV fun h3 => Qr none h3) Qx) Qx)) : AW X (d + 1) rb mX12_saysNumber 0 [(0, vR 12 0), (1, vI a1)] [] h Qr Qx := by
  refine aw_iload_n (j := 1) (i := 1) dX12_saysNumber_0 rfl rfl rfl ?_
  refine aw_bipush (v := 9) dX12_saysNumber_1 rfl (by decide) ?_
  refine aw_icmp_le 14 dX12_saysNumber_3 rfl rfl (fun c => ?_) (fun c => ?_)
  · replace k := k.1 c
    refine aw_aload_n (j := 0) (i := 0) dX12_saysNumber_14 rfl rfl rfl ?_
    refine aw_bipush (v := 48) dX12_saysNumber_15 rfl (by decide) ?_
    refine aw_iload_n (j := 1) (i := 1) dX12_saysNumber_17 rfl rfl rfl ?_
    refine aw_bipush (v := 10) dX12_saysNumber_18 rfl (by decide) ?_
    refine aw_irem dX12_saysNumber_20 rfl (by decide) ?_
    refine aw_iadd dX12_saysNumber_21 rfl ?_
    refine aw_callV (M' := mX12_says) (S := []) (as := [vI (48 + (a1 - a1 / 10 * 10))]) (k := 0) dX12_saysNumber_22 rfl (by decide) rfl rfl gw_2083 gw_2085 gw_81 mb_X12_says rfl (Nat.zero_le _) (Nat.le_of_ble_eq_true rfl) rfl (CL.imp k (fun _ h1 k => ?_) (fun _ _ k => k))
    obtain ⟨rfl, k⟩ := oV_of k
    show AW X (d + 1) rb mX12_saysNumber 25 _ [] h1 Qr Qx
    exact aw_vret dX12_saysNumber_25 rfl k
  · replace k := k.2 c
    refine aw_aload_n (j := 0) (i := 0) dX12_saysNumber_6 rfl rfl rfl ?_
    refine aw_iload_n (j := 1) (i := 1) dX12_saysNumber_7 rfl rfl rfl ?_
    refine aw_bipush (v := 10) dX12_saysNumber_8 rfl (by decide) ?_
    refine aw_idiv dX12_saysNumber_10 rfl (by decide) ?_
    refine aw_callV (M' := mX12_saysNumber) (S := []) (as := [vI (a1 / 10)]) (k := 0) dX12_saysNumber_11 rfl (by decide) rfl rfl gw_2096 gw_2098 gw_84 mb_X12_saysNumber rfl (Nat.zero_le _) (Nat.le_of_ble_eq_true rfl) rfl (CL.imp k (fun _ h2 k => ?_) (fun _ _ k => k))
    obtain ⟨rfl, k⟩ := oV_of k
    show AW X (d + 1) rb mX12_saysNumber 14 _ [] h2 Qr Qx
    refine aw_aload_n (j := 0) (i := 0) dX12_saysNumber_14 rfl rfl rfl ?_
    refine aw_bipush (v := 48) dX12_saysNumber_15 rfl (by decide) ?_
    refine aw_iload_n (j := 1) (i := 1) dX12_saysNumber_17 rfl rfl rfl ?_
    refine aw_bipush (v := 10) dX12_saysNumber_18 rfl (by decide) ?_
    refine aw_irem dX12_saysNumber_20 rfl (by decide) ?_
    refine aw_iadd dX12_saysNumber_21 rfl ?_
    refine aw_callV (M' := mX12_says) (S := []) (as := [vI (48 + (a1 - a1 / 10 * 10))]) (k := 0) dX12_saysNumber_22 rfl (by decide) rfl rfl gw_2083 gw_2085 gw_81 mb_X12_says rfl (Nat.zero_le _) (Nat.le_of_ble_eq_true rfl) rfl (CL.imp k (fun _ h3 k => ?_) (fun _ _ k => k))
    obtain ⟨rfl, k⟩ := oV_of k
    show AW X (d + 1) rb mX12_saysNumber 25 _ [] h3 Qr Qx
    exact aw_vret dX12_saysNumber_25 rfl k
set_option maxHeartbeats 4000000 in
set_option maxRecDepth 100000 in
theorem vc_X12_saysWord_0 {X : WD → State → Prop} {d rb : Nat} {h : Hp} {Qr : Option AV → Hp → Prop} {Qx : String → Hp → Prop} {j1 : Nat} (hj1 : j1 < 36) (k : AW X (d + 1) rb mX12_saysWord 2 [(0, vR 12 0), (1, vR (1000 + j1) 0), (2, vI 0)] [] h Qr Qx) : AW X (d + 1) rb mX12_saysWord 0 [(0, vR 12 0), (1, vR (1000 + j1) 0)] [] h Qr Qx := by
  refine aw_iconst (v := 0) dX12_saysWord_0 rfl (by decide) ?_
  refine aw_istore_n (i := 2) (L2 := [(2, vI 0), (0, vR 12 0), (1, vR (1000 + j1) 0)]) dX12_saysWord_1 rfl rfl (by decide) rfl ?_
  exact aw_sub [1, 2, 0] rfl k
set_option maxHeartbeats 4000000 in
set_option maxRecDepth 100000 in
theorem vc_X12_saysWord_2 {X : WD → State → Prop} {d rb : Nat} {h : Hp} {Qr : Option AV → Hp → Prop} {Qx : String → Hp → Prop} {j1 : Nat} {x2 : Int32} (hj1 : j1 < 36) (k : CL 0 d mJ0_length_8abf5 [vR (1000 + j1) 0] h (oI fun r2 h1 => ((r2 ≤ x2) → Qr none h1) ∧ ((¬ r2 ≤ x2) → CL 0 d mJ0_charAt_5068e [vR (1000 + j1) 0, vI x2] h1 (oI fun r4 h3 => CL 0 d mX12_says [vR 12 0, vI r4] h3 (oV fun h5 => AW X (d + 1) rb mX12_saysWord 2 [(0, vR 12 0), (1, vR (1000 + j1) 0), (2, vI (x2 + 1))] [] h5 Qr Qx) Qx) Qx)) Qx) : AW X (d + 1) rb mX12_saysWord 2 [(0, vR 12 0), (1, vR (1000 + j1) 0), (2, vI x2)] [] h Qr Qx := by
  refine aw_iload_n (j := 2) (i := 2) dX12_saysWord_2 rfl rfl rfl ?_
  refine aw_aload_n (j := 1) (i := 1) dX12_saysWord_3 rfl rfl rfl ?_
  refine aw_callStr (M' := mJ0_length_8abf5) (S := [vI x2]) (as := []) (k := 0) dX12_saysWord_4 rfl gw_1695 gw_797 gw_798 mb_J0_length_8abf5 rfl (Nat.zero_le _) (Nat.le_of_ble_eq_true rfl) rfl hj1 rfl (CL.imp k (fun _ h1 k => ?_) (fun _ _ k => k))
  obtain ⟨r2, rfl, k⟩ := oI_of k
  show AW X (d + 1) rb mX12_saysWord 7 _ [vI r2, vI x2] h1 Qr Qx
  refine aw_icmp_ge 25 dX12_saysWord_7 rfl rfl (fun c => ?_) (fun c => ?_)
  · replace k := k.1 c
    exact aw_vret dX12_saysWord_25 rfl k
  · replace k := k.2 c
    refine aw_aload_n (j := 0) (i := 0) dX12_saysWord_10 rfl rfl rfl ?_
    refine aw_aload_n (j := 1) (i := 1) dX12_saysWord_11 rfl rfl rfl ?_
    refine aw_iload_n (j := 2) (i := 2) dX12_saysWord_12 rfl rfl rfl ?_
    refine aw_callStr (M' := mJ0_charAt_5068e) (S := [vR 12 0]) (as := [vI x2]) (k := 0) dX12_saysWord_13 rfl gw_1696 gw_807 gw_808 mb_J0_charAt_5068e rfl (Nat.zero_le _) (Nat.le_of_ble_eq_true rfl) rfl hj1 rfl (CL.imp k (fun _ h3 k => ?_) (fun _ _ k => k))
    obtain ⟨r4, rfl, k⟩ := oI_of k
    show AW X (d + 1) rb mX12_saysWord 16 _ [vI r4, vR 12 0] h3 Qr Qx
    refine aw_callV (M' := mX12_says) (S := []) (as := [vI r4]) (k := 0) dX12_saysWord_16 rfl (by decide) rfl rfl gw_2083 gw_2085 gw_81 mb_X12_says rfl (Nat.zero_le _) (Nat.le_of_ble_eq_true rfl) rfl (CL.imp k (fun _ h5 k => ?_) (fun _ _ k => k))
    obtain ⟨rfl, k⟩ := oV_of k
    show AW X (d + 1) rb mX12_saysWord 19 _ [] h5 Qr Qx
    refine aw_iinc (i := 2) (j := 2) (v := x2 + 1) (L2 := [(2, vI (x2 + 1)), (0, vR 12 0), (1, vR (1000 + j1) 0)]) dX12_saysWord_19 rfl (by decide) rfl rfl rfl ?_
    refine aw_goto 2 dX12_saysWord_22 rfl ?_
    exact aw_sub [1, 2, 0] rfl k
set_option maxHeartbeats 4000000 in
set_option maxRecDepth 100000 in
theorem vc_X12_saysName_0 {X : WD → State → Prop} {d rb : Nat} {h : Hp} {Qr : Option AV → Hp → Prop} {Qx : String → Hp → Prop} {a1 : Int32}  (k : AW X (d + 1) rb mX12_saysName 2 [(0, vR 12 0), (1, vI a1), (2, vI 0)] [] h Qr Qx) : AW X (d + 1) rb mX12_saysName 0 [(0, vR 12 0), (1, vI a1)] [] h Qr Qx := by
  refine aw_iconst (v := 0) dX12_saysName_0 rfl (by decide) ?_
  refine aw_istore_n (i := 2) (L2 := [(2, vI 0), (0, vR 12 0), (1, vI a1)]) dX12_saysName_1 rfl rfl (by decide) rfl ?_
  exact aw_sub [1, 2, 0] rfl k
set_option maxHeartbeats 4000000 in
set_option maxRecDepth 100000 in
theorem vc_X12_saysName_2 {X : WD → State → Prop} {d rb : Nat} {h : Hp} {Qr : Option AV → Hp → Prop} {Qx : String → Hp → Prop} {x1 : Int32} {x2 : Int32}  (k : ((8 ≤ x2) → Qr none h) ∧ ((¬ 8 ≤ x2) → (vp_in ((4 + (8 * x1)) + x2) 506) ∧ (((h.1 56 0 (((4 + (8 * x1)) + x2).toNatClampNeg)) = 0) → AW X (d + 1) rb mX12_saysName 2 [(0, vR 12 0), (1, vI x1), (2, vI (x2 + 1))] [] h Qr Qx) ∧ ((¬ (h.1 56 0 (((4 + (8 * x1)) + x2).toNatClampNeg)) = 0) → (vp_in ((4 + (8 * x1)) + x2) 506) ∧ CL 0 d mX12_says [vR 12 0, vI (h.1 56 0 (((4 + (8 * x1)) + x2).toNatClampNeg))] h (oV fun h1 => AW X (d + 1) rb mX12_saysName 2 [(0, vR 12 0), (1, vI x1), (2, vI (x2 + 1))] [] h1 Qr Qx) Qx))) : AW X (d + 1) rb mX12_saysName 2 [(0, vR 12 0), (1, vI x1), (2, vI x2)] [] h Qr Qx := by
  refine aw_iload_n (j := 2) (i := 2) dX12_saysName_2 rfl rfl rfl ?_
  refine aw_bipush (v := 8) dX12_saysName_3 rfl (by decide) ?_
  refine aw_icmp_ge 47 dX12_saysName_5 rfl rfl (fun c => ?_) (fun c => ?_)
  · replace k := k.1 c
    exact aw_vret dX12_saysName_47 rfl k
  · replace k := k.2 c
    refine aw_aload_n (j := 0) (i := 0) dX12_saysName_8 rfl rfl rfl ?_
    refine aw_getf (k := 11) (z := 56) dX12_saysName_9 rfl (by decide) rfl rfl rfl cb_12 (by decide) gw_1605 ?_
    refine aw_iconst (v := 4) dX12_saysName_12 rfl (by decide) ?_
    refine aw_bipush (v := 8) dX12_saysName_13 rfl (by decide) ?_
    refine aw_iload_n (j := 1) (i := 1) dX12_saysName_15 rfl rfl rfl ?_
    refine aw_imul dX12_saysName_16 rfl ?_
    refine aw_iadd dX12_saysName_17 rfl ?_
    refine aw_iload_n (j := 2) (i := 2) dX12_saysName_18 rfl rfl rfl ?_
    refine aw_iadd dX12_saysName_19 rfl ?_
    refine aw_iald dX12_saysName_20 rfl (by decide) rfl k.1 ?_
    replace k := k.2
    refine aw_if_eq 41 dX12_saysName_21 rfl rfl (fun c => ?_) (fun c => ?_)
    · replace k := k.1 c
      refine aw_iinc (i := 2) (j := 2) (v := x2 + 1) (L2 := [(2, vI (x2 + 1)), (0, vR 12 0), (1, vI x1)]) dX12_saysName_41 rfl (by decide) rfl rfl rfl ?_
      refine aw_goto 2 dX12_saysName_44 rfl ?_
      exact aw_sub [1, 2, 0] rfl k
    · replace k := k.2 c
      refine aw_aload_n (j := 0) (i := 0) dX12_saysName_24 rfl rfl rfl ?_
      refine aw_aload_n (j := 0) (i := 0) dX12_saysName_25 rfl rfl rfl ?_
      refine aw_getf (k := 11) (z := 56) dX12_saysName_26 rfl (by decide) rfl rfl rfl cb_12 (by decide) gw_1605 ?_
      refine aw_iconst (v := 4) dX12_saysName_29 rfl (by decide) ?_
      refine aw_bipush (v := 8) dX12_saysName_30 rfl (by decide) ?_
      refine aw_iload_n (j := 1) (i := 1) dX12_saysName_32 rfl rfl rfl ?_
      refine aw_imul dX12_saysName_33 rfl ?_
      refine aw_iadd dX12_saysName_34 rfl ?_
      refine aw_iload_n (j := 2) (i := 2) dX12_saysName_35 rfl rfl rfl ?_
      refine aw_iadd dX12_saysName_36 rfl ?_
      refine aw_iald dX12_saysName_37 rfl (by decide) rfl k.1 ?_
      replace k := k.2
      refine aw_callV (M' := mX12_says) (S := []) (as := [vI (h.1 56 0 (((4 + (8 * x1)) + x2).toNatClampNeg))]) (k := 0) dX12_saysName_38 rfl (by decide) rfl rfl gw_2083 gw_2085 gw_81 mb_X12_says rfl (Nat.zero_le _) (Nat.le_of_ble_eq_true rfl) rfl (CL.imp k (fun _ h1 k => ?_) (fun _ _ k => k))
      obtain ⟨rfl, k⟩ := oV_of k
      show AW X (d + 1) rb mX12_saysName 41 _ [] h1 Qr Qx
      refine aw_iinc (i := 2) (j := 2) (v := x2 + 1) (L2 := [(2, vI (x2 + 1)), (0, vR 12 0), (1, vI x1)]) dX12_saysName_41 rfl (by decide) rfl rfl rfl ?_
      refine aw_goto 2 dX12_saysName_44 rfl ?_
      exact aw_sub [1, 2, 0] rfl k
set_option maxHeartbeats 4000000 in
set_option maxRecDepth 100000 in
theorem vc_X12_saysPart_0 {X : WD → State → Prop} {d rb : Nat} {h : Hp} {Qr : Option AV → Hp → Prop} {Qx : String → Hp → Prop} {j1 : Nat} {a2 : Int32} (hj1 : j1 < 36) (k : CL 0 d mX12_saysWord [vR 12 0, vR (1000 + j1) 0] h (oV fun h1 => CL 0 d mX12_saysNumber [vR 12 0, vI a2] h1 (oV fun h2 => Qr none h2) Qx) Qx) : AW X (d + 1) rb mX12_saysPart 0 [(0, vR 12 0), (1, vR (1000 + j1) 0), (2, vI a2)] [] h Qr Qx := by
  refine aw_aload_n (j := 0) (i := 0) dX12_saysPart_0 rfl rfl rfl ?_
  refine aw_aload_n (j := 1) (i := 1) dX12_saysPart_1 rfl rfl rfl ?_
  refine aw_callV (M' := mX12_saysWord) (S := []) (as := [vR (1000 + j1) 0]) (k := 0) dX12_saysPart_2 rfl (by decide) rfl rfl gw_2092 gw_2094 gw_83 mb_X12_saysWord rfl (Nat.zero_le _) (Nat.le_of_ble_eq_true rfl) rfl (CL.imp k (fun _ h1 k => ?_) (fun _ _ k => k))
  obtain ⟨rfl, k⟩ := oV_of k
  show AW X (d + 1) rb mX12_saysPart 5 _ [] h1 Qr Qx
  refine aw_aload_n (j := 0) (i := 0) dX12_saysPart_5 rfl rfl rfl ?_
  refine aw_iload_n (j := 2) (i := 2) dX12_saysPart_6 rfl rfl rfl ?_
  refine aw_callV (M' := mX12_saysNumber) (S := []) (as := [vI a2]) (k := 0) dX12_saysPart_7 rfl (by decide) rfl rfl gw_2096 gw_2098 gw_84 mb_X12_saysNumber rfl (Nat.zero_le _) (Nat.le_of_ble_eq_true rfl) rfl (CL.imp k (fun _ h2 k => ?_) (fun _ _ k => k))
  obtain ⟨rfl, k⟩ := oV_of k
  show AW X (d + 1) rb mX12_saysPart 10 _ [] h2 Qr Qx
  exact aw_vret dX12_saysPart_10 rfl k
set_option maxHeartbeats 4000000 in
set_option maxRecDepth 100000 in
theorem vc_X12_formatOrder_0 {X : WD → State → Prop} {d rb : Nat} {h : Hp} {Qr : Option AV → Hp → Prop} {Qx : String → Hp → Prop} {a1 : Int32}  (k : CL 0 d mX12_noOrder [vR 12 0, vI a1] (hp_i h 12 0 0 0) (oI fun r2 h1 => ((r2 = 0) → CL 0 d mX12_of [vR 12 0, vI a1, vI 0] (hp_i h1 12 0 24 0) (oI fun r4 h3 => CL 0 d mX12_saysName [vR 12 0, vI (12 + r4)] h3 (oV fun h5 => CL 0 d mX12_of [vR 12 0, vI a1, vI 1] h5 (oI fun r7 h6 => CL 0 d mX12_saysPart [vR 12 0, vR 1027 0, vI r7] h6 (oV fun h8 => CL 0 d mX12_of [vR 12 0, vI a1, vI 2] h8 (oI fun r10 h9 => CL 0 d mX12_saysPart [vR 12 0, vR 1028 0, vI r10] h9 (oV fun h11 => CL 0 d mX12_of [vR 12 0, vI a1, vI 3] h11 (oI fun r13 h12 => CL 0 d mX12_saysPart [vR 12 0, vR 1029 0, vI r13] h12 (oV fun h14 => CL 0 d mX12_of [vR 12 0, vI a1, vI 4] h14 (oI fun r16 h15 => ((¬ r16 = 1) → CL 0 d mX12_open [vR 12 0, vI a1] h15 (oI fun r18 h17 => CL 0 d mX12_saysPart [vR 12 0, vR 1031 0, vI r18] h17 (oV fun h19 => CL 0 d mX12_of [vR 12 0, vI a1, vI 6] h19 (oI fun r21 h20 => CL 0 d mX12_saysPart [vR 12 0, vR 1032 0, vI r21] h20 (oV fun h22 => CL 0 d mX12_of [vR 12 0, vI a1, vI 5] h22 (oI fun r24 h23 => CL 0 d mX12_saysPart [vR 12 0, vR 1033 0, vI r24] h23 (oV fun h25 => CL 0 d mX12_of [vR 12 0, vI a1, vI 7] h25 (oI fun r27 h26 => ((¬ r27 = 1) → Qr (some (vI (h26.1 12 0 24))) h26) ∧ ((r27 = 1) → CL 0 d mX12_saysWord [vR 12 0, vR 1034 0] h26 (oV fun h28 => Qr (some (vI (h28.1 12 0 24))) h28) Qx)) Qx) Qx) Qx) Qx) Qx) Qx) Qx) ∧ ((r16 = 1) → CL 0 d mX12_saysWord [vR 12 0, vR 1030 0] h15 (oV fun h29 => CL 0 d mX12_open [vR 12 0, vI a1] h29 (oI fun r31 h30 => CL 0 d mX12_saysPart [vR 12 0, vR 1031 0, vI r31] h30 (oV fun h32 => CL 0 d mX12_of [vR 12 0, vI a1, vI 6] h32 (oI fun r34 h33 => CL 0 d mX12_saysPart [vR 12 0, vR 1032 0, vI r34] h33 (oV fun h35 => CL 0 d mX12_of [vR 12 0, vI a1, vI 5] h35 (oI fun r37 h36 => CL 0 d mX12_saysPart [vR 12 0, vR 1033 0, vI r37] h36 (oV fun h38 => CL 0 d mX12_of [vR 12 0, vI a1, vI 7] h38 (oI fun r40 h39 => ((¬ r40 = 1) → Qr (some (vI (h39.1 12 0 24))) h39) ∧ ((r40 = 1) → CL 0 d mX12_saysWord [vR 12 0, vR 1034 0] h39 (oV fun h41 => Qr (some (vI (h41.1 12 0 24))) h41) Qx)) Qx) Qx) Qx) Qx) Qx) Qx) Qx) Qx)) Qx) Qx) Qx) Qx) Qx) Qx) Qx) Qx) Qx) ∧ ((¬ r2 = 0) → Qr (some (vI 0)) h1)) Qx) : AW X (d + 1) rb mX12_formatOrder 0 [(0, vR 12 0), (1, vI a1)] [] h Qr Qx := by
  refine aw_aload_n (j := 0) (i := 0) dX12_formatOrder_0 rfl rfl rfl ?_
  refine aw_iconst (v := 0) dX12_formatOrder_1 rfl (by decide) ?_
  refine aw_puti (k := 0) dX12_formatOrder_2 rfl (by decide) rfl rfl cb_12 (by decide) rfl rfl gw_1594 ?_
  refine aw_aload_n (j := 0) (i := 0) dX12_formatOrder_5 rfl rfl rfl ?_
  refine aw_iload_n (j := 1) (i := 1) dX12_formatOrder_6 rfl rfl rfl ?_
  refine aw_callV (M' := mX12_noOrder) (S := []) (as := [vI a1]) (k := 0) dX12_formatOrder_7 rfl (by decide) rfl rfl gw_1867 gw_1869 gw_57 mb_X12_noOrder rfl (Nat.zero_le _) (Nat.le_of_ble_eq_true rfl) rfl (CL.imp k (fun _ h1 k => ?_) (fun _ _ k => k))
  obtain ⟨r2, rfl, k⟩ := oI_of k
  show AW X (d + 1) rb mX12_formatOrder 10 _ [vI r2] h1 Qr Qx
  refine aw_if_eq 15 dX12_formatOrder_10 rfl rfl (fun c => ?_) (fun c => ?_)
  · replace k := k.1 c
    refine aw_aload_n (j := 0) (i := 0) dX12_formatOrder_15 rfl rfl rfl ?_
    refine aw_iconst (v := 0) dX12_formatOrder_16 rfl (by decide) ?_
    refine aw_puti (k := 24) dX12_formatOrder_17 rfl (by decide) rfl rfl cb_12 (by decide) rfl rfl gw_1618 ?_
    refine aw_aload_n (j := 0) (i := 0) dX12_formatOrder_20 rfl rfl rfl ?_
    refine aw_bipush (v := 12) dX12_formatOrder_21 rfl (by decide) ?_
    refine aw_aload_n (j := 0) (i := 0) dX12_formatOrder_23 rfl rfl rfl ?_
    refine aw_iload_n (j := 1) (i := 1) dX12_formatOrder_24 rfl rfl rfl ?_
    refine aw_iconst (v := 0) dX12_formatOrder_25 rfl (by decide) ?_
    refine aw_callV (M' := mX12_of) (S := [vI 12, vR 12 0]) (as := [vI a1, vI 0]) (k := 0) dX12_formatOrder_26 rfl (by decide) rfl rfl gw_1871 gw_1873 gw_58 mb_X12_of rfl (Nat.zero_le _) (Nat.le_of_ble_eq_true rfl) rfl (CL.imp k (fun _ h3 k => ?_) (fun _ _ k => k))
    obtain ⟨r4, rfl, k⟩ := oI_of k
    show AW X (d + 1) rb mX12_formatOrder 29 _ [vI r4, vI 12, vR 12 0] h3 Qr Qx
    refine aw_iadd dX12_formatOrder_29 rfl ?_
    refine aw_callV (M' := mX12_saysName) (S := []) (as := [vI (12 + r4)]) (k := 0) dX12_formatOrder_30 rfl (by decide) rfl rfl gw_2079 gw_2081 gw_80 mb_X12_saysName rfl (Nat.zero_le _) (Nat.le_of_ble_eq_true rfl) rfl (CL.imp k (fun _ h5 k => ?_) (fun _ _ k => k))
    obtain ⟨rfl, k⟩ := oV_of k
    show AW X (d + 1) rb mX12_formatOrder 33 _ [] h5 Qr Qx
    refine aw_aload_n (j := 0) (i := 0) dX12_formatOrder_33 rfl rfl rfl ?_
    refine aw_ldcSW (j := 27) dX12_formatOrder_34 rfl rfl ?_
    refine aw_aload_n (j := 0) (i := 0) dX12_formatOrder_37 rfl rfl rfl ?_
    refine aw_iload_n (j := 1) (i := 1) dX12_formatOrder_38 rfl rfl rfl ?_
    refine aw_iconst (v := 1) dX12_formatOrder_39 rfl (by decide) ?_
    refine aw_callV (M' := mX12_of) (S := [vR 1027 0, vR 12 0]) (as := [vI a1, vI 1]) (k := 0) dX12_formatOrder_40 rfl (by decide) rfl rfl gw_1871 gw_1873 gw_58 mb_X12_of rfl (Nat.zero_le _) (Nat.le_of_ble_eq_true rfl) rfl (CL.imp k (fun _ h6 k => ?_) (fun _ _ k => k))
    obtain ⟨r7, rfl, k⟩ := oI_of k
    show AW X (d + 1) rb mX12_formatOrder 43 _ [vI r7, vR 1027 0, vR 12 0] h6 Qr Qx
    refine aw_callV (M' := mX12_saysPart) (S := []) (as := [vR 1027 0, vI r7]) (k := 0) dX12_formatOrder_43 rfl (by decide) rfl rfl gw_2088 gw_2090 gw_82 mb_X12_saysPart rfl (Nat.zero_le _) (Nat.le_of_ble_eq_true rfl) rfl (CL.imp k (fun _ h8 k => ?_) (fun _ _ k => k))
    obtain ⟨rfl, k⟩ := oV_of k
    show AW X (d + 1) rb mX12_formatOrder 46 _ [] h8 Qr Qx
    refine aw_aload_n (j := 0) (i := 0) dX12_formatOrder_46 rfl rfl rfl ?_
    refine aw_ldcSW (j := 28) dX12_formatOrder_47 rfl rfl ?_
    refine aw_aload_n (j := 0) (i := 0) dX12_formatOrder_50 rfl rfl rfl ?_
    refine aw_iload_n (j := 1) (i := 1) dX12_formatOrder_51 rfl rfl rfl ?_
    refine aw_iconst (v := 2) dX12_formatOrder_52 rfl (by decide) ?_
    refine aw_callV (M' := mX12_of) (S := [vR 1028 0, vR 12 0]) (as := [vI a1, vI 2]) (k := 0) dX12_formatOrder_53 rfl (by decide) rfl rfl gw_1871 gw_1873 gw_58 mb_X12_of rfl (Nat.zero_le _) (Nat.le_of_ble_eq_true rfl) rfl (CL.imp k (fun _ h9 k => ?_) (fun _ _ k => k))
    obtain ⟨r10, rfl, k⟩ := oI_of k
    show AW X (d + 1) rb mX12_formatOrder 56 _ [vI r10, vR 1028 0, vR 12 0] h9 Qr Qx
    refine aw_callV (M' := mX12_saysPart) (S := []) (as := [vR 1028 0, vI r10]) (k := 0) dX12_formatOrder_56 rfl (by decide) rfl rfl gw_2088 gw_2090 gw_82 mb_X12_saysPart rfl (Nat.zero_le _) (Nat.le_of_ble_eq_true rfl) rfl (CL.imp k (fun _ h11 k => ?_) (fun _ _ k => k))
    obtain ⟨rfl, k⟩ := oV_of k
    show AW X (d + 1) rb mX12_formatOrder 59 _ [] h11 Qr Qx
    refine aw_aload_n (j := 0) (i := 0) dX12_formatOrder_59 rfl rfl rfl ?_
    refine aw_ldcSW (j := 29) dX12_formatOrder_60 rfl rfl ?_
    refine aw_aload_n (j := 0) (i := 0) dX12_formatOrder_63 rfl rfl rfl ?_
    refine aw_iload_n (j := 1) (i := 1) dX12_formatOrder_64 rfl rfl rfl ?_
    refine aw_iconst (v := 3) dX12_formatOrder_65 rfl (by decide) ?_
    refine aw_callV (M' := mX12_of) (S := [vR 1029 0, vR 12 0]) (as := [vI a1, vI 3]) (k := 0) dX12_formatOrder_66 rfl (by decide) rfl rfl gw_1871 gw_1873 gw_58 mb_X12_of rfl (Nat.zero_le _) (Nat.le_of_ble_eq_true rfl) rfl (CL.imp k (fun _ h12 k => ?_) (fun _ _ k => k))
    obtain ⟨r13, rfl, k⟩ := oI_of k
    show AW X (d + 1) rb mX12_formatOrder 69 _ [vI r13, vR 1029 0, vR 12 0] h12 Qr Qx
    refine aw_callV (M' := mX12_saysPart) (S := []) (as := [vR 1029 0, vI r13]) (k := 0) dX12_formatOrder_69 rfl (by decide) rfl rfl gw_2088 gw_2090 gw_82 mb_X12_saysPart rfl (Nat.zero_le _) (Nat.le_of_ble_eq_true rfl) rfl (CL.imp k (fun _ h14 k => ?_) (fun _ _ k => k))
    obtain ⟨rfl, k⟩ := oV_of k
    show AW X (d + 1) rb mX12_formatOrder 72 _ [] h14 Qr Qx
    refine aw_aload_n (j := 0) (i := 0) dX12_formatOrder_72 rfl rfl rfl ?_
    refine aw_iload_n (j := 1) (i := 1) dX12_formatOrder_73 rfl rfl rfl ?_
    refine aw_iconst (v := 4) dX12_formatOrder_74 rfl (by decide) ?_
    refine aw_callV (M' := mX12_of) (S := []) (as := [vI a1, vI 4]) (k := 0) dX12_formatOrder_75 rfl (by decide) rfl rfl gw_1871 gw_1873 gw_58 mb_X12_of rfl (Nat.zero_le _) (Nat.le_of_ble_eq_true rfl) rfl (CL.imp k (fun _ h15 k => ?_) (fun _ _ k => k))
    obtain ⟨r16, rfl, k⟩ := oI_of k
    show AW X (d + 1) rb mX12_formatOrder 78 _ [vI r16] h15 Qr Qx
    refine aw_iconst (v := 1) dX12_formatOrder_78 rfl (by decide) ?_
    refine aw_icmp_ne 89 dX12_formatOrder_79 rfl rfl (fun c => ?_) (fun c => ?_)
    · replace k := k.1 c
      refine aw_aload_n (j := 0) (i := 0) dX12_formatOrder_89 rfl rfl rfl ?_
      refine aw_ldcSW (j := 31) dX12_formatOrder_90 rfl rfl ?_
      refine aw_aload_n (j := 0) (i := 0) dX12_formatOrder_93 rfl rfl rfl ?_
      refine aw_iload_n (j := 1) (i := 1) dX12_formatOrder_94 rfl rfl rfl ?_
      refine aw_callV (M' := mX12_open) (S := [vR 1031 0, vR 12 0]) (as := [vI a1]) (k := 0) dX12_formatOrder_95 rfl (by decide) rfl rfl gw_1875 gw_1877 gw_59 mb_X12_open rfl (Nat.zero_le _) (Nat.le_of_ble_eq_true rfl) rfl (CL.imp k (fun _ h17 k => ?_) (fun _ _ k => k))
      obtain ⟨r18, rfl, k⟩ := oI_of k
      show AW X (d + 1) rb mX12_formatOrder 98 _ [vI r18, vR 1031 0, vR 12 0] h17 Qr Qx
      refine aw_callV (M' := mX12_saysPart) (S := []) (as := [vR 1031 0, vI r18]) (k := 0) dX12_formatOrder_98 rfl (by decide) rfl rfl gw_2088 gw_2090 gw_82 mb_X12_saysPart rfl (Nat.zero_le _) (Nat.le_of_ble_eq_true rfl) rfl (CL.imp k (fun _ h19 k => ?_) (fun _ _ k => k))
      obtain ⟨rfl, k⟩ := oV_of k
      show AW X (d + 1) rb mX12_formatOrder 101 _ [] h19 Qr Qx
      refine aw_aload_n (j := 0) (i := 0) dX12_formatOrder_101 rfl rfl rfl ?_
      refine aw_ldcSW (j := 32) dX12_formatOrder_102 rfl rfl ?_
      refine aw_aload_n (j := 0) (i := 0) dX12_formatOrder_105 rfl rfl rfl ?_
      refine aw_iload_n (j := 1) (i := 1) dX12_formatOrder_106 rfl rfl rfl ?_
      refine aw_bipush (v := 6) dX12_formatOrder_107 rfl (by decide) ?_
      refine aw_callV (M' := mX12_of) (S := [vR 1032 0, vR 12 0]) (as := [vI a1, vI 6]) (k := 0) dX12_formatOrder_109 rfl (by decide) rfl rfl gw_1871 gw_1873 gw_58 mb_X12_of rfl (Nat.zero_le _) (Nat.le_of_ble_eq_true rfl) rfl (CL.imp k (fun _ h20 k => ?_) (fun _ _ k => k))
      obtain ⟨r21, rfl, k⟩ := oI_of k
      show AW X (d + 1) rb mX12_formatOrder 112 _ [vI r21, vR 1032 0, vR 12 0] h20 Qr Qx
      refine aw_callV (M' := mX12_saysPart) (S := []) (as := [vR 1032 0, vI r21]) (k := 0) dX12_formatOrder_112 rfl (by decide) rfl rfl gw_2088 gw_2090 gw_82 mb_X12_saysPart rfl (Nat.zero_le _) (Nat.le_of_ble_eq_true rfl) rfl (CL.imp k (fun _ h22 k => ?_) (fun _ _ k => k))
      obtain ⟨rfl, k⟩ := oV_of k
      show AW X (d + 1) rb mX12_formatOrder 115 _ [] h22 Qr Qx
      refine aw_aload_n (j := 0) (i := 0) dX12_formatOrder_115 rfl rfl rfl ?_
      refine aw_ldcSW (j := 33) dX12_formatOrder_116 rfl rfl ?_
      refine aw_aload_n (j := 0) (i := 0) dX12_formatOrder_119 rfl rfl rfl ?_
      refine aw_iload_n (j := 1) (i := 1) dX12_formatOrder_120 rfl rfl rfl ?_
      refine aw_iconst (v := 5) dX12_formatOrder_121 rfl (by decide) ?_
      refine aw_callV (M' := mX12_of) (S := [vR 1033 0, vR 12 0]) (as := [vI a1, vI 5]) (k := 0) dX12_formatOrder_122 rfl (by decide) rfl rfl gw_1871 gw_1873 gw_58 mb_X12_of rfl (Nat.zero_le _) (Nat.le_of_ble_eq_true rfl) rfl (CL.imp k (fun _ h23 k => ?_) (fun _ _ k => k))
      obtain ⟨r24, rfl, k⟩ := oI_of k
      show AW X (d + 1) rb mX12_formatOrder 125 _ [vI r24, vR 1033 0, vR 12 0] h23 Qr Qx
      refine aw_callV (M' := mX12_saysPart) (S := []) (as := [vR 1033 0, vI r24]) (k := 0) dX12_formatOrder_125 rfl (by decide) rfl rfl gw_2088 gw_2090 gw_82 mb_X12_saysPart rfl (Nat.zero_le _) (Nat.le_of_ble_eq_true rfl) rfl (CL.imp k (fun _ h25 k => ?_) (fun _ _ k => k))
      obtain ⟨rfl, k⟩ := oV_of k
      show AW X (d + 1) rb mX12_formatOrder 128 _ [] h25 Qr Qx
      refine aw_aload_n (j := 0) (i := 0) dX12_formatOrder_128 rfl rfl rfl ?_
      refine aw_iload_n (j := 1) (i := 1) dX12_formatOrder_129 rfl rfl rfl ?_
      refine aw_bipush (v := 7) dX12_formatOrder_130 rfl (by decide) ?_
      refine aw_callV (M' := mX12_of) (S := []) (as := [vI a1, vI 7]) (k := 0) dX12_formatOrder_132 rfl (by decide) rfl rfl gw_1871 gw_1873 gw_58 mb_X12_of rfl (Nat.zero_le _) (Nat.le_of_ble_eq_true rfl) rfl (CL.imp k (fun _ h26 k => ?_) (fun _ _ k => k))
      obtain ⟨r27, rfl, k⟩ := oI_of k
      show AW X (d + 1) rb mX12_formatOrder 135 _ [vI r27] h26 Qr Qx
      refine aw_iconst (v := 1) dX12_formatOrder_135 rfl (by decide) ?_
      refine aw_icmp_ne 146 dX12_formatOrder_136 rfl rfl (fun c => ?_) (fun c => ?_)
      · replace k := k.1 c
        refine aw_aload_n (j := 0) (i := 0) dX12_formatOrder_146 rfl rfl rfl ?_
        refine aw_geti (k := 24) dX12_formatOrder_147 rfl (by decide) rfl rfl cb_12 (by decide) gw_1618 ?_
        exact aw_iret dX12_formatOrder_150 rfl k
      · replace k := k.2 c
        refine aw_aload_n (j := 0) (i := 0) dX12_formatOrder_139 rfl rfl rfl ?_
        refine aw_ldcSW (j := 34) dX12_formatOrder_140 rfl rfl ?_
        refine aw_callV (M' := mX12_saysWord) (S := []) (as := [vR 1034 0]) (k := 0) dX12_formatOrder_143 rfl (by decide) rfl rfl gw_2092 gw_2094 gw_83 mb_X12_saysWord rfl (Nat.zero_le _) (Nat.le_of_ble_eq_true rfl) rfl (CL.imp k (fun _ h28 k => ?_) (fun _ _ k => k))
        obtain ⟨rfl, k⟩ := oV_of k
        show AW X (d + 1) rb mX12_formatOrder 146 _ [] h28 Qr Qx
        refine aw_aload_n (j := 0) (i := 0) dX12_formatOrder_146 rfl rfl rfl ?_
        refine aw_geti (k := 24) dX12_formatOrder_147 rfl (by decide) rfl rfl cb_12 (by decide) gw_1618 ?_
        exact aw_iret dX12_formatOrder_150 rfl k
    · replace k := k.2 c
      refine aw_aload_n (j := 0) (i := 0) dX12_formatOrder_82 rfl rfl rfl ?_
      refine aw_ldcSW (j := 30) dX12_formatOrder_83 rfl rfl ?_
      refine aw_callV (M' := mX12_saysWord) (S := []) (as := [vR 1030 0]) (k := 0) dX12_formatOrder_86 rfl (by decide) rfl rfl gw_2092 gw_2094 gw_83 mb_X12_saysWord rfl (Nat.zero_le _) (Nat.le_of_ble_eq_true rfl) rfl (CL.imp k (fun _ h29 k => ?_) (fun _ _ k => k))
      obtain ⟨rfl, k⟩ := oV_of k
      show AW X (d + 1) rb mX12_formatOrder 89 _ [] h29 Qr Qx
      refine aw_aload_n (j := 0) (i := 0) dX12_formatOrder_89 rfl rfl rfl ?_
      refine aw_ldcSW (j := 31) dX12_formatOrder_90 rfl rfl ?_
      refine aw_aload_n (j := 0) (i := 0) dX12_formatOrder_93 rfl rfl rfl ?_
      refine aw_iload_n (j := 1) (i := 1) dX12_formatOrder_94 rfl rfl rfl ?_
      refine aw_callV (M' := mX12_open) (S := [vR 1031 0, vR 12 0]) (as := [vI a1]) (k := 0) dX12_formatOrder_95 rfl (by decide) rfl rfl gw_1875 gw_1877 gw_59 mb_X12_open rfl (Nat.zero_le _) (Nat.le_of_ble_eq_true rfl) rfl (CL.imp k (fun _ h30 k => ?_) (fun _ _ k => k))
      obtain ⟨r31, rfl, k⟩ := oI_of k
      show AW X (d + 1) rb mX12_formatOrder 98 _ [vI r31, vR 1031 0, vR 12 0] h30 Qr Qx
      refine aw_callV (M' := mX12_saysPart) (S := []) (as := [vR 1031 0, vI r31]) (k := 0) dX12_formatOrder_98 rfl (by decide) rfl rfl gw_2088 gw_2090 gw_82 mb_X12_saysPart rfl (Nat.zero_le _) (Nat.le_of_ble_eq_true rfl) rfl (CL.imp k (fun _ h32 k => ?_) (fun _ _ k => k))
      obtain ⟨rfl, k⟩ := oV_of k
      show AW X (d + 1) rb mX12_formatOrder 101 _ [] h32 Qr Qx
      refine aw_aload_n (j := 0) (i := 0) dX12_formatOrder_101 rfl rfl rfl ?_
      refine aw_ldcSW (j := 32) dX12_formatOrder_102 rfl rfl ?_
      refine aw_aload_n (j := 0) (i := 0) dX12_formatOrder_105 rfl rfl rfl ?_
      refine aw_iload_n (j := 1) (i := 1) dX12_formatOrder_106 rfl rfl rfl ?_
      refine aw_bipush (v := 6) dX12_formatOrder_107 rfl (by decide) ?_
      refine aw_callV (M' := mX12_of) (S := [vR 1032 0, vR 12 0]) (as := [vI a1, vI 6]) (k := 0) dX12_formatOrder_109 rfl (by decide) rfl rfl gw_1871 gw_1873 gw_58 mb_X12_of rfl (Nat.zero_le _) (Nat.le_of_ble_eq_true rfl) rfl (CL.imp k (fun _ h33 k => ?_) (fun _ _ k => k))
      obtain ⟨r34, rfl, k⟩ := oI_of k
      show AW X (d + 1) rb mX12_formatOrder 112 _ [vI r34, vR 1032 0, vR 12 0] h33 Qr Qx
      refine aw_callV (M' := mX12_saysPart) (S := []) (as := [vR 1032 0, vI r34]) (k := 0) dX12_formatOrder_112 rfl (by decide) rfl rfl gw_2088 gw_2090 gw_82 mb_X12_saysPart rfl (Nat.zero_le _) (Nat.le_of_ble_eq_true rfl) rfl (CL.imp k (fun _ h35 k => ?_) (fun _ _ k => k))
      obtain ⟨rfl, k⟩ := oV_of k
      show AW X (d + 1) rb mX12_formatOrder 115 _ [] h35 Qr Qx
      refine aw_aload_n (j := 0) (i := 0) dX12_formatOrder_115 rfl rfl rfl ?_
      refine aw_ldcSW (j := 33) dX12_formatOrder_116 rfl rfl ?_
      refine aw_aload_n (j := 0) (i := 0) dX12_formatOrder_119 rfl rfl rfl ?_
      refine aw_iload_n (j := 1) (i := 1) dX12_formatOrder_120 rfl rfl rfl ?_
      refine aw_iconst (v := 5) dX12_formatOrder_121 rfl (by decide) ?_
      refine aw_callV (M' := mX12_of) (S := [vR 1033 0, vR 12 0]) (as := [vI a1, vI 5]) (k := 0) dX12_formatOrder_122 rfl (by decide) rfl rfl gw_1871 gw_1873 gw_58 mb_X12_of rfl (Nat.zero_le _) (Nat.le_of_ble_eq_true rfl) rfl (CL.imp k (fun _ h36 k => ?_) (fun _ _ k => k))
      obtain ⟨r37, rfl, k⟩ := oI_of k
      show AW X (d + 1) rb mX12_formatOrder 125 _ [vI r37, vR 1033 0, vR 12 0] h36 Qr Qx
      refine aw_callV (M' := mX12_saysPart) (S := []) (as := [vR 1033 0, vI r37]) (k := 0) dX12_formatOrder_125 rfl (by decide) rfl rfl gw_2088 gw_2090 gw_82 mb_X12_saysPart rfl (Nat.zero_le _) (Nat.le_of_ble_eq_true rfl) rfl (CL.imp k (fun _ h38 k => ?_) (fun _ _ k => k))
      obtain ⟨rfl, k⟩ := oV_of k
      show AW X (d + 1) rb mX12_formatOrder 128 _ [] h38 Qr Qx
      refine aw_aload_n (j := 0) (i := 0) dX12_formatOrder_128 rfl rfl rfl ?_
      refine aw_iload_n (j := 1) (i := 1) dX12_formatOrder_129 rfl rfl rfl ?_
      refine aw_bipush (v := 7) dX12_formatOrder_130 rfl (by decide) ?_
      refine aw_callV (M' := mX12_of) (S := []) (as := [vI a1, vI 7]) (k := 0) dX12_formatOrder_132 rfl (by decide) rfl rfl gw_1871 gw_1873 gw_58 mb_X12_of rfl (Nat.zero_le _) (Nat.le_of_ble_eq_true rfl) rfl (CL.imp k (fun _ h39 k => ?_) (fun _ _ k => k))
      obtain ⟨r40, rfl, k⟩ := oI_of k
      show AW X (d + 1) rb mX12_formatOrder 135 _ [vI r40] h39 Qr Qx
      refine aw_iconst (v := 1) dX12_formatOrder_135 rfl (by decide) ?_
      refine aw_icmp_ne 146 dX12_formatOrder_136 rfl rfl (fun c => ?_) (fun c => ?_)
      · replace k := k.1 c
        refine aw_aload_n (j := 0) (i := 0) dX12_formatOrder_146 rfl rfl rfl ?_
        refine aw_geti (k := 24) dX12_formatOrder_147 rfl (by decide) rfl rfl cb_12 (by decide) gw_1618 ?_
        exact aw_iret dX12_formatOrder_150 rfl k
      · replace k := k.2 c
        refine aw_aload_n (j := 0) (i := 0) dX12_formatOrder_139 rfl rfl rfl ?_
        refine aw_ldcSW (j := 34) dX12_formatOrder_140 rfl rfl ?_
        refine aw_callV (M' := mX12_saysWord) (S := []) (as := [vR 1034 0]) (k := 0) dX12_formatOrder_143 rfl (by decide) rfl rfl gw_2092 gw_2094 gw_83 mb_X12_saysWord rfl (Nat.zero_le _) (Nat.le_of_ble_eq_true rfl) rfl (CL.imp k (fun _ h41 k => ?_) (fun _ _ k => k))
        obtain ⟨rfl, k⟩ := oV_of k
        show AW X (d + 1) rb mX12_formatOrder 146 _ [] h41 Qr Qx
        refine aw_aload_n (j := 0) (i := 0) dX12_formatOrder_146 rfl rfl rfl ?_
        refine aw_geti (k := 24) dX12_formatOrder_147 rfl (by decide) rfl rfl cb_12 (by decide) gw_1618 ?_
        exact aw_iret dX12_formatOrder_150 rfl k
  · replace k := k.2 c
    refine aw_iconst (v := 0) dX12_formatOrder_13 rfl (by decide) ?_
    exact aw_iret dX12_formatOrder_14 rfl k
set_option maxHeartbeats 4000000 in
set_option maxRecDepth 100000 in
theorem vc_X12_formatNeeds_0 {X : WD → State → Prop} {d rb : Nat} {h : Hp} {Qr : Option AV → Hp → Prop} {Qx : String → Hp → Prop} {a1 : Int32}  (k : CL 0 d mX12_noProduct [vR 12 0, vI a1] (hp_i h 12 0 0 0) (oI fun r2 h1 => ((r2 = 0) → CL 0 d mX12_saysName [vR 12 0, vI (12 + a1)] (hp_i h1 12 0 24 0) (oV fun h3 => CL 0 d mX12_says [vR 12 0, vI 58] h3 (oV fun h4 => AW X (d + 1) rb mX12_formatNeeds 36 [(0, vR 12 0), (1, vI a1), (2, vI 0)] [] h4 Qr Qx) Qx) Qx) ∧ ((¬ r2 = 0) → Qr (some (vI 0)) h1)) Qx) : AW X (d + 1) rb mX12_formatNeeds 0 [(0, vR 12 0), (1, vI a1)] [] h Qr Qx := by
  refine aw_aload_n (j := 0) (i := 0) dX12_formatNeeds_0 rfl rfl rfl ?_
  refine aw_iconst (v := 0) dX12_formatNeeds_1 rfl (by decide) ?_
  refine aw_puti (k := 0) dX12_formatNeeds_2 rfl (by decide) rfl rfl cb_12 (by decide) rfl rfl gw_1594 ?_
  refine aw_aload_n (j := 0) (i := 0) dX12_formatNeeds_5 rfl rfl rfl ?_
  refine aw_iload_n (j := 1) (i := 1) dX12_formatNeeds_6 rfl rfl rfl ?_
  refine aw_callV (M' := mX12_noProduct) (S := []) (as := [vI a1]) (k := 0) dX12_formatNeeds_7 rfl (by decide) rfl rfl gw_1768 gw_1770 gw_49 mb_X12_noProduct rfl (Nat.zero_le _) (Nat.le_of_ble_eq_true rfl) rfl (CL.imp k (fun _ h1 k => ?_) (fun _ _ k => k))
  obtain ⟨r2, rfl, k⟩ := oI_of k
  show AW X (d + 1) rb mX12_formatNeeds 10 _ [vI r2] h1 Qr Qx
  refine aw_if_eq 15 dX12_formatNeeds_10 rfl rfl (fun c => ?_) (fun c => ?_)
  · replace k := k.1 c
    refine aw_aload_n (j := 0) (i := 0) dX12_formatNeeds_15 rfl rfl rfl ?_
    refine aw_iconst (v := 0) dX12_formatNeeds_16 rfl (by decide) ?_
    refine aw_puti (k := 24) dX12_formatNeeds_17 rfl (by decide) rfl rfl cb_12 (by decide) rfl rfl gw_1618 ?_
    refine aw_aload_n (j := 0) (i := 0) dX12_formatNeeds_20 rfl rfl rfl ?_
    refine aw_bipush (v := 12) dX12_formatNeeds_21 rfl (by decide) ?_
    refine aw_iload_n (j := 1) (i := 1) dX12_formatNeeds_23 rfl rfl rfl ?_
    refine aw_iadd dX12_formatNeeds_24 rfl ?_
    refine aw_callV (M' := mX12_saysName) (S := []) (as := [vI (12 + a1)]) (k := 0) dX12_formatNeeds_25 rfl (by decide) rfl rfl gw_2079 gw_2081 gw_80 mb_X12_saysName rfl (Nat.zero_le _) (Nat.le_of_ble_eq_true rfl) rfl (CL.imp k (fun _ h3 k => ?_) (fun _ _ k => k))
    obtain ⟨rfl, k⟩ := oV_of k
    show AW X (d + 1) rb mX12_formatNeeds 28 _ [] h3 Qr Qx
    refine aw_aload_n (j := 0) (i := 0) dX12_formatNeeds_28 rfl rfl rfl ?_
    refine aw_bipush (v := 58) dX12_formatNeeds_29 rfl (by decide) ?_
    refine aw_callV (M' := mX12_says) (S := []) (as := [vI 58]) (k := 0) dX12_formatNeeds_31 rfl (by decide) rfl rfl gw_2083 gw_2085 gw_81 mb_X12_says rfl (Nat.zero_le _) (Nat.le_of_ble_eq_true rfl) rfl (CL.imp k (fun _ h4 k => ?_) (fun _ _ k => k))
    obtain ⟨rfl, k⟩ := oV_of k
    show AW X (d + 1) rb mX12_formatNeeds 34 _ [] h4 Qr Qx
    refine aw_iconst (v := 0) dX12_formatNeeds_34 rfl (by decide) ?_
    refine aw_istore_n (i := 2) (L2 := [(2, vI 0), (0, vR 12 0), (1, vI a1)]) dX12_formatNeeds_35 rfl rfl (by decide) rfl ?_
    exact aw_sub [1, 2, 0] rfl k
  · replace k := k.2 c
    refine aw_iconst (v := 0) dX12_formatNeeds_13 rfl (by decide) ?_
    exact aw_iret dX12_formatNeeds_14 rfl k
set_option maxHeartbeats 4000000 in
set_option maxRecDepth 100000 in
theorem vc_X12_formatNeeds_36 {X : WD → State → Prop} {d rb : Nat} {h : Hp} {Qr : Option AV → Hp → Prop} {Qx : String → Hp → Prop} {x1 : Int32} {x2 : Int32}  (k : (((h.1 56 0 0) ≤ x2) → Qr (some (vI (h.1 12 0 24))) h) ∧ ((¬ (h.1 56 0 0) ≤ x2) → CL 0 d mX12_needs [vR 12 0, vI x1, vI x2] h (oI fun r2 h1 => ((¬ r2 = 0) → CL 0 d mX12_needs [vR 12 0, vI x1, vI x2] h1 (oI fun r4 h3 => CL 0 d mX12_saysPart [vR 12 0, vR 1035 0, vI r4] h3 (oV fun h5 => CL 0 d mX12_saysName [vR 12 0, vI x2] h5 (oV fun h6 => AW X (d + 1) rb mX12_formatNeeds 36 [(0, vR 12 0), (1, vI x1), (2, vI (x2 + 1))] [] h6 Qr Qx) Qx) Qx) Qx) ∧ ((r2 = 0) → AW X (d + 1) rb mX12_formatNeeds 36 [(0, vR 12 0), (1, vI x1), (2, vI (x2 + 1))] [] h1 Qr Qx)) Qx)) : AW X (d + 1) rb mX12_formatNeeds 36 [(0, vR 12 0), (1, vI x1), (2, vI x2)] [] h Qr Qx := by
  refine aw_iload_n (j := 2) (i := 2) dX12_formatNeeds_36 rfl rfl rfl ?_
  refine aw_aload_n (j := 0) (i := 0) dX12_formatNeeds_37 rfl rfl rfl ?_
  refine aw_getf (k := 11) (z := 56) dX12_formatNeeds_38 rfl (by decide) rfl rfl rfl cb_12 (by decide) gw_1605 ?_
  refine aw_iconst (v := 0) dX12_formatNeeds_41 rfl (by decide) ?_
  refine aw_iald dX12_formatNeeds_42 rfl (by decide) rfl (by unfold vp_in; decide) ?_
  refine aw_icmp_ge 82 dX12_formatNeeds_43 rfl rfl (fun c => ?_) (fun c => ?_)
  · replace k := k.1 c
    refine aw_aload_n (j := 0) (i := 0) dX12_formatNeeds_82 rfl rfl rfl ?_
    refine aw_geti (k := 24) dX12_formatNeeds_83 rfl (by decide) rfl rfl cb_12 (by decide) gw_1618 ?_
    exact aw_iret dX12_formatNeeds_86 rfl k
  · replace k := k.2 c
    refine aw_aload_n (j := 0) (i := 0) dX12_formatNeeds_46 rfl rfl rfl ?_
    refine aw_iload_n (j := 1) (i := 1) dX12_formatNeeds_47 rfl rfl rfl ?_
    refine aw_iload_n (j := 2) (i := 2) dX12_formatNeeds_48 rfl rfl rfl ?_
    refine aw_callV (M' := mX12_needs) (S := []) (as := [vI x1, vI x2]) (k := 0) dX12_formatNeeds_49 rfl (by decide) rfl rfl gw_1788 gw_1790 gw_51 mb_X12_needs rfl (Nat.zero_le _) (Nat.le_of_ble_eq_true rfl) rfl (CL.imp k (fun _ h1 k => ?_) (fun _ _ k => k))
    obtain ⟨r2, rfl, k⟩ := oI_of k
    show AW X (d + 1) rb mX12_formatNeeds 52 _ [vI r2] h1 Qr Qx
    refine aw_if_ne 58 dX12_formatNeeds_52 rfl rfl (fun c => ?_) (fun c => ?_)
    · replace k := k.1 c
      refine aw_aload_n (j := 0) (i := 0) dX12_formatNeeds_58 rfl rfl rfl ?_
      refine aw_ldcSW (j := 35) dX12_formatNeeds_59 rfl rfl ?_
      refine aw_aload_n (j := 0) (i := 0) dX12_formatNeeds_62 rfl rfl rfl ?_
      refine aw_iload_n (j := 1) (i := 1) dX12_formatNeeds_63 rfl rfl rfl ?_
      refine aw_iload_n (j := 2) (i := 2) dX12_formatNeeds_64 rfl rfl rfl ?_
      refine aw_callV (M' := mX12_needs) (S := [vR 1035 0, vR 12 0]) (as := [vI x1, vI x2]) (k := 0) dX12_formatNeeds_65 rfl (by decide) rfl rfl gw_1788 gw_1790 gw_51 mb_X12_needs rfl (Nat.zero_le _) (Nat.le_of_ble_eq_true rfl) rfl (CL.imp k (fun _ h3 k => ?_) (fun _ _ k => k))
      obtain ⟨r4, rfl, k⟩ := oI_of k
      show AW X (d + 1) rb mX12_formatNeeds 68 _ [vI r4, vR 1035 0, vR 12 0] h3 Qr Qx
      refine aw_callV (M' := mX12_saysPart) (S := []) (as := [vR 1035 0, vI r4]) (k := 0) dX12_formatNeeds_68 rfl (by decide) rfl rfl gw_2088 gw_2090 gw_82 mb_X12_saysPart rfl (Nat.zero_le _) (Nat.le_of_ble_eq_true rfl) rfl (CL.imp k (fun _ h5 k => ?_) (fun _ _ k => k))
      obtain ⟨rfl, k⟩ := oV_of k
      show AW X (d + 1) rb mX12_formatNeeds 71 _ [] h5 Qr Qx
      refine aw_aload_n (j := 0) (i := 0) dX12_formatNeeds_71 rfl rfl rfl ?_
      refine aw_iload_n (j := 2) (i := 2) dX12_formatNeeds_72 rfl rfl rfl ?_
      refine aw_callV (M' := mX12_saysName) (S := []) (as := [vI x2]) (k := 0) dX12_formatNeeds_73 rfl (by decide) rfl rfl gw_2079 gw_2081 gw_80 mb_X12_saysName rfl (Nat.zero_le _) (Nat.le_of_ble_eq_true rfl) rfl (CL.imp k (fun _ h6 k => ?_) (fun _ _ k => k))
      obtain ⟨rfl, k⟩ := oV_of k
      show AW X (d + 1) rb mX12_formatNeeds 76 _ [] h6 Qr Qx
      refine aw_iinc (i := 2) (j := 2) (v := x2 + 1) (L2 := [(2, vI (x2 + 1)), (0, vR 12 0), (1, vI x1)]) dX12_formatNeeds_76 rfl (by decide) rfl rfl rfl ?_
      refine aw_goto 36 dX12_formatNeeds_79 rfl ?_
      exact aw_sub [1, 2, 0] rfl k
    · replace k := k.2 c
      refine aw_goto 76 dX12_formatNeeds_55 rfl ?_
      refine aw_iinc (i := 2) (j := 2) (v := x2 + 1) (L2 := [(2, vI (x2 + 1)), (0, vR 12 0), (1, vI x1)]) dX12_formatNeeds_76 rfl (by decide) rfl rfl rfl ?_
      refine aw_goto 36 dX12_formatNeeds_79 rfl ?_
      exact aw_sub [1, 2, 0] rfl k
set_option maxHeartbeats 4000000 in
set_option maxRecDepth 100000 in
theorem vc_X12_formattedByte_0 {X : WD → State → Prop} {d rb : Nat} {h : Hp} {Qr : Option AV → Hp → Prop} {Qx : String → Hp → Prop} {a1 : Int32}  (k : CL 0 d mX12_in [vI a1, vI 0, vI (((hp_i h 12 0 0 0).1 12 0 24) - 1)] (hp_i h 12 0 0 0) (oI fun r2 h1 => ((r2 = 0) → Qr (some (vI (-1))) h1) ∧ ((¬ r2 = 0) → (vp_in a1 320) ∧ Qr (some (vI (h1.1 65 0 a1.toNatClampNeg))) h1)) Qx) : AW X (d + 1) rb mX12_formattedByte 0 [(0, vR 12 0), (1, vI a1)] [] h Qr Qx := by
  refine aw_aload_n (j := 0) (i := 0) dX12_formattedByte_0 rfl rfl rfl ?_
  refine aw_iconst (v := 0) dX12_formattedByte_1 rfl (by decide) ?_
  refine aw_puti (k := 0) dX12_formattedByte_2 rfl (by decide) rfl rfl cb_12 (by decide) rfl rfl gw_1594 ?_
  refine aw_iload_n (j := 1) (i := 1) dX12_formattedByte_5 rfl rfl rfl ?_
  refine aw_iconst (v := 0) dX12_formattedByte_6 rfl (by decide) ?_
  refine aw_aload_n (j := 0) (i := 0) dX12_formattedByte_7 rfl rfl rfl ?_
  refine aw_geti (k := 24) dX12_formattedByte_8 rfl (by decide) rfl rfl cb_12 (by decide) gw_1618 ?_
  refine aw_iconst (v := 1) dX12_formattedByte_11 rfl (by decide) ?_
  refine aw_isub dX12_formattedByte_12 rfl ?_
  refine aw_callS (M' := mX12_in) (S := []) (as := [vI a1, vI 0, vI (((hp_i h 12 0 0 0).1 12 0 24) - 1)]) (k := 0) dX12_formattedByte_13 rfl gw_1713 gw_1714 mb_X12_in rfl (Nat.zero_le _) (Nat.le_of_ble_eq_true rfl) rfl (CL.imp k (fun _ h1 k => ?_) (fun _ _ k => k))
  obtain ⟨r2, rfl, k⟩ := oI_of k
  show AW X (d + 1) rb mX12_formattedByte 16 _ [vI r2] h1 Qr Qx
  refine aw_if_eq 28 dX12_formattedByte_16 rfl rfl (fun c => ?_) (fun c => ?_)
  · replace k := k.1 c
    refine aw_iconst (v := (-1)) dX12_formattedByte_28 rfl (by decide) ?_
    exact aw_iret dX12_formattedByte_29 rfl k
  · replace k := k.2 c
    refine aw_aload_n (j := 0) (i := 0) dX12_formattedByte_19 rfl rfl rfl ?_
    refine aw_getf (k := 23) (z := 65) dX12_formattedByte_20 rfl (by decide) rfl rfl rfl cb_12 (by decide) gw_1617 ?_
    refine aw_iload_n (j := 1) (i := 1) dX12_formattedByte_23 rfl rfl rfl ?_
    refine aw_bald dX12_formattedByte_24 rfl (by decide) rfl k.1 ?_
    replace k := k.2
    refine aw_goto 29 dX12_formattedByte_25 rfl ?_
    exact aw_iret dX12_formattedByte_29 rfl k
