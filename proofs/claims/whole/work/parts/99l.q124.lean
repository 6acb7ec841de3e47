/-! making the objects: the straight constructors (ctor.py) -/
def fin_X4 (b : Nat) : List Value := [.int 0, .ref (b)]
def new_X4 (g : BC) (b : Nat) : List va_E := [.inl (g.2.2 1, (900, .inl fun _ => 0))]
theorem ct_X4 (g : BC) (d : Nat) : CT g (d + 1) 1 900 mX4_init 4 [.int 0, .null] fin_X4 (new_X4 g) := by
  refine CT.of (fun b => rfl) (by decide) (Nat.le_of_ble_eq_true rfl) (fun es k hk => ?_)
  refine bw_aload_n (j := 0) (a := g.1 + k) iX4_0 rfl rfl rfl rfl ?_
  refine bw_obj iX4_1 rfl gi_137 gi_118 gi_119 (Nat.le_of_ble_eq_true rfl) ?_
  refine bw_aload_n (j := 0) (a := g.1 + k) iX4_4 rfl rfl rfl rfl ?_
  refine bw_sipush (v := 900) iX4_5 rfl (by decide) ?_
  refine bn_newa (kc := 0) (ks := 0) (atype := .byte) (ty := .byte) (j := 1) (N := 900) (a0 := (900, .inl fun _ => 0)) (n0 := 0) iX4_8 rfl gi_147 rfl rfl (fun C h => nomatch h) (fun _ => rfl) (by decide) (by decide) (Nat.le_of_ble_eq_true rfl) rfl ?_
  refine bn_putF (j := 1) iX4_10 rfl cb_4 (by decide) gi_141 rfl rfl rfl rfl rfl (Nat.le_of_ble_eq_true rfl) hk ?_
  exact bw_ret iX4_13 rfl rfl

def fin_X9 (b : Nat) : List Value := [.int 0, .int 0, .ref (b), .int 0]
def new_X9 (g : BC) (b : Nat) : List va_E := (.inr (4, fin_X4 (b + 1)) :: new_X4 g (b + 1))
theorem ct_X9 (g : BC) (d : Nat) : CT g (d + 2) 2 902 mX9_init 9 [.int 0, .int 0, .null, .int 0] fin_X9 (new_X9 g) := by
  refine CT.of (fun b => rfl) (by decide) (Nat.le_of_ble_eq_true rfl) (fun es k hk => ?_)
  refine bw_aload_n (j := 0) (a := g.1 + k) iX9_0 rfl rfl rfl rfl ?_
  refine bw_obj iX9_1 rfl gi_131 gi_118 gi_119 (Nat.le_of_ble_eq_true rfl) ?_
  refine bw_aload_n (j := 0) (a := g.1 + k) iX9_4 rfl rfl rfl rfl ?_
  refine bn_new (kc := 1) (ks := 900) (ci := 4) (fs := [.int 0, .null]) (n0 := 0) iX9_5 rfl gi_132 gi_133 gi_89 cb_4 (by decide) rfl ?_
  refine bw_dup iX9_8 rfl rfl ?_
  refine bn_call (kc := 0) (ks := 0) (host := "OrderAssembler") (n0 := 0) iX9_9 rfl (Or.inl ni_134) gi_136 gi_89 ⟨by decide, by decide⟩ (by decide) (by decide) rfl rfl gi_135 (Nat.le_of_ble_eq_true rfl) (ct_X4 g (d + 0)) rfl ?_
  refine bn_putF (j := 2) iX9_12 rfl cb_9 (by decide) gi_152 rfl rfl rfl rfl rfl (Nat.le_of_ble_eq_true rfl) hk ?_
  exact bw_ret iX9_15 rfl rfl

def fin_X10 (b : Nat) : List Value := [.int 0, .int 0, .ref (b), .ref (b + 1), .ref (b + 2), .ref (b + 3), .ref (b + 4)]
def new_X10 (g : BC) (b : Nat) : List va_E := [.inl (g.2.2 0, (12, .inl fun _ => 0))] ++ [.inl (g.2.2 0, (12, .inl fun _ => 0))] ++ [.inl (g.2.2 0, (20, .inl fun _ => 0))] ++ [.inl (g.2.2 0, (20, .inl fun _ => 0))] ++ [.inl (g.2.2 0, (20, .inl fun _ => 0))]
theorem ct_X10 (g : BC) (d : Nat) : CT g (d + 1) 5 84 mX10_init 10 [.int 0, .int 0, .null, .null, .null, .null, .null] fin_X10 (new_X10 g) := by
  refine CT.of (fun b => rfl) (by decide) (Nat.le_of_ble_eq_true rfl) (fun es k hk => ?_)
  refine bw_aload_n (j := 0) (a := g.1 + k) iX10_0 rfl rfl rfl rfl ?_
  refine bw_obj iX10_1 rfl gi_236 gi_118 gi_119 (Nat.le_of_ble_eq_true rfl) ?_
  refine bw_aload_n (j := 0) (a := g.1 + k) iX10_4 rfl rfl rfl rfl ?_
  refine bw_bipush (v := 12) iX10_5 rfl (by decide) ?_
  refine bn_newa (kc := 4) (ks := 72) (atype := .int) (ty := .int) (j := 0) (N := 12) (a0 := (12, .inl fun _ => 0)) (n0 := 0) iX10_7 rfl gi_224 rfl rfl (fun C h => nomatch h) (fun _ => rfl) (by decide) (by decide) (Nat.le_of_ble_eq_true rfl) rfl ?_
  refine bn_putF (j := 2) iX10_9 rfl cb_10 (by decide) gi_242 rfl rfl rfl rfl rfl (Nat.le_of_ble_eq_true rfl) hk ?_
  refine bw_aload_n (j := 0) (a := g.1 + k) iX10_12 rfl rfl rfl rfl ?_
  refine bw_bipush (v := 12) iX10_13 rfl (by decide) ?_
  refine bn_newa (kc := 3) (ks := 60) (atype := .int) (ty := .int) (j := 0) (N := 12) (a0 := (12, .inl fun _ => 0)) (n0 := 1) iX10_15 rfl gi_224 rfl rfl (fun C h => nomatch h) (fun _ => rfl) (by decide) (by decide) (Nat.le_of_ble_eq_true rfl) rfl ?_
  refine bn_putF (j := 3) iX10_17 rfl cb_10 (by decide) gi_243 rfl rfl rfl rfl rfl (Nat.le_of_ble_eq_true rfl) hk ?_
  refine bw_aload_n (j := 0) (a := g.1 + k) iX10_20 rfl rfl rfl rfl ?_
  refine bw_bipush (v := 20) iX10_21 rfl (by decide) ?_
  refine bn_newa (kc := 2) (ks := 40) (atype := .int) (ty := .int) (j := 0) (N := 20) (a0 := (20, .inl fun _ => 0)) (n0 := 2) iX10_23 rfl gi_224 rfl rfl (fun C h => nomatch h) (fun _ => rfl) (by decide) (by decide) (Nat.le_of_ble_eq_true rfl) rfl ?_
  refine bn_putF (j := 4) iX10_25 rfl cb_10 (by decide) gi_244 rfl rfl rfl rfl rfl (Nat.le_of_ble_eq_true rfl) hk ?_
  refine bw_aload_n (j := 0) (a := g.1 + k) iX10_28 rfl rfl rfl rfl ?_
  refine bw_bipush (v := 20) iX10_29 rfl (by decide) ?_
  refine bn_newa (kc := 1) (ks := 20) (atype := .int) (ty := .int) (j := 0) (N := 20) (a0 := (20, .inl fun _ => 0)) (n0 := 3) iX10_31 rfl gi_224 rfl rfl (fun C h => nomatch h) (fun _ => rfl) (by decide) (by decide) (Nat.le_of_ble_eq_true rfl) rfl ?_
  refine bn_putF (j := 5) iX10_33 rfl cb_10 (by decide) gi_245 rfl rfl rfl rfl rfl (Nat.le_of_ble_eq_true rfl) hk ?_
  refine bw_aload_n (j := 0) (a := g.1 + k) iX10_36 rfl rfl rfl rfl ?_
  refine bw_bipush (v := 20) iX10_37 rfl (by decide) ?_
  refine bn_newa (kc := 0) (ks := 0) (atype := .int) (ty := .int) (j := 0) (N := 20) (a0 := (20, .inl fun _ => 0)) (n0 := 4) iX10_39 rfl gi_224 rfl rfl (fun C h => nomatch h) (fun _ => rfl) (by decide) (by decide) (Nat.le_of_ble_eq_true rfl) rfl ?_
  refine bn_putF (j := 6) iX10_41 rfl cb_10 (by decide) gi_246 rfl rfl rfl rfl rfl (Nat.le_of_ble_eq_true rfl) hk ?_
  exact bw_ret iX10_44 rfl rfl

def fin_X6 (b : Nat) : List Value := [.int 0, .ref (b), .ref (b + 1), .ref (b + 2), .ref (b + 3), .ref (b + 4), .ref (b + 5), .ref (b + 6), .ref (b + 7)]
def new_X6 (g : BC) (b : Nat) : List va_E := [.inl (g.2.2 0, (20, .inl fun _ => 0))] ++ [.inl (g.2.2 0, (20, .inl fun _ => 0))] ++ [.inl (g.2.2 0, (20, .inl fun _ => 0))] ++ [.inl (g.2.2 0, (20, .inl fun _ => 0))] ++ [.inl (g.2.2 3, (20, .inl fun _ => 0))] ++ [.inl (g.2.2 3, (20, .inl fun _ => 0))] ++ [.inl (g.2.2 0, (20, .inl fun _ => 0))] ++ [.inl (g.2.2 0, (20, .inl fun _ => 0))]
theorem ct_X6 (g : BC) (d : Nat) : CT g (d + 1) 8 160 mX6_init 6 [.int 0, .null, .null, .null, .null, .null, .null, .null, .null] fin_X6 (new_X6 g) := by
  refine CT.of (fun b => rfl) (by decide) (Nat.le_of_ble_eq_true rfl) (fun es k hk => ?_)
  refine bw_aload_n (j := 0) (a := g.1 + k) iX6_0 rfl rfl rfl rfl ?_
  refine bw_obj iX6_1 rfl gi_267 gi_118 gi_119 (Nat.le_of_ble_eq_true rfl) ?_
  refine bw_aload_n (j := 0) (a := g.1 + k) iX6_4 rfl rfl rfl rfl ?_
  refine bw_bipush (v := 20) iX6_5 rfl (by decide) ?_
  refine bn_newa (kc := 7) (ks := 140) (atype := .int) (ty := .int) (j := 0) (N := 20) (a0 := (20, .inl fun _ => 0)) (n0 := 0) iX6_7 rfl gi_224 rfl rfl (fun C h => nomatch h) (fun _ => rfl) (by decide) (by decide) (Nat.le_of_ble_eq_true rfl) rfl ?_
  refine bn_putF (j := 1) iX6_9 rfl cb_6 (by decide) gi_273 rfl rfl rfl rfl rfl (Nat.le_of_ble_eq_true rfl) hk ?_
  refine bw_aload_n (j := 0) (a := g.1 + k) iX6_12 rfl rfl rfl rfl ?_
  refine bw_bipush (v := 20) iX6_13 rfl (by decide) ?_
  refine bn_newa (kc := 6) (ks := 120) (atype := .int) (ty := .int) (j := 0) (N := 20) (a0 := (20, .inl fun _ => 0)) (n0 := 1) iX6_15 rfl gi_224 rfl rfl (fun C h => nomatch h) (fun _ => rfl) (by decide) (by decide) (Nat.le_of_ble_eq_true rfl) rfl ?_
  refine bn_putF (j := 2) iX6_17 rfl cb_6 (by decide) gi_274 rfl rfl rfl rfl rfl (Nat.le_of_ble_eq_true rfl) hk ?_
  refine bw_aload_n (j := 0) (a := g.1 + k) iX6_20 rfl rfl rfl rfl ?_
  refine bw_bipush (v := 20) iX6_21 rfl (by decide) ?_
  refine bn_newa (kc := 5) (ks := 100) (atype := .int) (ty := .int) (j := 0) (N := 20) (a0 := (20, .inl fun _ => 0)) (n0 := 2) iX6_23 rfl gi_224 rfl rfl (fun C h => nomatch h) (fun _ => rfl) (by decide) (by decide) (Nat.le_of_ble_eq_true rfl) rfl ?_
  refine bn_putF (j := 3) iX6_25 rfl cb_6 (by decide) gi_275 rfl rfl rfl rfl rfl (Nat.le_of_ble_eq_true rfl) hk ?_
  refine bw_aload_n (j := 0) (a := g.1 + k) iX6_28 rfl rfl rfl rfl ?_
  refine bw_bipush (v := 20) iX6_29 rfl (by decide) ?_
  refine bn_newa (kc := 4) (ks := 80) (atype := .int) (ty := .int) (j := 0) (N := 20) (a0 := (20, .inl fun _ => 0)) (n0 := 3) iX6_31 rfl gi_224 rfl rfl (fun C h => nomatch h) (fun _ => rfl) (by decide) (by decide) (Nat.le_of_ble_eq_true rfl) rfl ?_
  refine bn_putF (j := 4) iX6_33 rfl cb_6 (by decide) gi_276 rfl rfl rfl rfl rfl (Nat.le_of_ble_eq_true rfl) hk ?_
  refine bw_aload_n (j := 0) (a := g.1 + k) iX6_36 rfl rfl rfl rfl ?_
  refine bw_bipush (v := 20) iX6_37 rfl (by decide) ?_
  refine bn_newa (kc := 3) (ks := 60) (atype := .boolean) (ty := .boolean) (j := 3) (N := 20) (a0 := (20, .inl fun _ => 0)) (n0 := 4) iX6_39 rfl gi_300 rfl rfl (fun C h => nomatch h) (fun _ => rfl) (by decide) (by decide) (Nat.le_of_ble_eq_true rfl) rfl ?_
  refine bn_putF (j := 5) iX6_41 rfl cb_6 (by decide) gi_277 rfl rfl rfl rfl rfl (Nat.le_of_ble_eq_true rfl) hk ?_
  refine bw_aload_n (j := 0) (a := g.1 + k) iX6_44 rfl rfl rfl rfl ?_
  refine bw_bipush (v := 20) iX6_45 rfl (by decide) ?_
  refine bn_newa (kc := 2) (ks := 40) (atype := .boolean) (ty := .boolean) (j := 3) (N := 20) (a0 := (20, .inl fun _ => 0)) (n0 := 5) iX6_47 rfl gi_300 rfl rfl (fun C h => nomatch h) (fun _ => rfl) (by decide) (by decide) (Nat.le_of_ble_eq_true rfl) rfl ?_
  refine bn_putF (j := 6) iX6_49 rfl cb_6 (by decide) gi_278 rfl rfl rfl rfl rfl (Nat.le_of_ble_eq_true rfl) hk ?_
  refine bw_aload_n (j := 0) (a := g.1 + k) iX6_52 rfl rfl rfl rfl ?_
  refine bw_bipush (v := 20) iX6_53 rfl (by decide) ?_
  refine bn_newa (kc := 1) (ks := 20) (atype := .int) (ty := .int) (j := 0) (N := 20) (a0 := (20, .inl fun _ => 0)) (n0 := 6) iX6_55 rfl gi_224 rfl rfl (fun C h => nomatch h) (fun _ => rfl) (by decide) (by decide) (Nat.le_of_ble_eq_true rfl) rfl ?_
  refine bn_putF (j := 7) iX6_57 rfl cb_6 (by decide) gi_279 rfl rfl rfl rfl rfl (Nat.le_of_ble_eq_true rfl) hk ?_
  refine bw_aload_n (j := 0) (a := g.1 + k) iX6_60 rfl rfl rfl rfl ?_
  refine bw_bipush (v := 20) iX6_61 rfl (by decide) ?_
  refine bn_newa (kc := 0) (ks := 0) (atype := .int) (ty := .int) (j := 0) (N := 20) (a0 := (20, .inl fun _ => 0)) (n0 := 7) iX6_63 rfl gi_224 rfl rfl (fun C h => nomatch h) (fun _ => rfl) (by decide) (by decide) (Nat.le_of_ble_eq_true rfl) rfl ?_
  refine bn_putF (j := 8) iX6_65 rfl cb_6 (by decide) gi_280 rfl rfl rfl rfl rfl (Nat.le_of_ble_eq_true rfl) hk ?_
  exact bw_ret iX6_68 rfl rfl

def fin_X8 (b : Nat) : List Value := [.ref (b), .ref (b + 1), .ref (b + 2), .ref (b + 3)]
def new_X8 (g : BC) (b : Nat) : List va_E := [.inl (g.2.2 0, (5, .inl fun _ => 0))] ++ [.inl (g.2.2 0, (16, .inl fun _ => 0))] ++ [.inl (g.2.2 0, (16, .inl fun _ => 0))] ++ [.inl (g.2.2 0, (16, .inl fun _ => 0))]
theorem ct_X8 (g : BC) (d : Nat) : CT g (d + 1) 4 53 mX8_init 8 [.null, .null, .null, .null] fin_X8 (new_X8 g) := by
  refine CT.of (fun b => rfl) (by decide) (Nat.le_of_ble_eq_true rfl) (fun es k hk => ?_)
  refine bw_aload_n (j := 0) (a := g.1 + k) iX8_0 rfl rfl rfl rfl ?_
  refine bw_obj iX8_1 rfl gi_306 gi_118 gi_119 (Nat.le_of_ble_eq_true rfl) ?_
  refine bw_aload_n (j := 0) (a := g.1 + k) iX8_4 rfl rfl rfl rfl ?_
  refine bw_iconst (v := 5) iX8_5 rfl (by decide) ?_
  refine bn_newa (kc := 3) (ks := 48) (atype := .int) (ty := .int) (j := 0) (N := 5) (a0 := (5, .inl fun _ => 0)) (n0 := 0) iX8_6 rfl gi_224 rfl rfl (fun C h => nomatch h) (fun _ => rfl) (by decide) (by decide) (Nat.le_of_ble_eq_true rfl) rfl ?_
  refine bn_putF (j := 0) iX8_8 rfl cb_8 (by decide) gi_307 rfl rfl rfl rfl rfl (Nat.le_of_ble_eq_true rfl) hk ?_
  refine bw_aload_n (j := 0) (a := g.1 + k) iX8_11 rfl rfl rfl rfl ?_
  refine bw_bipush (v := 16) iX8_12 rfl (by decide) ?_
  refine bn_newa (kc := 2) (ks := 32) (atype := .int) (ty := .int) (j := 0) (N := 16) (a0 := (16, .inl fun _ => 0)) (n0 := 1) iX8_14 rfl gi_224 rfl rfl (fun C h => nomatch h) (fun _ => rfl) (by decide) (by decide) (Nat.le_of_ble_eq_true rfl) rfl ?_
  refine bn_putF (j := 1) iX8_16 rfl cb_8 (by decide) gi_308 rfl rfl rfl rfl rfl (Nat.le_of_ble_eq_true rfl) hk ?_
  refine bw_aload_n (j := 0) (a := g.1 + k) iX8_19 rfl rfl rfl rfl ?_
  refine bw_bipush (v := 16) iX8_20 rfl (by decide) ?_
  refine bn_newa (kc := 1) (ks := 16) (atype := .int) (ty := .int) (j := 0) (N := 16) (a0 := (16, .inl fun _ => 0)) (n0 := 2) iX8_22 rfl gi_224 rfl rfl (fun C h => nomatch h) (fun _ => rfl) (by decide) (by decide) (Nat.le_of_ble_eq_true rfl) rfl ?_
  refine bn_putF (j := 2) iX8_24 rfl cb_8 (by decide) gi_309 rfl rfl rfl rfl rfl (Nat.le_of_ble_eq_true rfl) hk ?_
  refine bw_aload_n (j := 0) (a := g.1 + k) iX8_27 rfl rfl rfl rfl ?_
  refine bw_bipush (v := 16) iX8_28 rfl (by decide) ?_
  refine bn_newa (kc := 0) (ks := 0) (atype := .int) (ty := .int) (j := 0) (N := 16) (a0 := (16, .inl fun _ => 0)) (n0 := 3) iX8_30 rfl gi_224 rfl rfl (fun C h => nomatch h) (fun _ => rfl) (by decide) (by decide) (Nat.le_of_ble_eq_true rfl) rfl ?_
  refine bn_putF (j := 3) iX8_32 rfl cb_8 (by decide) gi_310 rfl rfl rfl rfl rfl (Nat.le_of_ble_eq_true rfl) hk ?_
  exact bw_ret iX8_35 rfl rfl

def fin_X5 (b : Nat) : List Value := [.ref (b), .ref (b + 6), .ref (b + 15)]
def new_X5 (g : BC) (b : Nat) : List va_E := (.inr (10, fin_X10 (b + 1)) :: new_X10 g (b + 1)) ++ (.inr (6, fin_X6 (b + 7)) :: new_X6 g (b + 7)) ++ (.inr (8, fin_X8 (b + 16)) :: new_X8 g (b + 16))
theorem ct_X5 (g : BC) (d : Nat) : CT g (d + 2) 20 317 mX5_init 5 [.null, .null, .null] fin_X5 (new_X5 g) := by
  refine CT.of (fun b => rfl) (by decide) (Nat.le_of_ble_eq_true rfl) (fun es k hk => ?_)
  refine bw_aload_n (j := 0) (a := g.1 + k) iX5_0 rfl rfl rfl rfl ?_
  refine bw_obj iX5_1 rfl gi_230 gi_118 gi_119 (Nat.le_of_ble_eq_true rfl) ?_
  refine bw_aload_n (j := 0) (a := g.1 + k) iX5_4 rfl rfl rfl rfl ?_
  refine bn_new (kc := 19) (ks := 310) (ci := 10) (fs := [.int 0, .int 0, .null, .null, .null, .null, .null]) (n0 := 0) iX5_5 rfl gi_231 gi_232 gi_92 cb_10 (by decide) rfl ?_
  refine bw_dup iX5_8 rfl rfl ?_
  refine bn_call (kc := 14) (ks := 226) (host := "OrderAssembler") (n0 := 0) iX5_9 rfl (Or.inl ni_233) gi_235 gi_92 ⟨by decide, by decide⟩ (by decide) (by decide) rfl rfl gi_234 (Nat.le_of_ble_eq_true rfl) (ct_X10 g (d + 0)) rfl ?_
  refine bn_putF (j := 0) iX5_12 rfl cb_5 (by decide) gi_320 rfl rfl rfl rfl rfl (Nat.le_of_ble_eq_true rfl) hk ?_
  refine bw_aload_n (j := 0) (a := g.1 + k) iX5_15 rfl rfl rfl rfl ?_
  refine bn_new (kc := 13) (ks := 217) (ci := 6) (fs := [.int 0, .null, .null, .null, .null, .null, .null, .null, .null]) (n0 := 6) iX5_16 rfl gi_262 gi_263 gi_93 cb_6 (by decide) rfl ?_
  refine bw_dup iX5_19 rfl rfl ?_
  refine bn_call (kc := 5) (ks := 57) (host := "OrderAssembler") (n0 := 6) iX5_20 rfl (Or.inl ni_264) gi_266 gi_93 ⟨by decide, by decide⟩ (by decide) (by decide) rfl rfl gi_265 (Nat.le_of_ble_eq_true rfl) (ct_X6 g (d + 0)) rfl ?_
  refine bn_putF (j := 1) iX5_23 rfl cb_5 (by decide) gi_324 rfl rfl rfl rfl rfl (Nat.le_of_ble_eq_true rfl) hk ?_
  refine bw_aload_n (j := 0) (a := g.1 + k) iX5_26 rfl rfl rfl rfl ?_
  refine bn_new (kc := 4) (ks := 53) (ci := 8) (fs := [.null, .null, .null, .null]) (n0 := 15) iX5_27 rfl gi_301 gi_302 gi_94 cb_8 (by decide) rfl ?_
  refine bw_dup iX5_30 rfl rfl ?_
  refine bn_call (kc := 0) (ks := 0) (host := "OrderAssembler") (n0 := 15) iX5_31 rfl (Or.inl ni_303) gi_305 gi_94 ⟨by decide, by decide⟩ (by decide) (by decide) rfl rfl gi_304 (Nat.le_of_ble_eq_true rfl) (ct_X8 g (d + 0)) rfl ?_
  refine bn_putF (j := 2) iX5_34 rfl cb_5 (by decide) gi_328 rfl rfl rfl rfl rfl (Nat.le_of_ble_eq_true rfl) hk ?_
  exact bw_ret iX5_37 rfl rfl

def fin_X1 (b : Nat) : List Value := [.int 0, .int 0, .int 0, .ref (b), .ref (b + 1), .ref (b + 2), .ref (b + 3), .ref (b + 4), .ref (b + 5), .ref (b + 14), .ref (b + 23), .ref (b + 32), .ref (b + 33), .ref (b + 34)]
def new_X1 (g : BC) (b : Nat) : List va_E := [.inl (g.2.2 2, (12, .inr (.inl fun _ => 0)))] ++ [.inl (g.2.2 0, (12, .inl fun _ => 0))] ++ [.inl (g.2.2 2, (8, .inr (.inl fun _ => 0)))] ++ [.inl (g.2.2 0, (8, .inl fun _ => 0))] ++ [.inl (g.2.2 0, (8, .inl fun _ => 0))] ++ bz_rows g (b + 5) 8 6 ++ bz_rows g (b + 14) 8 6 ++ bz_rows g (b + 23) 8 12 ++ [.inl (g.2.2 0, (6, .inl fun _ => 0))] ++ [.inl (g.2.2 0, (6, .inl fun _ => 0))] ++ [.inl (g.2.2 0, (6, .inl fun _ => 0))]
theorem ct_X1 (g : BC) (d : Nat) : CT g (d + 1) 35 282 mX1_init 1 [.int 0, .int 0, .int 0, .null, .null, .null, .null, .null, .null, .null, .null, .null, .null, .null] fin_X1 (new_X1 g) := by
  refine CT.of (fun b => rfl) (by decide) (Nat.le_of_ble_eq_true rfl) (fun es k hk => ?_)
  refine bw_aload_n (j := 0) (a := g.1 + k) iX1_0 rfl rfl rfl rfl ?_
  refine bw_obj iX1_1 rfl gi_169 gi_118 gi_119 (Nat.le_of_ble_eq_true rfl) ?_
  refine bw_aload_n (j := 0) (a := g.1 + k) iX1_4 rfl rfl rfl rfl ?_
  refine bw_bipush (v := 12) iX1_5 rfl (by decide) ?_
  refine bn_newa (kc := 34) (ks := 270) (atype := .long) (ty := .long) (j := 2) (N := 12) (a0 := (12, .inr (.inl fun _ => 0))) (n0 := 0) iX1_7 rfl gi_223 rfl rfl (fun C h => nomatch h) (fun _ => rfl) (by decide) (by decide) (Nat.le_of_ble_eq_true rfl) rfl ?_
  refine bn_putF (j := 3) iX1_9 rfl cb_1 (by decide) gi_183 rfl rfl rfl rfl rfl (Nat.le_of_ble_eq_true rfl) hk ?_
  refine bw_aload_n (j := 0) (a := g.1 + k) iX1_12 rfl rfl rfl rfl ?_
  refine bw_bipush (v := 12) iX1_13 rfl (by decide) ?_
  refine bn_newa (kc := 33) (ks := 258) (atype := .int) (ty := .int) (j := 0) (N := 12) (a0 := (12, .inl fun _ => 0)) (n0 := 1) iX1_15 rfl gi_224 rfl rfl (fun C h => nomatch h) (fun _ => rfl) (by decide) (by decide) (Nat.le_of_ble_eq_true rfl) rfl ?_
  refine bn_putF (j := 4) iX1_17 rfl cb_1 (by decide) gi_184 rfl rfl rfl rfl rfl (Nat.le_of_ble_eq_true rfl) hk ?_
  refine bw_aload_n (j := 0) (a := g.1 + k) iX1_20 rfl rfl rfl rfl ?_
  refine bw_bipush (v := 8) iX1_21 rfl (by decide) ?_
  refine bn_newa (kc := 32) (ks := 250) (atype := .long) (ty := .long) (j := 2) (N := 8) (a0 := (8, .inr (.inl fun _ => 0))) (n0 := 2) iX1_23 rfl gi_223 rfl rfl (fun C h => nomatch h) (fun _ => rfl) (by decide) (by decide) (Nat.le_of_ble_eq_true rfl) rfl ?_
  refine bn_putF (j := 5) iX1_25 rfl cb_1 (by decide) gi_185 rfl rfl rfl rfl rfl (Nat.le_of_ble_eq_true rfl) hk ?_
  refine bw_aload_n (j := 0) (a := g.1 + k) iX1_28 rfl rfl rfl rfl ?_
  refine bw_bipush (v := 8) iX1_29 rfl (by decide) ?_
  refine bn_newa (kc := 31) (ks := 242) (atype := .int) (ty := .int) (j := 0) (N := 8) (a0 := (8, .inl fun _ => 0)) (n0 := 3) iX1_31 rfl gi_224 rfl rfl (fun C h => nomatch h) (fun _ => rfl) (by decide) (by decide) (Nat.le_of_ble_eq_true rfl) rfl ?_
  refine bn_putF (j := 6) iX1_33 rfl cb_1 (by decide) gi_186 rfl rfl rfl rfl rfl (Nat.le_of_ble_eq_true rfl) hk ?_
  refine bw_aload_n (j := 0) (a := g.1 + k) iX1_36 rfl rfl rfl rfl ?_
  refine bw_bipush (v := 8) iX1_37 rfl (by decide) ?_
  refine bn_newa (kc := 30) (ks := 234) (atype := .int) (ty := .int) (j := 0) (N := 8) (a0 := (8, .inl fun _ => 0)) (n0 := 4) iX1_39 rfl gi_224 rfl rfl (fun C h => nomatch h) (fun _ => rfl) (by decide) (by decide) (Nat.le_of_ble_eq_true rfl) rfl ?_
  refine bn_putF (j := 7) iX1_41 rfl cb_1 (by decide) gi_187 rfl rfl rfl rfl rfl (Nat.le_of_ble_eq_true rfl) hk ?_
  refine bw_aload_n (j := 0) (a := g.1 + k) iX1_44 rfl rfl rfl rfl ?_
  refine bw_bipush (v := 8) iX1_45 rfl (by decide) ?_
  refine bw_bipush (v := 6) iX1_47 rfl (by decide) ?_
  refine bn_multi (kc := 21) (ks := 178) (N := 8) (K := 6) (n0 := 5) iX1_49 rfl gi_170 ni_171 gi_224 (by decide) (by decide) (by decide) (by decide) (by decide) (by decide) rfl ?_
  refine bn_putF (j := 8) iX1_53 rfl cb_1 (by decide) gi_188 rfl rfl rfl rfl rfl (Nat.le_of_ble_eq_true rfl) hk ?_
  refine bw_aload_n (j := 0) (a := g.1 + k) iX1_56 rfl rfl rfl rfl ?_
  refine bw_bipush (v := 8) iX1_57 rfl (by decide) ?_
  refine bw_bipush (v := 6) iX1_59 rfl (by decide) ?_
  refine bn_multi (kc := 12) (ks := 122) (N := 8) (K := 6) (n0 := 14) iX1_61 rfl gi_170 ni_171 gi_224 (by decide) (by decide) (by decide) (by decide) (by decide) (by decide) rfl ?_
  refine bn_putF (j := 9) iX1_65 rfl cb_1 (by decide) gi_189 rfl rfl rfl rfl rfl (Nat.le_of_ble_eq_true rfl) hk ?_
  refine bw_aload_n (j := 0) (a := g.1 + k) iX1_68 rfl rfl rfl rfl ?_
  refine bw_bipush (v := 8) iX1_69 rfl (by decide) ?_
  refine bw_bipush (v := 12) iX1_71 rfl (by decide) ?_
  refine bn_multi (kc := 3) (ks := 18) (N := 8) (K := 12) (n0 := 23) iX1_73 rfl gi_170 ni_171 gi_224 (by decide) (by decide) (by decide) (by decide) (by decide) (by decide) rfl ?_
  refine bn_putF (j := 10) iX1_77 rfl cb_1 (by decide) gi_190 rfl rfl rfl rfl rfl (Nat.le_of_ble_eq_true rfl) hk ?_
  refine bw_aload_n (j := 0) (a := g.1 + k) iX1_80 rfl rfl rfl rfl ?_
  refine bw_bipush (v := 6) iX1_81 rfl (by decide) ?_
  refine bn_newa (kc := 2) (ks := 12) (atype := .int) (ty := .int) (j := 0) (N := 6) (a0 := (6, .inl fun _ => 0)) (n0 := 32) iX1_83 rfl gi_224 rfl rfl (fun C h => nomatch h) (fun _ => rfl) (by decide) (by decide) (Nat.le_of_ble_eq_true rfl) rfl ?_
  refine bn_putF (j := 11) iX1_85 rfl cb_1 (by decide) gi_191 rfl rfl rfl rfl rfl (Nat.le_of_ble_eq_true rfl) hk ?_
  refine bw_aload_n (j := 0) (a := g.1 + k) iX1_88 rfl rfl rfl rfl ?_
  refine bw_bipush (v := 6) iX1_89 rfl (by decide) ?_
  refine bn_newa (kc := 1) (ks := 6) (atype := .int) (ty := .int) (j := 0) (N := 6) (a0 := (6, .inl fun _ => 0)) (n0 := 33) iX1_91 rfl gi_224 rfl rfl (fun C h => nomatch h) (fun _ => rfl) (by decide) (by decide) (Nat.le_of_ble_eq_true rfl) rfl ?_
  refine bn_putF (j := 12) iX1_93 rfl cb_1 (by decide) gi_192 rfl rfl rfl rfl rfl (Nat.le_of_ble_eq_true rfl) hk ?_
  refine bw_aload_n (j := 0) (a := g.1 + k) iX1_96 rfl rfl rfl rfl ?_
  refine bw_bipush (v := 6) iX1_97 rfl (by decide) ?_
  refine bn_newa (kc := 0) (ks := 0) (atype := .int) (ty := .int) (j := 0) (N := 6) (a0 := (6, .inl fun _ => 0)) (n0 := 34) iX1_99 rfl gi_224 rfl rfl (fun C h => nomatch h) (fun _ => rfl) (by decide) (by decide) (Nat.le_of_ble_eq_true rfl) rfl ?_
  refine bn_putF (j := 13) iX1_101 rfl cb_1 (by decide) gi_193 rfl rfl rfl rfl rfl (Nat.le_of_ble_eq_true rfl) hk ?_
  exact bw_ret iX1_104 rfl rfl

def fin_X7 (b : Nat) : List Value := [.int (-1), .int 0, .ref (b), .ref (b + 3), .ref (b + 39)]
def new_X7 (g : BC) (b : Nat) : List va_E := (.inr (9, fin_X9 (b + 1)) :: new_X9 g (b + 1)) ++ (.inr (1, fin_X1 (b + 4)) :: new_X1 g (b + 4)) ++ (.inr (5, fin_X5 (b + 40)) :: new_X5 g (b + 40))
theorem ct_X7 (g : BC) (d : Nat) : CT g (d + 3) 60 1522 mX7_init 7 [.int 0, .int 0, .null, .null, .null] fin_X7 (new_X7 g) := by
  refine CT.of (fun b => rfl) (by decide) (Nat.le_of_ble_eq_true rfl) (fun es k hk => ?_)
  refine bw_aload_n (j := 0) (a := g.1 + k) iX7_0 rfl rfl rfl rfl ?_
  refine bw_obj iX7_1 rfl gi_125 gi_118 gi_119 (Nat.le_of_ble_eq_true rfl) ?_
  refine bw_aload_n (j := 0) (a := g.1 + k) iX7_4 rfl rfl rfl rfl ?_
  refine bw_iconst (v := -1) iX7_5 rfl (by decide) ?_
  refine bn_put (j := 0) iX7_6 rfl cb_7 (by decide) gi_337 rfl rfl rfl (Nat.le_of_ble_eq_true rfl) hk ?_
  refine bw_aload_n (j := 0) (a := g.1 + k) iX7_9 rfl rfl rfl rfl ?_
  refine bn_new (kc := 59) (ks := 1518) (ci := 9) (fs := [.int 0, .int 0, .null, .int 0]) (n0 := 0) iX7_10 rfl gi_126 gi_127 gi_88 cb_9 (by decide) rfl ?_
  refine bw_dup iX7_13 rfl rfl ?_
  refine bn_call (kc := 57) (ks := 616) (host := "OrderAssembler") (n0 := 0) iX7_14 rfl (Or.inl ni_128) gi_130 gi_88 ⟨by decide, by decide⟩ (by decide) (by decide) rfl rfl gi_129 (Nat.le_of_ble_eq_true rfl) (ct_X9 g (d + 0)) rfl ?_
  refine bn_putF (j := 2) iX7_17 rfl cb_7 (by decide) gi_341 rfl rfl rfl rfl rfl (Nat.le_of_ble_eq_true rfl) hk ?_
  refine bw_aload_n (j := 0) (a := g.1 + k) iX7_20 rfl rfl rfl rfl ?_
  refine bn_new (kc := 56) (ks := 602) (ci := 1) (fs := [.int 0, .int 0, .int 0, .null, .null, .null, .null, .null, .null, .null, .null, .null, .null, .null]) (n0 := 3) iX7_21 rfl gi_164 gi_165 gi_90 cb_1 (by decide) rfl ?_
  refine bw_dup iX7_24 rfl rfl ?_
  refine bn_call (kc := 21) (ks := 320) (host := "OrderAssembler") (n0 := 3) iX7_25 rfl (Or.inl ni_166) gi_168 gi_90 ⟨by decide, by decide⟩ (by decide) (by decide) rfl rfl gi_167 (Nat.le_of_ble_eq_true rfl) (ct_X1 g (d + 1)) rfl ?_
  refine bn_put (j := 3) iX7_28 rfl cb_7 (by decide) gi_343 rfl rfl rfl (Nat.le_of_ble_eq_true rfl) hk ?_
  refine bw_aload_n (j := 0) (a := g.1 + k) iX7_31 rfl rfl rfl rfl ?_
  refine bn_new (kc := 20) (ks := 317) (ci := 5) (fs := [.null, .null, .null]) (n0 := 39) iX7_32 rfl gi_225 gi_226 gi_91 cb_5 (by decide) rfl ?_
  refine bw_dup iX7_35 rfl rfl ?_
  refine bn_call (kc := 0) (ks := 0) (host := "OrderAssembler") (n0 := 39) iX7_36 rfl (Or.inl ni_227) gi_229 gi_91 ⟨by decide, by decide⟩ (by decide) (by decide) rfl rfl gi_228 (Nat.le_of_ble_eq_true rfl) (ct_X5 g (d + 0)) rfl ?_
  refine bn_put (j := 4) iX7_39 rfl cb_7 (by decide) gi_344 rfl rfl rfl (Nat.le_of_ble_eq_true rfl) hk ?_
  exact bw_ret iX7_42 rfl rfl

def fin_X0 (b : Nat) : List Value := [.ref (b), .ref (b + 1), .ref (b + 2), .ref (b + 3), .ref (b + 4), .ref (b + 5)]
def new_X0 (g : BC) (b : Nat) : List va_E := [.inl (g.2.2 0, (12, .inl fun _ => 0))] ++ [.inl (g.2.2 0, (12, .inl fun _ => 0))] ++ [.inl (g.2.2 0, (20, .inl fun _ => 0))] ++ [.inl (g.2.2 0, (20, .inl fun _ => 0))] ++ [.inl (g.2.2 0, (20, .inl fun _ => 0))] ++ [.inl (g.2.2 0, (6, .inl fun _ => 0))]
theorem ct_X0 (g : BC) (d : Nat) : CT g (d + 1) 6 90 mX0_init 0 [.null, .null, .null, .null, .null, .null] fin_X0 (new_X0 g) := by
  refine CT.of (fun b => rfl) (by decide) (Nat.le_of_ble_eq_true rfl) (fun es k hk => ?_)
  refine bw_aload_n (j := 0) (a := g.1 + k) iX0_0 rfl rfl rfl rfl ?_
  refine bw_obj iX0_1 rfl gi_381 gi_118 gi_119 (Nat.le_of_ble_eq_true rfl) ?_
  refine bw_aload_n (j := 0) (a := g.1 + k) iX0_4 rfl rfl rfl rfl ?_
  refine bw_bipush (v := 12) iX0_5 rfl (by decide) ?_
  refine bn_newa (kc := 5) (ks := 78) (atype := .int) (ty := .int) (j := 0) (N := 12) (a0 := (12, .inl fun _ => 0)) (n0 := 0) iX0_7 rfl gi_224 rfl rfl (fun C h => nomatch h) (fun _ => rfl) (by decide) (by decide) (Nat.le_of_ble_eq_true rfl) rfl ?_
  refine bn_putF (j := 0) iX0_9 rfl cb_0 (by decide) gi_382 rfl rfl rfl rfl rfl (Nat.le_of_ble_eq_true rfl) hk ?_
  refine bw_aload_n (j := 0) (a := g.1 + k) iX0_12 rfl rfl rfl rfl ?_
  refine bw_bipush (v := 12) iX0_13 rfl (by decide) ?_
  refine bn_newa (kc := 4) (ks := 66) (atype := .int) (ty := .int) (j := 0) (N := 12) (a0 := (12, .inl fun _ => 0)) (n0 := 1) iX0_15 rfl gi_224 rfl rfl (fun C h => nomatch h) (fun _ => rfl) (by decide) (by decide) (Nat.le_of_ble_eq_true rfl) rfl ?_
  refine bn_putF (j := 1) iX0_17 rfl cb_0 (by decide) gi_383 rfl rfl rfl rfl rfl (Nat.le_of_ble_eq_true rfl) hk ?_
  refine bw_aload_n (j := 0) (a := g.1 + k) iX0_20 rfl rfl rfl rfl ?_
  refine bw_bipush (v := 20) iX0_21 rfl (by decide) ?_
  refine bn_newa (kc := 3) (ks := 46) (atype := .int) (ty := .int) (j := 0) (N := 20) (a0 := (20, .inl fun _ => 0)) (n0 := 2) iX0_23 rfl gi_224 rfl rfl (fun C h => nomatch h) (fun _ => rfl) (by decide) (by decide) (Nat.le_of_ble_eq_true rfl) rfl ?_
  refine bn_putF (j := 2) iX0_25 rfl cb_0 (by decide) gi_384 rfl rfl rfl rfl rfl (Nat.le_of_ble_eq_true rfl) hk ?_
  refine bw_aload_n (j := 0) (a := g.1 + k) iX0_28 rfl rfl rfl rfl ?_
  refine bw_bipush (v := 20) iX0_29 rfl (by decide) ?_
  refine bn_newa (kc := 2) (ks := 26) (atype := .int) (ty := .int) (j := 0) (N := 20) (a0 := (20, .inl fun _ => 0)) (n0 := 3) iX0_31 rfl gi_224 rfl rfl (fun C h => nomatch h) (fun _ => rfl) (by decide) (by decide) (Nat.le_of_ble_eq_true rfl) rfl ?_
  refine bn_putF (j := 3) iX0_33 rfl cb_0 (by decide) gi_385 rfl rfl rfl rfl rfl (Nat.le_of_ble_eq_true rfl) hk ?_
  refine bw_aload_n (j := 0) (a := g.1 + k) iX0_36 rfl rfl rfl rfl ?_
  refine bw_bipush (v := 20) iX0_37 rfl (by decide) ?_
  refine bn_newa (kc := 1) (ks := 6) (atype := .int) (ty := .int) (j := 0) (N := 20) (a0 := (20, .inl fun _ => 0)) (n0 := 4) iX0_39 rfl gi_224 rfl rfl (fun C h => nomatch h) (fun _ => rfl) (by decide) (by decide) (Nat.le_of_ble_eq_true rfl) rfl ?_
  refine bn_putF (j := 4) iX0_41 rfl cb_0 (by decide) gi_386 rfl rfl rfl rfl rfl (Nat.le_of_ble_eq_true rfl) hk ?_
  refine bw_aload_n (j := 0) (a := g.1 + k) iX0_44 rfl rfl rfl rfl ?_
  refine bw_bipush (v := 6) iX0_45 rfl (by decide) ?_
  refine bn_newa (kc := 0) (ks := 0) (atype := .int) (ty := .int) (j := 0) (N := 6) (a0 := (6, .inl fun _ => 0)) (n0 := 5) iX0_47 rfl gi_224 rfl rfl (fun C h => nomatch h) (fun _ => rfl) (by decide) (by decide) (Nat.le_of_ble_eq_true rfl) rfl ?_
  refine bn_putF (j := 5) iX0_49 rfl cb_0 (by decide) gi_387 rfl rfl rfl rfl rfl (Nat.le_of_ble_eq_true rfl) hk ?_
  exact bw_ret iX0_52 rfl rfl

def fin_X2 (b : Nat) : List Value := [.int 0, .ref (b)]
def new_X2 (g : BC) (b : Nat) : List va_E := [.inl (g.2.2 1, (200, .inl fun _ => 0))]
theorem ct_X2 (g : BC) (d : Nat) : CT g (d + 1) 1 200 mX2_init 2 [.int 0, .null] fin_X2 (new_X2 g) := by
  refine CT.of (fun b => rfl) (by decide) (Nat.le_of_ble_eq_true rfl) (fun es k hk => ?_)
  refine bw_aload_n (j := 0) (a := g.1 + k) iX2_0 rfl rfl rfl rfl ?_
  refine bw_obj iX2_1 rfl gi_406 gi_118 gi_119 (Nat.le_of_ble_eq_true rfl) ?_
  refine bw_aload_n (j := 0) (a := g.1 + k) iX2_4 rfl rfl rfl rfl ?_
  refine bw_sipush (v := 200) iX2_5 rfl (by decide) ?_
  refine bn_newa (kc := 0) (ks := 0) (atype := .byte) (ty := .byte) (j := 1) (N := 200) (a0 := (200, .inl fun _ => 0)) (n0 := 0) iX2_8 rfl gi_147 rfl rfl (fun C h => nomatch h) (fun _ => rfl) (by decide) (by decide) (Nat.le_of_ble_eq_true rfl) rfl ?_
  refine bn_putF (j := 1) iX2_10 rfl cb_2 (by decide) gi_409 rfl rfl rfl rfl rfl (Nat.le_of_ble_eq_true rfl) hk ?_
  exact bw_ret iX2_13 rfl rfl
