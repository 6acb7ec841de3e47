/-! making the objects: OrderAssembler (ctor2.py) -/
theorem bn_get {g : BC} {d kc ks : Nat} {M : MD} {pc n k q j idx ci N : Nat} {L : List (Nat × Value)} {S : List Value} {es seg : List va_E} {v : va_E} {w : Value} {fs : List Value} {C : String} {T : u_T} {ty0 : Nat → FieldType} {Q : BK} (hd : decode M.2.1 pc = .ok (.getfield idx, 3)) (hn : pc + 3 = n) (he : seg[q]? = some (.inr (ci, fs))) (hB : oa_CB ci C T N ty0) (hk : j < N) (hw : Cond.fieldLink M.1.cls idx (T j).1 (T j).2.1 (T j).2.2.1 ∈ oa_GT) (hv : fs[j]? = some w) (kk : BW g d kc ks M n L (w :: S) (es.set k v ++ seg) Q) : BW g d kc ks M pc L (.ref (g.1 + es.length + q) :: S) (es.set k v ++ seg) Q := by
  rw [Nat.add_assoc]
  exact bw_get hd hn (bn_in he) hB hk hw hv kk
theorem bn_sets {es seg : List va_E} {k j : Nat} {v e : va_E} : (es.set k v ++ seg).set (es.length + j) e = es.set k v ++ seg.set j e := by
  rw [List.set_append_right _ _ (by rw [List.length_set]; omega), List.length_set, show es.length + j - es.length = j by omega]
theorem bz_lc {e : va_E} {b : List va_E} {m : Nat} (h : b.length = m) : (e :: b).length = m + 1 := congrArg Nat.succ h
theorem bz_ll {a : List va_E} {b : List va_E} {n m : Nat} (h : a.length = n) (h2 : b.length = m) : (a ++ b).length = n + m := by rw [List.length_append, h, h2]
def sg_0 (g : BC) (b : Nat) : List va_E := []
theorem bl_0 {g : BC} (b : Nat) : (sg_0 g b).length = 0 := rfl
def sg_1 (g : BC) (b : Nat) : List va_E := sg_0 g b ++ (va_E_r (7, fin_X7 (b + 0 + 1)) :: new_X7 g (b + 0 + 1))
theorem bl_1 {g : BC} (b : Nat) : (sg_1 g b).length = 61 := bz_ll (bl_0 b) (bz_lc ((ct_X7 g 0).1 _))
def sg_2 (g : BC) (b : Nat) : List va_E := sg_1 g b ++ (va_E_r (3, fin_X3 (b + 61 + 1)) :: new_X3 g (b + 61 + 1))
theorem bl_2 {g : BC} (b : Nat) : (sg_2 g b).length = 315 := bz_ll (bl_1 b) (bz_lc ((ct_X3 g 0).1 _))
def sg_3 (g : BC) (b : Nat) : List va_E := sg_2 g b ++ (va_E_r (0, fin_X0 (b + 315 + 1)) :: new_X0 g (b + 315 + 1))
theorem bl_3 {g : BC} (b : Nat) : (sg_3 g b).length = 322 := bz_ll (bl_2 b) (bz_lc ((ct_X0 g 0).1 _))
def sg_4 (g : BC) (b : Nat) : List va_E := sg_3 g b ++ (va_E_r (2, fin_X2 (b + 322 + 1)) :: new_X2 g (b + 322 + 1))
theorem bl_4 {g : BC} (b : Nat) : (sg_4 g b).length = 324 := bz_ll (bl_3 b) (bz_lc ((ct_X2 g 0).1 _))
def sg_5 (g : BC) (b : Nat) : List va_E := sg_4 g b ++ ([.inl (g.2.2 0, (12, .inl fun _ => 0))] : List va_E)
theorem bl_5 {g : BC} (b : Nat) : (sg_5 g b).length = 325 := bz_ll (bl_4 b) (bz_lc rfl)
def sg_6 (g : BC) (b : Nat) : List va_E := sg_5 g b ++ (va_E_r (1, fin_X1 (b + 325 + 1)) :: new_X1 g (b + 325 + 1))
theorem bl_6 {g : BC} (b : Nat) : (sg_6 g b).length = 361 := bz_ll (bl_5 b) (bz_lc ((ct_X1 g 0).1 _))
def sg_7 (g : BC) (b : Nat) : List va_E := sg_6 g b ++ (va_E_r (5, fin_X5 (b + 361 + 1)) :: new_X5 g (b + 361 + 1))
theorem bl_7 {g : BC} (b : Nat) : (sg_7 g b).length = 382 := bz_ll (bl_6 b) (bz_lc ((ct_X5 g 0).1 _))
def fin_X11 (b : Nat) : List Value := [.ref (b), .ref (b + 2), .ref (b + 61), .ref (b + 315), .ref (b + 322), .ref (b + 324), .ref (b + 325), .ref (b + 361)]
def new_X11 (g : BC) (b : Nat) : List va_E := ((((sg_7 g b).set 358 (va_E_i g 6 (upd (fun _ => 0) 0 0))).set 359 (va_E_i g 6 (upd (fun _ => 0) 0 9))).set 360 (va_E_i g 6 (upd (fun _ => 0) 0 100))).set 325 (.inr (1, (fin_X1 (b + 326)).set 2 (.int 1)))
theorem c11_0 {g : BC} {d k kc ks : Nat} {es : List va_E} {Q : BK} (hk : k < es.length) (kk : BW g (d + 4) kc ks mX11_init 29 [(0, .ref (g.1 + k))] [] (es.set k (.inr (11, [.ref (g.1 + es.length), .ref (g.1 + es.length + 2), .null, .null, .null, .null, .null, .null])) ++ sg_1 g (g.1 + es.length)) Q) : BW g (d + 4) (kc + 61) (ks + 1527) mX11_init 4 [(0, .ref (g.1 + k))] [] (es.set k (.inr (11, [.null, .null, .null, .null, .null, .null, .null, .null])) ++ sg_0 g (g.1 + es.length)) Q := by
  refine bw_aload_n (j := 0) (a := g.1 + k) iX11_4 rfl rfl rfl rfl ?_
  refine bn_new (kc := kc + 60) (ks := ks + 1522) (ci := 7) (fs := [.int 0, .int 0, .null, .null, .null]) (n0 := 0) iX11_5 rfl gi_120 gi_121 gi_87 cb_7 (by decide) rfl ?_
  refine bw_dup iX11_8 rfl rfl ?_
  refine bn_call (M' := mX7_init) (kc := kc + 0) (ks := ks + 0) (host := "OrderAssembler") (n0 := 0) iX11_9 rfl (Or.inl ni_122) gi_124 gi_87 ⟨by decide, by decide⟩ (by decide) (by decide) rfl rfl gi_123 (Nat.le_of_ble_eq_true rfl) (ct_X7 g (d + 0)) rfl ?_
  refine bn_putF (j := 0) iX11_12 rfl cb_11 (by decide) gi_423 rfl rfl rfl rfl rfl (Nat.le_of_ble_eq_true rfl) hk ?_
  refine bw_aload_n (j := 0) (a := g.1 + k) iX11_15 rfl rfl rfl rfl ?_
  refine bw_aload_n (j := 0) (a := g.1 + k) iX11_16 rfl rfl rfl rfl ?_
  refine bw_get (k := 0) (v := .ref (g.1 + es.length + 0)) iX11_17 rfl (bn_at hk) cb_11 (by decide) gi_423 rfl ?_
  refine bn_get (q := 0) (j := 2) (w := .ref (g.1 + es.length + 1)) iX11_20 rfl rfl cb_7 (by decide) gi_342 rfl ?_
  refine bn_get (q := 1) (j := 2) (w := .ref (g.1 + es.length + 2)) iX11_23 rfl rfl cb_9 (by decide) gi_153 rfl ?_
  refine bn_putF (j := 1) iX11_26 rfl cb_11 (by decide) gi_424 rfl rfl rfl rfl rfl (Nat.le_of_ble_eq_true rfl) hk ?_
  exact kk
theorem c11_1 {g : BC} {d k kc ks : Nat} {es : List va_E} {Q : BK} {seg : List va_E} (hs : seg.length = 61) (hk : k < es.length) (kk : BW g (d + 4) kc ks mX11_init 40 [(0, .ref (g.1 + k))] [] (es.set k (.inr (11, [.ref (g.1 + es.length), .ref (g.1 + es.length + 2), .ref (g.1 + es.length + 61), .null, .null, .null, .null, .null])) ++ (seg ++ (va_E_r (3, fin_X3 (g.1 + es.length + 61 + 1)) :: new_X3 g (g.1 + es.length + 61 + 1)))) Q) : BW g (d + 4) (kc + 254) (ks + 3855) mX11_init 29 [(0, .ref (g.1 + k))] [] (es.set k (.inr (11, [.ref (g.1 + es.length), .ref (g.1 + es.length + 2), .null, .null, .null, .null, .null, .null])) ++ seg) Q := by
  refine bw_aload_n (j := 0) (a := g.1 + k) iX11_29 rfl rfl rfl rfl ?_
  refine bn_new (kc := kc + 253) (ks := ks + 3852) (ci := 3) (fs := [.int 0, .int 0, .null]) (n0 := 61) iX11_30 rfl gi_356 gi_357 gi_95 cb_3 (by decide) hs ?_
  refine bw_dup iX11_33 rfl rfl ?_
  refine bn_call (M' := mX3_init) (kc := kc + 0) (ks := ks + 0) (host := "OrderAssembler") (n0 := 61) iX11_34 rfl (Or.inr gi_358) gi_360 gi_95 ⟨by decide, by decide⟩ (by decide) (by decide) rfl rfl gi_359 (Nat.le_of_ble_eq_true rfl) (ct_X3 g (d + 0)) hs ?_
  refine bn_putF (j := 2) iX11_37 rfl cb_11 (by decide) gi_425 rfl rfl rfl rfl rfl (Nat.le_of_ble_eq_true rfl) hk ?_
  exact kk
theorem c11_2 {g : BC} {d k kc ks : Nat} {es : List va_E} {Q : BK} {seg : List va_E} (hs : seg.length = 315) (hk : k < es.length) (kk : BW g (d + 4) kc ks mX11_init 51 [(0, .ref (g.1 + k))] [] (es.set k (.inr (11, [.ref (g.1 + es.length), .ref (g.1 + es.length + 2), .ref (g.1 + es.length + 61), .ref (g.1 + es.length + 315), .null, .null, .null, .null])) ++ (seg ++ (va_E_r (0, fin_X0 (g.1 + es.length + 315 + 1)) :: new_X0 g (g.1 + es.length + 315 + 1)))) Q) : BW g (d + 4) (kc + 7) (ks + 96) mX11_init 40 [(0, .ref (g.1 + k))] [] (es.set k (.inr (11, [.ref (g.1 + es.length), .ref (g.1 + es.length + 2), .ref (g.1 + es.length + 61), .null, .null, .null, .null, .null])) ++ seg) Q := by
  refine bw_aload_n (j := 0) (a := g.1 + k) iX11_40 rfl rfl rfl rfl ?_
  refine bn_new (kc := kc + 6) (ks := ks + 90) (ci := 0) (fs := [.null, .null, .null, .null, .null, .null]) (n0 := 315) iX11_41 rfl gi_376 gi_377 gi_96 cb_0 (by decide) hs ?_
  refine bw_dup iX11_44 rfl rfl ?_
  refine bn_call (M' := mX0_init) (kc := kc + 0) (ks := ks + 0) (host := "OrderAssembler") (n0 := 315) iX11_45 rfl (Or.inl ni_378) gi_380 gi_96 ⟨by decide, by decide⟩ (by decide) (by decide) rfl rfl gi_379 (Nat.le_of_ble_eq_true rfl) (ct_X0 g (d + 2)) hs ?_
  refine bn_putF (j := 3) iX11_48 rfl cb_11 (by decide) gi_426 rfl rfl rfl rfl rfl (Nat.le_of_ble_eq_true rfl) hk ?_
  exact kk
theorem c11_3 {g : BC} {d k kc ks : Nat} {es : List va_E} {Q : BK} {seg : List va_E} (hs : seg.length = 322) (hk : k < es.length) (kk : BW g (d + 4) kc ks mX11_init 62 [(0, .ref (g.1 + k))] [] (es.set k (.inr (11, [.ref (g.1 + es.length), .ref (g.1 + es.length + 2), .ref (g.1 + es.length + 61), .ref (g.1 + es.length + 315), .ref (g.1 + es.length + 322), .null, .null, .null])) ++ (seg ++ (va_E_r (2, fin_X2 (g.1 + es.length + 322 + 1)) :: new_X2 g (g.1 + es.length + 322 + 1)))) Q) : BW g (d + 4) (kc + 2) (ks + 202) mX11_init 51 [(0, .ref (g.1 + k))] [] (es.set k (.inr (11, [.ref (g.1 + es.length), .ref (g.1 + es.length + 2), .ref (g.1 + es.length + 61), .ref (g.1 + es.length + 315), .null, .null, .null, .null])) ++ seg) Q := by
  refine bw_aload_n (j := 0) (a := g.1 + k) iX11_51 rfl rfl rfl rfl ?_
  refine bn_new (kc := kc + 1) (ks := ks + 200) (ci := 2) (fs := [.int 0, .null]) (n0 := 322) iX11_52 rfl gi_401 gi_402 gi_97 cb_2 (by decide) hs ?_
  refine bw_dup iX11_55 rfl rfl ?_
  refine bn_call (M' := mX2_init) (kc := kc + 0) (ks := ks + 0) (host := "OrderAssembler") (n0 := 322) iX11_56 rfl (Or.inl ni_403) gi_405 gi_97 ⟨by decide, by decide⟩ (by decide) (by decide) rfl rfl gi_404 (Nat.le_of_ble_eq_true rfl) (ct_X2 g (d + 2)) hs ?_
  refine bn_putF (j := 4) iX11_59 rfl cb_11 (by decide) gi_427 rfl rfl rfl rfl rfl (Nat.le_of_ble_eq_true rfl) hk ?_
  exact kk
theorem c11_4 {g : BC} {d k kc ks : Nat} {es : List va_E} {Q : BK} {seg : List va_E} (hs : seg.length = 324) (hk : k < es.length) (kk : BW g (d + 4) kc ks mX11_init 70 [(0, .ref (g.1 + k))] [] (es.set k (.inr (11, [.ref (g.1 + es.length), .ref (g.1 + es.length + 2), .ref (g.1 + es.length + 61), .ref (g.1 + es.length + 315), .ref (g.1 + es.length + 322), .ref (g.1 + es.length + 324), .null, .null])) ++ (seg ++ ([.inl (g.2.2 0, (12, .inl fun _ => 0))] : List va_E))) Q) : BW g (d + 4) (kc + 1) (ks + 12) mX11_init 62 [(0, .ref (g.1 + k))] [] (es.set k (.inr (11, [.ref (g.1 + es.length), .ref (g.1 + es.length + 2), .ref (g.1 + es.length + 61), .ref (g.1 + es.length + 315), .ref (g.1 + es.length + 322), .null, .null, .null])) ++ seg) Q := by
  refine bw_aload_n (j := 0) (a := g.1 + k) iX11_62 rfl rfl rfl rfl ?_
  refine bw_bipush (v := 12) iX11_63 rfl (by decide) ?_
  refine bn_newa (kc := kc + 0) (ks := ks + 0) (atype := .int) (ty := .int) (j := 0) (N := 12) (a0 := (12, .inl fun _ => 0)) (n0 := 324) iX11_65 rfl gi_224 rfl rfl (fun C h => nomatch h) (fun _ => rfl) (by decide) (by decide) (Nat.le_of_ble_eq_true rfl) hs ?_
  refine bn_putF (j := 5) iX11_67 rfl cb_11 (by decide) gi_428 rfl rfl rfl rfl rfl (Nat.le_of_ble_eq_true rfl) hk ?_
  exact kk
theorem c11_5 {g : BC} {d k kc ks : Nat} {es : List va_E} {Q : BK} {seg : List va_E} (hs : seg.length = 325) (hk : k < es.length) (kk : BW g (d + 4) kc ks mX11_init 81 [(0, .ref (g.1 + k))] [] (es.set k (.inr (11, [.ref (g.1 + es.length), .ref (g.1 + es.length + 2), .ref (g.1 + es.length + 61), .ref (g.1 + es.length + 315), .ref (g.1 + es.length + 322), .ref (g.1 + es.length + 324), .ref (g.1 + es.length + 325), .null])) ++ (seg ++ (va_E_r (1, fin_X1 (g.1 + es.length + 325 + 1)) :: new_X1 g (g.1 + es.length + 325 + 1)))) Q) : BW g (d + 4) (kc + 36) (ks + 296) mX11_init 70 [(0, .ref (g.1 + k))] [] (es.set k (.inr (11, [.ref (g.1 + es.length), .ref (g.1 + es.length + 2), .ref (g.1 + es.length + 61), .ref (g.1 + es.length + 315), .ref (g.1 + es.length + 322), .ref (g.1 + es.length + 324), .null, .null])) ++ seg) Q := by
  refine bw_aload_n (j := 0) (a := g.1 + k) iX11_70 rfl rfl rfl rfl ?_
  refine bn_new (kc := kc + 35) (ks := ks + 282) (ci := 1) (fs := [.int 0, .int 0, .int 0, .null, .null, .null, .null, .null, .null, .null, .null, .null, .null, .null]) (n0 := 325) iX11_71 rfl gi_415 gi_165 gi_90 cb_1 (by decide) hs ?_
  refine bw_dup iX11_74 rfl rfl ?_
  refine bn_call (M' := mX1_init) (kc := kc + 0) (ks := ks + 0) (host := "OrderAssembler") (n0 := 325) iX11_75 rfl (Or.inl ni_416) gi_168 gi_90 ⟨by decide, by decide⟩ (by decide) (by decide) rfl rfl gi_167 (Nat.le_of_ble_eq_true rfl) (ct_X1 g (d + 2)) hs ?_
  refine bn_put (j := 6) iX11_78 rfl cb_11 (by decide) gi_429 rfl rfl rfl (Nat.le_of_ble_eq_true rfl) hk ?_
  exact kk
theorem c11_6 {g : BC} {d k kc ks : Nat} {es : List va_E} {Q : BK} {seg : List va_E} (hs : seg.length = 361) (hk : k < es.length) (kk : BW g (d + 4) kc ks mX11_init 92 [(0, .ref (g.1 + k))] [] (es.set k (.inr (11, [.ref (g.1 + es.length), .ref (g.1 + es.length + 2), .ref (g.1 + es.length + 61), .ref (g.1 + es.length + 315), .ref (g.1 + es.length + 322), .ref (g.1 + es.length + 324), .ref (g.1 + es.length + 325), .ref (g.1 + es.length + 361)])) ++ (seg ++ (va_E_r (5, fin_X5 (g.1 + es.length + 361 + 1)) :: new_X5 g (g.1 + es.length + 361 + 1)))) Q) : BW g (d + 4) (kc + 21) (ks + 320) mX11_init 81 [(0, .ref (g.1 + k))] [] (es.set k (.inr (11, [.ref (g.1 + es.length), .ref (g.1 + es.length + 2), .ref (g.1 + es.length + 61), .ref (g.1 + es.length + 315), .ref (g.1 + es.length + 322), .ref (g.1 + es.length + 324), .ref (g.1 + es.length + 325), .null])) ++ seg) Q := by
  refine bw_aload_n (j := 0) (a := g.1 + k) iX11_81 rfl rfl rfl rfl ?_
  refine bn_new (kc := kc + 20) (ks := ks + 317) (ci := 5) (fs := [.null, .null, .null]) (n0 := 361) iX11_82 rfl gi_417 gi_226 gi_91 cb_5 (by decide) hs ?_
  refine bw_dup iX11_85 rfl rfl ?_
  refine bn_call (M' := mX5_init) (kc := kc + 0) (ks := ks + 0) (host := "OrderAssembler") (n0 := 361) iX11_86 rfl (Or.inl ni_418) gi_229 gi_91 ⟨by decide, by decide⟩ (by decide) (by decide) rfl rfl gi_228 (Nat.le_of_ble_eq_true rfl) (ct_X5 g (d + 1)) hs ?_
  refine bn_put (j := 7) iX11_89 rfl cb_11 (by decide) gi_430 rfl rfl rfl (Nat.le_of_ble_eq_true rfl) hk ?_
  exact kk
theorem bz_c11_at (g : BC) (b : Nat) {j : Nat} {x : va_E} (hj : (va_E_r (1, fin_X1 (b + 325 + 1)) :: new_X1 g (b + 325 + 1))[j]? = some x) : (sg_7 g b)[325 + j]? = some x := by
  have hl : j < 36 := by
    have := (List.getElem?_eq_some_iff.mp hj).1
    rw [bz_lc ((ct_X1 g 0).1 _)] at this
    exact this
  show ((sg_5 g b ++ (va_E_r (1, fin_X1 (b + 325 + 1)) :: new_X1 g (b + 325 + 1))) ++ (va_E_r (5, fin_X5 (b + 361 + 1)) :: new_X5 g (b + 361 + 1)))[325 + j]? = some x
  rw [List.getElem?_append_left (by rw [bz_ll (bl_5 b) (bz_lc ((ct_X1 g 0).1 _))]; omega), List.getElem?_append_right (by rw [bl_5 b]; omega), bl_5 b, show 325 + j - 325 = j by omega]
  exact hj
theorem bz_c11 (g : BC) (b : Nat) : (sg_7 g b)[325]? = some (va_E_r (1, fin_X1 (b + 326))) := bz_c11_at g b (j := 0) rfl
theorem bz_c11_32 (g : BC) (b : Nat) : (sg_7 g b)[358]? = some (va_E_i g 6 (fun _ => 0)) := bz_c11_at g b (j := 33) rfl
theorem bz_c11_33 (g : BC) (b : Nat) : (sg_7 g b)[359]? = some (va_E_i g 6 (fun _ => 0)) := bz_c11_at g b (j := 34) rfl
theorem bz_c11_34 (g : BC) (b : Nat) : (sg_7 g b)[360]? = some (va_E_i g 6 (fun _ => 0)) := bz_c11_at g b (j := 35) rfl
theorem bz_f11 {fs : List Value} {j a b c : Nat} (h : fs[j]? = some (.ref (a + b + c))) : fs[j]? = some (.ref (a + (b + c))) := by rw [h, Nat.add_assoc]
theorem c11_7 {g : BC} {d k : Nat} {es : List va_E} (hk : k < es.length) : BW g (d + 4) 0 0 mX11_init 92 [(0, .ref (g.1 + k))] [] (es.set k (.inr (11, fin_X11 (g.1 + es.length))) ++ sg_7 g (g.1 + es.length)) (bz_K g (fun es' => es' = es.set k (.inr (11, fin_X11 (g.1 + es.length))) ++ new_X11 g (g.1 + es.length))) := by
  have c0 : (sg_7 g (g.1 + es.length))[325]? = some (va_E_r (1, fin_X1 (g.1 + es.length + 326))) := bz_c11 _ _
  have c32 : (sg_7 g (g.1 + es.length))[358]? = some (va_E_i g 6 (fun _ => 0)) := bz_c11_32 _ _
  have c33 : (sg_7 g (g.1 + es.length))[359]? = some (va_E_i g 6 (fun _ => 0)) := bz_c11_33 _ _
  have c34 : (sg_7 g (g.1 + es.length))[360]? = some (va_E_i g 6 (fun _ => 0)) := bz_c11_34 _ _
  unfold new_X11
  generalize sg_7 g (g.1 + es.length) = seg at c0 c32 c33 c34 ⊢
  refine bw_aload_n (j := 0) (a := g.1 + k) iX11_92 rfl rfl rfl rfl ?_
  refine bw_get (k := 6) (v := .ref (g.1 + es.length + 325)) iX11_93 rfl (bn_at hk) cb_11 (by decide) gi_429 rfl ?_
  refine bw_iconst (v := 0) iX11_96 rfl (by decide) ?_
  refine bw_bipush (v := 9) iX11_97 rfl (by decide) ?_
  refine bw_bipush (v := 100) iX11_99 rfl (by decide) ?_
  rw [Nat.add_assoc g.1 es.length 325]
  refine bw_vcall (M' := mX1_addRung) (q0 := es.length + 325) (as := [.int 0, .int 9, .int 100]) (S := []) iX11_101 rfl gi_419 mb_X1_addRung rfl rfl gw_420 gw_421 rfl (bn_in c0) (Nat.le_of_ble_eq_true rfl) rfl (bl_addRung (d := d + 2) (q1 := es.length + 358) (q2 := es.length + 359) (q3 := es.length + 360) (f1 := fun _ => 0) (f2 := fun _ => 0) (f3 := fun _ => 0) (bn_in c0) rfl (bz_f11 rfl) (bz_f11 rfl) (bz_f11 rfl) (bn_in c32) (bn_in c33) (bn_in c34) (by omega) (by omega) (by omega)) (fun es2 h => ?_) (fun es2 h => ?_)
  · rw [h, List.length_set, List.length_set, List.length_set, List.length_set]
  · rw [h, bn_sets, bn_sets, bn_sets, bn_sets]
    exact bw_ret iX11_104 rfl rfl
theorem ct_X11 (g : BC) (d : Nat) : CT g (d + 4) 382 6308 mX11_init 11 [.null, .null, .null, .null, .null, .null, .null, .null] fin_X11 (new_X11 g) := by
  refine CT.of (fun b => by unfold new_X11; rw [List.length_set, List.length_set, List.length_set, List.length_set]; exact bl_7 b) (by decide) (Nat.le_of_ble_eq_true rfl) (fun es k hk => ?_)
  refine bw_aload_n (j := 0) (a := g.1 + k) iX11_0 rfl rfl rfl rfl ?_
  refine bw_obj iX11_1 rfl gi_117 gi_118 gi_119 (Nat.le_of_ble_eq_true rfl) ?_
  refine c11_0 (kc := 321) (ks := 4781) hk ?_
  refine c11_1 (kc := 67) (ks := 926) (seg := sg_1 g (g.1 + es.length)) (bl_1 _) hk ?_
  refine c11_2 (kc := 60) (ks := 830) (seg := sg_2 g (g.1 + es.length)) (bl_2 _) hk ?_
  refine c11_3 (kc := 58) (ks := 628) (seg := sg_3 g (g.1 + es.length)) (bl_3 _) hk ?_
  refine c11_4 (kc := 57) (ks := 616) (seg := sg_4 g (g.1 + es.length)) (bl_4 _) hk ?_
  refine c11_5 (kc := 21) (ks := 320) (seg := sg_5 g (g.1 + es.length)) (bl_5 _) hk ?_
  refine c11_6 (kc := 0) (ks := 0) (seg := sg_6 g (g.1 + es.length)) (bl_6 _) hk ?_
  exact c11_7 hk
