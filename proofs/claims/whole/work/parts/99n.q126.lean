/-! making the objects: the three methods that constructors call -/
theorem bs_ne {es : List va_E} {i j : Nat} {e x : va_E} (h : i ≠ j) (hx : es[j]? = some x) : (es.set i e)[j]? = some x := by
  rw [List.getElem?_set_ne h]
  exact hx
theorem bs_eq {es : List va_E} {i : Nat} {e x : va_E} (hx : es[i]? = some x) : (es.set i e)[i]? = some e := by
  rw [List.getElem?_set_self (List.getElem?_eq_some_iff.mp hx).1]
abbrev va_E_i (g : BC) (N : Nat) (f : Nat → Int32) : va_E := .inl (g.2.2 0, N, .inl f)
theorem bl_addRung {g : BC} {d k q1 q2 q3 : Nat} {es : List va_E} {fs : List Value} {f1 f2 f3 : Nat → Int32} (hk : es[k]? = some (.inr (1, fs))) (h2 : fs[2]? = some (.int 0)) (h11 : fs[11]? = some (.ref (g.1 + q1))) (h12 : fs[12]? = some (.ref (g.1 + q2))) (h13 : fs[13]? = some (.ref (g.1 + q3)))
    (e1 : es[q1]? = some (va_E_i g 6 f1)) (e2 : es[q2]? = some (va_E_i g 6 f2)) (e3 : es[q3]? = some (va_E_i g 6 f3)) (n12 : q1 ≠ q2) (n13 : q1 ≠ q3) (n23 : q2 ≠ q3) :
    BL g (d + 1) 0 0 mX1_addRung [.ref (g.1 + k), .int 0, .int 9, .int 100] es (fun es' => es' = (((es.set q1 (va_E_i g 6 (upd f1 0 0))).set q2 (va_E_i g 6 (upd f2 0 9))).set q3 (va_E_i g 6 (upd f3 0 100))).set k (.inr (1, fs.set 2 (.int 1)))) := by
  have hq1 : q1 ≠ k := fun h => by rw [h, hk] at e1; cases e1
  have hq2 : q2 ≠ k := fun h => by rw [h, hk] at e2; cases e2
  have hq3 : q3 ≠ k := fun h => by rw [h, hk] at e3; cases e3
  refine BL.of (by decide) (Nat.le_of_ble_eq_true rfl) ?_
  show BW g (d + 1) 0 0 mX1_addRung 0 [(0, .ref (g.1 + k)), (1, .int 0), (2, .int 9), (3, .int 100)] [] es _
  refine bw_aload_n (j := 0) (a := g.1 + k) dX1_addRung_0 rfl rfl rfl rfl ?_
  refine bw_get (k := 2) dX1_addRung_1 rfl hk cb_1 (by decide) gw_180 h2 ?_
  refine bw_bipush (v := 6) dX1_addRung_4 rfl (by decide) ?_
  refine bw_icmp_ge 49 dX1_addRung_6 rfl rfl (fun h => absurd h (by decide)) (fun _ => ?_)
  refine bw_aload_n (j := 0) (a := g.1 + k) dX1_addRung_9 rfl rfl rfl rfl ?_
  refine bw_get (k := 11) dX1_addRung_10 rfl hk cb_1 (by decide) gw_191 h11 ?_
  refine bw_aload_n (j := 0) (a := g.1 + k) dX1_addRung_13 rfl rfl rfl rfl ?_
  refine bw_get (k := 2) dX1_addRung_14 rfl hk cb_1 (by decide) gw_180 h2 ?_
  refine bw_iload_n (j := 1) dX1_addRung_17 rfl rfl rfl ?_
  refine bw_iast dX1_addRung_18 rfl e1 (by unfold vp_in; decide) ?_
  refine bw_aload_n (j := 0) (a := g.1 + k) dX1_addRung_19 rfl rfl rfl rfl ?_
  refine bw_get (k := 12) dX1_addRung_20 rfl (bs_ne hq1 hk) cb_1 (by decide) gw_192 h12 ?_
  refine bw_aload_n (j := 0) (a := g.1 + k) dX1_addRung_23 rfl rfl rfl rfl ?_
  refine bw_get (k := 2) dX1_addRung_24 rfl (bs_ne hq1 hk) cb_1 (by decide) gw_180 h2 ?_
  refine bw_iload_n (j := 2) dX1_addRung_27 rfl rfl rfl ?_
  refine bw_iast dX1_addRung_28 rfl (bs_ne n12 e2) (by unfold vp_in; decide) ?_
  refine bw_aload_n (j := 0) (a := g.1 + k) dX1_addRung_29 rfl rfl rfl rfl ?_
  refine bw_get (k := 13) dX1_addRung_30 rfl (bs_ne hq2 (bs_ne hq1 hk)) cb_1 (by decide) gw_193 h13 ?_
  refine bw_aload_n (j := 0) (a := g.1 + k) dX1_addRung_33 rfl rfl rfl rfl ?_
  refine bw_get (k := 2) dX1_addRung_34 rfl (bs_ne hq2 (bs_ne hq1 hk)) cb_1 (by decide) gw_180 h2 ?_
  refine bw_iload_n (j := 3) dX1_addRung_37 rfl rfl rfl ?_
  refine bw_iast dX1_addRung_38 rfl (bs_ne n23 (bs_ne n13 e3)) (by unfold vp_in; decide) ?_
  refine bw_aload_n (j := 0) (a := g.1 + k) dX1_addRung_39 rfl rfl rfl rfl ?_
  refine bw_dup dX1_addRung_40 rfl rfl ?_
  refine bw_get (k := 2) dX1_addRung_41 rfl (bs_ne hq3 (bs_ne hq2 (bs_ne hq1 hk))) cb_1 (by decide) gw_180 h2 ?_
  refine bw_iconst (v := 1) dX1_addRung_44 rfl (by decide) ?_
  refine bw_iadd (z := 1) dX1_addRung_45 rfl (by decide) ?_
  refine bw_put (k := 2) dX1_addRung_46 rfl (bs_ne hq3 (bs_ne hq2 (bs_ne hq1 hk))) cb_1 (by decide) gw_180 rfl rfl rfl (List.getElem?_eq_some_iff.mp h2).1 ?_
  exact bw_ret dX1_addRung_49 rfl rfl
def bz_ur (f : Nat → Int32) : Nat → Int32 := upd (upd (upd (upd f 2 1) 388 0) 389 9) 390 100
theorem bl_usualRung {g : BC} {d k q : Nat} {es : List va_E} {fs : List Value} {f : Nat → Int32} (hk : es[k]? = some (.inr (12, fs))) (h12 : fs[12]? = some (.ref (g.1 + q))) (e1 : es[q]? = some (va_E_i g 506 f)) :
    BL g (d + 1) 0 0 mX12_usualRung [.ref (g.1 + k)] es (fun es' => es' = es.set q (va_E_i g 506 (bz_ur f))) := by
  have hq1 : q ≠ k := fun h => by rw [h, hk] at e1; cases e1
  refine BL.of (by decide) (Nat.le_of_ble_eq_true rfl) ?_
  show BW g (d + 1) 0 0 mX12_usualRung 0 [(0, .ref (g.1 + k))] [] es _
  refine bw_aload_n (j := 0) (a := g.1 + k) dX12_usualRung_0 rfl rfl rfl rfl ?_
  refine bw_get (k := 12) dX12_usualRung_1 rfl hk cb_12 (by decide) gw_1606 h12 ?_
  refine bw_iconst (v := 2) dX12_usualRung_4 rfl (by decide) ?_
  refine bw_iconst (v := 1) dX12_usualRung_5 rfl (by decide) ?_
  refine bw_iast dX12_usualRung_6 rfl e1 (by unfold vp_in; decide) ?_
  refine bw_aload_n (j := 0) (a := g.1 + k) dX12_usualRung_7 rfl rfl rfl rfl ?_
  refine bw_get (k := 12) dX12_usualRung_8 rfl (bs_ne hq1 hk) cb_12 (by decide) gw_1606 h12 ?_
  refine bw_sipush (v := 388) dX12_usualRung_11 rfl (by decide) ?_
  refine bw_iconst (v := 0) dX12_usualRung_14 rfl (by decide) ?_
  refine bw_iast dX12_usualRung_15 rfl (bs_eq e1) (by unfold vp_in; decide) ?_
  rw [List.set_set]
  refine bw_aload_n (j := 0) (a := g.1 + k) dX12_usualRung_16 rfl rfl rfl rfl ?_
  refine bw_get (k := 12) dX12_usualRung_17 rfl (bs_ne hq1 hk) cb_12 (by decide) gw_1606 h12 ?_
  refine bw_sipush (v := 389) dX12_usualRung_20 rfl (by decide) ?_
  refine bw_bipush (v := 9) dX12_usualRung_23 rfl (by decide) ?_
  refine bw_iast dX12_usualRung_25 rfl (bs_eq e1) (by unfold vp_in; decide) ?_
  rw [List.set_set]
  refine bw_aload_n (j := 0) (a := g.1 + k) dX12_usualRung_26 rfl rfl rfl rfl ?_
  refine bw_get (k := 12) dX12_usualRung_27 rfl (bs_ne hq1 hk) cb_12 (by decide) gw_1606 h12 ?_
  refine bw_sipush (v := 390) dX12_usualRung_30 rfl (by decide) ?_
  refine bw_bipush (v := 100) dX12_usualRung_33 rfl (by decide) ?_
  refine bw_iast dX12_usualRung_35 rfl (bs_eq e1) (by unfold vp_in; decide) ?_
  rw [List.set_set]
  exact bw_ret dX12_usualRung_36 rfl rfl
section TKO
variable {g : BC} {d k q1 q2 q3 : Nat} {es : List va_E} {fs : List Value} {f : Nat → Int32} {Q : BK}
def bz_cp (f : Nat → Int32) (j : Nat) : Nat → Int32 := fun i => if i < j then f i else 0
theorem bz_cp_up {f : Nat → Int32} {j : Nat} (hj : j < 2 ^ 31) : upd (bz_cp f j) (nI j).toNatClampNeg (f (nI j).toNatClampNeg) = bz_cp f (j + 1) := by
  rw [nI_clamp hj]
  funext i
  show (if i = j then f j else if i < j then f i else 0) = if i < j + 1 then f i else 0
  by_cases h : i = j
  · subst h
    rw [if_pos rfl, if_pos (by omega)]
  · rw [if_neg h]
    by_cases h2 : i < j
    · rw [if_pos h2, if_pos (by omega)]
    · rw [if_neg h2, if_neg (by omega)]
theorem bz_z_up {n : Nat} : upd (fun _ => (0 : Int32)) n 0 = fun _ => 0 := by
  funext i
  show (if i = n then (0 : Int32) else 0) = 0
  by_cases h : i = n
  · rw [if_pos h]
  · rw [if_neg h]
theorem bs_id {es : List va_E} {i : Nat} {x : va_E} (hx : es[i]? = some x) : es.set i x = es := by
  apply List.ext_getElem?
  intro j
  rw [List.getElem?_set]
  by_cases h : i = j
  · subst h
    rw [if_pos rfl, if_pos (List.getElem?_eq_some_iff.mp hx).1, hx]
  · rw [if_neg h]
theorem tk_1 (hk : es[k]? = some (.inr (12, fs))) (h11 : fs[11]? = some (.ref (g.1 + q1))) (h12 : fs[12]? = some (.ref (g.1 + q2))) (e1 : es[q1]? = some (va_E_i g 506 (fun _ => 0))) (e2 : es[q2]? = some (va_E_i g 506 f)) (n12 : q1 ≠ q2)
    (kk : ∀ x : Int32, BW g d 0 0 mX12_takesOver 27 [(1, .int x), (0, .ref (g.1 + k))] [] (es.set q1 (va_E_i g 506 (bz_cp f 506))) Q) :
    ∀ m j : Nat, j + m = 506 → BW g d 0 0 mX12_takesOver 2 [(1, .int (nI j)), (0, .ref (g.1 + k))] [] (es.set q1 (va_E_i g 506 (bz_cp f j))) Q := by
  have hq1 : q1 ≠ k := fun h => by rw [h, hk] at e1; cases e1
  intro m
  induction m with
  | zero =>
    intro j hj
    have : j = 506 := by omega
    subst this
    refine bw_iload_n (j := 0) dX12_takesOver_2 rfl rfl rfl ?_
    refine bw_sipush (v := nI 506) dX12_takesOver_3 rfl (by decide +kernel) ?_
    exact bw_icmp_ge 27 dX12_takesOver_6 rfl rfl (fun _ => kk _) (fun h => absurd (nI_le (Nat.le_refl _) (by decide)) h)
  | succ m ih =>
    intro j hj
    refine bw_iload_n (j := 0) dX12_takesOver_2 rfl rfl rfl ?_
    refine bw_sipush (v := nI 506) dX12_takesOver_3 rfl (by decide +kernel) ?_
    refine bw_icmp_ge 27 dX12_takesOver_6 rfl rfl (fun h => absurd h (nI_ge (by omega) (by decide))) (fun _ => ?_)
    refine bw_aload_n (j := 1) (a := g.1 + k) dX12_takesOver_9 rfl rfl rfl rfl ?_
    refine bw_get (k := 11) dX12_takesOver_10 rfl (bs_ne hq1 hk) cb_12 (by decide) gw_1605 h11 ?_
    refine bw_iload_n (j := 0) dX12_takesOver_13 rfl rfl rfl ?_
    refine bw_aload_n (j := 1) (a := g.1 + k) dX12_takesOver_14 rfl rfl rfl rfl ?_
    refine bw_get (k := 12) dX12_takesOver_15 rfl (bs_ne hq1 hk) cb_12 (by decide) gw_1606 h12 ?_
    refine bw_iload_n (j := 0) dX12_takesOver_18 rfl rfl rfl ?_
    refine bw_iald dX12_takesOver_19 rfl (bs_ne n12 e2) (vp_in_nI (by omega) (by decide)) rfl ?_
    refine bw_iast dX12_takesOver_20 rfl (bs_eq e1) (vp_in_nI (by omega) (by decide)) ?_
    rw [List.set_set, bz_cp_up (by omega)]
    refine bw_iinc (j := 0) (v := nI (j + 1)) dX12_takesOver_21 rfl (by decide) rfl ((nI_succ j).symm) rfl ?_
    exact bw_goto 2 dX12_takesOver_24 rfl (ih (j + 1) (by omega))
theorem tk_2 (hk : es[k]? = some (.inr (12, fs))) (h14 : fs[14]? = some (.ref (g.1 + q3))) (e3 : es[q3]? = some (va_E_i g 301 (fun _ => 0)))
    (kk : ∀ x : Int32, BW g d 0 0 mX12_takesOver 49 [(1, .int x), (0, .ref (g.1 + k))] [] es Q) :
    ∀ m j : Nat, j + m = 301 → BW g d 0 0 mX12_takesOver 29 [(1, .int (nI j)), (0, .ref (g.1 + k))] [] es Q := by
  intro m
  induction m with
  | zero =>
    intro j hj
    have : j = 301 := by omega
    subst this
    refine bw_iload_n (j := 0) dX12_takesOver_29 rfl rfl rfl ?_
    refine bw_sipush (v := nI 301) dX12_takesOver_30 rfl (by decide +kernel) ?_
    exact bw_icmp_ge 49 dX12_takesOver_33 rfl rfl (fun _ => kk _) (fun h => absurd (nI_le (Nat.le_refl _) (by decide)) h)
  | succ m ih =>
    intro j hj
    refine bw_iload_n (j := 0) dX12_takesOver_29 rfl rfl rfl ?_
    refine bw_sipush (v := nI 301) dX12_takesOver_30 rfl (by decide +kernel) ?_
    refine bw_icmp_ge 49 dX12_takesOver_33 rfl rfl (fun h => absurd h (nI_ge (by omega) (by decide))) (fun _ => ?_)
    refine bw_aload_n (j := 1) (a := g.1 + k) dX12_takesOver_36 rfl rfl rfl rfl ?_
    refine bw_get (k := 14) dX12_takesOver_37 rfl hk cb_12 (by decide) gw_1608 h14 ?_
    refine bw_iload_n (j := 0) dX12_takesOver_40 rfl rfl rfl ?_
    refine bw_iconst (v := 0) dX12_takesOver_41 rfl (by decide) ?_
    refine bw_iast dX12_takesOver_42 rfl e3 (vp_in_nI (by omega) (by decide)) ?_
    rw [bz_z_up, bs_id e3]
    refine bw_iinc (j := 0) (v := nI (j + 1)) dX12_takesOver_43 rfl (by decide) rfl ((nI_succ j).symm) rfl ?_
    exact bw_goto 29 dX12_takesOver_46 rfl (ih (j + 1) (by omega))
theorem tk_3 (hk : es[k]? = some (.inr (12, fs))) (h11 : fs[11]? = some (.ref (g.1 + q1))) (h14 : fs[14]? = some (.ref (g.1 + q3))) (e1 : es[q1]? = some (va_E_i g 506 f)) (hf : ∀ p, p < 12 → f (164 + p) = 0) (e3 : es[q3]? = some (va_E_i g 301 (fun _ => 0)))
    (kk : ∀ x : Int32, BW g d 0 0 mX12_takesOver 82 [(1, .int x), (0, .ref (g.1 + k))] [] es Q) :
    ∀ m j : Nat, j + m = 12 → BW g d 0 0 mX12_takesOver 51 [(1, .int (nI j)), (0, .ref (g.1 + k))] [] es Q := by
  intro m
  induction m with
  | zero =>
    intro j hj
    have : j = 12 := by omega
    subst this
    refine bw_iload_n (j := 0) dX12_takesOver_51 rfl rfl rfl ?_
    refine bw_bipush (v := nI 12) dX12_takesOver_52 rfl (by decide +kernel) ?_
    exact bw_icmp_ge 82 dX12_takesOver_54 rfl rfl (fun _ => kk _) (fun h => absurd (nI_le (Nat.le_refl _) (by decide)) h)
  | succ m ih =>
    intro j hj
    refine bw_iload_n (j := 0) dX12_takesOver_51 rfl rfl rfl ?_
    refine bw_bipush (v := nI 12) dX12_takesOver_52 rfl (by decide +kernel) ?_
    refine bw_icmp_ge 82 dX12_takesOver_54 rfl rfl (fun h => absurd h (nI_ge (by omega) (by decide))) (fun _ => ?_)
    refine bw_aload_n (j := 1) (a := g.1 + k) dX12_takesOver_57 rfl rfl rfl rfl ?_
    refine bw_get (k := 14) dX12_takesOver_58 rfl hk cb_12 (by decide) gw_1608 h14 ?_
    refine bw_bipush (v := nI 9) dX12_takesOver_61 rfl (by decide +kernel) ?_
    refine bw_iload_n (j := 0) dX12_takesOver_63 rfl rfl rfl ?_
    refine bw_iadd (z := nI (9 + j)) dX12_takesOver_64 rfl (nI_add 9 j) ?_
    refine bw_aload_n (j := 1) (a := g.1 + k) dX12_takesOver_65 rfl rfl rfl rfl ?_
    refine bw_get (k := 11) dX12_takesOver_66 rfl hk cb_12 (by decide) gw_1605 h11 ?_
    refine bw_sipush (v := nI 164) dX12_takesOver_69 rfl (by decide +kernel) ?_
    refine bw_iload_n (j := 0) dX12_takesOver_72 rfl rfl rfl ?_
    refine bw_iadd (z := nI (164 + j)) dX12_takesOver_73 rfl (nI_add 164 j) ?_
    refine bw_iald (v := 0) dX12_takesOver_74 rfl e1 (vp_in_nI (by omega) (by decide)) (by rw [nI_clamp (by omega)]; exact hf j (by omega)) ?_
    refine bw_iast dX12_takesOver_75 rfl e3 (vp_in_nI (by omega) (by decide)) ?_
    rw [bz_z_up, bs_id e3]
    refine bw_iinc (j := 0) (v := nI (j + 1)) dX12_takesOver_76 rfl (by decide) rfl ((nI_succ j).symm) rfl ?_
    exact bw_goto 51 dX12_takesOver_79 rfl (ih (j + 1) (by omega))
theorem bl_takesOver (hk : es[k]? = some (.inr (12, fs))) (h11 : fs[11]? = some (.ref (g.1 + q1))) (h12 : fs[12]? = some (.ref (g.1 + q2))) (h14 : fs[14]? = some (.ref (g.1 + q3))) (h16 : fs[16]? = some (.int 0)) (e1 : es[q1]? = some (va_E_i g 506 (fun _ => 0))) (e2 : es[q2]? = some (va_E_i g 506 f)) (e3 : es[q3]? = some (va_E_i g 301 (fun _ => 0))) (n12 : q1 ≠ q2) (hf : ∀ p, p < 12 → f (164 + p) = 0) (h3 : f 3 = 0) :
    BL g (d + 1) 0 0 mX12_takesOver [.ref (g.1 + k)] es (fun es' => es' = es.set q1 (va_E_i g 506 (bz_cp f 506))) := by
  have hq1 : q1 ≠ k := fun h => by rw [h, hk] at e1; cases e1
  have n13 : q1 ≠ q3 := fun h => by rw [h, e3] at e1; cases e1
  refine BL.of (by decide) (Nat.le_of_ble_eq_true rfl) ?_
  show BW g (d + 1) 0 0 mX12_takesOver 0 [(0, .ref (g.1 + k))] [] es _
  refine bw_iconst (v := nI 0) dX12_takesOver_0 rfl (by decide +kernel) ?_
  refine bw_istore_n (i := 1) dX12_takesOver_1 rfl rfl (by decide) rfl ?_
  have hz : es.set q1 (va_E_i g 506 (bz_cp f 0)) = es := by
    have : bz_cp f 0 = fun _ => 0 := by funext i; exact if_neg (Nat.not_lt_zero i)
    rw [this, bs_id e1]
  have hk' : (es.set q1 (va_E_i g 506 (bz_cp f 506)))[k]? = _ := bs_ne hq1 hk
  have e1' : (es.set q1 (va_E_i g 506 (bz_cp f 506)))[q1]? = _ := bs_eq e1
  have e3' : (es.set q1 (va_E_i g 506 (bz_cp f 506)))[q3]? = _ := bs_ne n13 e3
  have t1 := tk_1 (d := d + 1) (Q := bz_K g (fun es' => es' = es.set q1 (va_E_i g 506 (bz_cp f 506)))) hk h11 h12 e1 e2 n12 (fun x => ?_) 506 0 rfl
  · rw [hz] at t1
    exact t1
  clear hz
  generalize es.set q1 (va_E_i g 506 (bz_cp f 506)) = es1 at hk' e1' e3' ⊢
  refine bw_iconst (v := nI 0) dX12_takesOver_27 rfl (by decide +kernel) ?_
  refine bw_istore_n (i := 1) dX12_takesOver_28 rfl rfl (by decide) rfl ?_
  refine tk_2 hk' h14 e3' (fun x => ?_) 301 0 rfl
  refine bw_iconst (v := nI 0) dX12_takesOver_49 rfl (by decide +kernel) ?_
  refine bw_istore_n (i := 1) dX12_takesOver_50 rfl rfl (by decide) rfl ?_
  refine tk_3 hk' h11 h14 e1' (fun p hp => ?_) e3' (fun x => ?_) 12 0 rfl
  · show (if 164 + p < 506 then f (164 + p) else 0) = 0
    rw [if_pos (by omega)]
    exact hf p hp
  refine bw_aload_n (j := 1) (a := g.1 + k) dX12_takesOver_82 rfl rfl rfl rfl ?_
  refine bw_get (k := 14) dX12_takesOver_83 rfl hk' cb_12 (by decide) gw_1608 h14 ?_
  refine bw_iconst (v := 1) dX12_takesOver_86 rfl (by decide) ?_
  refine bw_aload_n (j := 1) (a := g.1 + k) dX12_takesOver_87 rfl rfl rfl rfl ?_
  refine bw_get (k := 11) dX12_takesOver_88 rfl hk' cb_12 (by decide) gw_1605 h11 ?_
  refine bw_iconst (v := 3) dX12_takesOver_91 rfl (by decide) ?_
  refine bw_iald (v := 0) dX12_takesOver_92 rfl e1' (by unfold vp_in; decide) h3 ?_
  refine bw_iast dX12_takesOver_93 rfl e3' (by unfold vp_in; decide) ?_
  rw [bz_z_up, bs_id e3']
  refine bw_iconst (v := 0) dX12_takesOver_94 rfl (by decide) ?_
  refine bw_istore_n (i := 1) dX12_takesOver_95 rfl rfl (by decide) rfl ?_
  refine bw_iload_n (j := 0) dX12_takesOver_96 rfl rfl rfl ?_
  refine bw_aload_n (j := 1) (a := g.1 + k) dX12_takesOver_97 rfl rfl rfl rfl ?_
  refine bw_get (k := 11) dX12_takesOver_98 rfl hk' cb_12 (by decide) gw_1605 h11 ?_
  refine bw_iconst (v := 3) dX12_takesOver_101 rfl (by decide) ?_
  refine bw_iald (v := 0) dX12_takesOver_102 rfl e1' (by unfold vp_in; decide) h3 ?_
  refine bw_icmp_ge 153 dX12_takesOver_103 rfl rfl (fun _ => ?_) (fun h => absurd (by decide) h)
  refine bw_aload_n (j := 1) (a := g.1 + k) dX12_takesOver_153 rfl rfl rfl rfl ?_
  refine bw_iconst (v := 0) dX12_takesOver_154 rfl (by decide) ?_
  refine bw_put (k := 16) dX12_takesOver_155 rfl hk' cb_12 (by decide) gw_1610 rfl rfl rfl (List.getElem?_eq_some_iff.mp h16).1 ?_
  have hfs : fs.set 16 (.int 0) = fs := by
    apply List.ext_getElem?
    intro j
    rw [List.getElem?_set]
    by_cases h : 16 = j
    · subst h
      rw [if_pos rfl, if_pos (List.getElem?_eq_some_iff.mp h16).1, h16]
    · rw [if_neg h]
  rw [hfs, bs_id hk']
  exact bw_ret dX12_takesOver_158 rfl rfl
end TKO
