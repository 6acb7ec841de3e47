/-! the law's entry: the objects are made -/
section BWL
variable {g : BC} {d kc ks : Nat} {M : MD} {pc n : Nat} {L L2 : List (Nat × Value)} {S : List Value} {es : List va_E} {Q : BK}
theorem bw_astore_n {q : Fin 4} {i a : Nat} (hd : decode M.2.1 pc = .ok (.astore_n q, 1)) (hn : pc + 1 = n) (hi : (q : Nat) = i) (hb : i < M.2.2.1) (hst : (i, Value.ref a) :: L.filter (fun q => !(q.1 == i) && !(q.1 + 1 == i && q.2.category == 2)) = L2) (k : BW g d kc ks M n L2 S es Q) : BW g d kc ks M pc L (.ref a :: S) es Q := by
  intro p l e R s m args below meth c mc ms F hf hlo hmc hms hg hX H locs cells slots ls hc hs hx hP hS hl
  subst hn
  exact lv_astore_n F.1 F.2.1 hd hi hl hb hst (fun ls hl => k p l e R s m args below meth c mc ms F hf hlo hmc hms hg hX H locs cells slots ls hc hs hx hP hS hl)
theorem bw_istore {i : Nat} {x : Int32} (hd : decode M.2.1 pc = .ok (.istore i, 2)) (hn : pc + 2 = n) (hb : i < M.2.2.1) (hst : (i, Value.int x) :: L.filter (fun q => !(q.1 == i) && !(q.1 + 1 == i && q.2.category == 2)) = L2) (k : BW g d kc ks M n L2 S es Q) : BW g d kc ks M pc L (.int x :: S) es Q := by
  intro p l e R s m args below meth c mc ms F hf hlo hmc hms hg hX H locs cells slots ls hc hs hx hP hS hl
  subst hn
  exact lv_istore F.1 F.2.1 hd hl hb hst (fun ls hl => k p l e R s m args below meth c mc ms F hf hlo hmc hms hg hX H locs cells slots ls hc hs hx hP hS hl)
end BWL
def bz_1 (g : BC) : List va_E := va_E_r (11, fin_X11 (g.1 + 1)) :: new_X11 g (g.1 + 1)
def bz_2 (g : BC) : List va_E := va_E_r (12, fin_X12 (g.1 + 384)) :: new_X12 g (g.1 + 384)
def bz_3 (g : BC) : List va_E := [.inl (g.2.2 2, (1, .inr (.inl fun _ => 0)))]
def bz_all (g : BC) : List va_E := bz_1 g ++ bz_2 g ++ bz_3 g
theorem bz_1_len (g : BC) : (bz_1 g).length = 383 := bz_lc ((ct_X11 g 0).1 _)
theorem bz_2_len (g : BC) : (bz_2 g).length = 13 := bz_lc ((ct_X12 g 0).1 _)
theorem bz_all_len (g : BC) : (bz_all g).length = 397 := bz_ll (bz_ll (bz_1_len g) (bz_2_len g)) rfl
theorem bz_put1 {A : List va_E} {x y : va_E} {n : Nat} (h : A.length = n) : (A ++ [x]).set n y = A ++ [y] := by
  subst h
  rw [List.set_append_right _ _ (Nat.le_refl _), Nat.sub_self]
  rfl
theorem bz_at1 {A : List va_E} {x : va_E} {n : Nat} (h : A.length = n) : (A ++ [x])[n]? = some x := by
  subst h
  rw [List.getElem?_append_right (Nat.le_refl _), Nat.sub_self]
  rfl
theorem bw_law {g : BC} {d kc ks b : Nat} {Q : BK} (kk : BW g (d + 5) kc ks mL_law 23 [(4, .int 0), (3, .ref (g.1 + 396)), (2, .ref (g.1 + 383)), (1, .ref (g.1 + 0)), (0, .ref b)] [] (bz_all g) Q) : BW g (d + 5) (kc + 397) (ks + 12562) mL_law 0 [(0, .ref b)] [] [] Q := by
  refine bw_new (M := mL_law) (kc := kc + 396) (ks := ks + 12554) (ci := 11) (fs := [.null, .null, .null, .null, .null, .null, .null, .null]) dL_law_0 rfl gi_112 gi_113 gi_86 cb_11 (by decide) ?_
  refine bw_dup (M := mL_law) dL_law_3 rfl rfl ?_
  refine bw_call (M := mL_law) (M' := mX11_init) (kc := kc + 14) (ks := ks + 6246) (q0 := 0) (host := "") dL_law_4 rfl (Or.inr gi_114) gi_116 gi_86 ⟨by decide, by decide⟩ (by decide) (by decide) rfl rfl gi_115 (Nat.le_of_ble_eq_true rfl) ((ct_X11 g d).2 _ 0 rfl) (fun es2 h => by rw [h, List.length_append, List.length_set, (ct_X11 g d).1]) (fun es2 h => ?_)
  have e1 : es2 = bz_1 g := h
  rw [e1]
  clear e1 h es2
  refine bw_astore_n (M := mL_law) (i := 1) dL_law_7 rfl rfl (by decide) rfl ?_
  refine bw_new (M := mL_law) (kc := kc + 13) (ks := ks + 6221) (ci := 12) (fs := [.int 0, .null, .null, .int 0, .int 0, .int 0, .int 0, .int 0, .int 0, .int 0, .int 0, .null, .null, .int 0, .null, .null, .int 0, .null, .null, .null, .null, .null, .int 0, .null, .int 0]) dL_law_8 rfl gi_1580 gi_1581 gi_98 cb_12 (by decide) ?_
  rw [bz_1_len]
  refine bw_dup (M := mL_law) dL_law_11 rfl rfl ?_
  refine bw_call (M := mL_law) (M' := mX12_init) (kc := kc + 1) (ks := ks + 1) (q0 := 383) (host := "") dL_law_12 rfl (Or.inr gi_1582) gi_1584 gi_98 ⟨by decide, by decide⟩ (by decide) (by decide) rfl rfl gi_1583 (Nat.le_of_ble_eq_true rfl) ((ct_X12 g (d + 2)).2 _ 383 (bz_at1 (bz_1_len g))) (fun es2 h => by rw [h, List.length_append, List.length_set, (ct_X12 g d).1]) (fun es2 h => ?_)
  have e2 : es2 = bz_1 g ++ bz_2 g := by
    rw [h, bz_put1 (bz_1_len g), bz_ll (bz_1_len g) (m := 1) rfl, List.append_assoc]
    rfl
  rw [e2]
  clear e2 h es2
  refine bw_astore_n (M := mL_law) (i := 2) dL_law_15 rfl rfl (by decide) rfl ?_
  refine bw_iconst (M := mL_law) (v := 1) dL_law_16 rfl (by decide) ?_
  refine bw_newa (M := mL_law) (kc := kc) (ks := ks) (atype := .long) (ty := .long) (j := 2) (N := 1) (a0 := (1, .inr (.inl fun _ => 0))) dL_law_17 rfl gi_223 rfl rfl (fun C h => nomatch h) (fun _ => rfl) (by decide) (by decide) (Nat.le_of_ble_eq_true rfl) ?_
  rw [bz_ll (bz_1_len g) (bz_2_len g)]
  refine bw_astore_n (M := mL_law) (i := 3) dL_law_19 rfl rfl (by decide) rfl ?_
  refine bw_iconst (M := mL_law) (v := 0) dL_law_20 rfl (by decide) ?_
  refine bw_istore (M := mL_law) (i := 4) dL_law_21 rfl (by decide) rfl ?_
  exact kk
