/-! making the objects: a constructor's walk, its own cell at k, new cells behind es -/
abbrev va_E_r (q : Nat × List Value) : va_E := .inr q
section BWN
variable {g : BC} {d kc ks : Nat} {M : MD} {pc n n0 k : Nat} {L : List (Nat × Value)} {S : List Value} {es seg : List va_E} {v : va_E} {Q : BK}
theorem bn_len (hs : seg.length = n0) : g.1 + (es.set k v ++ seg).length = g.1 + es.length + n0 := by
  rw [List.length_append, List.length_set, hs]
  omega
theorem bn_at (hk : k < es.length) : (es.set k v ++ seg)[k]? = some v := by
  rw [List.getElem?_append_left (by rw [List.length_set]; exact hk), List.getElem?_set_self hk]
theorem bn_set {v' : va_E} (hk : k < es.length) : (es.set k v ++ seg).set k v' = es.set k v' ++ seg := by
  rw [List.set_append_left _ _ (by rw [List.length_set]; exact hk), List.set_set]
theorem bn_in {j : Nat} {e : va_E} (h : seg[j]? = some e) : (es.set k v ++ seg)[es.length + j]? = some e := by
  rw [List.getElem?_append_right (by rw [List.length_set]; omega), List.length_set, show es.length + j - es.length = j by omega]
  exact h
theorem bn_new {index ci N : Nat} {C : String} {T : u_T} {fs : List Value} {ty : Nat → FieldType} (hd : decode M.2.1 pc = .ok (.new index, 3)) (hn : pc + 3 = n) (h1 : Cond.classLink M.1.cls index C ∈ oa_GT) (h2 : Cond.instantiable C N ∈ oa_GT) (h3 : Cond.initialized C ∈ oa_GT) (hB : oa_CB ci C T N ty) (hfs : ∀ j, j < N → defaultValue (ty j) = vp_V fs j) (hs : seg.length = n0)
    (kk : BW g d kc ks M n L (.ref (g.1 + es.length + n0) :: S) (es.set k v ++ (seg ++ [.inr (ci, fs)])) Q) : BW g d (kc + 1) (ks + N) M pc L S (es.set k v ++ seg) Q := by
  refine bw_new hd hn h1 h2 h3 hB hfs ?_
  rw [List.append_assoc, bn_len hs]
  exact kk
theorem bn_newa {atype : ArrayType} {ty : FieldType} {z : Int32} {N j : Nat} {a0 : vp_A} (hd : decode M.2.1 pc = .ok (.newarray atype, 2)) (hn : pc + 2 = n) (h1 : Cond.arrayClass (newarray.typeOf atype) ∈ oa_GT) (hty : newarray.typeOf atype = ty) (hj : (bz_tys g)[j]? = some (g.2.2 j, ty)) (hobj : ∀ C, ty ≠ .object C) (ha : ∀ cA : ClassId, vp_cell cA a0 = arrV cA N (fun _ => defaultValue ty)) (hz : ¬ z < 0) (hN : z.toNatClampNeg = N) (hbytes : N * componentBytes ty ≤ 536870912) (hs : seg.length = n0)
    (kk : BW g d kc ks M n L (.ref (g.1 + es.length + n0) :: S) (es.set k v ++ (seg ++ [.inl (g.2.2 j, a0)])) Q) : BW g d (kc + 1) (ks + N) M pc L (.int z :: S) (es.set k v ++ seg) Q := by
  refine bw_newa hd hn h1 hty hj hobj ha hz hN hbytes ?_
  rw [List.append_assoc, bn_len hs]
  exact kk
theorem bn_anew {index : Nat} {z : Int32} {N : Nat} (hd : decode M.2.1 pc = .ok (.anewarray index, 3)) (hn : pc + 3 = n) (h1 : Cond.classLink M.1.cls index "OrderAssembler$Ledger" ∈ oa_GT) (h2 : Cond.arrayOver (.object "OrderAssembler$Ledger") ∈ lw_tbl) (hz : ¬ z < 0) (hN : z.toNatClampNeg = N) (hbytes : N * 4 ≤ 536870912) (hs : seg.length = n0)
    (kk : BW g d kc ks M n L (.ref (g.1 + es.length + n0) :: S) (es.set k v ++ (seg ++ [.inl (g.2.2 4, N, .inr (.inr (.inr (.inr fun _ => none))))])) Q) : BW g d (kc + 1) (ks + N) M pc L (.int z :: S) (es.set k v ++ seg) Q := by
  refine bw_anew hd hn h1 h2 hz hN hbytes ?_
  rw [List.append_assoc, bn_len hs]
  exact kk
theorem bn_multi {index : Nat} {z y : Int32} {N K : Nat} (hd : decode M.2.1 pc = .ok (.multianewarray index 2, 4)) (hn : pc + 4 = n) (h1 : Cond.classLink M.1.cls index "[[I" ∈ oa_GT) (h2 : Cond.arrayOver (.array .int) ∈ lw_tbl) (h3 : Cond.arrayClass .int ∈ oa_GT) (hz : ¬ z < 0) (hy : ¬ y < 0) (hN : z.toNatClampNeg = N) (hK : y.toNatClampNeg = K) (hbN : N ≤ 1000) (hbK : K ≤ 1000) (hs : seg.length = n0)
    (kk : BW g d kc ks M n L (.ref (g.1 + es.length + n0) :: S) (es.set k v ++ (seg ++ bz_rows g (g.1 + es.length + n0) N K)) Q) : BW g d (kc + (1 + N)) (ks + (N + N * K)) M pc L (.int y :: .int z :: S) (es.set k v ++ seg) Q := by
  refine bw_multi hd hn h1 h2 h3 hz hy hN hK hbN hbK ?_
  rw [List.append_assoc, bn_len hs]
  exact kk
theorem bn_putF {idx ci N j : Nat} {C : String} {T : u_T} {fs : List Value} {ty0 : Nat → FieldType} {x : Value} (hd : decode M.2.1 pc = .ok (.putfield idx, 3)) (hn : pc + 3 = n) (hB : oa_CB ci C T N ty0) (hj : j < N) (hw : Cond.fieldLink M.1.cls idx (T j).1 (T j).2.1 (T j).2.2.1 ∈ oa_GT) (hfin : (T j).2.2.2 = true) (hin : M.1.name = "<init>") (hdecl : (T j).1 = M.1.cls) (hn1 : narrow (ty0 j) x = x) (hfit : fits (ty0 j) x = true) (hl0 : j < fs.length) (hk : k < es.length)
    (kk : BW g d kc ks M n L S (es.set k (.inr (ci, fs.set j x)) ++ seg) Q) : BW g d kc ks M pc L (x :: .ref (g.1 + k) :: S) (es.set k (.inr (ci, fs)) ++ seg) Q := by
  refine bw_putF hd hn (bn_at hk) hB hj hw hfin hin hdecl hn1 hfit hl0 ?_
  rw [bn_set hk]
  exact kk
theorem bn_put {idx ci N j : Nat} {C : String} {T : u_T} {fs : List Value} {ty0 : Nat → FieldType} {x : Value} (hd : decode M.2.1 pc = .ok (.putfield idx, 3)) (hn : pc + 3 = n) (hB : oa_CB ci C T N ty0) (hj : j < N) (hw : Cond.fieldLink M.1.cls idx (T j).1 (T j).2.1 (T j).2.2.1 ∈ oa_GT) (hfin : (T j).2.2.2 = false) (hn1 : narrow (ty0 j) x = x) (hfit : fits (ty0 j) x = true) (hl0 : j < fs.length) (hk : k < es.length)
    (kk : BW g d kc ks M n L S (es.set k (.inr (ci, fs.set j x)) ++ seg) Q) : BW g d kc ks M pc L (x :: .ref (g.1 + k) :: S) (es.set k (.inr (ci, fs)) ++ seg) Q := by
  refine bw_put hd hn (bn_at hk) hB hj hw hfin hn1 hfit hl0 ?_
  rw [bn_set hk]
  exact kk
/-- a constructor's contract: its object ends as fin, the cells new come, both by the first new address -/
def CT (g : BC) (d kc ks : Nat) (M : MD) (ci : Nat) (df : List Value) (fin : Nat → List Value) (new : Nat → List va_E) : Prop :=
  (∀ b, (new b).length = kc) ∧ ∀ (es : List va_E) (k : Nat), es[k]? = some (.inr (ci, df)) → BL g d kc ks M [.ref (g.1 + k)] es (fun es' => es' = es.set k (.inr (ci, fin (g.1 + es.length))) ++ new (g.1 + es.length))
theorem CT.of {ci : Nat} {df : List Value} {fin : Nat → List Value} {new : Nat → List va_E} (hlen : ∀ b, (new b).length = kc) (hy : plainName M.1.cls = true) (hl : 1 ≤ M.2.2.1) (kk : ∀ (es : List va_E) (k : Nat), k < es.length → BW g d kc ks M 0 [(0, .ref (g.1 + k))] [] (es.set k (.inr (ci, df)) ++ []) (bz_K g (fun es' => es' = es.set k (.inr (ci, fin (g.1 + es.length))) ++ new (g.1 + es.length)))) : CT g d kc ks M ci df fin new := by
  refine ⟨hlen, fun es k hk => BL.of hy hl ?_⟩
  have hk' : k < es.length := (List.getElem?_eq_some_iff.mp hk).1
  have e : es.set k (.inr (ci, df)) ++ [] = es := by
    rw [List.append_nil]
    apply List.ext_getElem?
    intro j
    rw [List.getElem?_set]
    by_cases d : k = j
    · subst d; rw [if_pos rfl, if_pos hk', hk]
    · rw [if_neg d]
  have := kk es k hk'
  rw [e] at this
  exact this
theorem bn_call {idx ci kc' ks' : Nat} {M' : MD} {df : List Value} {fin : Nat → List Value} {new : Nat → List va_E} {host : String} (hd : decode M.2.1 pc = .ok (.invokespecial idx, 3)) (hn : pc + 3 = n) (hl0 : Cond.methodLinkNest M.1.cls idx M'.1 host ∈ lw_tbl ∨ Cond.methodLink M.1.cls idx M'.1 ∈ oa_GT) (m1 : oa_cw M' ∈ oa_GT) (m2 : Cond.initialized M'.1.cls ∈ oa_GT) (m3 : M'.1.cls ≠ "java/lang/invoke/MethodHandle" ∧ M'.1.cls ≠ "java/lang/invoke/VarHandle") (m4 : (parseMethodDescriptor M'.1.desc).map (fun d => d.parameters.length) = some 0) (m5 : M'.2.2.1 ≤ 45) (m6 : M'.2.2.2.1 = none) (m7 : M'.1.name = "<init>") (m8 : Cond.instanceMethod M'.1 ∈ oa_GT)
    (hS0 : (S.map fun v => v.category).sum ≤ 8) (cc : CT g d kc' ks' M' ci df fin new) (hs : seg.length = n0)
    (kk : BW g (d + 1) kc ks M n L S (es.set k v ++ (seg ++ (va_E_r (ci, fin (g.1 + es.length + n0 + 1)) :: new (g.1 + es.length + n0 + 1)))) Q) : BW g (d + 1) (kc + kc') (ks + ks') M pc L (.ref (g.1 + es.length + n0) :: S) (es.set k v ++ (seg ++ [va_E_r (ci, df)])) Q := by
  have hl1 : (es.set k v ++ seg).length = es.length + n0 := by rw [List.length_append, List.length_set, hs]
  have hat : (es.set k v ++ (seg ++ [va_E_r (ci, df)]))[es.length + n0]? = some (va_E_r (ci, df)) := by
    rw [← List.append_assoc, List.getElem?_append_right (by omega), hl1, Nat.sub_self]
    rfl
  have hb : g.1 + (es.set k v ++ (seg ++ [va_E_r (ci, df)])).length = g.1 + es.length + n0 + 1 := by
    rw [← List.append_assoc, List.length_append, hl1]
    show g.1 + (es.length + n0 + 1) = _
    omega
  have hset : (es.set k v ++ (seg ++ [va_E_r (ci, df)])).set (es.length + n0) (va_E_r (ci, fin (g.1 + es.length + n0 + 1))) = es.set k v ++ (seg ++ [va_E_r (ci, fin (g.1 + es.length + n0 + 1))]) := by
    rw [← List.append_assoc, List.set_append_right _ _ (by omega), hl1, Nat.sub_self, List.append_assoc]
    rfl
  rw [Nat.add_assoc g.1 es.length n0]
  refine bw_call hd hn hl0 m1 m2 m3 m4 m5 m6 m7 m8 hS0 (cc.2 _ _ hat) (fun es' h => ?_) (fun es' h => ?_)
  · rw [h, List.length_append, List.length_set, cc.1]
  · rw [h, hb, hset]
    have : es.set k v ++ (seg ++ [va_E_r (ci, fin (g.1 + es.length + n0 + 1))]) ++ new (g.1 + es.length + n0 + 1) = es.set k v ++ (seg ++ (va_E_r (ci, fin (g.1 + es.length + n0 + 1)) :: new (g.1 + es.length + n0 + 1))) := by
      rw [List.append_assoc, List.append_assoc]
      rfl
    rw [show es.set k v ++ (seg ++ [va_E_r (ci, fin (g.1 + es.length + n0 + 1))]) ++ new (g.1 + es.length + n0 + 1) = es.set k v ++ (seg ++ (va_E_r (ci, fin (g.1 + es.length + n0 + 1)) :: new (g.1 + es.length + n0 + 1))) from this]
    exact kk
end BWN
