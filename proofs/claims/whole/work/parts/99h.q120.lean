/-! making the objects: cells from g.1 on, in the order in which they come -/
abbrev BC : Type := Nat × va_G × (Nat → ClassId)
def bz_tys (g : BC) : List (ClassId × FieldType) := [(g.2.2 0, .int), (g.2.2 1, .byte), (g.2.2 2, .long), (g.2.2 3, .boolean), (g.2.2 4, .object "OrderAssembler$Ledger"), (g.2.2 5, .array .int)]
def bz_ws (n0 : Nat) (es : List va_E) : va_W := es.mapIdx fun k e => (n0 + k, e)
def bz_A (g : BC) : Nat → Prop := fun q => g.1 ≤ q
def bz_P (g : BC) (es : List va_E) (H : Heap) : Prop := va_P g.2.1 vwCl (bz_ws g.1 es) H ∧ H.size = g.1 + es.length
def bz_JF (g : BC) (U : State) : Prop := (∀ q ∈ oa_GT, ∀ a : Array Value, q.before a U = true) ∧ (∀ (o : String) (i : Nat) (y : MethodName) (n : String), Cond.methodLinkNest o i y n ∈ lw_tbl → va_Nw (.methodLinkNest o i y n) U) ∧ va_K g.2.1 vwCl (bz_tys g) U ∧ ∀ t : FieldType, Cond.arrayOver t ∈ lw_tbl → ∀ a : Array Value, (Cond.arrayOver t).before a U = true
theorem bz_JF.moved {g : BC} {s U : State} (h : bz_JF g s) (hW : s.WarmedH U.vm) : bz_JF g U := by
  obtain ⟨h2, h3, h4, h5⟩ := h
  refine ⟨fun q hq' a => ?_, fun o i y n hn => (h3 o i y n hn).warmM hW, va_K.moved hW.alike h4, fun t ht a => ?_⟩
  rotate_left
  · have h1 : (Cond.arrayOver t).before #[] (s.setVm U.vm) = true := (Cond.arrayOver_setVmC hW.alike t).trans (h5 t ht #[])
    exact h1
  exact word_at hW (good_of_word (List.mem_filter.mp hq').2) (h2 q hq' #[])
theorem bz_get {n0 : Nat} {es : List va_E} {k : Nat} : (bz_ws n0 es)[k]? = es[k]?.map fun e => (n0 + k, e) := by
  unfold bz_ws
  rw [List.getElem?_mapIdx]
theorem bz_len {n0 : Nat} {es : List va_E} : (bz_ws n0 es).length = es.length := by
  unfold bz_ws
  rw [List.length_mapIdx]
theorem bz_set {n0 : Nat} {es : List va_E} {k : Nat} {e : va_E} : (bz_ws n0 es).set k (n0 + k, e) = bz_ws n0 (es.set k e) := by
  apply List.ext_getElem?
  intro j
  rw [List.getElem?_set, bz_get, bz_get, List.getElem?_set, bz_len]
  by_cases d : k = j
  · subst d
    by_cases l : k < es.length
    · simp [l]
    · simp [l]
  · simp [d]
theorem bz_app {n0 : Nat} {es : List va_E} {e : va_E} : bz_ws n0 (es ++ [e]) = bz_ws n0 es ++ [(n0 + es.length, e)] := by
  unfold bz_ws
  rw [List.mapIdx_append]
  simp
theorem bz_D (g : BC) (es : List va_E) : va_D (bz_A g) (bz_ws g.1 es) := by
  refine ⟨fun i j p q hi hj hpq => ?_, fun k q hk => ?_⟩
  · rw [bz_get] at hi hj
    obtain ⟨e1, -, rfl⟩ := Option.map_eq_some_iff.mp hi
    obtain ⟨e2, -, rfl⟩ := Option.map_eq_some_iff.mp hj
    have : g.1 + i = g.1 + j := hpq
    omega
  · rw [bz_get] at hk
    obtain ⟨e1, -, rfl⟩ := Option.map_eq_some_iff.mp hk
    exact Nat.le_add_right _ _
/-- a cell more -/
theorem bz_push {g : BC} {es : List va_E} {e : va_E} {H H1 : Heap} (hP : bz_P g es H) (z1 : H1.size = g.1 + es.length + 1) (o1 : ∀ q, q < g.1 + es.length → H1[q]? = H[q]?) (ha : va_at g.2.1 vwCl (g.1 + es.length, e) H1) : bz_P g (es ++ [e]) H1 := by
  refine ⟨?_, by rw [z1, List.length_append]; rfl⟩
  rw [bz_app]
  refine (hP.1.kept (fun k x hx => o1 x.1 ?_)).app (fun k x hx => ?_)
  · rw [← hP.2]; exact (hP.1 k x hx).lt
  · have hz : k < 1 := (List.getElem?_eq_some_iff.mp hx).1
    rw [show k = 0 by omega] at hx
    cases hx
    exact ha
/-- the frame of a method that makes -/
def bz_Fx (g : BC) (p : Program) (s : State) (m : MethodId) (meth : Method) (c : Code) (M : MD) : Prop :=
  p.tables.exec = Jvm.exec ∧ c.code = M.2.1 ∧ c.maxLocals = M.2.2.1 ∧ meth.sig.returnType = M.2.2.2.1 ∧ s.vm.findClass M.1.cls = some m.cls ∧ meth.locks = false ∧ (M.1.name = "<init>" → meth.name = M.1.name) ∧ bz_JF g s
def bz_Q (g : BC) (Q : List va_E → Prop) : Array Value → State → Outcome → State → Prop := va_Qv Q (fun es t => bz_P g es t.heap) (bz_A g)
/-- what else is known, and what is to come of it -/
abbrev BK : Type := (Launch → State → Code → Prop) × (List Frame → Array Value → State → Nat → Nat → State → Prop)
abbrev bz_K (g : BC) (Q : List va_E → Prop) : BK := (fun _ _ _ => True, fun below args s mc ms => MQ below (bz_Q g Q) args s mc ms (bz_A g))
/-- from here M ends, kc cells of ks slots may still come -/
def BW (g : BC) (d kc ks : Nat) (M : MD) (pc : Nat) (L : List (Nat × Value)) (S : List Value) (es : List va_E) (Q : BK) : Prop :=
  ∀ (p : Program) (l : Launch) (e : Env) (R : Room) (s : State) (m : MethodId) (args : Array Value) (below : List Frame) (meth : Method) (c : Code) (mc ms : Nat),
    bz_Fx g p s m meth c M → d ≤ R.frames → 64 * d ≤ R.locals → mc ≤ R.cells → ms ≤ R.slots → g.1 ≤ s.heap.size → Q.1 l s c →
    ∀ (H : Heap) (locs : List Loc) (cells slots : Nat) (ls : Array Slot), cells + kc ≤ mc → slots + ks ≤ ms → g.1 + es.length = s.heap.size + cells → bz_P g es H → va_S (bz_A g) s.heap H locs → lv_has ls M.2.2.1 L →
    W p l e R s m args below meth c H locs cells slots (Q.2 below args s mc ms) (F0 m pc ls S)
def bz_rm (d kc ks : Nat) : Room := { frames := d, cells := kc, slots := ks, locals := 64 * d }
def bz_PC (g : BC) (as : List Value) (es : List va_E) : Array Value → State → Prop := fun a U => a = as.toArray ∧ bz_JF g U ∧ bz_P g es U.heap
/-- a call of M -/
def BL (g : BC) (d kc ks : Nat) (M : MD) (as : List Value) (es : List va_E) (Q : List va_E → Prop) : Prop := ∀ l : Launch, Met l M.1 [oa_cw M] (bz_rm d kc ks) (bz_PC g as es) (bz_Q g Q) kc ks (bz_A g)
theorem bz_blind {g : BC} {as : List Value} {es : List va_E} : FrameBlind (bz_PC g as es) := by
  intro a U f mk q
  obtain ⟨q1, q2, q3⟩ := q
  exact ⟨q1, bz_JF.moved (s := U) (U := U.calling f mk a) q2 (State.WarmedH.refl U), q3⟩
theorem bz_sz {p : Program} {l : Launch} {e : Env} {R : Room} {s : State} {m : MethodId} {args : Array Value} {below : List Frame} {meth : Method} {c : Code} {H : Heap} {locs : List Loc} {cells slots : Nat} {Q : State → Prop} {f : JFrame} (k : H.size ≤ s.heap.size + cells → W p l e R s m args below meth c H locs cells slots Q f) : W p l e R s m args below meth c H locs cells slots Q f := by
  intro T hT X
  have h1 : T.heap.size ≤ s.heap.size + cells := X.same.2.2.1
  rw [hT] at h1
  exact k h1 T hT X
theorem bz_full {g : BC} {es : List va_E} {H : Heap} (hP : va_P g.2.1 vwCl (bz_ws g.1 es) H) (h0 : 0 < es.length) (h1 : H.size ≤ g.1 + es.length) : H.size = g.1 + es.length := by
  have h2 : (bz_ws g.1 es)[es.length - 1]? = some (g.1 + (es.length - 1), es[es.length - 1]'(by omega)) := by
    rw [bz_get, List.getElem?_eq_getElem (by omega)]
    rfl
  have := (hP _ _ h2).lt
  have h3 : g.1 + (es.length - 1) < H.size := this
  omega
section BWR
variable {g : BC} {d kc ks : Nat} {M : MD} {pc n : Nat} {L : List (Nat × Value)} {S : List Value} {es : List va_E} {Q : BK}
theorem BL.of {as : List Value} {Q : List va_E → Prop} (hy : plainName M.1.cls = true) (hl : (lg_sl as).length ≤ M.2.2.1) (kk : BW g d kc ks M 0 (lv_args 0 as) [] es (bz_K g Q)) : BL g d kc ks M as es Q := by
  intro l
  refine Met.ofW (cc := M.2.1) (maxL := M.2.2.1) (ret := M.2.2.2.1) (ws' := []) hy rfl ?_
  intro p e s m args below meth c s₁ B hml hv
  obtain ⟨rfl, hJ, hP⟩ := hv
  have hown : s.vm.findClass M.1.cls = some m.cls := findClass_of_methodNamed B.named
  have hle := lv_entry as (n := M.2.2.1) hl
  rw [lg_entry_eq]
  exact kk p l e _ s m _ below meth c kc ks ⟨B.exec, B.bytes, hml, B.returns, hown, B.notSynchronized, fun _ => (name_of_methodNamed B.named B.method).1, hJ⟩ (Nat.le_refl _) (Nat.le_refl _) (Nat.le_refl _) (Nat.le_refl _) (by rw [hP.2]; omega) trivial s.heap [] 0 0 _ (by omega) (by omega) (by rw [hP.2]; rfl) hP va_S.rf hle
theorem bw_aload_n {q : Fin 4} {j i : Nat} {v : Value} (hd : decode M.2.1 pc = .ok (.aload_n q, 1)) (hn : pc + 1 = n) (hi : (q : Nat) = i) {a : Nat} (hv : v = .ref a) (hq : L[j]? = some (i, v)) (k : BW g d kc ks M n L (v :: S) es Q) : BW g d kc ks M pc L S es Q := by
  intro p l e R s m args below meth c mc ms F hf hlo hmc hms hg hX H locs cells slots ls hc hs hx hP hS hl
  subst hn
  subst hv
  exact lv_aload_n F.1 F.2.1 hd hi (lv_at hl j hq) (k p l e R s m args below meth c mc ms F hf hlo hmc hms hg hX H locs cells slots ls hc hs hx hP hS hl)
theorem bw_bipush {z : Int} {v : Int32} (hd : decode M.2.1 pc = .ok (.bipush z, 2)) (hn : pc + 2 = n) (hv : (Int8.ofInt z).toInt32 = v) (k : BW g d kc ks M n L (.int v :: S) es Q) : BW g d kc ks M pc L S es Q := by
  intro p l e R s m args below meth c mc ms F hf hlo hmc hms hg hX H locs cells slots ls hc hs hx hP hS hl
  subst hn
  exact lv_bipush F.1 F.2.1 hd hv (k p l e R s m args below meth c mc ms F hf hlo hmc hms hg hX H locs cells slots ls hc hs hx hP hS hl)
theorem bw_sipush {z : Int} {v : Int32} (hd : decode M.2.1 pc = .ok (.sipush z, 3)) (hn : pc + 3 = n) (hv : (Int16.ofInt z).toInt32 = v) (k : BW g d kc ks M n L (.int v :: S) es Q) : BW g d kc ks M pc L S es Q := by
  intro p l e R s m args below meth c mc ms F hf hlo hmc hms hg hX H locs cells slots ls hc hs hx hP hS hl
  subst hn
  exact lv_sipush F.1 F.2.1 hd hv (k p l e R s m args below meth c mc ms F hf hlo hmc hms hg hX H locs cells slots ls hc hs hx hP hS hl)
theorem bw_iconst {z : Int} {v : Int32} (hd : decode M.2.1 pc = .ok (.iconst z, 1)) (hn : pc + 1 = n) (hv : Int32.ofInt z = v) (k : BW g d kc ks M n L (.int v :: S) es Q) : BW g d kc ks M pc L S es Q := by
  intro p l e R s m args below meth c mc ms F hf hlo hmc hms hg hX H locs cells slots ls hc hs hx hP hS hl
  subst hn
  exact lv_iconst F.1 F.2.1 hd hv (k p l e R s m args below meth c mc ms F hf hlo hmc hms hg hX H locs cells slots ls hc hs hx hP hS hl)
theorem bw_dup {v : Value} (hd : decode M.2.1 pc = .ok (.dup, 1)) (hn : pc + 1 = n) (hv : v.category = 1) (k : BW g d kc ks M n L (v :: v :: S) es Q) : BW g d kc ks M pc L (v :: S) es Q := by
  intro p l e R s m args below meth c mc ms F hf hlo hmc hms hg hX H locs cells slots ls hc hs hx hP hS hl
  subst hn
  exact lv_dup F.1 F.2.1 hd hv (k p l e R s m args below meth c mc ms F hf hlo hmc hms hg hX H locs cells slots ls hc hs hx hP hS hl)
theorem bw_ret {Q : List va_E → Prop} (hd : decode M.2.1 pc = .ok (.return_, 1)) (hr : M.2.2.2.1 = none) (q : Q es) : BW g d kc ks M pc L [] es (bz_K g Q) := by
  intro p l e R s m args below meth c mc ms F hf hlo hmc hms hg hX H locs cells slots ls hc hs hx hP hS hl
  exact W.widen (k := mc) (n := ms) (by omega) (by omega) (W.vret F.1 F.2.1 (F.2.2.2.1.trans hr) (fun t ht _ => ⟨⟨es, rfl, q, by show bz_P g es t.heap; rw [ht]; exact hP⟩, hS.F ht⟩) hS.2.2 hd F.2.2.2.2.2.1)
theorem bw_obj {idx a : Nat} (hd : decode M.2.1 pc = .ok (.invokespecial idx, 3)) (hn : pc + 3 = n) (h1 : Cond.methodLink M.1.cls idx objectInit ∈ oa_GT) (h2 : Cond.instanceMethod objectInit ∈ oa_GT) (h3 : Cond.code objectInit ⟨#[0xb1]⟩ 1 none ∈ oa_GT) (hS0 : (S.map fun v => v.category).sum ≤ 8) (k : BW g (d + 1) kc ks M n L S es Q) : BW g (d + 1) kc ks M pc L (.ref a :: S) es Q := by
  intro p l e R s m args below meth c mc ms F hf hlo hmc hms hg hX H locs cells slots ls hc hs hx hP hS hl
  subst hn
  have J := F.2.2.2.2.2.2.2
  refine W.objInit F.1 F.2.1 F.2.2.2.2.1 (J.1 _ h1 args) (J.1 _ h2 args) (J.1 _ h3 args) rfl (by rw [F.2.2.1]; exact hl.1) rfl hd (by omega) ?_ ?_
  · show 2 * 0 + _ + 12 ≤ R.locals
    omega
  · exact k p l e R s m args below meth c mc ms F hf hlo hmc hms hg hX H locs cells slots ls hc hs hx hP hS hl
theorem bw_new {index ci N : Nat} {C : String} {T : u_T} {fs : List Value} {ty : Nat → FieldType} (hd : decode M.2.1 pc = .ok (.new index, 3)) (hn : pc + 3 = n) (h1 : Cond.classLink M.1.cls index C ∈ oa_GT) (h2 : Cond.instantiable C N ∈ oa_GT) (h3 : Cond.initialized C ∈ oa_GT) (hB : oa_CB ci C T N ty) (hfs : ∀ j, j < N → defaultValue (ty j) = vp_V fs j)
    (k : BW g d kc ks M n L (.ref (g.1 + es.length) :: S) (es ++ [.inr (ci, fs)]) Q) : BW g d (kc + 1) (ks + N) M pc L S es Q := by
  intro p l e R s m args below meth c mc ms F hf hlo hmc hms hg hX H locs cells slots ls hc hs hx hP hS hl
  subst hn
  have J := F.2.2.2.2.2.2.2
  have hts : ∀ w ∈ oa_GT, w.before args s = true := fun w hw => J.1 w hw args
  have hKn := J.2.2.1.1 ci _ hB.1
  refine W.newcK F.1 F.2.1 F.2.2.2.2.1 (hts _ h1) (hts _ h2) (hts _ h3) rfl hd (by omega) (by omega) hKn.2.1 hP.2 fun H1 kC hkC e1 z1 o1 => ?_
  refine k p l e R s m args below meth c mc ms F hf hlo hmc hms hg hX H1 locs (cells + 1) (slots + N) ls (by omega) (by omega) (by rw [List.length_append]; show _ + (_ + 1) = _; omega) (bz_push hP z1 o1 ⟨_, hB.1, (u_born ty hts hB.2.1 hKn hkC e1 hB.2.2.1).to hfs⟩) ⟨Nat.le_trans hS.1 (by rw [hP.2, z1]; omega), fun x y1 y2 => (o1 x (by have := hS.1; rw [hP.2] at this; omega)).trans (hS.2.1 x y1 y2), hS.2.2⟩ hl
theorem bw_newa {atype : ArrayType} {ty : FieldType} {z : Int32} {N j : Nat} {a0 : vp_A} (hd : decode M.2.1 pc = .ok (.newarray atype, 2)) (hn : pc + 2 = n) (h1 : Cond.arrayClass (newarray.typeOf atype) ∈ oa_GT) (hty : newarray.typeOf atype = ty) (hj : (bz_tys g)[j]? = some (g.2.2 j, ty)) (hobj : ∀ C, ty ≠ .object C) (ha : ∀ cA : ClassId, vp_cell cA a0 = arrV cA N (fun _ => defaultValue ty)) (hz : ¬ z < 0) (hN : z.toNatClampNeg = N) (hbytes : N * componentBytes ty ≤ 536870912)
    (k : BW g d kc ks M n L (.ref (g.1 + es.length) :: S) (es ++ [.inl (g.2.2 j, a0)]) Q) : BW g d (kc + 1) (ks + N) M pc L (.int z :: S) es Q := by
  intro p l e R s m args below meth c mc ms F hf hlo hmc hms hg hX H locs cells slots ls hc hs hx hP hS hl
  subst hn
  subst hty
  have J := F.2.2.2.2.2.2.2
  have hR := (J.2.2.1.2 j _ hj).2
  refine va_newaK F.1 F.2.1 (J.1 _ h1 args) rfl hd rfl hz hN hbytes (by omega) (by omega) hP.2 fun H1 cA e1 z1 o1 hAr hNm => ?_
  have hcA : cA = g.2.2 j := by
    have hR' : s.vm.findClass ("[" ++ (newarray.typeOf atype).toString) = some (g.2.2 j) := by
      cases hh : newarray.typeOf atype with
      | object C => exact absurd hh (hobj C)
      | _ => rw [hh] at hR; exact hR
    exact Option.some.inj (hNm.symm.trans hR')
  refine k p l e R s m args below meth c mc ms F hf hlo hmc hms hg hX H1 locs (cells + 1) (slots + N) ls (by omega) (by omega) (by rw [List.length_append]; show _ + (_ + 1) = _; omega) (bz_push hP z1 o1 ?_) ⟨Nat.le_trans hS.1 (by rw [hP.2, z1]; omega), fun x y1 y2 => (o1 x (by have := hS.1; rw [hP.2] at this; omega)).trans (hS.2.1 x y1 y2), hS.2.2⟩ hl
  show H1[g.1 + es.length]? = some (vp_cell (g.2.2 j) a0)
  rw [ha, ← hcA]
  exact e1
/-- a field of the cell q0 -/
theorem bw_putF {q0 idx ci N k : Nat} {C : String} {T : u_T} {fs : List Value} {ty0 : Nat → FieldType} {v : Value} (hd : decode M.2.1 pc = .ok (.putfield idx, 3)) (hn : pc + 3 = n) (he : es[q0]? = some (.inr (ci, fs))) (hB : oa_CB ci C T N ty0) (hk : k < N) (hw : Cond.fieldLink M.1.cls idx (T k).1 (T k).2.1 (T k).2.2.1 ∈ oa_GT) (hfin : (T k).2.2.2 = true) (hin : M.1.name = "<init>") (hdecl : (T k).1 = M.1.cls) (hn1 : narrow (ty0 k) v = v) (hfit : fits (ty0 k) v = true) (hl0 : k < fs.length)
    (kk : BW g d kc ks M n L S (es.set q0 (.inr (ci, fs.set k v))) Q) : BW g d kc ks M pc L (v :: .ref (g.1 + q0) :: S) es Q := by
  intro p l e R s m args below meth c mc ms F hf hlo hmc hms hg hX H locs cells slots ls hc hs hx hP hS hl
  subst hn
  have J := F.2.2.2.2.2.2.2
  refine va_putF F.1 F.2.1 (Ts := oa_GT) (fun q hq => J.1 q hq args) hB.2.1 ty0 hB.2.2.1 hB.2.2.2 F.2.2.2.2.1 J.2.2.1 hP.1 (bz_D g es) hS q0 (by rw [bz_get, he]; rfl) hB.1 k hk (J.1 _ hw args) (fun _ z => z) hfin ((F.2.2.2.2.2.2.1 hin).trans hin) hdecl (ty := ty0 k) (v := v) (hB.2.2.1 k hk) hn1 hfit hl0 hd (fun H1 locs1 hP1 hD1 hS1 => ?_)
  rw [bz_set] at hP1
  refine bz_sz fun hz => ?_
  have hq : q0 < es.length := (List.getElem?_eq_some_iff.mp he).1
  exact kk p l e R s m args below meth c mc ms F hf hlo hmc hms hg hX H1 locs1 cells slots ls hc hs (by rw [List.length_set]; exact hx) ⟨hP1, bz_full hP1 (by rw [List.length_set]; omega) (by rw [List.length_set]; omega)⟩ hS1 hl
theorem bw_put {q0 idx ci N k : Nat} {C : String} {T : u_T} {fs : List Value} {ty0 : Nat → FieldType} {v : Value} (hd : decode M.2.1 pc = .ok (.putfield idx, 3)) (hn : pc + 3 = n) (he : es[q0]? = some (.inr (ci, fs))) (hB : oa_CB ci C T N ty0) (hk : k < N) (hw : Cond.fieldLink M.1.cls idx (T k).1 (T k).2.1 (T k).2.2.1 ∈ oa_GT) (hfin : (T k).2.2.2 = false) (hn1 : narrow (ty0 k) v = v) (hfit : fits (ty0 k) v = true) (hl0 : k < fs.length)
    (kk : BW g d kc ks M n L S (es.set q0 (.inr (ci, fs.set k v))) Q) : BW g d kc ks M pc L (v :: .ref (g.1 + q0) :: S) es Q := by
  intro p l e R s m args below meth c mc ms F hf hlo hmc hms hg hX H locs cells slots ls hc hs hx hP hS hl
  subst hn
  have J := F.2.2.2.2.2.2.2
  refine va_put F.1 F.2.1 (Ts := oa_GT) (fun q hq => J.1 q hq args) hB.2.1 ty0 hB.2.2.1 hB.2.2.2 F.2.2.2.2.1 J.2.2.1 hP.1 (bz_D g es) hS q0 (by rw [bz_get, he]; rfl) hB.1 k hk (J.1 _ hw args) (fun _ z => z) hfin (ty := ty0 k) (v := v) (hB.2.2.1 k hk) hn1 hfit hl0 hd (fun H1 locs1 hP1 hD1 hS1 => ?_)
  rw [bz_set] at hP1
  refine bz_sz fun hz => ?_
  have hq : q0 < es.length := (List.getElem?_eq_some_iff.mp he).1
  exact kk p l e R s m args below meth c mc ms F hf hlo hmc hms hg hX H1 locs1 cells slots ls hc hs (by rw [List.length_set]; exact hx) ⟨hP1, bz_full hP1 (by rw [List.length_set]; omega) (by rw [List.length_set]; omega)⟩ hS1 hl
/-- a constructor's call, by a contract -/
theorem bw_call {idx q0 kc' ks' : Nat} {M' : MD} {Q' : List va_E → Prop} {host : String} (hd : decode M.2.1 pc = .ok (.invokespecial idx, 3)) (hn : pc + 3 = n) (hl0 : Cond.methodLinkNest M.1.cls idx M'.1 host ∈ lw_tbl ∨ Cond.methodLink M.1.cls idx M'.1 ∈ oa_GT) (m1 : oa_cw M' ∈ oa_GT) (m2 : Cond.initialized M'.1.cls ∈ oa_GT) (m3 : M'.1.cls ≠ "java/lang/invoke/MethodHandle" ∧ M'.1.cls ≠ "java/lang/invoke/VarHandle") (m4 : (parseMethodDescriptor M'.1.desc).map (fun d => d.parameters.length) = some 0) (m5 : M'.2.2.1 ≤ 45) (m6 : M'.2.2.2.1 = none) (m7 : M'.1.name = "<init>") (m8 : Cond.instanceMethod M'.1 ∈ oa_GT)
    (hS0 : (S.map fun v => v.category).sum ≤ 8) (cc : BL g d kc' ks' M' [.ref (g.1 + q0)] es Q') (hlen : ∀ es', Q' es' → es'.length = es.length + kc') (k : ∀ es', Q' es' → BW g (d + 1) kc ks M n L S es' Q) : BW g (d + 1) (kc + kc') (ks + ks') M pc L (.ref (g.1 + q0) :: S) es Q := by
  intro p l e R s m args below meth c mc ms F hf hlo hmc hms hg hX H locs cells slots ls hc hs hx hP hS hl
  subst hn
  have J := F.2.2.2.2.2.2.2
  have hts : ∀ w ∈ oa_GT, w.before args s = true := fun w hw => J.1 w hw args
  have hcw : oa_cw M' = Cond.code M'.1 M'.2.1 M'.2.2.1 none := by unfold oa_cw; rw [m6]
  have hws : ∀ q ∈ [oa_cw M'], ∀ (a' : Array Value) (U : State), s.WarmedH U.vm → q.before a' U = true := fun q hq a' U hW => by
    rcases List.mem_singleton.mp hq with rfl
    exact word_at hW (good_of_word (List.mem_filter.mp m1).2) (J.1 _ m1 args)
  have hsig : ∀ sig, parseMethodDescriptor M'.1.desc = some sig → 0 = sig.parameters.length := fun sig hsg => by
    rw [hsg] at m4
    exact (Option.some.inj m4).symm
  have pre : PreS s H (bz_PC g [.ref (g.1 + q0)] es) [.ref (g.1 + q0)] := ⟨bz_blind, fun U hU hW => ⟨rfl, J.moved hW, by rw [hU]; exact hP⟩⟩
  have run : va_Run p l e R s m args below meth c H locs cells slots kc' ks' (F0 m pc ls (.ref (g.1 + q0) :: S)) S (bz_Q g Q' [.ref (g.1 + q0)].toArray) (bz_A g) := by
    rcases hl0 with hl0 | hl0
    · exact va_runIN (Ts := oa_GT) (nL := M.2.2.1) (As := []) (rest := S) (host := host) ⟨F.1, F.2.1, F.2.2.1, F.2.2.2.2.1, hts⟩ (cc l) ⟨⟨⟨rfl, rfl, by show d + 1 ≤ R.frames; omega, by show 8 + (M'.2.2.1 + 11) + 64 * d ≤ R.locals; omega, hws, by rw [hcw]; exact List.mem_cons_self⟩, by rw [← hcw]; exact hts _ m1, hts _ m2, m3, hsig, va_Nw.use rfl (J.2.1 _ _ _ _ hl0)⟩, m7, hts _ m8⟩ pre rfl rfl hl.1 rfl (lv_room hS0) hd ⟨by omega, by omega⟩
    · exact va_runI (Ts := oa_GT) (nL := M.2.2.1) (As := []) (rest := S) ⟨F.1, F.2.1, F.2.2.1, F.2.2.2.2.1, hts⟩ (cc l) ⟨⟨rfl, rfl, by show d + 1 ≤ R.frames; omega, by show 8 + (M'.2.2.1 + 11) + 64 * d ≤ R.locals; omega, hws, by rw [hcw]; exact List.mem_cons_self, by rw [← hcw]; exact hts _ m1, hts _ m2, m3, hsig, hts _ hl0⟩, m7, hts _ m8⟩ pre rfl rfl hl.1 rfl (lv_room hS0) hd ⟨by omega, by omega⟩
  refine va_callv run hS (fun _ _ z => z) (fun _ z => z) (fun es' t H1 locs1 ht hvm hq hB hz1 hk1 hS1 => ?_)
  have hB' : bz_P g es' t.heap := hB
  rw [ht] at hB'
  exact k es' hq p l e R s m args below meth c mc ms F hf hlo hmc hms hg hX H1 locs1 (cells + kc') (slots + ks') ls (by omega) (by omega) (by rw [hlen es' hq]; omega) hB' hS1 hl
end BWR
