/-! making the objects: arrays of arrays, arrays of references, loops -/
theorem bz_outerW (cA : ClassId) (N h0 : Nat) : ∀ i, (Jvm.Free.Multi.outerC cA N h0 i).monitor = (Jvm.Free.Multi.outerC cA N h0 0).monitor ∧ (Jvm.Free.Multi.outerC cA N h0 i).hash = (Jvm.Free.Multi.outerC cA N h0 0).hash
  | 0 => ⟨rfl, rfl⟩
  | i + 1 => by
    have ih := bz_outerW cA N h0 i
    rw [Jvm.Free.Multi.outerC]
    exact ih
theorem bz_outer {cA : ClassId} {N h0 : Nat} : Jvm.Free.Multi.outerC cA N h0 N = vp_cell cA (N, .inr (.inr (.inr (.inr fun j => if j < N then some (h0 + 1 + j) else none)))) := by
  obtain ⟨a, b, d⟩ := Jvm.Free.Multi.outerC_facts cA N h0 N
  have hs : (Jvm.Free.Multi.outerC cA N h0 N).slots = (arrV cA N (fun j => va_rf (if j < N then some (h0 + 1 + j) else none))).slots := by
    apply Array.ext_getElem?
    intro j
    by_cases hj : j < N
    · rw [Jvm.Free.Multi.outerC_slot cA N h0 N j hj, arrV_read cA _ hj, if_pos hj, if_pos hj]
      rfl
    · rw [Array.getElem?_eq_none (by omega), Array.getElem?_eq_none (by rw [arrV_size]; omega)]
  obtain ⟨w1, w2⟩ := bz_outerW cA N h0 N
  rw [vp_cell_q]
  generalize Jvm.Free.Multi.outerC cA N h0 N = X at a b d hs w1 w2 ⊢
  cases X
  simp only at a b hs w1 w2
  subst a b hs w1 w2
  rfl
section BWA
variable {g : BC} {d kc ks : Nat} {M : MD} {pc n : Nat} {L L2 : List (Nat × Value)} {S : List Value} {es : List va_E} {Q : BK}
theorem bw_sub (js : List Nat) (hj : js.filterMap (fun j => L[j]?) = L2) (k : BW g d kc ks M pc L2 S es Q) : BW g d kc ks M pc L S es Q := by
  intro p l e R s m args below meth c mc ms F hf hlo hmc hms hg hX H locs cells slots ls hc hs hx hP hS hl
  subst hj
  refine k p l e R s m args below meth c mc ms F hf hlo hmc hms hg hX H locs cells slots ls hc hs hx hP hS ?_
  refine ⟨hl.1, hl.2.1, fun q hq => ?_⟩
  obtain ⟨j, -, hj⟩ := List.mem_filterMap.mp hq
  exact hl.2.2 _ (List.mem_of_getElem? hj)
theorem bw_iload_n {q : Fin 4} {j i : Nat} {x : Int32} (hd : decode M.2.1 pc = .ok (.iload_n q, 1)) (hn : pc + 1 = n) (hi : (q : Nat) = i) (hq : L[j]? = some (i, .int x)) (k : BW g d kc ks M n L (.int x :: S) es Q) : BW g d kc ks M pc L S es Q := by
  intro p l e R s m args below meth c mc ms F hf hlo hmc hms hg hX H locs cells slots ls hc hs hx hP hS hl
  subst hn
  exact lv_iload_n F.1 F.2.1 hd hi (lv_at hl j hq) (k p l e R s m args below meth c mc ms F hf hlo hmc hms hg hX H locs cells slots ls hc hs hx hP hS hl)
theorem bw_istore_n {q : Fin 4} {i : Nat} {x : Int32} (hd : decode M.2.1 pc = .ok (.istore_n q, 1)) (hn : pc + 1 = n) (hi : (q : Nat) = i) (hb : i < M.2.2.1) (hst : (i, Value.int x) :: L.filter (fun q => !(q.1 == i) && !(q.1 + 1 == i && q.2.category == 2)) = L2) (k : BW g d kc ks M n L2 S es Q) : BW g d kc ks M pc L (.int x :: S) es Q := by
  intro p l e R s m args below meth c mc ms F hf hlo hmc hms hg hX H locs cells slots ls hc hs hx hP hS hl
  subst hn
  exact lv_istore_n F.1 F.2.1 hd hi hl hb hst (fun ls hl => k p l e R s m args below meth c mc ms F hf hlo hmc hms hg hX H locs cells slots ls hc hs hx hP hS hl)
theorem bw_iinc {i j : Nat} {z : Int} {x v : Int32} (hd : decode M.2.1 pc = .ok (.iinc i z, 3)) (hn : pc + 3 = n) (hb : i < M.2.2.1) (hq : L[j]? = some (i, .int x)) (hv : x + Int32.ofInt z = v) (hst : (i, Value.int v) :: L.filter (fun q => !(q.1 == i) && !(q.1 + 1 == i && q.2.category == 2)) = L2) (k : BW g d kc ks M n L2 S es Q) : BW g d kc ks M pc L S es Q := by
  intro p l e R s m args below meth c mc ms F hf hlo hmc hms hg hX H locs cells slots ls hc hs hx hP hS hl
  subst hn
  exact lv_iinc F.1 F.2.1 hd hl (k := j) hq hv hb hst (fun ls hl => k p l e R s m args below meth c mc ms F hf hlo hmc hms hg hX H locs cells slots ls hc hs hx hP hS hl)
theorem bw_goto {z : Int} (tg : Nat) (hd : decode M.2.1 pc = .ok (.goto z, 3)) (ht : (pc : Int) + z = (tg : Int)) (k : BW g d kc ks M tg L S es Q) : BW g d kc ks M pc L S es Q := by
  intro p l e R s m args below meth c mc ms F hf hlo hmc hms hg hX H locs cells slots ls hc hs hx hP hS hl
  exact lv_goto F.1 F.2.1 hd ht (k p l e R s m args below meth c mc ms F hf hlo hmc hms hg hX H locs cells slots ls hc hs hx hP hS hl)
theorem bw_icmp_ge {x y : Int32} {z : Int} (tg : Nat) (hd : decode M.2.1 pc = .ok (.if_icmp .ge z, 3)) (hn : pc + 3 = n) (ht : (pc : Int) + z = (tg : Int)) (kt : y ≤ x → BW g d kc ks M tg L S es Q) (kf : ¬ y ≤ x → BW g d kc ks M n L S es Q) : BW g d kc ks M pc L (.int y :: .int x :: S) es Q := by
  intro p l e R s m args below meth c mc ms F hf hlo hmc hms hg hX H locs cells slots ls hc hs hx hP hS hl
  subst hn
  exact lv_icmp_ge F.1 F.2.1 hd ht (fun q => kt q p l e R s m args below meth c mc ms F hf hlo hmc hms hg hX H locs cells slots ls hc hs hx hP hS hl) (fun q => kf q p l e R s m args below meth c mc ms F hf hlo hmc hms hg hX H locs cells slots ls hc hs hx hP hS hl)
theorem bw_get {q0 idx ci N k : Nat} {C : String} {T : u_T} {fs : List Value} {ty0 : Nat → FieldType} {v : Value} (hd : decode M.2.1 pc = .ok (.getfield idx, 3)) (hn : pc + 3 = n) (he : es[q0]? = some (.inr (ci, fs))) (hB : oa_CB ci C T N ty0) (hk : k < N) (hw : Cond.fieldLink M.1.cls idx (T k).1 (T k).2.1 (T k).2.2.1 ∈ oa_GT) (hv : fs[k]? = some v) (kk : BW g d kc ks M n L (v :: S) es Q) : BW g d kc ks M pc L (.ref (g.1 + q0) :: S) es Q := by
  intro p l e R s m args below meth c mc ms F hf hlo hmc hms hg hX H locs cells slots ls hc hs hx hP hS hl
  subst hn
  have J := F.2.2.2.2.2.2.2
  exact va_get F.1 F.2.1 (Ts := oa_GT) (fun q hq => J.1 q hq args) hB.2.1 F.2.2.2.2.1 J.2.2.1 hP.1 q0 (by rw [bz_get, he]; rfl) hB.1 k hk (J.1 _ hw args) (fun _ z => z) hv hd (kk p l e R s m args below meth c mc ms F hf hlo hmc hms hg hX H locs cells slots ls hc hs hx hP hS hl)
/-- an array of references -/
theorem bw_anew {index : Nat} {z : Int32} {N : Nat} (hd : decode M.2.1 pc = .ok (.anewarray index, 3)) (hn : pc + 3 = n) (h1 : Cond.classLink M.1.cls index "OrderAssembler$Ledger" ∈ oa_GT) (h2 : Cond.arrayOver (.object "OrderAssembler$Ledger") ∈ lw_tbl) (hz : ¬ z < 0) (hN : z.toNatClampNeg = N) (hbytes : N * 4 ≤ 536870912)
    (k : BW g d kc ks M n L (.ref (g.1 + es.length) :: S) (es ++ [.inl (g.2.2 4, N, .inr (.inr (.inr (.inr fun _ => none))))]) Q) : BW g d (kc + 1) (ks + N) M pc L (.int z :: S) es Q := by
  intro p l e R s m args below meth c mc ms F hf hlo hmc hms hg hX H locs cells slots ls hc hs hx hP hS hl
  subst hn
  subst hN
  have J := F.2.2.2.2.2.2.2
  obtain ⟨kA, comp, k1, k2, k3, k4⟩ := (J.2.2.1.2 4 _ rfl).2
  refine W.anew F.1 F.2.1 F.2.2.2.2.1 (J.1 _ h1 args) (J.2.2.2 _ h2 args) rfl hd rfl hz hbytes (by omega) (by omega) fun cA kA' comp' e1 e2 e3 e4 => ?_
  have hcA : cA = g.2.2 4 := Option.some.inj (e1.symm.trans k4)
  have z1 : (H.push { cls := cA, slots := Array.replicate z.toNatClampNeg .null, vm := .none }).size = g.1 + es.length + 1 := by rw [Array.size_push, hP.2]
  have o1 : ∀ q, q < g.1 + es.length → (H.push { cls := cA, slots := Array.replicate z.toNatClampNeg .null, vm := .none })[q]? = H[q]? := fun q hq => by
    rw [Array.getElem?_push, if_neg (by rw [hP.2]; omega)]
  refine W.eq (g2 := F0 m (pc + 3) ls (.ref (g.1 + es.length) :: S)) (by rw [hP.2]) ?_
  refine k p l e R s m args below meth c mc ms F hf hlo hmc hms hg hX _ locs (cells + 1) (slots + z.toNatClampNeg) ls (by omega) (by omega) (by rw [List.length_append]; show _ + (_ + 1) = _; omega) (bz_push hP z1 o1 ?_) ⟨Nat.le_trans hS.1 (by rw [z1, hP.2]; omega), fun x y1 y2 => (o1 x (by have := hS.1; rw [hP.2] at this; omega)).trans (hS.2.1 x y1 y2), hS.2.2⟩ hl
  show (H.push _)[g.1 + es.length]? = some (arrV (g.2.2 4) z.toNatClampNeg (fun _ => Value.null))
  rw [← arrV_new, ← hP.2, Array.getElem?_push, if_pos rfl, hcA]
theorem bw_aast {q0 qk : Nat} {N : Nat} {f : Nat → Option Nat} {vs : List Value} {i : Int32} (hd : decode M.2.1 pc = .ok (.aastore, 1)) (hn : pc + 1 = n) (ha : es[q0]? = some (.inl (g.2.2 4, N, .inr (.inr (.inr (.inr f)))))) (hv : es[qk]? = some (.inr (5, vs))) (hin : vp_in i N)
    (k : BW g d kc ks M n L S (es.set q0 (.inl (g.2.2 4, N, .inr (.inr (.inr (.inr (va_up f i.toNatClampNeg (some (g.1 + qk)))))))) ) Q) : BW g d kc ks M pc L (.ref (g.1 + qk) :: .int i :: .ref (g.1 + q0) :: S) es Q := by
  intro p l e R s m args below meth c mc ms F hf hlo hmc hms hg hX H locs cells slots ls hc hs hx hP hS hl
  subst hn
  have J := F.2.2.2.2.2.2.2
  refine va_astq F.1 F.2.1 J.2.2.1 hP.1 (bz_D g es) hS q0 4 qk 5 (r := (RX5, TX5, 3)) (by rw [bz_get, ha]; rfl) rfl (by rw [bz_get, hv]; rfl) rfl hin hd (fun H1 locs1 hP1 hD1 hS1 => ?_)
  rw [bz_set] at hP1
  refine bz_sz fun hz => ?_
  have hq : q0 < es.length := (List.getElem?_eq_some_iff.mp ha).1
  exact k p l e R s m args below meth c mc ms F hf hlo hmc hms hg hX H1 locs1 cells slots ls hc hs (by rw [List.length_set]; exact hx) ⟨hP1, bz_full hP1 (by rw [List.length_set]; omega) (by rw [List.length_set]; omega)⟩ hS1 hl
/-- an array of int arrays -/
def bz_rows (g : BC) (b N K : Nat) : List va_E := .inl (g.2.2 5, N, .inr (.inr (.inr (.inr fun j => if j < N then some (b + 1 + j) else none)))) :: List.replicate N (.inl (g.2.2 0, K, .inl fun _ => 0))
theorem bw_multi {index : Nat} {z y : Int32} {N K : Nat} (hd : decode M.2.1 pc = .ok (.multianewarray index 2, 4)) (hn : pc + 4 = n) (h1 : Cond.classLink M.1.cls index "[[I" ∈ oa_GT) (h2 : Cond.arrayOver (.array .int) ∈ lw_tbl) (h3 : Cond.arrayClass .int ∈ oa_GT) (hz : ¬ z < 0) (hy : ¬ y < 0) (hN : z.toNatClampNeg = N) (hK : y.toNatClampNeg = K) (hbN : N ≤ 1000) (hbK : K ≤ 1000)
    (k : BW g d kc ks M n L (.ref (g.1 + es.length) :: S) (es ++ bz_rows g (g.1 + es.length) N K) Q) : BW g d (kc + (1 + N)) (ks + (N + N * K)) M pc L (.int y :: .int z :: S) es Q := by
  intro p l e R s m args below meth c mc ms F hf hlo hmc hms hg hX H locs cells slots ls hc hs hx hP hS hl
  subst hn
  subst hN
  subst hK
  have J := F.2.2.2.2.2.2.2
  have k5 : s.vm.findClass "[[I" = some (g.2.2 5) := (J.2.2.1.2 5 _ rfl).2
  have k0 : s.vm.findClass "[I" = some (g.2.2 0) := (J.2.2.1.2 0 _ rfl).2
  intro T hT X
  obtain ⟨vm₁, cA, comp, hW, hfA, hfC, hO, hI, X1, step⟩ := X.multianewarray2F F.1 (own := M.1.cls) (index := index) (ty := .int) F.2.2.2.2.1 (J.1 _ h1 args) (J.2.2.2 _ h2 args) (J.1 _ h3 args) (g := F0 m pc ls (.int y :: .int z :: S)) rfl (by rw [F.2.1]; exact hd) rfl hz hy (by omega) (by show _ * 4 ≤ _; omega) (by omega) rfl rfl (by omega) (by omega)
  have hcA : cA = g.2.2 5 := Option.some.inj (hfA.symm.trans k5)
  have hco : comp = g.2.2 0 := Option.some.inj (hfC.symm.trans k0)
  have hT2 : (T.setVm vm₁).heap = H := hT
  obtain ⟨f1, f2, -, -⟩ := Jvm.Free.Multi.fill_facts (T.setVm vm₁) cA comp z.toNatClampNeg y.toNatClampNeg (defaultValue .int) z.toNatClampNeg
  have f3 := fun (a : Addr) (ha : a < (T.setVm vm₁).heap.size) => Jvm.Free.Multi.fill_old (T.setVm vm₁) cA comp z.toNatClampNeg y.toNatClampNeg (defaultValue .int) ha z.toNatClampNeg
  have f4 := Jvm.Free.Multi.fill_inner (T.setVm vm₁) cA comp z.toNatClampNeg y.toNatClampNeg (defaultValue .int) z.toNatClampNeg
  rw [hT2] at f1 f2 f4
  have f3' : ∀ a, a < H.size → (Jvm.Free.Multi.fill (T.setVm vm₁) cA comp z.toNatClampNeg y.toNatClampNeg (defaultValue .int) z.toNatClampNeg).heap[a]? = H[a]? := fun a ha => by
    have := f3 a (by rw [hT2]; exact ha)
    rw [hT2] at this
    exact this
  generalize hF : Jvm.Free.Multi.fill (T.setVm vm₁) cA comp z.toNatClampNeg y.toNatClampNeg (defaultValue .int) z.toNatClampNeg = T1 at *
  have hP1 : bz_P g (es ++ bz_rows g (g.1 + es.length) z.toNatClampNeg y.toNatClampNeg) T1.heap := by
    refine ⟨?_, by rw [f1, hP.2]; unfold bz_rows; rw [List.length_append, List.length_cons, List.length_replicate]; omega⟩
    intro j q hq
    rw [bz_get] at hq
    obtain ⟨e0, he0, rfl⟩ := Option.map_eq_some_iff.mp hq
    by_cases hj : j < es.length
    · rw [List.getElem?_append_left hj] at he0
      have := hP.1.kept (H1 := T1.heap) (fun k x hx => f3' x.1 (hP.1 k x hx).lt)
      exact this j _ (by rw [bz_get, he0]; rfl)
    · rw [List.getElem?_append_right (by omega)] at he0
      unfold bz_rows at he0
      by_cases hj0 : j = es.length
      · rw [hj0, Nat.sub_self] at he0
        cases he0
        show T1.heap[g.1 + j]? = some (vp_cell (g.2.2 5) _)
        rw [hj0, ← hP.2, f2, bz_outer, hcA]
      · rw [show j - es.length = (j - es.length - 1) + 1 by omega, List.getElem?_cons_succ, List.getElem?_replicate] at he0
        have hlt : j - es.length - 1 < z.toNatClampNeg := by
          by_cases hh : j - es.length - 1 < z.toNatClampNeg
          · exact hh
          · rw [if_neg hh] at he0; cases he0
        rw [if_pos hlt] at he0
        cases he0
        show T1.heap[g.1 + j]? = some (arrV (g.2.2 0) y.toNatClampNeg (fun _ => Value.int 0))
        have := f4 (j - es.length - 1) hlt
        rw [show H.size + 1 + (j - es.length - 1) = g.1 + j by rw [hP.2]; omega] at this
        rw [this, ← arrV_new, ← hco]
        rfl
  have hS1 : va_S (bz_A g) s.heap T1.heap locs := ⟨Nat.le_trans hS.1 (by rw [f1]; omega), fun x y1 y2 => (f3' x (Nat.lt_of_lt_of_le y1 hS.1)).trans (hS.2.1 x y1 y2), hS.2.2⟩
  obtain ⟨t, a1, b1⟩ := k p l e R s m args below meth c mc ms F hf hlo hmc hms hg hX T1.heap locs (cells + 1 + z.toNatClampNeg) (slots + z.toNatClampNeg + z.toNatClampNeg * y.toNatClampNeg) ls (by omega) (by omega) (by unfold bz_rows; rw [List.length_append, List.length_cons, List.length_replicate]; omega) hP1 hS1 hl T1 rfl X1
  refine ⟨t, step t ?_, b1⟩
  rw [hT, hP.2]
  exact a1
end BWA
