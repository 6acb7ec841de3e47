section AWR
variable {X : WD → State → Prop} {d rb : Nat} {M : MD} {pc n : Nat} {L L2 : List (Nat × AV)} {S : List AV} {h : Hp} {Qr : Option AV → Hp → Prop} {Qx : String → Hp → Prop}
theorem oa_at {ls : Array Slot} {nL : Nat} {w : WD} {L : List (Nat × AV)} {j i : Nat} {v : AV} (hl : lv_has ls nL (oa_lz w L)) (hq : L[j]? = some (i, v)) : ls[i]? = some (.val (oa_cz w v)) :=
  lv_at hl j (by unfold oa_lz; rw [List.getElem?_map, hq]; rfl)
theorem oa_vget {L : List (Nat × AV)} {j i : Nat} {v : AV} (hL : ∀ q ∈ L, oa_vd q.2) (hq : L[j]? = some (i, v)) : oa_vd v := hL (i, v) (List.mem_of_getElem? hq)
theorem oa_vc {v : AV} {S : List AV} (h1 : oa_vd v) (h2 : ∀ u ∈ S, oa_vd u) : ∀ u ∈ v :: S, oa_vd u := List.forall_mem_cons.mpr ⟨h1, h2⟩
theorem oa_v1 {v : AV} {S : List AV} (h : ∀ u ∈ v :: S, oa_vd u) : ∀ u ∈ S, oa_vd u := (List.forall_mem_cons.mp h).2
theorem oa_vh {v : AV} {S : List AV} (h : ∀ u ∈ v :: S, oa_vd u) : oa_vd v := (List.forall_mem_cons.mp h).1
def oa_st (L : List (Nat × AV)) (i : Nat) (v : AV) : List (Nat × AV) := (i, v) :: L.filter (fun q => !(q.1 == i) && !(q.1 + 1 == i && oa_cat q.2 == 2))
def oa_st2 (L : List (Nat × AV)) (i : Nat) (v : AV) : List (Nat × AV) := (i, v) :: L.filter (fun q => !(q.1 == i) && (!(q.1 == i + 1) && !(q.1 + 1 == i && oa_cat q.2 == 2)))
theorem oa_lz_st (w : WD) (L : List (Nat × AV)) (i : Nat) (v : AV) : (i, oa_cz w v) :: (oa_lz w L).filter (fun q => !(q.1 == i) && !(q.1 + 1 == i && q.2.category == 2)) = oa_lz w (oa_st L i v) := by
  unfold oa_st
  show _ = (i, oa_cz w v) :: oa_lz w _
  refine congrArg _ ?_
  unfold oa_lz
  rw [List.filter_map]
  refine congrArg _ (List.filter_congr fun q _ => ?_)
  simp only [Function.comp, oa_cat_cz]
theorem oa_lz_st2 (w : WD) (L : List (Nat × AV)) (i : Nat) (v : AV) : (i, oa_cz w v) :: (oa_lz w L).filter (fun q => !(q.1 == i) && (!(q.1 == i + 1) && !(q.1 + 1 == i && q.2.category == 2))) = oa_lz w (oa_st2 L i v) := by
  unfold oa_st2
  show _ = (i, oa_cz w v) :: oa_lz w _
  refine congrArg _ ?_
  unfold oa_lz
  rw [List.filter_map]
  refine congrArg _ (List.filter_congr fun q _ => ?_)
  simp only [Function.comp, oa_cat_cz]
theorem oa_vst {L : List (Nat × AV)} {i : Nat} {v : AV} (hL : ∀ q ∈ L, oa_vd q.2) (hv : oa_vd v) : ∀ q ∈ oa_st L i v, oa_vd q.2 := by
  intro q hq
  rcases List.mem_cons.mp hq with rfl | hq
  · exact hv
  · exact hL q (List.mem_filter.mp hq).1
theorem oa_vst2 {L : List (Nat × AV)} {i : Nat} {v : AV} (hL : ∀ q ∈ L, oa_vd q.2) (hv : oa_vd v) : ∀ q ∈ oa_st2 L i v, oa_vd q.2 := by
  intro q hq
  rcases List.mem_cons.mp hq with rfl | hq
  · exact hv
  · exact hL q (List.mem_filter.mp hq).1
/-- fewer locals, in any order -/
theorem aw_sub (js : List Nat) (hj : js.filterMap (fun j => L[j]?) = L2) (k : AW X d rb M pc L2 S h Qr Qx) : AW X d rb M pc L S h Qr Qx := by
  intro w p l e R s m args below meth c mc ms F hX hf hlo hmc hms H locs cells slots ls hc hs hRP hS hl hL hV
  subst hj
  refine k w p l e R s m args below meth c mc ms F hX hf hlo hmc hms H locs cells slots ls hc hs hRP hS ?_ (fun q hq => ?_) hV
  · refine ⟨hl.1, hl.2.1, fun q hq => ?_⟩
    obtain ⟨q0, h0, rfl⟩ := List.mem_map.mp hq
    obtain ⟨j, -, hj⟩ := List.mem_filterMap.mp h0
    exact hl.2.2 _ (List.mem_map.mpr ⟨q0, List.mem_of_getElem? hj, rfl⟩)
  · obtain ⟨j, -, hj⟩ := List.mem_filterMap.mp hq
    exact hL q (List.mem_of_getElem? hj)
theorem aw_iadd {x y : Int32} (hd : decode M.2.1 pc = .ok (.iadd, 1)) (hn : pc + 1 = n)  (k : AW X d rb M n L (vI (x + y) :: S) h Qr Qx) : AW X d rb M pc L (vI y :: vI x :: S) h Qr Qx := by
  intro w p l e R s m args below meth c mc ms F hX hf hlo hmc hms H locs cells slots ls hc hs hRP hS hl hL hV
  subst hn
  exact lv_iadd F.1 F.2.1 hd  (k w p l e R s m args below meth c mc ms F hX hf hlo hmc hms H locs cells slots ls hc hs hRP hS hl hL (oa_vc trivial (oa_v1 (oa_v1 hV))))
theorem aw_isub {x y : Int32} (hd : decode M.2.1 pc = .ok (.isub, 1)) (hn : pc + 1 = n)  (k : AW X d rb M n L (vI (x - y) :: S) h Qr Qx) : AW X d rb M pc L (vI y :: vI x :: S) h Qr Qx := by
  intro w p l e R s m args below meth c mc ms F hX hf hlo hmc hms H locs cells slots ls hc hs hRP hS hl hL hV
  subst hn
  exact lv_isub F.1 F.2.1 hd  (k w p l e R s m args below meth c mc ms F hX hf hlo hmc hms H locs cells slots ls hc hs hRP hS hl hL (oa_vc trivial (oa_v1 (oa_v1 hV))))
theorem aw_imul {x y : Int32} (hd : decode M.2.1 pc = .ok (.imul, 1)) (hn : pc + 1 = n)  (k : AW X d rb M n L (vI (x * y) :: S) h Qr Qx) : AW X d rb M pc L (vI y :: vI x :: S) h Qr Qx := by
  intro w p l e R s m args below meth c mc ms F hX hf hlo hmc hms H locs cells slots ls hc hs hRP hS hl hL hV
  subst hn
  exact lv_imul F.1 F.2.1 hd  (k w p l e R s m args below meth c mc ms F hX hf hlo hmc hms H locs cells slots ls hc hs hRP hS hl hL (oa_vc trivial (oa_v1 (oa_v1 hV))))
theorem aw_iand {x y : Int32} (hd : decode M.2.1 pc = .ok (.iand, 1)) (hn : pc + 1 = n)  (k : AW X d rb M n L (vI (x &&& y) :: S) h Qr Qx) : AW X d rb M pc L (vI y :: vI x :: S) h Qr Qx := by
  intro w p l e R s m args below meth c mc ms F hX hf hlo hmc hms H locs cells slots ls hc hs hRP hS hl hL hV
  subst hn
  exact lv_iand F.1 F.2.1 hd  (k w p l e R s m args below meth c mc ms F hX hf hlo hmc hms H locs cells slots ls hc hs hRP hS hl hL (oa_vc trivial (oa_v1 (oa_v1 hV))))
theorem aw_ior {x y : Int32} (hd : decode M.2.1 pc = .ok (.ior, 1)) (hn : pc + 1 = n)  (k : AW X d rb M n L (vI (x ||| y) :: S) h Qr Qx) : AW X d rb M pc L (vI y :: vI x :: S) h Qr Qx := by
  intro w p l e R s m args below meth c mc ms F hX hf hlo hmc hms H locs cells slots ls hc hs hRP hS hl hL hV
  subst hn
  exact lv_ior F.1 F.2.1 hd  (k w p l e R s m args below meth c mc ms F hX hf hlo hmc hms H locs cells slots ls hc hs hRP hS hl hL (oa_vc trivial (oa_v1 (oa_v1 hV))))
theorem aw_ixor {x y : Int32} (hd : decode M.2.1 pc = .ok (.ixor, 1)) (hn : pc + 1 = n)  (k : AW X d rb M n L (vI (x ^^^ y) :: S) h Qr Qx) : AW X d rb M pc L (vI y :: vI x :: S) h Qr Qx := by
  intro w p l e R s m args below meth c mc ms F hX hf hlo hmc hms H locs cells slots ls hc hs hRP hS hl hL hV
  subst hn
  exact lv_ixor F.1 F.2.1 hd  (k w p l e R s m args below meth c mc ms F hX hf hlo hmc hms H locs cells slots ls hc hs hRP hS hl hL (oa_vc trivial (oa_v1 (oa_v1 hV))))
theorem aw_ishl {x y : Int32} (hd : decode M.2.1 pc = .ok (.ishl, 1)) (hn : pc + 1 = n)  (k : AW X d rb M n L (vI (x <<< (y &&& 31)) :: S) h Qr Qx) : AW X d rb M pc L (vI y :: vI x :: S) h Qr Qx := by
  intro w p l e R s m args below meth c mc ms F hX hf hlo hmc hms H locs cells slots ls hc hs hRP hS hl hL hV
  subst hn
  exact lv_ishl F.1 F.2.1 hd  (k w p l e R s m args below meth c mc ms F hX hf hlo hmc hms H locs cells slots ls hc hs hRP hS hl hL (oa_vc trivial (oa_v1 (oa_v1 hV))))
theorem aw_ishr {x y : Int32} (hd : decode M.2.1 pc = .ok (.ishr, 1)) (hn : pc + 1 = n)  (k : AW X d rb M n L (vI (x >>> (y &&& 31)) :: S) h Qr Qx) : AW X d rb M pc L (vI y :: vI x :: S) h Qr Qx := by
  intro w p l e R s m args below meth c mc ms F hX hf hlo hmc hms H locs cells slots ls hc hs hRP hS hl hL hV
  subst hn
  exact lv_ishr F.1 F.2.1 hd  (k w p l e R s m args below meth c mc ms F hX hf hlo hmc hms H locs cells slots ls hc hs hRP hS hl hL (oa_vc trivial (oa_v1 (oa_v1 hV))))
theorem aw_idiv {x y : Int32} (hd : decode M.2.1 pc = .ok (.idiv, 1)) (hn : pc + 1 = n) (hz : ¬ y = 0) (k : AW X d rb M n L (vI (x / y) :: S) h Qr Qx) : AW X d rb M pc L (vI y :: vI x :: S) h Qr Qx := by
  intro w p l e R s m args below meth c mc ms F hX hf hlo hmc hms H locs cells slots ls hc hs hRP hS hl hL hV
  subst hn
  exact lv_idiv F.1 F.2.1 hd hz (k w p l e R s m args below meth c mc ms F hX hf hlo hmc hms H locs cells slots ls hc hs hRP hS hl hL (oa_vc trivial (oa_v1 (oa_v1 hV))))
theorem aw_irem {x y : Int32} (hd : decode M.2.1 pc = .ok (.irem, 1)) (hn : pc + 1 = n) (hz : ¬ y = 0) (k : AW X d rb M n L (vI (x - x / y * y) :: S) h Qr Qx) : AW X d rb M pc L (vI y :: vI x :: S) h Qr Qx := by
  intro w p l e R s m args below meth c mc ms F hX hf hlo hmc hms H locs cells slots ls hc hs hRP hS hl hL hV
  subst hn
  exact lv_irem F.1 F.2.1 hd hz (k w p l e R s m args below meth c mc ms F hX hf hlo hmc hms H locs cells slots ls hc hs hRP hS hl hL (oa_vc trivial (oa_v1 (oa_v1 hV))))
theorem aw_ineg {x : Int32} (hd : decode M.2.1 pc = .ok (.ineg, 1)) (hn : pc + 1 = n)  (k : AW X d rb M n L (vI (-x) :: S) h Qr Qx) : AW X d rb M pc L (vI x :: S) h Qr Qx := by
  intro w p l e R s m args below meth c mc ms F hX hf hlo hmc hms H locs cells slots ls hc hs hRP hS hl hL hV
  subst hn
  exact lv_ineg F.1 F.2.1 hd  (k w p l e R s m args below meth c mc ms F hX hf hlo hmc hms H locs cells slots ls hc hs hRP hS hl hL (oa_vc trivial (oa_v1 hV)))
theorem aw_iushr {x y : Int32} (hd : decode M.2.1 pc = .ok (.iushr, 1)) (hn : pc + 1 = n)  (k : AW X d rb M n L (vI (x.toUInt32 >>> (y.toUInt32 &&& Int32.toUInt32 31)).toInt32 :: S) h Qr Qx) : AW X d rb M pc L (vI y :: vI x :: S) h Qr Qx := by
  intro w p l e R s m args below meth c mc ms F hX hf hlo hmc hms H locs cells slots ls hc hs hRP hS hl hL hV
  subst hn
  exact lv_iushr F.1 F.2.1 hd rfl (k w p l e R s m args below meth c mc ms F hX hf hlo hmc hms H locs cells slots ls hc hs hRP hS hl hL (oa_vc trivial (oa_v1 (oa_v1 hV))))
theorem aw_ladd {x y : Int64} (hd : decode M.2.1 pc = .ok (.ladd, 1)) (hn : pc + 1 = n)  (k : AW X d rb M n L (vJ (x + y) :: S) h Qr Qx) : AW X d rb M pc L (vJ y :: vJ x :: S) h Qr Qx := by
  intro w p l e R s m args below meth c mc ms F hX hf hlo hmc hms H locs cells slots ls hc hs hRP hS hl hL hV
  subst hn
  exact lv_ladd F.1 F.2.1 hd  (k w p l e R s m args below meth c mc ms F hX hf hlo hmc hms H locs cells slots ls hc hs hRP hS hl hL (oa_vc trivial (oa_v1 (oa_v1 hV))))
theorem aw_lsub {x y : Int64} (hd : decode M.2.1 pc = .ok (.lsub, 1)) (hn : pc + 1 = n)  (k : AW X d rb M n L (vJ (x - y) :: S) h Qr Qx) : AW X d rb M pc L (vJ y :: vJ x :: S) h Qr Qx := by
  intro w p l e R s m args below meth c mc ms F hX hf hlo hmc hms H locs cells slots ls hc hs hRP hS hl hL hV
  subst hn
  exact lv_lsub F.1 F.2.1 hd  (k w p l e R s m args below meth c mc ms F hX hf hlo hmc hms H locs cells slots ls hc hs hRP hS hl hL (oa_vc trivial (oa_v1 (oa_v1 hV))))
theorem aw_lmul {x y : Int64} (hd : decode M.2.1 pc = .ok (.lmul, 1)) (hn : pc + 1 = n)  (k : AW X d rb M n L (vJ (x * y) :: S) h Qr Qx) : AW X d rb M pc L (vJ y :: vJ x :: S) h Qr Qx := by
  intro w p l e R s m args below meth c mc ms F hX hf hlo hmc hms H locs cells slots ls hc hs hRP hS hl hL hV
  subst hn
  exact lv_lmul F.1 F.2.1 hd  (k w p l e R s m args below meth c mc ms F hX hf hlo hmc hms H locs cells slots ls hc hs hRP hS hl hL (oa_vc trivial (oa_v1 (oa_v1 hV))))
theorem aw_lor {x y : Int64} (hd : decode M.2.1 pc = .ok (.lor, 1)) (hn : pc + 1 = n)  (k : AW X d rb M n L (vJ (x ||| y) :: S) h Qr Qx) : AW X d rb M pc L (vJ y :: vJ x :: S) h Qr Qx := by
  intro w p l e R s m args below meth c mc ms F hX hf hlo hmc hms H locs cells slots ls hc hs hRP hS hl hL hV
  subst hn
  exact lv_lor F.1 F.2.1 hd  (k w p l e R s m args below meth c mc ms F hX hf hlo hmc hms H locs cells slots ls hc hs hRP hS hl hL (oa_vc trivial (oa_v1 (oa_v1 hV))))
theorem aw_ldiv {x y : Int64} (hd : decode M.2.1 pc = .ok (.ldiv, 1)) (hn : pc + 1 = n) (hz : ¬ y = 0) (k : AW X d rb M n L (vJ (x / y) :: S) h Qr Qx) : AW X d rb M pc L (vJ y :: vJ x :: S) h Qr Qx := by
  intro w p l e R s m args below meth c mc ms F hX hf hlo hmc hms H locs cells slots ls hc hs hRP hS hl hL hV
  subst hn
  exact lv_ldiv F.1 F.2.1 hd hz (k w p l e R s m args below meth c mc ms F hX hf hlo hmc hms H locs cells slots ls hc hs hRP hS hl hL (oa_vc trivial (oa_v1 (oa_v1 hV))))
theorem aw_lushr {x : Int64} {y : Int32} (hd : decode M.2.1 pc = .ok (.lushr, 1)) (hn : pc + 1 = n)  (k : AW X d rb M n L (vJ (x.toUInt64 >>> (y.toInt64.toUInt64 &&& Int64.toUInt64 63)).toInt64 :: S) h Qr Qx) : AW X d rb M pc L (vI y :: vJ x :: S) h Qr Qx := by
  intro w p l e R s m args below meth c mc ms F hX hf hlo hmc hms H locs cells slots ls hc hs hRP hS hl hL hV
  subst hn
  exact lv_lushr F.1 F.2.1 hd rfl (k w p l e R s m args below meth c mc ms F hX hf hlo hmc hms H locs cells slots ls hc hs hRP hS hl hL (oa_vc trivial (oa_v1 (oa_v1 hV))))
theorem aw_lshl {x : Int64} {y : Int32} (hd : decode M.2.1 pc = .ok (.lshl, 1)) (hn : pc + 1 = n)  (k : AW X d rb M n L (vJ (x <<< (y.toInt64 &&& 63)) :: S) h Qr Qx) : AW X d rb M pc L (vI y :: vJ x :: S) h Qr Qx := by
  intro w p l e R s m args below meth c mc ms F hX hf hlo hmc hms H locs cells slots ls hc hs hRP hS hl hL hV
  subst hn
  exact lv_lshl F.1 F.2.1 hd rfl (k w p l e R s m args below meth c mc ms F hX hf hlo hmc hms H locs cells slots ls hc hs hRP hS hl hL (oa_vc trivial (oa_v1 (oa_v1 hV))))
theorem aw_i2l {x : Int32} (hd : decode M.2.1 pc = .ok (.i2l, 1)) (hn : pc + 1 = n)  (k : AW X d rb M n L (vJ x.toInt64 :: S) h Qr Qx) : AW X d rb M pc L (vI x :: S) h Qr Qx := by
  intro w p l e R s m args below meth c mc ms F hX hf hlo hmc hms H locs cells slots ls hc hs hRP hS hl hL hV
  subst hn
  exact lv_i2l F.1 F.2.1 hd rfl (k w p l e R s m args below meth c mc ms F hX hf hlo hmc hms H locs cells slots ls hc hs hRP hS hl hL (oa_vc trivial (oa_v1 hV)))
theorem aw_l2i {x : Int64} (hd : decode M.2.1 pc = .ok (.l2i, 1)) (hn : pc + 1 = n)  (k : AW X d rb M n L (vI x.toInt32 :: S) h Qr Qx) : AW X d rb M pc L (vJ x :: S) h Qr Qx := by
  intro w p l e R s m args below meth c mc ms F hX hf hlo hmc hms H locs cells slots ls hc hs hRP hS hl hL hV
  subst hn
  exact lv_l2i F.1 F.2.1 hd rfl (k w p l e R s m args below meth c mc ms F hX hf hlo hmc hms H locs cells slots ls hc hs hRP hS hl hL (oa_vc trivial (oa_v1 hV)))
theorem aw_i2b {x : Int32} (hd : decode M.2.1 pc = .ok (.i2b, 1)) (hn : pc + 1 = n)  (k : AW X d rb M n L (vI x.toInt8.toInt32 :: S) h Qr Qx) : AW X d rb M pc L (vI x :: S) h Qr Qx := by
  intro w p l e R s m args below meth c mc ms F hX hf hlo hmc hms H locs cells slots ls hc hs hRP hS hl hL hV
  subst hn
  exact lv_i2b F.1 F.2.1 hd rfl (k w p l e R s m args below meth c mc ms F hX hf hlo hmc hms H locs cells slots ls hc hs hRP hS hl hL (oa_vc trivial (oa_v1 hV)))
theorem aw_iconst {z : Int} {v : Int32} (hd : decode M.2.1 pc = .ok (.iconst z, 1)) (hn : pc + 1 = n) (hv : Int32.ofInt z = v) (k : AW X d rb M n L (vI v :: S) h Qr Qx) : AW X d rb M pc L S h Qr Qx := by
  intro w p l e R s m args below meth c mc ms F hX hf hlo hmc hms H locs cells slots ls hc hs hRP hS hl hL hV
  subst hn
  exact lv_iconst F.1 F.2.1 hd hv (k w p l e R s m args below meth c mc ms F hX hf hlo hmc hms H locs cells slots ls hc hs hRP hS hl hL (oa_vc trivial hV))
theorem aw_bipush {z : Int} {v : Int32} (hd : decode M.2.1 pc = .ok (.bipush z, 2)) (hn : pc + 2 = n) (hv : (Int8.ofInt z).toInt32 = v) (k : AW X d rb M n L (vI v :: S) h Qr Qx) : AW X d rb M pc L S h Qr Qx := by
  intro w p l e R s m args below meth c mc ms F hX hf hlo hmc hms H locs cells slots ls hc hs hRP hS hl hL hV
  subst hn
  exact lv_bipush F.1 F.2.1 hd hv (k w p l e R s m args below meth c mc ms F hX hf hlo hmc hms H locs cells slots ls hc hs hRP hS hl hL (oa_vc trivial hV))
theorem aw_sipush {z : Int} {v : Int32} (hd : decode M.2.1 pc = .ok (.sipush z, 3)) (hn : pc + 3 = n) (hv : (Int16.ofInt z).toInt32 = v) (k : AW X d rb M n L (vI v :: S) h Qr Qx) : AW X d rb M pc L S h Qr Qx := by
  intro w p l e R s m args below meth c mc ms F hX hf hlo hmc hms H locs cells slots ls hc hs hRP hS hl hL hV
  subst hn
  exact lv_sipush F.1 F.2.1 hd hv (k w p l e R s m args below meth c mc ms F hX hf hlo hmc hms H locs cells slots ls hc hs hRP hS hl hL (oa_vc trivial hV))
theorem aw_lconst {z : Fin 2} {v : Int64} (hd : decode M.2.1 pc = .ok (.lconst z, 1)) (hn : pc + 1 = n) (hv : Int64.ofNat (z : Nat) = v) (k : AW X d rb M n L (vJ v :: S) h Qr Qx) : AW X d rb M pc L S h Qr Qx := by
  intro w p l e R s m args below meth c mc ms F hX hf hlo hmc hms H locs cells slots ls hc hs hRP hS hl hL hV
  subst hn
  exact lv_lconst F.1 F.2.1 hd hv (k w p l e R s m args below meth c mc ms F hX hf hlo hmc hms H locs cells slots ls hc hs hRP hS hl hL (oa_vc trivial hV))
theorem aw_ldcI {i : Nat} {v : Int32} (hd : decode M.2.1 pc = .ok (.ldc i, 2)) (hn : pc + 2 = n) (hw : Cond.constant M.1.cls i v ∈ oa_GT) (k : AW X d rb M n L (vI v :: S) h Qr Qx) : AW X d rb M pc L S h Qr Qx := by
  intro w p l e R s m args below meth c mc ms F hX hf hlo hmc hms H locs cells slots ls hc hs hRP hS hl hL hV
  subst hn
  exact lv_ldc F.1 F.2.1 F.2.2.2.2.1 (F.2.2.2.2.2.2.2.2.1 _ hw args) hd (k w p l e R s m args below meth c mc ms F hX hf hlo hmc hms H locs cells slots ls hc hs hRP hS hl hL (oa_vc trivial hV))
theorem aw_dup {v : AV} (hd : decode M.2.1 pc = .ok (.dup, 1)) (hn : pc + 1 = n) (hv : oa_cat v = 1) (k : AW X d rb M n L (v :: v :: S) h Qr Qx) : AW X d rb M pc L (v :: S) h Qr Qx := by
  intro w p l e R s m args below meth c mc ms F hX hf hlo hmc hms H locs cells slots ls hc hs hRP hS hl hL hV
  subst hn
  exact lv_dup F.1 F.2.1 hd ((oa_cat_cz w v).trans hv) (k w p l e R s m args below meth c mc ms F hX hf hlo hmc hms H locs cells slots ls hc hs hRP hS hl hL (oa_vc (oa_vh hV) hV))
theorem aw_pop {v : AV} (hd : decode M.2.1 pc = .ok (.pop, 1)) (hn : pc + 1 = n) (hv : oa_cat v = 1) (k : AW X d rb M n L S h Qr Qx) : AW X d rb M pc L (v :: S) h Qr Qx := by
  intro w p l e R s m args below meth c mc ms F hX hf hlo hmc hms H locs cells slots ls hc hs hRP hS hl hL hV
  subst hn
  exact lv_pop F.1 F.2.1 hd ((oa_cat_cz w v).trans hv) (k w p l e R s m args below meth c mc ms F hX hf hlo hmc hms H locs cells slots ls hc hs hRP hS hl hL (oa_v1 hV))
theorem aw_dup2 {v u : AV} (hd : decode M.2.1 pc = .ok (.dup2, 1)) (hn : pc + 1 = n) (hv : oa_cat v = 1) (hu : oa_cat u = 1) (k : AW X d rb M n L (v :: u :: v :: u :: S) h Qr Qx) : AW X d rb M pc L (v :: u :: S) h Qr Qx := by
  intro w p l e R s m args below meth c mc ms F hX hf hlo hmc hms H locs cells slots ls hc hs hRP hS hl hL hV
  subst hn
  exact lv_dup2_11 F.1 F.2.1 hd ((oa_cat_cz w v).trans hv) ((oa_cat_cz w u).trans hu) (k w p l e R s m args below meth c mc ms F hX hf hlo hmc hms H locs cells slots ls hc hs hRP hS hl hL (oa_vc (oa_vh hV) (oa_vc (oa_vh (oa_v1 hV)) hV)))
theorem aw_lcmp {x y : Int64} (hd : decode M.2.1 pc = .ok (.lcmp, 1)) (hn : pc + 1 = n) (k : AW X d rb M n L (vI (lg_cmp x y) :: S) h Qr Qx) : AW X d rb M pc L (vJ y :: vJ x :: S) h Qr Qx := by
  intro w p l e R s m args below meth c mc ms F hX hf hlo hmc hms H locs cells slots ls hc hs hRP hS hl hL hV
  subst hn
  exact W.lcmp F.1 F.2.1 hd (k w p l e R s m args below meth c mc ms F hX hf hlo hmc hms H locs cells slots ls hc hs hRP hS hl hL (oa_vc trivial (oa_v1 (oa_v1 hV))))
theorem aw_iload_n {q : Fin 4} {j i : Nat} {x : Int32} (hd : decode M.2.1 pc = .ok (.iload_n q, 1)) (hn : pc + 1 = n) (hi : (q : Nat) = i) (hq : L[j]? = some (i, vI x)) (k : AW X d rb M n L (vI x :: S) h Qr Qx) : AW X d rb M pc L S h Qr Qx := by
  intro w p l e R s m args below meth c mc ms F hX hf hlo hmc hms H locs cells slots ls hc hs hRP hS hl hL hV
  subst hn
  exact lv_iload_n F.1 F.2.1 hd hi (oa_at hl hq) (k w p l e R s m args below meth c mc ms F hX hf hlo hmc hms H locs cells slots ls hc hs hRP hS hl hL (oa_vc trivial hV))
theorem aw_iload {j i : Nat} {x : Int32} (hd : decode M.2.1 pc = .ok (.iload i, 2)) (hn : pc + 2 = n) (hq : L[j]? = some (i, vI x)) (k : AW X d rb M n L (vI x :: S) h Qr Qx) : AW X d rb M pc L S h Qr Qx := by
  intro w p l e R s m args below meth c mc ms F hX hf hlo hmc hms H locs cells slots ls hc hs hRP hS hl hL hV
  subst hn
  exact lv_iload F.1 F.2.1 hd (oa_at hl hq) (k w p l e R s m args below meth c mc ms F hX hf hlo hmc hms H locs cells slots ls hc hs hRP hS hl hL (oa_vc trivial hV))
theorem aw_lload_n {q : Fin 4} {j i : Nat} {x : Int64} (hd : decode M.2.1 pc = .ok (.lload_n q, 1)) (hn : pc + 1 = n) (hi : (q : Nat) = i) (hq : L[j]? = some (i, vJ x)) (k : AW X d rb M n L (vJ x :: S) h Qr Qx) : AW X d rb M pc L S h Qr Qx := by
  intro w p l e R s m args below meth c mc ms F hX hf hlo hmc hms H locs cells slots ls hc hs hRP hS hl hL hV
  subst hn
  exact lv_lload_n F.1 F.2.1 hd hi (oa_at hl hq) (k w p l e R s m args below meth c mc ms F hX hf hlo hmc hms H locs cells slots ls hc hs hRP hS hl hL (oa_vc trivial hV))
theorem aw_lload {j i : Nat} {x : Int64} (hd : decode M.2.1 pc = .ok (.lload i, 2)) (hn : pc + 2 = n) (hq : L[j]? = some (i, vJ x)) (k : AW X d rb M n L (vJ x :: S) h Qr Qx) : AW X d rb M pc L S h Qr Qx := by
  intro w p l e R s m args below meth c mc ms F hX hf hlo hmc hms H locs cells slots ls hc hs hRP hS hl hL hV
  subst hn
  exact lv_lload F.1 F.2.1 hd (oa_at hl hq) (k w p l e R s m args below meth c mc ms F hX hf hlo hmc hms H locs cells slots ls hc hs hRP hS hl hL (oa_vc trivial hV))
theorem aw_aload_n {q : Fin 4} {j i t z : Nat} (hd : decode M.2.1 pc = .ok (.aload_n q, 1)) (hn : pc + 1 = n) (hi : (q : Nat) = i) (hq : L[j]? = some (i, vR t z)) (k : AW X d rb M n L (vR t z :: S) h Qr Qx) : AW X d rb M pc L S h Qr Qx := by
  intro w p l e R s m args below meth c mc ms F hX hf hlo hmc hms H locs cells slots ls hc hs hRP hS hl hL hV
  subst hn
  exact lv_aload_n F.1 F.2.1 hd hi (oa_at hl hq) (k w p l e R s m args below meth c mc ms F hX hf hlo hmc hms H locs cells slots ls hc hs hRP hS hl hL (oa_vc (oa_vget hL hq) hV))
theorem aw_aload {j i t z : Nat} (hd : decode M.2.1 pc = .ok (.aload i, 2)) (hn : pc + 2 = n) (hq : L[j]? = some (i, vR t z)) (k : AW X d rb M n L (vR t z :: S) h Qr Qx) : AW X d rb M pc L S h Qr Qx := by
  intro w p l e R s m args below meth c mc ms F hX hf hlo hmc hms H locs cells slots ls hc hs hRP hS hl hL hV
  subst hn
  exact lv_aload F.1 F.2.1 hd (oa_at hl hq) (k w p l e R s m args below meth c mc ms F hX hf hlo hmc hms H locs cells slots ls hc hs hRP hS hl hL (oa_vc (oa_vget hL hq) hV))
theorem aw_istore_n {q : Fin 4} {i : Nat} {x : Int32} (hd : decode M.2.1 pc = .ok (.istore_n q, 1)) (hn : pc + 1 = n) (hi : (q : Nat) = i) (hb : i < M.2.2.1) (hst : oa_st L i (vI x) = L2) (k : AW X d rb M n L2 S h Qr Qx) : AW X d rb M pc L (vI x :: S) h Qr Qx := by
  intro w p l e R s m args below meth c mc ms F hX hf hlo hmc hms H locs cells slots ls hc hs hRP hS hl hL hV
  subst hn
  subst hst
  exact lv_istore_n F.1 F.2.1 hd hi hl hb (oa_lz_st w L i (vI x)) (fun ls hl => k w p l e R s m args below meth c mc ms F hX hf hlo hmc hms H locs cells slots ls hc hs hRP hS hl (oa_vst hL (oa_vh hV)) (oa_v1 hV))
theorem aw_istore {i : Nat} {x : Int32} (hd : decode M.2.1 pc = .ok (.istore i, 2)) (hn : pc + 2 = n) (hb : i < M.2.2.1) (hst : oa_st L i (vI x) = L2) (k : AW X d rb M n L2 S h Qr Qx) : AW X d rb M pc L (vI x :: S) h Qr Qx := by
  intro w p l e R s m args below meth c mc ms F hX hf hlo hmc hms H locs cells slots ls hc hs hRP hS hl hL hV
  subst hn
  subst hst
  exact lv_istore F.1 F.2.1 hd hl hb (oa_lz_st w L i (vI x)) (fun ls hl => k w p l e R s m args below meth c mc ms F hX hf hlo hmc hms H locs cells slots ls hc hs hRP hS hl (oa_vst hL (oa_vh hV)) (oa_v1 hV))
theorem aw_astore_n {q : Fin 4} {i : Nat} {t z : Nat} (hd : decode M.2.1 pc = .ok (.astore_n q, 1)) (hn : pc + 1 = n) (hi : (q : Nat) = i) (hb : i < M.2.2.1) (hst : oa_st L i (vR t z) = L2) (k : AW X d rb M n L2 S h Qr Qx) : AW X d rb M pc L (vR t z :: S) h Qr Qx := by
  intro w p l e R s m args below meth c mc ms F hX hf hlo hmc hms H locs cells slots ls hc hs hRP hS hl hL hV
  subst hn
  subst hst
  exact lv_astore_n F.1 F.2.1 hd hi hl hb (oa_lz_st w L i (vR t z)) (fun ls hl => k w p l e R s m args below meth c mc ms F hX hf hlo hmc hms H locs cells slots ls hc hs hRP hS hl (oa_vst hL (oa_vh hV)) (oa_v1 hV))
theorem aw_astore {i : Nat} {t z : Nat} (hd : decode M.2.1 pc = .ok (.astore i, 2)) (hn : pc + 2 = n) (hb : i < M.2.2.1) (hst : oa_st L i (vR t z) = L2) (k : AW X d rb M n L2 S h Qr Qx) : AW X d rb M pc L (vR t z :: S) h Qr Qx := by
  intro w p l e R s m args below meth c mc ms F hX hf hlo hmc hms H locs cells slots ls hc hs hRP hS hl hL hV
  subst hn
  subst hst
  exact lv_astore F.1 F.2.1 hd hl hb (oa_lz_st w L i (vR t z)) (fun ls hl => k w p l e R s m args below meth c mc ms F hX hf hlo hmc hms H locs cells slots ls hc hs hRP hS hl (oa_vst hL (oa_vh hV)) (oa_v1 hV))
theorem aw_lstore_n {q : Fin 4} {i : Nat} {x : Int64} (hd : decode M.2.1 pc = .ok (.lstore_n q, 1)) (hn : pc + 1 = n) (hi : (q : Nat) = i) (hb : i + 1 < M.2.2.1) (hst : oa_st2 L i (vJ x) = L2) (k : AW X d rb M n L2 S h Qr Qx) : AW X d rb M pc L (vJ x :: S) h Qr Qx := by
  intro w p l e R s m args below meth c mc ms F hX hf hlo hmc hms H locs cells slots ls hc hs hRP hS hl hL hV
  subst hn
  subst hst
  exact lv_lstore_n F.1 F.2.1 hd hi hl hb (oa_lz_st2 w L i (vJ x)) (fun ls hl => k w p l e R s m args below meth c mc ms F hX hf hlo hmc hms H locs cells slots ls hc hs hRP hS hl (oa_vst2 hL (oa_vh hV)) (oa_v1 hV))
theorem aw_lstore {i : Nat} {x : Int64} (hd : decode M.2.1 pc = .ok (.lstore i, 2)) (hn : pc + 2 = n) (hb : i + 1 < M.2.2.1) (hst : oa_st2 L i (vJ x) = L2) (k : AW X d rb M n L2 S h Qr Qx) : AW X d rb M pc L (vJ x :: S) h Qr Qx := by
  intro w p l e R s m args below meth c mc ms F hX hf hlo hmc hms H locs cells slots ls hc hs hRP hS hl hL hV
  subst hn
  subst hst
  exact lv_lstore F.1 F.2.1 hd hl hb (oa_lz_st2 w L i (vJ x)) (fun ls hl => k w p l e R s m args below meth c mc ms F hX hf hlo hmc hms H locs cells slots ls hc hs hRP hS hl (oa_vst2 hL (oa_vh hV)) (oa_v1 hV))
theorem aw_iinc {i j : Nat} {z : Int} {x v : Int32} (hd : decode M.2.1 pc = .ok (.iinc i z, 3)) (hn : pc + 3 = n) (hb : i < M.2.2.1) (hq : L[j]? = some (i, vI x)) (hv : x + Int32.ofInt z = v) (hst : oa_st L i (vI v) = L2) (k : AW X d rb M n L2 S h Qr Qx) : AW X d rb M pc L S h Qr Qx := by
  intro w p l e R s m args below meth c mc ms F hX hf hlo hmc hms H locs cells slots ls hc hs hRP hS hl hL hV
  subst hn
  subst hst
  exact lv_iinc F.1 F.2.1 hd hl (k := j) (by unfold oa_lz; rw [List.getElem?_map, hq]; rfl) hv hb (oa_lz_st w L i (vI v)) (fun ls hl => k w p l e R s m args below meth c mc ms F hX hf hlo hmc hms H locs cells slots ls hc hs hRP hS hl (oa_vst hL trivial) hV)
theorem aw_icmp_eq {x y : Int32} {z : Int} (tg : Nat) (hd : decode M.2.1 pc = .ok (.if_icmp .eq z, 3)) (hn : pc + 3 = n) (ht : (pc : Int) + z = (tg : Int)) (kt : x = y → AW X d rb M tg L S h Qr Qx) (kf : ¬ x = y → AW X d rb M n L S h Qr Qx) : AW X d rb M pc L (vI y :: vI x :: S) h Qr Qx := by
  intro w p l e R s m args below meth c mc ms F hX hf hlo hmc hms H locs cells slots ls hc hs hRP hS hl hL hV
  subst hn
  exact lv_icmp_eq F.1 F.2.1 hd ht (fun q => kt q w p l e R s m args below meth c mc ms F hX hf hlo hmc hms H locs cells slots ls hc hs hRP hS hl hL (oa_v1 (oa_v1 hV))) (fun q => kf q w p l e R s m args below meth c mc ms F hX hf hlo hmc hms H locs cells slots ls hc hs hRP hS hl hL (oa_v1 (oa_v1 hV)))
theorem aw_if_eq {x : Int32} {z : Int} (tg : Nat) (hd : decode M.2.1 pc = .ok (.ifCond .eq z, 3)) (hn : pc + 3 = n) (ht : (pc : Int) + z = (tg : Int)) (kt : x = 0 → AW X d rb M tg L S h Qr Qx) (kf : ¬ x = 0 → AW X d rb M n L S h Qr Qx) : AW X d rb M pc L (vI x :: S) h Qr Qx := by
  intro w p l e R s m args below meth c mc ms F hX hf hlo hmc hms H locs cells slots ls hc hs hRP hS hl hL hV
  subst hn
  exact lv_if_eq F.1 F.2.1 hd ht (fun q => kt q w p l e R s m args below meth c mc ms F hX hf hlo hmc hms H locs cells slots ls hc hs hRP hS hl hL (oa_v1 hV)) (fun q => kf q w p l e R s m args below meth c mc ms F hX hf hlo hmc hms H locs cells slots ls hc hs hRP hS hl hL (oa_v1 hV))
theorem aw_icmp_ne {x y : Int32} {z : Int} (tg : Nat) (hd : decode M.2.1 pc = .ok (.if_icmp .ne z, 3)) (hn : pc + 3 = n) (ht : (pc : Int) + z = (tg : Int)) (kt : ¬ x = y → AW X d rb M tg L S h Qr Qx) (kf : x = y → AW X d rb M n L S h Qr Qx) : AW X d rb M pc L (vI y :: vI x :: S) h Qr Qx := by
  intro w p l e R s m args below meth c mc ms F hX hf hlo hmc hms H locs cells slots ls hc hs hRP hS hl hL hV
  subst hn
  exact lv_icmp_ne F.1 F.2.1 hd ht (fun q => kt q w p l e R s m args below meth c mc ms F hX hf hlo hmc hms H locs cells slots ls hc hs hRP hS hl hL (oa_v1 (oa_v1 hV))) (fun q => kf q w p l e R s m args below meth c mc ms F hX hf hlo hmc hms H locs cells slots ls hc hs hRP hS hl hL (oa_v1 (oa_v1 hV)))
theorem aw_if_ne {x : Int32} {z : Int} (tg : Nat) (hd : decode M.2.1 pc = .ok (.ifCond .ne z, 3)) (hn : pc + 3 = n) (ht : (pc : Int) + z = (tg : Int)) (kt : ¬ x = 0 → AW X d rb M tg L S h Qr Qx) (kf : x = 0 → AW X d rb M n L S h Qr Qx) : AW X d rb M pc L (vI x :: S) h Qr Qx := by
  intro w p l e R s m args below meth c mc ms F hX hf hlo hmc hms H locs cells slots ls hc hs hRP hS hl hL hV
  subst hn
  exact lv_if_ne F.1 F.2.1 hd ht (fun q => kt q w p l e R s m args below meth c mc ms F hX hf hlo hmc hms H locs cells slots ls hc hs hRP hS hl hL (oa_v1 hV)) (fun q => kf q w p l e R s m args below meth c mc ms F hX hf hlo hmc hms H locs cells slots ls hc hs hRP hS hl hL (oa_v1 hV))
theorem aw_icmp_lt {x y : Int32} {z : Int} (tg : Nat) (hd : decode M.2.1 pc = .ok (.if_icmp .lt z, 3)) (hn : pc + 3 = n) (ht : (pc : Int) + z = (tg : Int)) (kt : x < y → AW X d rb M tg L S h Qr Qx) (kf : ¬ x < y → AW X d rb M n L S h Qr Qx) : AW X d rb M pc L (vI y :: vI x :: S) h Qr Qx := by
  intro w p l e R s m args below meth c mc ms F hX hf hlo hmc hms H locs cells slots ls hc hs hRP hS hl hL hV
  subst hn
  exact lv_icmp_lt F.1 F.2.1 hd ht (fun q => kt q w p l e R s m args below meth c mc ms F hX hf hlo hmc hms H locs cells slots ls hc hs hRP hS hl hL (oa_v1 (oa_v1 hV))) (fun q => kf q w p l e R s m args below meth c mc ms F hX hf hlo hmc hms H locs cells slots ls hc hs hRP hS hl hL (oa_v1 (oa_v1 hV)))
theorem aw_if_lt {x : Int32} {z : Int} (tg : Nat) (hd : decode M.2.1 pc = .ok (.ifCond .lt z, 3)) (hn : pc + 3 = n) (ht : (pc : Int) + z = (tg : Int)) (kt : x < 0 → AW X d rb M tg L S h Qr Qx) (kf : ¬ x < 0 → AW X d rb M n L S h Qr Qx) : AW X d rb M pc L (vI x :: S) h Qr Qx := by
  intro w p l e R s m args below meth c mc ms F hX hf hlo hmc hms H locs cells slots ls hc hs hRP hS hl hL hV
  subst hn
  exact lv_if_lt F.1 F.2.1 hd ht (fun q => kt q w p l e R s m args below meth c mc ms F hX hf hlo hmc hms H locs cells slots ls hc hs hRP hS hl hL (oa_v1 hV)) (fun q => kf q w p l e R s m args below meth c mc ms F hX hf hlo hmc hms H locs cells slots ls hc hs hRP hS hl hL (oa_v1 hV))
theorem aw_icmp_ge {x y : Int32} {z : Int} (tg : Nat) (hd : decode M.2.1 pc = .ok (.if_icmp .ge z, 3)) (hn : pc + 3 = n) (ht : (pc : Int) + z = (tg : Int)) (kt : y ≤ x → AW X d rb M tg L S h Qr Qx) (kf : ¬ y ≤ x → AW X d rb M n L S h Qr Qx) : AW X d rb M pc L (vI y :: vI x :: S) h Qr Qx := by
  intro w p l e R s m args below meth c mc ms F hX hf hlo hmc hms H locs cells slots ls hc hs hRP hS hl hL hV
  subst hn
  exact lv_icmp_ge F.1 F.2.1 hd ht (fun q => kt q w p l e R s m args below meth c mc ms F hX hf hlo hmc hms H locs cells slots ls hc hs hRP hS hl hL (oa_v1 (oa_v1 hV))) (fun q => kf q w p l e R s m args below meth c mc ms F hX hf hlo hmc hms H locs cells slots ls hc hs hRP hS hl hL (oa_v1 (oa_v1 hV)))
theorem aw_if_ge {x : Int32} {z : Int} (tg : Nat) (hd : decode M.2.1 pc = .ok (.ifCond .ge z, 3)) (hn : pc + 3 = n) (ht : (pc : Int) + z = (tg : Int)) (kt : 0 ≤ x → AW X d rb M tg L S h Qr Qx) (kf : ¬ 0 ≤ x → AW X d rb M n L S h Qr Qx) : AW X d rb M pc L (vI x :: S) h Qr Qx := by
  intro w p l e R s m args below meth c mc ms F hX hf hlo hmc hms H locs cells slots ls hc hs hRP hS hl hL hV
  subst hn
  exact lv_if_ge F.1 F.2.1 hd ht (fun q => kt q w p l e R s m args below meth c mc ms F hX hf hlo hmc hms H locs cells slots ls hc hs hRP hS hl hL (oa_v1 hV)) (fun q => kf q w p l e R s m args below meth c mc ms F hX hf hlo hmc hms H locs cells slots ls hc hs hRP hS hl hL (oa_v1 hV))
theorem aw_icmp_gt {x y : Int32} {z : Int} (tg : Nat) (hd : decode M.2.1 pc = .ok (.if_icmp .gt z, 3)) (hn : pc + 3 = n) (ht : (pc : Int) + z = (tg : Int)) (kt : y < x → AW X d rb M tg L S h Qr Qx) (kf : ¬ y < x → AW X d rb M n L S h Qr Qx) : AW X d rb M pc L (vI y :: vI x :: S) h Qr Qx := by
  intro w p l e R s m args below meth c mc ms F hX hf hlo hmc hms H locs cells slots ls hc hs hRP hS hl hL hV
  subst hn
  exact lv_icmp_gt F.1 F.2.1 hd ht (fun q => kt q w p l e R s m args below meth c mc ms F hX hf hlo hmc hms H locs cells slots ls hc hs hRP hS hl hL (oa_v1 (oa_v1 hV))) (fun q => kf q w p l e R s m args below meth c mc ms F hX hf hlo hmc hms H locs cells slots ls hc hs hRP hS hl hL (oa_v1 (oa_v1 hV)))
theorem aw_if_gt {x : Int32} {z : Int} (tg : Nat) (hd : decode M.2.1 pc = .ok (.ifCond .gt z, 3)) (hn : pc + 3 = n) (ht : (pc : Int) + z = (tg : Int)) (kt : 0 < x → AW X d rb M tg L S h Qr Qx) (kf : ¬ 0 < x → AW X d rb M n L S h Qr Qx) : AW X d rb M pc L (vI x :: S) h Qr Qx := by
  intro w p l e R s m args below meth c mc ms F hX hf hlo hmc hms H locs cells slots ls hc hs hRP hS hl hL hV
  subst hn
  exact lv_if_gt F.1 F.2.1 hd ht (fun q => kt q w p l e R s m args below meth c mc ms F hX hf hlo hmc hms H locs cells slots ls hc hs hRP hS hl hL (oa_v1 hV)) (fun q => kf q w p l e R s m args below meth c mc ms F hX hf hlo hmc hms H locs cells slots ls hc hs hRP hS hl hL (oa_v1 hV))
theorem aw_icmp_le {x y : Int32} {z : Int} (tg : Nat) (hd : decode M.2.1 pc = .ok (.if_icmp .le z, 3)) (hn : pc + 3 = n) (ht : (pc : Int) + z = (tg : Int)) (kt : x ≤ y → AW X d rb M tg L S h Qr Qx) (kf : ¬ x ≤ y → AW X d rb M n L S h Qr Qx) : AW X d rb M pc L (vI y :: vI x :: S) h Qr Qx := by
  intro w p l e R s m args below meth c mc ms F hX hf hlo hmc hms H locs cells slots ls hc hs hRP hS hl hL hV
  subst hn
  exact lv_icmp_le F.1 F.2.1 hd ht (fun q => kt q w p l e R s m args below meth c mc ms F hX hf hlo hmc hms H locs cells slots ls hc hs hRP hS hl hL (oa_v1 (oa_v1 hV))) (fun q => kf q w p l e R s m args below meth c mc ms F hX hf hlo hmc hms H locs cells slots ls hc hs hRP hS hl hL (oa_v1 (oa_v1 hV)))
theorem aw_if_le {x : Int32} {z : Int} (tg : Nat) (hd : decode M.2.1 pc = .ok (.ifCond .le z, 3)) (hn : pc + 3 = n) (ht : (pc : Int) + z = (tg : Int)) (kt : x ≤ 0 → AW X d rb M tg L S h Qr Qx) (kf : ¬ x ≤ 0 → AW X d rb M n L S h Qr Qx) : AW X d rb M pc L (vI x :: S) h Qr Qx := by
  intro w p l e R s m args below meth c mc ms F hX hf hlo hmc hms H locs cells slots ls hc hs hRP hS hl hL hV
  subst hn
  exact lv_if_le F.1 F.2.1 hd ht (fun q => kt q w p l e R s m args below meth c mc ms F hX hf hlo hmc hms H locs cells slots ls hc hs hRP hS hl hL (oa_v1 hV)) (fun q => kf q w p l e R s m args below meth c mc ms F hX hf hlo hmc hms H locs cells slots ls hc hs hRP hS hl hL (oa_v1 hV))
theorem aw_goto {z : Int} (tg : Nat) (hd : decode M.2.1 pc = .ok (.goto z, 3)) (ht : (pc : Int) + z = (tg : Int)) (k : AW X d rb M tg L S h Qr Qx) : AW X d rb M pc L S h Qr Qx := by
  intro w p l e R s m args below meth c mc ms F hX hf hlo hmc hms H locs cells slots ls hc hs hRP hS hl hL hV
  exact lv_goto F.1 F.2.1 hd ht (k w p l e R s m args below meth c mc ms F hX hf hlo hmc hms H locs cells slots ls hc hs hRP hS hl hL hV)
theorem aw_tabIn {df lo hi z : Int} {of : Array Int} {len : Nat} {x : Int32} (tg : Nat) (hd : decode M.2.1 pc = .ok (.tableswitch df lo hi of, len)) (h1 : ¬ x.toInt < lo) (h2 : ¬ hi < x.toInt) (ho : of[(x.toInt - lo).toNat]? = some z) (ht : (pc : Int) + z = (tg : Int)) (k : AW X d rb M tg L S h Qr Qx) : AW X d rb M pc L (vI x :: S) h Qr Qx := by
  intro w p l e R s m args below meth c mc ms F hX hf hlo hmc hms H locs cells slots ls hc hs hRP hS hl hL hV
  exact lv_tableIn F.1 F.2.1 hd h1 h2 ho ht (k w p l e R s m args below meth c mc ms F hX hf hlo hmc hms H locs cells slots ls hc hs hRP hS hl hL (oa_v1 hV))
theorem aw_tabOut {df lo hi : Int} {of : Array Int} {len : Nat} {x : Int32} (tg : Nat) (hd : decode M.2.1 pc = .ok (.tableswitch df lo hi of, len)) (h1 : x.toInt < lo ∨ hi < x.toInt) (ht : (pc : Int) + df = (tg : Int)) (k : AW X d rb M tg L S h Qr Qx) : AW X d rb M pc L (vI x :: S) h Qr Qx := by
  intro w p l e R s m args below meth c mc ms F hX hf hlo hmc hms H locs cells slots ls hc hs hRP hS hl hL hV
  exact lv_tableOut F.1 F.2.1 hd h1 ht (k w p l e R s m args below meth c mc ms F hX hf hlo hmc hms H locs cells slots ls hc hs hRP hS hl hL (oa_v1 hV))
theorem aw_ifnull {t i : Nat} {z : Int} (hd : decode M.2.1 pc = .ok (.ifnull z, 3)) (hn : pc + 3 = n) (k : AW X d rb M n L S h Qr Qx) : AW X d rb M pc L (vR t i :: S) h Qr Qx := by
  intro w p l e R s m args below meth c mc ms F hX hf hlo hmc hms H locs cells slots ls hc hs hRP hS hl hL hV
  subst hn
  exact lv_ifnull F.1 F.2.1 hd (k w p l e R s m args below meth c mc ms F hX hf hlo hmc hms H locs cells slots ls hc hs hRP hS hl hL (oa_v1 hV))
theorem aw_ifnonnull {t i : Nat} {z : Int} (tg : Nat) (hd : decode M.2.1 pc = .ok (.ifnonnull z, 3)) (ht : (pc : Int) + z = (tg : Int)) (k : AW X d rb M tg L S h Qr Qx) : AW X d rb M pc L (vR t i :: S) h Qr Qx := by
  intro w p l e R s m args below meth c mc ms F hX hf hlo hmc hms H locs cells slots ls hc hs hRP hS hl hL hV
  exact lv_ifnonnull F.1 F.2.1 hd ht (k w p l e R s m args below meth c mc ms F hX hf hlo hmc hms H locs cells slots ls hc hs hRP hS hl hL (oa_v1 hV))
theorem aw_iret {x : Int32} (hd : decode M.2.1 pc = .ok (.ireturn, 1)) (hr : M.2.2.2.1 = some .int) (q : Qr (some (vI x)) h) : AW X d rb M pc L [vI x] h Qr Qx := by
  intro w p l e R s m args below meth c mc ms F hX hf hlo hmc hms H locs cells slots ls hc hs hRP hS hl hL hV
  exact vx_ret (W.widen (k := mc) (n := ms) (Nat.le_trans (Nat.le_add_right _ _) hc) (Nat.le_trans (Nat.le_add_right _ _) hs) (W.iret (v := x) F.1 F.2.1 (F.2.2.2.1.trans hr) (fun t ht _ => ⟨some (vI x), h, rfl, fun u hu => by cases hu; trivial, q, by rw [ht]; exact hRP, hS.F ht⟩) hS.2.2 hd F.2.2.2.2.2.1))
theorem aw_zret {x : Int32} (hd : decode M.2.1 pc = .ok (.ireturn, 1)) (hr : M.2.2.2.1 = some .boolean) (hz : x = 0 ∨ x = 1) (q : Qr (some (vI x)) h) : AW X d rb M pc L [vI x] h Qr Qx := by
  intro w p l e R s m args below meth c mc ms F hX hf hlo hmc hms H locs cells slots ls hc hs hRP hS hl hL hV
  exact vx_ret (W.widen (k := mc) (n := ms) (Nat.le_trans (Nat.le_add_right _ _) hc) (Nat.le_trans (Nat.le_add_right _ _) hs) (W.zret (v := x) F.1 F.2.1 (F.2.2.2.1.trans hr) (by rcases hz with rfl | rfl <;> rfl) (fun t ht _ => ⟨some (vI x), h, rfl, fun u hu => by cases hu; trivial, q, by rw [ht]; exact hRP, hS.F ht⟩) hS.2.2 hd F.2.2.2.2.2.1))
theorem aw_lret {x : Int64} (hd : decode M.2.1 pc = .ok (.lreturn, 1)) (hr : M.2.2.2.1 = some .long) (q : Qr (some (vJ x)) h) : AW X d rb M pc L [vJ x] h Qr Qx := by
  intro w p l e R s m args below meth c mc ms F hX hf hlo hmc hms H locs cells slots ls hc hs hRP hS hl hL hV
  exact vx_ret (W.widen (k := mc) (n := ms) (Nat.le_trans (Nat.le_add_right _ _) hc) (Nat.le_trans (Nat.le_add_right _ _) hs) (W.lret (v := x) F.1 F.2.1 (F.2.2.2.1.trans hr) (fun t ht _ => ⟨some (vJ x), h, rfl, fun u hu => by cases hu; trivial, q, by rw [ht]; exact hRP, hS.F ht⟩) hS.2.2 hd F.2.2.2.2.2.1))
theorem aw_vret  (hd : decode M.2.1 pc = .ok (.return_, 1)) (hr : M.2.2.2.1 = none) (q : Qr (none) h) : AW X d rb M pc L [] h Qr Qx := by
  intro w p l e R s m args below meth c mc ms F hX hf hlo hmc hms H locs cells slots ls hc hs hRP hS hl hL hV
  exact vx_ret (W.widen (k := mc) (n := ms) (Nat.le_trans (Nat.le_add_right _ _) hc) (Nat.le_trans (Nat.le_add_right _ _) hs) (W.vret F.1 F.2.1 (F.2.2.2.1.trans hr) (fun t ht _ => ⟨(none : Option AV), h, rfl, fun (u : AV) (hu : u ∈ (none : Option AV)) => absurd hu (by simp), q, by rw [ht]; exact hRP, hS.F ht⟩) hS.2.2 hd F.2.2.2.2.2.1))
theorem aw_aret {ta i : Nat} {cn : String} (hd : decode M.2.1 pc = .ok (.areturn, 1)) (hr : M.2.2.2.1 = some (.object cn)) (q : Qr (some (vR ta i)) h) : AW X d rb M pc L [vR ta i] h Qr Qx := by
  intro w p l e R s m args below meth c mc ms F hX hf hlo hmc hms H locs cells slots ls hc hs hRP hS hl hL hV
  exact vx_ret (W.widen (k := mc) (n := ms) (Nat.le_trans (Nat.le_add_right _ _) hc) (Nat.le_trans (Nat.le_add_right _ _) hs) (W.aret F.1 F.2.1 (F.2.2.2.1.trans hr) (Or.inl ⟨_, rfl⟩) (Or.inr ⟨_, rfl⟩) (fun t ht _ => ⟨some (vR ta i), h, rfl, fun u hu => by cases hu; exact oa_vh hV, q, by rw [ht]; exact hRP, hS.F ht⟩) hS.2.2 hd F.2.2.2.2.2.1))
end AWR
