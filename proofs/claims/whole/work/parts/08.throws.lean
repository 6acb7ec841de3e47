/-! throws, library members -/
def oa_exN : List String := ["java/lang/RuntimeException", "java/lang/Exception"]
def oa_cd : Cond → Bool
  | .castable _ _ => true
  | .declares _ => true
  | q => goodWord q
theorem oa_stk {l : Launch} (h : l.flags = flags0) : l.stackTraces = false := by
  unfold Launch.stackTraces
  rw [h]
  decide +kernel
theorem oa_words {w : WD} {l : Launch} {s : State} {Ls : List Cond} (J : oa_JF w l s s.heap) (h1 : ∀ q ∈ Ls, q ∈ lw_tbl) (h2 : Ls.all oa_cd = true) : ∀ q ∈ Ls, ∀ a : Array Value, q.before a s = true := by
  intro q hq a
  have g := List.all_eq_true.mp h2 q hq
  have hm := h1 q hq
  by_cases gg : goodWord q = true
  · exact J.2.1 q (List.mem_filter.mpr ⟨hm, gg⟩) a
  · cases q <;> first | exact va_Nw.use rfl (J.2.2.2.2.2.2.2.1 _ _ hm) | exact va_Nw.use rfl (J.2.2.2.2.2.2.2.2.1 _ hm) | exact absurd g gg
section AWT
variable {X : WD → State → Prop} {d rb : Nat} {M : MD} {pc n : Nat} {L L2 : List (Nat × AV)} {S St : List AV} {h : Hp} {Qr : Option AV → Hp → Prop} {Qx : String → Hp → Prop}
theorem oa_RP.kept {w : WD} {H H1 : Heap} (hRP : oa_RP w h H) (hq : ∀ q : Nat, q < H.size → H1[q]? = H[q]?) : oa_RP w h H1 :=
  ⟨hRP.1.kept (fun k q hk => hq _ (hRP.1 k q hk).lt), hRP.2⟩
theorem aw_throwS {ik is ic j : Nat} {cls text : String} {bs : List Int32} (hh : M.2.2.2.2 = []) (d0 : decode M.2.1 pc = .ok (.new ik, 3)) (d3 : decode M.2.1 (pc + 3) = .ok (.dup, 1)) (d4 : decode M.2.1 (pc + 4) = .ok (.ldc is, 2)) (d6 : decode M.2.1 (pc + 6) = .ok (.invokespecial ic, 3)) (d9 : decode M.2.1 (pc + 9) = .ok (.athrow, 1))
    (hj : oa_SL[j]? = some (M.1.cls, is, text, bs)) (hw1 : Cond.classLink M.1.cls ik cls ∈ oa_GT) (hw2 : Cond.initialized cls ∈ oa_GT) (hf1 : Bundle.fit cls = true) (hf2 : ∀ n ∈ oa_exN, Bundle.fit n = true) (ha1 : ∀ q ∈ vx_atS M.1.cls ic cls oa_exN, q ∈ lw_tbl) (ha2 : (vx_atS M.1.cls ic cls oa_exN).all oa_cd = true)
    (ha3 : ∀ q ∈ Cond.classLink M.1.cls ik cls :: Cond.initialized cls :: vx_atS M.1.cls ic cls oa_exN, vx_ot q = true) (hcat : (S.map oa_cat).sum ≤ 8) (q : Qx cls h) : AW X (d + 6) (rb + 1) M pc L S h Qr Qx := by
  intro w p l e R s m args below meth c mc ms F hX hf hlo hmc hms H locs cells slots ls hc hs hRP hS hl hL hV
  have J := F.2.2.2.2.2.2.2
  have hstr := (J.2.2.2.2.2.2.2.2.2.1 j _ hj).1
  refine vx_throwS F.1 F.2.1 (oa_stk J.1) F.2.2.2.2.1 hf1 hf2 (J.2.1 _ hw1 args) (J.2.1 _ hw2 args) hstr (fun q hq => oa_words J ha1 ha2 q hq args) ha3 J.2.2.2.2.2.1 J.2.2.2.2.2.2.1 hS (hl.1.trans F.2.2.1.symm) d0 d3 d4 d6 d9
    (fun x hx => by rw [F.2.2.2.2.2.2.1, hh] at hx; cases hx) (by show 2 + 3 < R.frames; omega) (by rw [oa_sumcat]; show _ + (13 * (2 + 1) + 43) ≤ R.locals; omega) (by omega) (by omega) F.2.2.2.2.2.1
    (fun t _ hz hk => ⟨h, q, hRP.kept hk, Nat.le_trans hS.1 hz, fun a ha1 ha2 => by rw [hk a (Nat.lt_of_lt_of_le ha1 hS.1)]; exact hS.2.1 a ha1 ha2⟩) hS.2.2 (by omega) (by omega)
theorem aw_throwW {ik is ic j : Nat} {cls text : String} {bs : List Int32} (hh : M.2.2.2.2 = []) (d0 : decode M.2.1 pc = .ok (.new ik, 3)) (d3 : decode M.2.1 (pc + 3) = .ok (.dup, 1)) (d4 : decode M.2.1 (pc + 4) = .ok (.ldc_w is, 3)) (d6 : decode M.2.1 (pc + 7) = .ok (.invokespecial ic, 3)) (d9 : decode M.2.1 (pc + 10) = .ok (.athrow, 1))
    (hj : oa_SL[j]? = some (M.1.cls, is, text, bs)) (hw1 : Cond.classLink M.1.cls ik cls ∈ oa_GT) (hw2 : Cond.initialized cls ∈ oa_GT) (hf1 : Bundle.fit cls = true) (hf2 : ∀ n ∈ oa_exN, Bundle.fit n = true) (ha1 : ∀ q ∈ vx_atS M.1.cls ic cls oa_exN, q ∈ lw_tbl) (ha2 : (vx_atS M.1.cls ic cls oa_exN).all oa_cd = true)
    (ha3 : ∀ q ∈ Cond.classLink M.1.cls ik cls :: Cond.initialized cls :: vx_atS M.1.cls ic cls oa_exN, vx_ot q = true) (hcat : (S.map oa_cat).sum ≤ 8) (q : Qx cls h) : AW X (d + 6) (rb + 1) M pc L S h Qr Qx := by
  intro w p l e R s m args below meth c mc ms F hX hf hlo hmc hms H locs cells slots ls hc hs hRP hS hl hL hV
  have J := F.2.2.2.2.2.2.2
  have hstr := (J.2.2.2.2.2.2.2.2.2.1 j _ hj).1
  refine vx_throwSW F.1 F.2.1 (oa_stk J.1) F.2.2.2.2.1 hf1 hf2 (J.2.1 _ hw1 args) (J.2.1 _ hw2 args) hstr (fun q hq => oa_words J ha1 ha2 q hq args) ha3 J.2.2.2.2.2.1 J.2.2.2.2.2.2.1 hS (hl.1.trans F.2.2.1.symm) d0 d3 d4 d6 d9
    (fun x hx => by rw [F.2.2.2.2.2.2.1, hh] at hx; cases hx) (by show 2 + 3 < R.frames; omega) (by rw [oa_sumcat]; show _ + (13 * (2 + 1) + 43) ≤ R.locals; omega) (by omega) (by omega) F.2.2.2.2.2.1
    (fun t _ hz hk => ⟨h, q, hRP.kept hk, Nat.le_trans hS.1 hz, fun a ha1 ha2 => by rw [hk a (Nat.lt_of_lt_of_le ha1 hS.1)]; exact hS.2.1 a ha1 ha2⟩) hS.2.2 (by omega) (by omega)
theorem aw_max {idx : Nat} {x y : Int32} (hd : decode M.2.1 pc = .ok (.invokestatic idx, 3)) (hn : pc + 3 = n) (hl : (Cond.methodLink M.1.cls idx Lib.Math.max.name) ∈ oa_GT) (h1 : (Cond.static Lib.Math.max.name) ∈ oa_GT) (h2 : (Cond.initialized "java/lang/Math") ∈ oa_GT) (h3 : (Cond.code Lib.Math.max.name Lib.Math.max.code 2 (some .int)) ∈ oa_GT) (hcat : (S.map oa_cat).sum ≤ 8)
    (k : AW X (d + 1) rb M n L (vI (if x < y then y else x) :: S) h Qr Qx) : AW X (d + 1) rb M pc L (vI y :: vI x :: S) h Qr Qx := by
  intro w p l e R s m args below meth c mc ms F hX hf hlo hmc hms H locs cells slots ls hc hs hRP hS hl' hL hV
  subst hn
  have J := F.2.2.2.2.2.2.2
  exact va_mmax F.1 F.2.1 (F.2.2.1.trans hl'.1.symm) F.2.2.2.2.1 (J.2.1 _ hl args) (J.2.1 _ h1 args) (J.2.1 _ h2 args) (J.2.1 _ h3 args) (by omega) (by rw [oa_sumcat]; omega) (by omega) (by omega) hd (k w p l e R s m args below meth c mc ms F hX hf hlo hmc hms H locs cells slots ls hc hs hRP hS hl' hL (oa_vc trivial (oa_v1 (oa_v1 hV))))
theorem aw_min {idx : Nat} {x y : Int32} (hd : decode M.2.1 pc = .ok (.invokestatic idx, 3)) (hn : pc + 3 = n) (hl : (Cond.methodLink M.1.cls idx Lib.Math.min.name) ∈ oa_GT) (h1 : (Cond.static Lib.Math.min.name) ∈ oa_GT) (h2 : (Cond.initialized "java/lang/Math") ∈ oa_GT) (h3 : (Cond.code Lib.Math.min.name Lib.Math.min.code 2 (some .int)) ∈ oa_GT) (hcat : (S.map oa_cat).sum ≤ 8)
    (k : AW X (d + 1) rb M n L (vI (if y < x then y else x) :: S) h Qr Qx) : AW X (d + 1) rb M pc L (vI y :: vI x :: S) h Qr Qx := by
  intro w p l e R s m args below meth c mc ms F hX hf hlo hmc hms H locs cells slots ls hc hs hRP hS hl' hL hV
  subst hn
  have J := F.2.2.2.2.2.2.2
  exact va_mmin F.1 F.2.1 (F.2.2.1.trans hl'.1.symm) F.2.2.2.2.1 (J.2.1 _ hl args) (J.2.1 _ h1 args) (J.2.1 _ h2 args) (J.2.1 _ h3 args) (by omega) (by rw [oa_sumcat]; omega) (by omega) (by omega) hd (k w p l e R s m args below meth c mc ms F hX hf hlo hmc hms H locs cells slots ls hc hs hRP hS hl' hL (oa_vc trivial (oa_v1 (oa_v1 hV))))
/-- System.arraycopy of int or boolean rows, from 0 to 0 -/
theorem aw_copy {idx kc t1 i1 t2 i2 n1 n2 : Nat} {fs1 fs2 : List (Nat × Nat)} {v : Int32} (hd : decode M.2.1 pc = .ok (.invokestatic idx, 3)) (hn : pc + 3 = n) (hl : (Cond.methodLink M.1.cls idx arraycopyName) ∈ oa_GT) (g1 : (Cond.native arraycopyName) ∈ oa_GT) (g2 : (Cond.static arraycopyName) ∈ oa_GT) (g3 : (Cond.initialized "java/lang/System") ∈ oa_GT)
    (ht1 : t1 < oa_nT) (ht2 : t2 < oa_nT) (hkc : kc = 1 ∨ kc = 4) (hk1 : oa_kd t1 = (kc, n1, fs1)) (hk2 : oa_kd t2 = (kc, n2, fs2)) (hv : ¬ v < 0) (hv1 : v.toNatClampNeg ≤ n1) (hv2 : v.toNatClampNeg ≤ n2) (hcat : (S.map oa_cat).sum ≤ 8)
    (k : AW X (d + 1) rb M n L S (hp_a h t2 i2 (va_cpy (h.1 t1 i1) (h.1 t2 i2) 0 0 v.toNatClampNeg)) Qr Qx) : AW X (d + 1) rb M pc L (vI v :: vI 0 :: vR t2 i2 :: vI 0 :: vR t1 i1 :: S) h Qr Qx := by
  intro w p l e R s m args below meth c mc ms F hX hf hlo hmc hms H locs cells slots ls hc hs hRP hS hl' hL hV
  subst hn
  have J := F.2.2.2.2.2.2.2
  have hi2 : i2 < oa_cn t2 := oa_vh (oa_v1 (oa_v1 hV))
  have hi1 : i1 < oa_cn t1 := oa_vh (oa_v1 (oa_v1 (oa_v1 (oa_v1 hV))))
  obtain ⟨q1, hq1, he1⟩ := oa_ws_at (w := w) (h := h) ht1 hi1
  obtain ⟨q2, hq2, he2⟩ := oa_ws_at (w := w) (h := h) ht2 hi2
  have hfr : nativeFrameWords "java/lang/System" "arraycopy" 5 + 11 ≤ 40 := by decide +kernel
  have hlz : (rest : List Value) → rest = S.map (oa_cz w) → (rest.map fun v => v.category).sum + (nativeFrameWords "java/lang/System" "arraycopy" 5 + 11) ≤ R.locals := by
    intro rest hr
    rw [hr, oa_sumcat]
    omega
  have z0 : (0 : Int32).toNatClampNeg = 0 := rfl
  rcases hkc with rfl | rfl
  · rw [oa_ent1 hk1] at he1
    rw [oa_ent1 hk2] at he2
    refine va_copyi F.1 F.2.1 (F.2.2.1.trans hl'.1.symm) F.2.2.2.2.1 (J.2.1 _ hl args) (J.2.1 _ g1 args) (J.2.1 _ g2 args) (J.2.1 _ g3 args) J.2.2.2.1 hRP.1 hRP.2.1 hS q1 q2 0 0 he1 he2 rfl rfl rfl (by decide) (by decide) hv (by rw [z0]; omega) (by rw [z0]; omega) (fun i _ => rfl) (by omega) (hlz _ rfl) hd (fun H1 locs1 hP1 hD1 hS1 => ?_)
    refine k w p l e R s m args below meth c mc ms F hX hf hlo hmc hms H1 locs1 cells slots ls hc hs ?_ hS1 hl' hL (oa_v1 (oa_v1 (oa_v1 (oa_v1 (oa_v1 hV)))))
    refine oa_RP_a hq2 hRP.2.2 (fun h4 => by rw [hk2] at h4; cases h4) ?_ hRP.2.1
    rw [oa_ent1 hk2, hp_a_s]
    exact hP1
  · rw [oa_ent4 hk1] at he1
    rw [oa_ent4 hk2] at he2
    have hz1 : ∀ i, h.1 t1 i1 i = 0 ∨ h.1 t1 i1 i = 1 := fun i => hRP.2.2.2 t1 i1 i (by rw [hk1])
    refine va_copyi F.1 F.2.1 (F.2.2.1.trans hl'.1.symm) F.2.2.2.2.1 (J.2.1 _ hl args) (J.2.1 _ g1 args) (J.2.1 _ g2 args) (J.2.1 _ g3 args) J.2.2.2.1 hRP.1 hRP.2.1 hS q1 q2 3 3 he1 he2 rfl rfl rfl (by decide) (by decide) hv (by rw [z0]; omega) (by rw [z0]; omega) (fun i _ => by rcases hz1 ((0 : Int32).toNatClampNeg + i) with q | q <;> rw [q] <;> rfl) (by omega) (hlz _ rfl) hd (fun H1 locs1 hP1 hD1 hS1 => ?_)
    refine k w p l e R s m args below meth c mc ms F hX hf hlo hmc hms H1 locs1 cells slots ls hc hs ?_ hS1 hl' hL (oa_v1 (oa_v1 (oa_v1 (oa_v1 (oa_v1 hV)))))
    refine oa_RP_a hq2 hRP.2.2 (fun h4 a => ?_) ?_ hRP.2.1
    · unfold va_cpy
      split
      · exact hz1 _
      · exact hRP.2.2.2 t2 i2 a h4
    · rw [oa_ent4 hk2, hp_a_s]
      exact hP1
/-- a string constant -/
theorem aw_ldcS {is j : Nat} {text : String} {bs : List Int32} (hd : decode M.2.1 pc = .ok (.ldc is, 2)) (hn : pc + 2 = n) (hj : oa_SL[j]? = some (M.1.cls, is, text, bs)) (k : AW X d rb M n L (vR (1000 + j) 0 :: S) h Qr Qx) : AW X d rb M pc L S h Qr Qx := by
  intro w p l e R s m args below meth c mc ms F hX hf hlo hmc hms H locs cells slots ls hc hs hRP hS hl hL hV
  subst hn
  have J := F.2.2.2.2.2.2.2
  refine va_ldcS F.1 F.2.1 F.2.2.2.2.1 (J.2.2.2.2.2.2.2.2.2.1 j _ hj).1 hd (k w p l e R s m args below meth c mc ms F hX hf hlo hmc hms H locs cells slots ls hc hs hRP hS hl hL (oa_vc ?_ hV))
  show 0 < oa_cn (1000 + j)
  unfold oa_cn
  rw [if_pos (Nat.le_add_right _ _)]
  exact Nat.one_pos
end AWT
