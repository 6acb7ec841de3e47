theorem oa_ofW {l : Launch} {y : MethodName} {ws ws' : List Cond} {rm : Room} {Pc : Array Value → State → Prop} {Qc : Array Value → State → Outcome → State → Prop} {XC : String → State → State → Prop} {mc ms : Nat} {free : Addr → Prop} {cc : ByteArray} {maxL : Nat} {ret : Option FieldType}
    (hy : plainFor y = true) (hw : ws = Cond.code y cc maxL ret :: ws')
    (body : ∀ p e s m args below meth c s₁, BodyLoose p l y (headSpec ws rm) cc maxL ret e s m args below meth c s₁ → c.maxLocals = maxL → (∀ x ∈ c.exceptionTable.toList, False) → Pc args s →
      W p l e (headSpec ws rm).room s m args below meth c s.heap [] 0 0 (vx_MQ below Qc XC args s mc ms free) (entryFrame m args maxL)) : vx_Met l y ws rm Pc Qc XC mc ms free := by
  refine MetFree.of_bodySF (code := cc) (maxLocals := maxL) (ret := ret) hy ?_ ?_
  · intro args s m h hn
    obtain ⟨meth, c, h1, h2, h3, h4, h5, h6, -, -⟩ := Cond.code_spec hn (atoms_spec (ws := ws) h _ (by rw [hw]; exact List.mem_cons_self))
    exact ⟨meth, c, h1, h2, h3, h4, h5, h6⟩
  · intro p e s m args below meth c s₁ B hml hP _
    have hh0 : s₁.heap = s.heap := by rw [B.state]; rfl
    have ht : ∀ x ∈ c.exceptionTable.toList, False := by
      obtain ⟨meth9, c9, h1, h2, -, -, -, -, h7, -⟩ := Cond.code_spec B.named (atoms_spec (ws := ws) B.pre _ (by rw [hw]; exact List.mem_cons_self))
      cases Option.some.inj (h1.symm.trans B.method)
      cases Option.some.inj (h2.symm.trans (Stand.of_body B).code)
      intro x hx
      rw [Array.isEmpty_iff.mp h7] at hx
      cases hx
    obtain ⟨t, a1, o, b1, b2, b3⟩ := body p e s m args below meth c s₁ B hml ht hP s₁ hh0 (Stand.of_body B)
    exact ⟨t, o, a1, b1, b2, b3⟩
theorem CL.ofF {k d : Nat} {M : MD} {as : List AV} {h : Hp} {Qr : Option AV → Hp → Prop} {Qx : String → Hp → Prop} (hy : plainFor M.1 = true) (hh : M.2.2.2.2 = []) (hl : (as.map oa_cat).sum ≤ M.2.2.1)
    (kk : AW (fun _ _ => True) d k M 0 (oa_la 0 as) [] h Qr Qx) : CL k d M as h Qr Qx := by
  intro w l
  refine oa_ofW (cc := M.2.1) (maxL := M.2.2.1) (ret := M.2.2.2.1) (ws' := []) hy rfl ?_
  intro p e s m args below meth c s₁ B hml ht hv
  obtain ⟨rfl, hvd, hJ, hRP⟩ := hv
  have hown : s.vm.findClass M.1.cls = some m.cls := findClass_of_methodNamed B.named
  have hle := lv_entry (as.map (oa_cz w)) (n := M.2.2.1) (by rw [oa_sl_len]; exact hl)
  rw [oa_la_lz] at hle
  rw [lg_entry_eq]
  refine kk w p l e _ s m _ below meth c k (6 * k) ⟨B.exec, B.bytes, hml, B.returns, hown, B.notSynchronized, ?_, hJ⟩ trivial (Nat.le_refl _) (Nat.le_refl _) (Nat.le_refl _) (Nat.le_refl _) s.heap [] 0 0 _ (by omega) (by omega) hRP va_S.rf hle (fun q hq => hvd _ (oa_la_mem hq)) (fun v hv => nomatch hv)
  rw [hh]
  exact List.eq_nil_iff_forall_not_mem.mpr (fun x hx => ht x hx)
def oa_N : Nat := 1000000
def oa_ex : Nat → String
  | 1 => "java/lang/IndexOutOfBoundsException"
  | 2 => "java/lang/IllegalArgumentException"
  | _ => "java/lang/IllegalStateException"
/-- String.length() and charAt(i) of the constant j -/
def oa_by (j : Nat) : List Int32 := (oa_SL.getD j ("", 0, "", [])).2.2.2
def p_J0_length_8abf5 (_ : Hp) (j : Nat) : Prop := j < 36
def f_J0_length_8abf5 (_ : Hp) (j : Nat) : Int32 := nI (oa_by j).length
def p_J0_charAt_5068e (_ : Hp) (j : Nat) (a : Int32) : Prop := j < 36 ∧ vp_in a (oa_by j).length
def f_J0_charAt_5068e (_ : Hp) (j : Nat) (a : Int32) : Int32 := (oa_by j).getD a.toNatClampNeg 0
theorem pf_J7_fill_53178 : plainFor mJ7_fill_53178.1 = true := by decide +kernel
theorem pf_J9_floorMod_7cf53 : plainFor mJ9_floorMod_7cf53.1 = true := by decide +kernel
theorem pf_J0_length_8abf5 : plainFor mJ0_length_8abf5.1 = true := by decide +kernel
theorem pf_J0_charAt_5068e : plainFor mJ0_charAt_5068e.1 = true := by decide +kernel
theorem pf_J0_coder_7d493 : plainFor mJ0_coder_7d493.1 = true := by decide +kernel
theorem pf_J0_isLatin1_aae02 : plainFor mJ0_isLatin1_aae02.1 = true := by decide +kernel
theorem pf_J0_checkIndex_df160 : plainFor mJ0_checkIndex_df160.1 = true := by decide +kernel
theorem pf_J1_charAt_3b067 : plainFor mJ1_charAt_3b067.1 = true := by decide +kernel
theorem pf_J3_checkIndex_8e157 : plainFor mJ3_checkIndex_8e157.1 = true := by decide +kernel
section AWT
variable {X : WD → State → Prop} {d rb : Nat} {M : MD} {pc n : Nat} {L L2 : List (Nat × AV)} {S St : List AV} {h : Hp} {Qr : Option AV → Hp → Prop} {Qx : String → Hp → Prop}
theorem oa_cnS {t : Nat} (ht : 1000 ≤ t) : 0 < oa_cn t := by unfold oa_cn; rw [if_pos ht]; exact Nat.one_pos
theorem oa_SLat {j : Nat} (hj : j < 36) : ∃ q, oa_SL[j]? = some q ∧ q.2.2.2 = oa_by j := by
  refine ⟨_, List.getElem?_eq_getElem (show j < oa_SL.length from hj), ?_⟩
  unfold oa_by
  rw [List.getD_eq_getElem?_getD, List.getElem?_eq_getElem (show j < oa_SL.length from hj)]
  rfl
theorem aw_i2c {x : Int32} (hd : decode M.2.1 pc = .ok (.i2c, 1)) (hn : pc + 1 = n) (k : AW X d rb M n L (vI (x.toUInt32 % 65536).toInt32 :: S) h Qr Qx) : AW X d rb M pc L (vI x :: S) h Qr Qx := by
  intro w p l e R s m args below meth c mc ms F hX hf hlo hmc hms H locs cells slots ls hc hs hRP hS hl hL hV
  subst hn
  exact lv_i2c F.1 F.2.1 hd rfl (k w p l e R s m args below meth c mc ms F hX hf hlo hmc hms H locs cells slots ls hc hs hRP hS hl hL (oa_vc trivial (oa_v1 hV)))
theorem aw_tret {x : Int32} {ty : FieldType} (hd : decode M.2.1 pc = .ok (.ireturn, 1)) (hr : M.2.2.2.1 = some ty) (hz : narrow ty (.int x) = .int x) (q : Qr (some (vI x)) h) : AW X d rb M pc L [vI x] h Qr Qx := by
  intro w p l e R s m args below meth c mc ms F hX hf hlo hmc hms H locs cells slots ls hc hs hRP hS hl hL hV
  exact vx_ret (W.widen (k := mc) (n := ms) (Nat.le_trans (Nat.le_add_right _ _) hc) (Nat.le_trans (Nat.le_add_right _ _) hs) (W.zret (v := x) F.1 F.2.1 (F.2.2.2.1.trans hr) hz (fun t ht _ => ⟨some (vI x), h, rfl, fun u hu => by cases hu; trivial, q, by rw [ht]; exact hRP, hS.F ht⟩) hS.2.2 hd F.2.2.2.2.2.1))
theorem aw_gcompact {idx : Nat} (hd : decode M.2.1 pc = .ok (.getstatic idx, 3)) (hn : pc + 3 = n) (hw : Cond.fieldLink M.1.cls idx "java/lang/String" "COMPACT_STRINGS" "Z" ∈ oa_GT) (k : AW X d rb M n L (vI 1 :: S) h Qr Qx) : AW X d rb M pc L S h Qr Qx := by
  intro w p l e R s m args below meth c mc ms F hX hf hlo hmc hms H locs cells slots ls hc hs hRP hS hl hL hV
  subst hn
  have J := F.2.2.2.2.2.2.2
  exact va_gets F.1 F.2.1 J.2.2.2.2.2.2.2.2.2.2.1 hS F.2.2.2.2.1 (J.2.1 _ hw args) (fun _ z => z) hd (k w p l e R s m args below meth c mc ms F hX hf hlo hmc hms H locs cells slots ls hc hs hRP hS hl hL (oa_vc trivial hV))
theorem aw_gformat {idx : Nat} (hd : decode M.2.1 pc = .ok (.getstatic idx, 3)) (hn : pc + 3 = n) (hw : Cond.fieldLink M.1.cls idx "jdk/internal/util/Preconditions" "SIOOBE_FORMATTER" "Ljava/util/function/BiFunction;" ∈ oa_GT) (k : ∀ v : AV, oa_cat v = 1 → AW X d rb M n L (v :: S) h Qr Qx) : AW X d rb M pc L S h Qr Qx := by
  intro w p l e R s m args below meth c mc ms F hX hf hlo hmc hms H locs cells slots ls hc hs hRP hS hl hL hV
  subst hn
  have J := F.2.2.2.2.2.2.2
  rcases J.2.2.2.2.2.2.2.2.2.2.2.1 with hZ | hZ
  · exact va_gets F.1 F.2.1 hZ hS F.2.2.2.2.1 (J.2.1 _ hw args) (fun _ z => z) hd (k vN rfl w p l e R s m args below meth c mc ms F hX hf hlo hmc hms H locs cells slots ls hc hs hRP hS hl hL (oa_vc trivial hV))
  · exact va_gets F.1 F.2.1 hZ hS F.2.2.2.2.1 (J.2.1 _ hw args) (fun _ z => z) hd (k (vR 3000 0) rfl w p l e R s m args below meth c mc ms F hX hf hlo hmc hms H locs cells slots ls hc hs hRP hS hl hL (oa_vc (oa_cnS (by decide)) hV))
theorem aw_gcoder {idx j : Nat} (hd : decode M.2.1 pc = .ok (.getfield idx, 3)) (hn : pc + 3 = n) (hj : j < 36) (hw : Cond.fieldLink M.1.cls idx "java/lang/String" "coder" "B" ∈ oa_GT) (k : AW X d rb M n L (vI 0 :: S) h Qr Qx) : AW X d rb M pc L (vR (1000 + j) 0 :: S) h Qr Qx := by
  intro w p l e R s m args below meth c mc ms F hX hf hlo hmc hms H locs cells slots ls hc hs hRP hS hl hL hV
  subst hn
  have J := F.2.2.2.2.2.2.2
  obtain ⟨q, hq, hb⟩ := oa_SLat hj
  exact vk_getf F.1 F.2.1 (J.2.2.2.2.2.2.2.2.2.1 j q hq).2.2.1 hS F.2.2.2.2.1 (J.2.1 _ hw args) (fun _ z => z) hd (k w p l e R s m args below meth c mc ms F hX hf hlo hmc hms H locs cells slots ls hc hs hRP hS hl hL (oa_vc trivial (oa_v1 hV)))
theorem aw_gvalue {idx j : Nat} (hd : decode M.2.1 pc = .ok (.getfield idx, 3)) (hn : pc + 3 = n) (hj : j < 36) (hw : Cond.fieldLink M.1.cls idx "java/lang/String" "value" "[B" ∈ oa_GT) (k : AW X d rb M n L (vR (1500 + j) 0 :: S) h Qr Qx) : AW X d rb M pc L (vR (1000 + j) 0 :: S) h Qr Qx := by
  intro w p l e R s m args below meth c mc ms F hX hf hlo hmc hms H locs cells slots ls hc hs hRP hS hl hL hV
  subst hn
  have J := F.2.2.2.2.2.2.2
  obtain ⟨q, hq, hb⟩ := oa_SLat hj
  exact vk_getf F.1 F.2.1 (J.2.2.2.2.2.2.2.2.2.1 j q hq).2.2.2.1 hS F.2.2.2.2.1 (J.2.1 _ hw args) (fun _ z => z) hd (k w p l e R s m args below meth c mc ms F hX hf hlo hmc hms H locs cells slots ls hc hs hRP hS hl hL (oa_vc (oa_cnS (by omega)) (oa_v1 hV)))
theorem aw_slen {j : Nat} (hd : decode M.2.1 pc = .ok (.arraylength, 1)) (hn : pc + 1 = n) (hj : j < 36) (k : AW X d rb M n L (vI (nI (oa_by j).length) :: S) h Qr Qx) : AW X d rb M pc L (vR (1500 + j) 0 :: S) h Qr Qx := by
  intro w p l e R s m args below meth c mc ms F hX hf hlo hmc hms H locs cells slots ls hc hs hRP hS hl hL hV
  subst hn
  have J := F.2.2.2.2.2.2.2
  obtain ⟨q, hq, hb⟩ := oa_SLat hj
  exact va_tlen F.1 F.2.1 (J.2.2.2.2.2.2.2.2.2.1 j q hq).2.2.2.2 hS (v := nI (oa_by j).length) (by rw [hb]; rfl) hd (k w p l e R s m args below meth c mc ms F hX hf hlo hmc hms H locs cells slots ls hc hs hRP hS hl hL (oa_vc trivial (oa_v1 hV)))
theorem aw_sbyte {j : Nat} {a : Int32} (hd : decode M.2.1 pc = .ok (.baload, 1)) (hn : pc + 1 = n) (hj : j < 36) (hin : vp_in a (oa_by j).length) (k : AW X d rb M n L (vI ((oa_by j).getD a.toNatClampNeg 0) :: S) h Qr Qx) : AW X d rb M pc L (vI a :: vR (1500 + j) 0 :: S) h Qr Qx := by
  intro w p l e R s m args below meth c mc ms F hX hf hlo hmc hms H locs cells slots ls hc hs hRP hS hl hL hV
  subst hn
  have J := F.2.2.2.2.2.2.2
  obtain ⟨q, hq, hb⟩ := oa_SLat hj
  exact va_tb F.1 F.2.1 (J.2.2.2.2.2.2.2.2.2.1 j q hq).2.2.2.2 hS (by rw [hb]; exact hin) (v := .int ((oa_by j).getD a.toNatClampNeg 0)) (by rw [hb]) hd (k w p l e R s m args below meth c mc ms F hX hf hlo hmc hms H locs cells slots ls hc hs hRP hS hl hL (oa_vc trivial (oa_v1 (oa_v1 hV))))
end AWT
theorem gs_coder : Cond.fieldLink "java/lang/String" 15 "java/lang/String" "coder" "B" ∈ oa_GT := oa_g9 113 rfl rfl
theorem gs_value : Cond.fieldLink "java/lang/String" 9 "java/lang/String" "value" "[B" ∈ oa_GT := oa_g9 112 rfl rfl
theorem gs_compact : Cond.fieldLink "java/lang/String" 38 "java/lang/String" "COMPACT_STRINGS" "Z" ∈ oa_GT := oa_g3 239 rfl rfl
theorem gs_format : Cond.fieldLink "java/lang/String" 1053 "jdk/internal/util/Preconditions" "SIOOBE_FORMATTER" "Ljava/util/function/BiFunction;" ∈ oa_GT := oa_g4 15 rfl rfl
theorem gs_ml0 : Cond.methodLink mJ0_length_8abf5.1.cls 335 mJ0_coder_7d493.1 ∈ oa_GT := oa_g3 235 rfl rfl
theorem gs_in0 : Cond.instanceMethod mJ0_coder_7d493.1 ∈ oa_GT := oa_g3 236 rfl rfl
theorem gs_se0 : Cond.selects mJ0_coder_7d493.1.cls mJ0_coder_7d493.1 mJ0_coder_7d493.1 ∈ oa_GT := oa_g3 237 rfl rfl
theorem gs_ml1 : Cond.methodLink mJ0_charAt_5068e.1.cls 492 mJ0_isLatin1_aae02.1 ∈ oa_GT := oa_g4 5 rfl rfl
theorem gs_in1 : Cond.instanceMethod mJ0_isLatin1_aae02.1 ∈ oa_GT := oa_g4 6 rfl rfl
theorem gs_se1 : Cond.selects mJ0_isLatin1_aae02.1.cls mJ0_isLatin1_aae02.1 mJ0_isLatin1_aae02.1 ∈ oa_GT := oa_g4 7 rfl rfl
theorem gs_ml2 : Cond.methodLink mJ0_charAt_5068e.1.cls 495 mJ1_charAt_3b067.1 ∈ oa_GT := oa_g4 9 rfl rfl
theorem gs_st2 : Cond.static mJ1_charAt_3b067.1 ∈ oa_GT := oa_g4 10 rfl rfl
theorem gs_ml3 : Cond.methodLink mJ1_charAt_3b067.1.cls 9 mJ0_checkIndex_df160.1 ∈ oa_GT := oa_g4 12 rfl rfl
theorem gs_st3 : Cond.static mJ0_checkIndex_df160.1 ∈ oa_GT := oa_g4 13 rfl rfl
theorem gs_ml4 : Cond.methodLink mJ0_checkIndex_df160.1.cls 1059 mJ3_checkIndex_8e157.1 ∈ oa_GT := oa_g4 17 rfl rfl
theorem gs_st4 : Cond.static mJ3_checkIndex_8e157.1 ∈ oa_GT := oa_g4 18 rfl rfl
theorem oa_by_ok : ∀ j, j < 36 → ((oa_by j).length < 1000 ∧ ∀ b ∈ oa_by j, (0 ≤ b ∧ b < 128)) := by decide +kernel
theorem oa_nIpos {b : Int32} (h0 : 0 ≤ b) : b = nI b.toNatClampNeg ∧ b.toInt = (b.toNatClampNeg : Int) := by
  have e1 : b.toInt = (b.toNatClampNeg : Int) := by
    have := Int32.le_iff_toInt_le.mp h0
    rw [Int32.toNatClampNeg]
    simp only [Int32.toInt_zero] at this
    omega
  have e2 := Int32.toInt_lt b
  refine ⟨?_, e1⟩
  apply Int32.toInt_inj.mp
  unfold nI
  rw [Int32.toInt_ofNat_of_lt (by omega), e1]
theorem oa_ch {b : Int32} (h0 : 0 ≤ b) (h1 : b < 128) : (((b &&& 255).toUInt32 % 65536).toInt32 = b) ∧ narrow .char (.int b) = .int b := by
  obtain ⟨e, e1⟩ := oa_nIpos h0
  have e2 := Int32.lt_iff_toInt_lt.mp h1
  have e3 : (128 : Int32).toInt = 128 := by decide
  rw [e3] at e2
  have hl : b.toNatClampNeg < 128 := by omega
  rw [e]
  generalize b.toNatClampNeg = q at hl
  revert q
  decide +kernel
theorem oa_chj {j : Nat} {a : Int32} (hj : j < 36) (hin : vp_in a (oa_by j).length) : ((((oa_by j).getD a.toNatClampNeg 0 &&& 255).toUInt32 % 65536).toInt32 = (oa_by j).getD a.toNatClampNeg 0) ∧ narrow .char (.int ((oa_by j).getD a.toNatClampNeg 0)) = .int ((oa_by j).getD a.toNatClampNeg 0) := by
  have hin' : ¬ (a < 0 ∨ (oa_by j).length ≤ a.toNatClampNeg) := hin
  have h2 : a.toNatClampNeg < (oa_by j).length := by omega
  have h3 := (oa_by_ok j hj).2 ((oa_by j).getD a.toNatClampNeg 0) (by rw [List.getD_eq_getElem?_getD, List.getElem?_eq_getElem h2]; exact List.getElem_mem h2)
  exact oa_ch h3.1 h3.2
theorem cl_coder {d : Nat} {h : Hp} {Qr : Option AV → Hp → Prop} {Qx : String → Hp → Prop} {j : Nat} (hj : j < 36) (k : Qr (some (vI 0)) h) : CL 0 (d + 1) mJ0_coder_7d493 [vR (1000 + j) 0] h Qr Qx := by
  refine CL.ofF pf_J0_coder_7d493 rfl (Nat.le_of_ble_eq_true rfl) ?_
  refine aw_gcompact dJ0_coder_7d493_0 rfl gs_compact ?_
  refine aw_if_eq 13 dJ0_coder_7d493_3 rfl rfl (fun c => absurd c (by decide)) (fun _ => ?_)
  refine aw_aload_n (j := 0) (i := 0) dJ0_coder_7d493_6 rfl rfl rfl ?_
  refine aw_gcoder dJ0_coder_7d493_7 rfl hj gs_coder ?_
  refine aw_goto 14 dJ0_coder_7d493_10 rfl ?_
  exact aw_tret dJ0_coder_7d493_14 rfl rfl k
theorem cl_isLatin1 {d : Nat} {h : Hp} {Qr : Option AV → Hp → Prop} {Qx : String → Hp → Prop} {j : Nat} (hj : j < 36) (k : Qr (some (vI 1)) h) : CL 0 (d + 1) mJ0_isLatin1_aae02 [vR (1000 + j) 0] h Qr Qx := by
  refine CL.ofF pf_J0_isLatin1_aae02 rfl (Nat.le_of_ble_eq_true rfl) ?_
  refine aw_gcompact dJ0_isLatin1_aae02_0 rfl gs_compact ?_
  refine aw_if_eq 17 dJ0_isLatin1_aae02_3 rfl rfl (fun c => absurd c (by decide)) (fun _ => ?_)
  refine aw_aload_n (j := 0) (i := 0) dJ0_isLatin1_aae02_6 rfl rfl rfl ?_
  refine aw_gcoder dJ0_isLatin1_aae02_7 rfl hj gs_coder ?_
  refine aw_if_ne 17 dJ0_isLatin1_aae02_10 rfl rfl (fun c => absurd rfl c) (fun _ => ?_)
  refine aw_iconst (v := 1) dJ0_isLatin1_aae02_13 rfl (by decide) ?_
  refine aw_goto 18 dJ0_isLatin1_aae02_14 rfl ?_
  exact aw_tret dJ0_isLatin1_aae02_18 rfl rfl k
theorem cl_check3 {d : Nat} {h : Hp} {Qr : Option AV → Hp → Prop} {Qx : String → Hp → Prop} {a b : Int32} {v : AV} (hv : oa_cat v = 1) (h0 : ¬ a < 0) (h1 : a < b) (k : Qr (some (vI a)) h) : CL 0 (d + 1) mJ3_checkIndex_8e157 [vI a, vI b, v] h Qr Qx := by
  refine CL.ofF pf_J3_checkIndex_8e157 rfl (by simp only [List.map_cons, List.map_nil, List.sum_cons, List.sum_nil, hv]; exact Nat.le_refl 3) ?_
  refine aw_iload_n (j := 0) (i := 0) dJ3_checkIndex_8e157_0 rfl rfl rfl ?_
  refine aw_if_lt 9 dJ3_checkIndex_8e157_1 rfl rfl (fun c => absurd c h0) (fun _ => ?_)
  refine aw_iload_n (j := 0) (i := 0) dJ3_checkIndex_8e157_4 rfl rfl rfl ?_
  refine aw_iload_n (j := 1) (i := 1) dJ3_checkIndex_8e157_5 rfl rfl rfl ?_
  refine aw_icmp_lt 16 dJ3_checkIndex_8e157_6 rfl rfl (fun _ => ?_) (fun c => absurd h1 c)
  refine aw_iload_n (j := 0) (i := 0) dJ3_checkIndex_8e157_16 rfl rfl rfl ?_
  exact aw_iret dJ3_checkIndex_8e157_17 rfl k
theorem cl_check0 {d : Nat} {h : Hp} {Qr : Option AV → Hp → Prop} {Qx : String → Hp → Prop} {a b : Int32} (h0 : ¬ a < 0) (h1 : a < b) (k : Qr none h) : CL 0 (d + 2) mJ0_checkIndex_df160 [vI a, vI b] h Qr Qx := by
  refine CL.ofF pf_J0_checkIndex_df160 rfl (Nat.le_of_ble_eq_true rfl) ?_
  refine aw_iload_n (j := 0) (i := 0) dJ0_checkIndex_df160_0 rfl rfl rfl ?_
  refine aw_iload_n (j := 1) (i := 1) dJ0_checkIndex_df160_1 rfl rfl rfl ?_
  refine aw_gformat dJ0_checkIndex_df160_2 rfl gs_format (fun v hv => ?_)
  refine aw_callS (M' := mJ3_checkIndex_8e157) (S := []) (as := [vI a, vI b, v]) (k := 0) dJ0_checkIndex_df160_5 rfl gs_ml4 gs_st4 mb_J3_checkIndex_8e157 rfl (Nat.zero_le _) (Nat.le_of_ble_eq_true rfl) rfl (cl_check3 hv h0 h1 ?_)
  refine aw_pop dJ0_checkIndex_df160_8 rfl rfl ?_
  exact aw_vret dJ0_checkIndex_df160_9 rfl k
theorem cl_charAt1 {d : Nat} {h : Hp} {Qr : Option AV → Hp → Prop} {Qx : String → Hp → Prop} {j : Nat} {a : Int32} (hj : j < 36) (hin : vp_in a (oa_by j).length) (k : Qr (some (vI ((oa_by j).getD a.toNatClampNeg 0))) h) : CL 0 (d + 3) mJ1_charAt_3b067 [vR (1500 + j) 0, vI a] h Qr Qx := by
  have hL := (oa_by_ok j hj).1
  have hin' : ¬ (a < 0 ∨ (oa_by j).length ≤ a.toNatClampNeg) := hin
  have h0 : ¬ a < 0 := fun z => hin' (Or.inl z)
  have h2 : a.toNatClampNeg < (oa_by j).length := by omega
  have ha := (oa_nIpos (Int32.not_lt.mp h0)).1
  have h1 : a < nI (oa_by j).length := by
    rw [ha]
    exact nI_lt h2 (by omega)
  obtain ⟨e1, e2⟩ := oa_chj hj hin
  refine CL.ofF pf_J1_charAt_3b067 rfl (Nat.le_of_ble_eq_true rfl) ?_
  refine aw_iload_n (j := 1) (i := 1) dJ1_charAt_3b067_0 rfl rfl rfl ?_
  refine aw_aload_n (j := 0) (i := 0) dJ1_charAt_3b067_1 rfl rfl rfl ?_
  refine aw_slen dJ1_charAt_3b067_2 rfl hj ?_
  refine aw_callS (M' := mJ0_checkIndex_df160) (S := []) (as := [vI a, vI (nI (oa_by j).length)]) (k := 0) dJ1_charAt_3b067_3 rfl gs_ml3 gs_st3 mb_J0_checkIndex_df160 rfl (Nat.zero_le _) (Nat.le_of_ble_eq_true rfl) rfl (cl_check0 h0 h1 ?_)
  refine aw_aload_n (j := 0) (i := 0) dJ1_charAt_3b067_6 rfl rfl rfl ?_
  refine aw_iload_n (j := 1) (i := 1) dJ1_charAt_3b067_7 rfl rfl rfl ?_
  refine aw_sbyte dJ1_charAt_3b067_8 rfl hj hin ?_
  refine aw_sipush (v := 255) dJ1_charAt_3b067_9 rfl (by decide) ?_
  refine aw_iand dJ1_charAt_3b067_12 rfl ?_
  refine aw_i2c dJ1_charAt_3b067_13 rfl ?_
  rw [e1]
  exact aw_tret dJ1_charAt_3b067_14 rfl e2 k
theorem c_J0_length_8abf5 {d : Nat} {h : Hp} {P : Int32 → Hp → Prop} {Qx : String → Hp → Prop} {j : Nat} (hp : p_J0_length_8abf5 h j) (k : P (f_J0_length_8abf5 h j) h) : CL 0 (d + 3) mJ0_length_8abf5 [vR (1000 + j) 0] h (oI P) Qx := by
  have hj : j < 36 := hp
  refine CL.ofF pf_J0_length_8abf5 rfl (Nat.le_of_ble_eq_true rfl) ?_
  refine aw_aload_n (j := 0) (i := 0) dJ0_length_8abf5_0 rfl rfl rfl ?_
  refine aw_gvalue dJ0_length_8abf5_1 rfl hj gs_value ?_
  refine aw_slen dJ0_length_8abf5_4 rfl hj ?_
  refine aw_aload_n (j := 0) (i := 0) dJ0_length_8abf5_5 rfl rfl rfl ?_
  refine aw_callStr (M' := mJ0_coder_7d493) (S := [vI (nI (oa_by j).length)]) (as := []) (k := 0) dJ0_length_8abf5_6 rfl gs_ml0 gs_in0 gs_se0 mb_J0_coder_7d493 rfl (Nat.zero_le _) (Nat.le_of_ble_eq_true rfl) rfl hj rfl (cl_coder hj ?_)
  refine aw_ishr dJ0_length_8abf5_9 rfl ?_
  have e : nI (oa_by j).length >>> ((0 : Int32) &&& 31) = nI (oa_by j).length := by
    have hz : ((0 : Int32) &&& 31) = 0 := by decide
    rw [hz]
    exact Int32.shiftRight_zero
  rw [e]
  exact aw_iret dJ0_length_8abf5_10 rfl k
theorem c_J0_charAt_5068e {d : Nat} {h : Hp} {P : Int32 → Hp → Prop} {Qx : String → Hp → Prop} {j : Nat} {a : Int32} (hp : p_J0_charAt_5068e h j a) (k : P (f_J0_charAt_5068e h j a) h) : CL 0 (d + 5) mJ0_charAt_5068e [vR (1000 + j) 0, vI a] h (oI P) Qx := by
  obtain ⟨hj, hin⟩ := hp
  obtain ⟨e1, e2⟩ := oa_chj hj hin
  refine CL.ofF pf_J0_charAt_5068e rfl (Nat.le_of_ble_eq_true rfl) ?_
  refine aw_aload_n (j := 0) (i := 0) dJ0_charAt_5068e_0 rfl rfl rfl ?_
  refine aw_callStr (M' := mJ0_isLatin1_aae02) (S := []) (as := []) (k := 0) dJ0_charAt_5068e_1 rfl gs_ml1 gs_in1 gs_se1 mb_J0_isLatin1_aae02 rfl (Nat.zero_le _) (Nat.le_of_ble_eq_true rfl) rfl hj rfl (cl_isLatin1 hj ?_)
  refine aw_if_eq 16 dJ0_charAt_5068e_4 rfl rfl (fun c => absurd c (by decide)) (fun _ => ?_)
  refine aw_aload_n (j := 0) (i := 0) dJ0_charAt_5068e_7 rfl rfl rfl ?_
  refine aw_gvalue dJ0_charAt_5068e_8 rfl hj gs_value ?_
  refine aw_iload_n (j := 1) (i := 1) dJ0_charAt_5068e_11 rfl rfl rfl ?_
  refine aw_callS (M' := mJ1_charAt_3b067) (S := []) (as := [vR (1500 + j) 0, vI a]) (k := 0) dJ0_charAt_5068e_12 rfl gs_ml2 gs_st2 mb_J1_charAt_3b067 rfl (Nat.zero_le _) (Nat.le_of_ble_eq_true rfl) rfl (cl_charAt1 hj hin ?_)
  exact aw_tret dJ0_charAt_5068e_15 rfl e2 k
