/-! what the printed conditions use -/
def oI (P : Int32 → Hp → Prop) : Option AV → Hp → Prop := fun v h => match v with
  | some (.inl r) => P r h
  | _ => False
def oJ (P : Int64 → Hp → Prop) : Option AV → Hp → Prop := fun v h => match v with
  | some (.inr (.inl r)) => P r h
  | _ => False
def oV (P : Hp → Prop) : Option AV → Hp → Prop := fun v h => match v with
  | none => P h
  | _ => False
def oR (t : Nat) (P : Nat → Hp → Prop) : Option AV → Hp → Prop := fun v h => match v with
  | some (.inr (.inr (.inl r))) => r.1 = t ∧ P r.2 h
  | _ => False
theorem oI_of {P : Int32 → Hp → Prop} {v : Option AV} {h : Hp} (k : oI P v h) : ∃ r, v = some (vI r) ∧ P r h := by
  rcases v with _ | x | x | x | x
  · exact k.elim
  · exact ⟨x, rfl, k⟩
  · exact k.elim
  · exact k.elim
  · exact k.elim
theorem oJ_of {P : Int64 → Hp → Prop} {v : Option AV} {h : Hp} (k : oJ P v h) : ∃ r, v = some (vJ r) ∧ P r h := by
  rcases v with _ | x | x | x | x
  · exact k.elim
  · exact k.elim
  · exact ⟨x, rfl, k⟩
  · exact k.elim
  · exact k.elim
theorem oV_of {P : Hp → Prop} {v : Option AV} {h : Hp} (k : oV P v h) : v = none ∧ P h := by
  rcases v with _ | x
  · exact ⟨rfl, k⟩
  · exact k.elim
theorem oR_of {t : Nat} {P : Nat → Hp → Prop} {v : Option AV} {h : Hp} (k : oR t P v h) : ∃ r, v = some (vR t r) ∧ P r h := by
  rcases v with _ | x | x | x | x
  · exact k.elim
  · exact k.elim
  · exact k.elim
  · obtain ⟨a, b⟩ := x
    obtain ⟨rfl, k⟩ := k
    exact ⟨b, rfl, k⟩
  · exact k.elim
theorem CL.imp {k d : Nat} {M : MD} {as : List AV} {h : Hp} {Qr Qr' : Option AV → Hp → Prop} {Qx Qx' : String → Hp → Prop} (c : CL k d M as h Qr Qx) (h1 : ∀ v h', Qr v h' → Qr' v h') (h2 : ∀ E h', Qx E h' → Qx' E h') : CL k d M as h Qr' Qx' := by
  intro w l p e ha hc hk s m args below hf happ hP hK
  obtain ⟨n, o, a1, a2, a3, a4⟩ := c w l p e ha hc hk s m args below hf happ hP hK
  refine ⟨n, o, a1, a2, a3, ?_⟩
  rcases a4 with ⟨⟨v, h', c1, c2, c3, c4⟩, c5⟩ | ⟨q, c1, E, ce, LL, ⟨h', c3, c4⟩, c5⟩
  · exact Or.inl ⟨⟨v, h', c1, c2, h1 v h' c3, c4⟩, c5⟩
  · exact Or.inr ⟨q, c1, E, ce, LL, ⟨h', h2 E h' c3, c4⟩, c5⟩
theorem oa_sw (n : Nat) (hn : n < 2 ^ 31) (x : Int32) : (x < 0 ∨ nI n < x) ∨ ∃ j, j ≤ n ∧ x = nI j := by
  by_cases h0 : x < 0
  · exact Or.inl (Or.inl h0)
  · by_cases h1 : nI n < x
    · exact Or.inl (Or.inr h1)
    · obtain ⟨j, hj, rfl⟩ := nI_of h0
      exact Or.inr ⟨j, Nat.not_lt.mp fun z => h1 ((nI_ltI hn hj).mpr z), rfl⟩
theorem oa_swo {x n : Int32} {hi : Int} (hn : n.toInt = hi) (h : x < 0 ∨ n < x) : x.toInt < 0 ∨ hi < x.toInt := by
  rw [Int32.lt_iff_toInt_lt, Int32.lt_iff_toInt_lt, hn, Int32.toInt_zero] at h
  exact h
theorem oa_hu24 : ∀ b a, b < oa_cn 24 → a < 8 → 8 * b + a < oa_cn 25 := by
  show ∀ b a, b < 2 → a < 8 → 8 * b + a < 16
  omega
theorem oa_hu26 : ∀ b a, b < oa_cn 26 → a < 8 → 8 * b + a < oa_cn 27 := by
  show ∀ b a, b < 2 → a < 8 → 8 * b + a < 16
  omega
theorem oa_hu28 : ∀ b a, b < oa_cn 28 → a < 8 → 8 * b + a < oa_cn 29 := by
  show ∀ b a, b < 2 → a < 8 → 8 * b + a < 16
  omega
section AWS
variable {X : WD → State → Prop} {d rb : Nat} {M : MD} {pc n : Nat} {L L2 : List (Nat × AV)} {S St : List AV} {h : Hp} {Qr : Option AV → Hp → Prop} {Qx : String → Hp → Prop}
theorem aw_ldcSW {is j : Nat} {text : String} {bs : List Int32} (hd : decode M.2.1 pc = .ok (.ldc_w is, 3)) (hn : pc + 3 = n) (hj : oa_SL[j]? = some (M.1.cls, is, text, bs)) (k : AW X d rb M n L (vR (1000 + j) 0 :: S) h Qr Qx) : AW X d rb M pc L S h Qr Qx := by
  intro w p l e R s m args below meth c mc ms F hX hf hlo hmc hms H locs cells slots ls hc hs hRP hS hl hL hV
  subst hn
  have J := F.2.2.2.2.2.2.2
  have hZ := (J.2.2.2.2.2.2.2.2.2.1 j _ hj).1
  have kk := k w p l e R s m args below meth c mc ms F hX hf hlo hmc hms H locs cells slots ls hc hs hRP hS hl hL (oa_vc (by show 0 < oa_cn (1000 + j); unfold oa_cn; rw [if_pos (Nat.le_add_right _ _)]; exact Nat.one_pos) hV)
  intro T hT X0
  obtain ⟨t, a1, b1⟩ := kk T hT X0
  exact ⟨t, X0.ldcStringW F.1 F.2.2.2.2.1 (text := text) (a := w.2.2.1 (1000 + j) 0) hZ.1 hZ.2 (g := F0 m pc ls (S.map (oa_cz w))) rfl (by rw [F.2.1]; exact hd) t a1, b1⟩
theorem aw_callStr {M' : MD} {idx k j : Nat} {as : List AV} (hd : decode M.2.1 pc = .ok (.invokevirtual idx, 3)) (hn : pc + 3 = n) (hl : (Cond.methodLink M.1.cls idx M'.1) ∈ oa_GT) (hin : (Cond.instanceMethod M'.1) ∈ oa_GT) (hse : (Cond.selects M'.1.cls M'.1 M'.1) ∈ oa_GT) (hM : oa_MB M' as.length) (hh : M.2.2.2.2 = []) (hk : k ≤ rb) (hcat : (S.map oa_cat).sum ≤ 8) (hSt : St = as.reverse ++ vR (1000 + j) 0 :: S) (hj : j < 36) (hcl : M'.1.cls = "java/lang/String")
    (cc : CL k d M' (vR (1000 + j) 0 :: as) h (fun v h' => AW X (d + 1) (rb - k) M n L (v.toList ++ S) h' Qr Qx) Qx) : AW X (d + 1) rb M pc L St h Qr Qx := by
  intro w p l e R s m args below meth c mc ms F hX hf hlo hmc hms H locs cells slots ls hc hs hRP hS hl' hL hV
  subst hn
  subst hSt
  have hvS : ∀ v ∈ S, oa_vd v := fun v hv => hV v (List.mem_append_right _ (List.mem_cons_of_mem _ hv))
  have hv0 : oa_vd (vR (1000 + j) 0) := hV _ (List.mem_append_right _ List.mem_cons_self)
  have hva : ∀ v ∈ vR (1000 + j) 0 :: as, oa_vd v := oa_vc hv0 fun v hv => hV v (List.mem_append_left _ (List.mem_reverse.mpr hv))
  have J := F.2.2.2.2.2.2.2
  obtain ⟨q, hq⟩ : ∃ q, oa_SL[j]? = some q := ⟨_, List.getElem?_eq_getElem (show j < oa_SL.length from hj)⟩
  obtain ⟨cell, h1, h2, h3, -⟩ := (J.2.2.2.2.2.2.2.2.2.1 j _ hq).2.1.kept hS.2.1
  refine oa_after (k := k) (S := S) F hX hf hlo hmc hms hk hc hs hS hl' hL hvS hh (a := ((vR (1000 + j) 0 :: as).map (oa_cz w)).toArray) ?_
  refine vx_runV (Ts := oa_GT) (nL := M.2.2.1) (C := M'.1.cls) (b := w.2.2.1 (1000 + j) 0) (As := as.map (oa_cz w)) (rest := S.map (oa_cz w)) ⟨F.1, F.2.1, F.2.2.1, F.2.2.2.2.1, fun q hq => J.2.1 q hq args⟩ (cc w l) ⟨oa_CB1 J hM hl hf hlo, J.2.1 _ hin args, J.2.1 _ hse args⟩ ⟨oa_PC_blind, ⟨cell, h1, h2, by rw [hcl]; exact h3⟩, oa_pre F hS hRP hva⟩ rfl (by rw [List.length_map]) hl'.1 ?_ (lv_room (by rw [oa_sumcat]; exact hcat)) hd ⟨by omega, by omega⟩
  show (as.reverse ++ vR (1000 + j) 0 :: S).map (oa_cz w) = _
  rw [List.map_append, List.map_reverse]
  rfl
end AWS
