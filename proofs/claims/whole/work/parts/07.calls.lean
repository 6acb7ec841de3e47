/-! calls -/
theorem oa_PC_blind {w : WD} {l : Launch} {as : List AV} {h : Hp} : FrameBlind (oa_PC w l as h) := by
  intro a U g mk q
  obtain ⟨q1, q2, q3, q4⟩ := q
  exact ⟨q1, q2, oa_JF.moved (s := U) (U := U.calling g mk a) (H := U.heap) (H1 := (U.calling g mk a).heap) q3 (State.WarmedH.refl U) (Nat.le_refl _) (fun _ _ _ => rfl), q4⟩
def oa_la : Nat → List AV → List (Nat × AV)
  | _, [] => []
  | i, v :: vs => (i, v) :: oa_la (if oa_cat v = 2 then i + 2 else i + 1) vs
theorem oa_la_lz (w : WD) (as : List AV) : ∀ i, lv_args i (as.map (oa_cz w)) = oa_lz w (oa_la i as) := by
  induction as with
  | nil => intro i; rfl
  | cons v vs ih =>
    intro i
    show (i, oa_cz w v) :: lv_args (if (oa_cz w v).category = 2 then i + 2 else i + 1) (vs.map (oa_cz w)) = (i, oa_cz w v) :: oa_lz w (oa_la (if oa_cat v = 2 then i + 2 else i + 1) vs)
    rw [oa_cat_cz, ih]
theorem oa_la_mem {as : List AV} : ∀ {i : Nat} {q : Nat × AV}, q ∈ oa_la i as → q.2 ∈ as := by
  induction as with
  | nil => intro i q h; cases h
  | cons v vs ih =>
    intro i q h
    rcases List.mem_cons.mp h with rfl | h
    · exact List.mem_cons_self
    · exact List.mem_cons_of_mem _ (ih h)
theorem oa_sl_len (w : WD) (as : List AV) : (lg_sl (as.map (oa_cz w))).length = (as.map oa_cat).sum := by
  induction as with
  | nil => rfl
  | cons v vs ih =>
    have e : lg_sl ((v :: vs).map (oa_cz w)) = (if (oa_cz w v).category = 2 then [Slot.val (oa_cz w v), .second] else [.val (oa_cz w v)]) ++ lg_sl (vs.map (oa_cz w)) := rfl
    rw [e, List.length_append, ih, List.map_cons, List.sum_cons]
    congr 1
    rw [oa_cat_cz]
    rcases v with x | x | x | x <;> rfl
theorem oa_sumcat (w : WD) (S : List AV) : ((S.map (oa_cz w)).map fun v => v.category).sum = (S.map oa_cat).sum := by
  rw [List.map_map]
  refine congrArg _ (List.map_congr_left fun v _ => oa_cat_cz w v)
/-- a method's contract out of its walk -/
theorem CL.of {k d : Nat} {M : MD} {as : List AV} {h : Hp} {Qr : Option AV → Hp → Prop} {Qx : String → Hp → Prop} (hy : plainName M.1.cls = true) (hh : M.2.2.2.2 = []) (hl : (as.map oa_cat).sum ≤ M.2.2.1)
    (kk : AW (fun _ _ => True) d k M 0 (oa_la 0 as) [] h Qr Qx) : CL k d M as h Qr Qx := by
  intro w l
  refine vx_ofW (cc := M.2.1) (maxL := M.2.2.1) (ret := M.2.2.2.1) (ws' := []) hy rfl ?_
  intro p e s m args below meth c s₁ B hml ht hv
  obtain ⟨rfl, hvd, hJ, hRP⟩ := hv
  have hown : s.vm.findClass M.1.cls = some m.cls := findClass_of_methodNamed B.named
  have hle := lv_entry (as.map (oa_cz w)) (n := M.2.2.1) (by rw [oa_sl_len]; exact hl)
  rw [oa_la_lz] at hle
  rw [lg_entry_eq]
  refine kk w p l e _ s m _ below meth c k (6 * k) ⟨B.exec, B.bytes, hml, B.returns, hown, B.notSynchronized, ?_, hJ⟩ trivial (Nat.le_refl _) (Nat.le_refl _) (Nat.le_refl _) (Nat.le_refl _) s.heap [] 0 0 _ (by omega) (by omega) hRP va_S.rf hle (fun q hq => hvd _ (oa_la_mem hq)) (fun v hv => nomatch hv)
  rw [hh]
  exact List.eq_nil_iff_forall_not_mem.mpr (fun x hx => ht x hx)
/-- what a call of M' needs of the tables (by its class's own name) -/
def oa_MB (M' : MD) (n : Nat) : Prop := oa_cw M' ∈ oa_GT ∧ (Cond.initialized M'.1.cls) ∈ oa_GT ∧ (M'.1.cls ≠ "java/lang/invoke/MethodHandle" ∧ M'.1.cls ≠ "java/lang/invoke/VarHandle") ∧ (parseMethodDescriptor M'.1.desc).map (fun d => d.parameters.length) = some n ∧ M'.2.2.1 ≤ 45
section AWC
variable {X : WD → State → Prop} {d rb : Nat} {M : MD} {pc n : Nat} {L L2 : List (Nat × AV)} {S St : List AV} {h : Hp} {Qr : Option AV → Hp → Prop} {Qx : String → Hp → Prop}
/-- behind a call -/
theorem oa_after {w : WD} {p : Program} {l : Launch} {e : Env} {R : Room} {s : State} {m : MethodId} {args : Array Value} {below : List Frame} {meth : Method} {c : Code} {mc ms k : Nat} {H : Heap} {locs : List Loc} {cells slots : Nat} {ls : Array Slot} {a : Array Value} {st0 : List Value}
    (F : oa_Fx w p l s m meth c M) (hX : X w s) (hf : d ≤ R.frames) (hlo : 64 * d ≤ R.locals) (hmc : mc ≤ R.cells) (hms : ms ≤ R.slots) (hk : k ≤ rb) (hc : cells + rb ≤ mc) (hs : slots + 6 * rb ≤ ms) (hS : va_S (oa_A w) s.heap H locs) (hl : lv_has ls M.2.2.1 (oa_lz w L)) (hL : ∀ q ∈ L, oa_vd q.2) (hV : ∀ v ∈ S, oa_vd v)
    (hh : M.2.2.2.2 = [])
    (hr : vx_Run p l e R s m args below meth c H locs cells slots k (6 * k) (F0 m pc ls st0) (S.map (oa_cz w)) (oa_QC w (fun v h' => AW X d (rb - k) M (pc + 3) L (v.toList ++ S) h' Qr Qx) a) (oa_XC w Qx) (oa_A w)) :
    W p l e R s m args below meth c H locs cells slots (vx_MQ below (oa_QC w Qr) (oa_XC w Qx) args s mc ms (oa_A w)) (F0 m pc ls st0) := by
  intro T hT X0
  rcases hr T hT X0 with ⟨v, st₀, t, T', L', h0, X', hL', e1, e2, ⟨v', h', hv, hvd, hq, hRP', hF⟩, st⟩ | ⟨q, st₀, t, T', L', E, ce, h0, X', hL', e1, e2, ⟨h', hq, hRP', hF⟩, hce, hcv, hcl, st⟩
  · cases hv
    obtain ⟨k1, k2, k3⟩ := vx_keep (A1 := oa_A w) (free := oa_A w) h0 e1 hS (fun _ _ z => z) (fun _ z => z) hL' hF
    have hV' : ∀ u ∈ v'.toList ++ S, oa_vd u := by
      intro u hu
      rcases List.mem_append.mp hu with hu | hu
      · exact hvd u (Option.mem_toList.mp hu)
      · exact hV u hu
    obtain ⟨t2, a1, b1⟩ := hq w p l e R s m args below meth c mc ms F hX hf hlo hmc hms T'.heap (locs ++ L') (cells + k) (slots + 6 * k) ls (by omega) (by omega) (by rw [e1]; exact hRP') k3 hl hL hV' T' rfl X'
    refine ⟨t2, st t2 ?_, b1⟩
    have e3 : (v'.map (oa_cz w)).toList ++ S.map (oa_cz w) = (v'.toList ++ S).map (oa_cz w) := by
      rw [List.map_append]
      congr 1
      cases v' <;> rfl
    rw [e3]
    exact a1
  · obtain ⟨k1, k2, k3⟩ := vx_keep (A1 := oa_A w) (free := oa_A w) h0 e1 hS (fun _ _ z => z) (fun _ z => z) hL' hF
    have hno : ∀ x ∈ c.exceptionTable.toList, covers x pc = false := by
      intro x hx
      rw [F.2.2.2.2.2.2.1, hh] at hx
      cases hx
    obtain ⟨t2, a1, b1⟩ := vx_out (p := p) (l := l) (e := e) (R := R) (below := below) (args := args) (Qc := oa_QC w Qr) (XC := oa_XC w Qx) (free := oa_A w) (locs := locs ++ L') (cells := cells + k) (slots := slots + 6 * k) (mc := mc) (ms := ms) (ls := ls) (rest := S.map (oa_cz w)) (pc := pc) (H := T'.heap) hno F.2.2.2.2.2.1 (by rw [e1]; exact hce) hcv hcl
      (fun t3 ht3 _ => ⟨h', hq, by rw [ht3, e1]; exact hRP', k3.F ht3⟩) k3.2.2 (by omega) (by omega) T' rfl X'
    exact ⟨t2, st.trans a1, b1⟩
theorem oa_CB1 {w : WD} {l : Launch} {R : Room} {s : State} {args : Array Value} {own : String} {idx k na : Nat} {M' : MD} (J : oa_JF w l s s.heap) (hM : oa_MB M' na) (hl : (Cond.methodLink own idx M'.1) ∈ oa_GT) (hf : d + 1 ≤ R.frames) (hlo : 64 * (d + 1) ≤ R.locals) :
    CallB R s args own idx M'.1 M'.2.1 M'.2.2.1 M'.2.2.2.1 [oa_cw M'] (oa_rm d k) k (6 * k) na := by
  obtain ⟨m1, m2, m3, m4, m5⟩ := hM
  refine ⟨rfl, rfl, hf, by show 8 + (M'.2.2.1 + 11) + 64 * d ≤ R.locals; omega, ?_, List.mem_cons_self, J.2.1 _ m1 args, J.2.1 _ m2 args, m3, fun sig hs => ?_, J.2.1 _ hl args⟩
  · intro q hq a' U hW
    rcases List.mem_singleton.mp hq with rfl
    exact word_at hW (good_of_word (List.mem_filter.mp m1).2) (J.2.1 _ m1 args)
  · rw [hs] at m4
    exact (Option.some.inj m4).symm
theorem oa_pre {w : WD} {p : Program} {l : Launch} {s : State} {m : MethodId} {meth : Method} {c : Code} {H : Heap} {locs : List Loc} {as : List AV} (F : oa_Fx w p l s m meth c M) (hS : va_S (oa_A w) s.heap H locs) (hRP : oa_RP w h H) (hvd : ∀ v ∈ as, oa_vd v) :
    ∀ U : State, U.heap = H → s.WarmedH U.vm → oa_PC w l as h (as.map (oa_cz w)).toArray U := by
  intro U hU hW
  refine ⟨rfl, hvd, ?_, by rw [hU]; exact hRP⟩
  rw [hU]
  exact F.2.2.2.2.2.2.2.moved hW hS.1 hS.2.1
theorem aw_callS {M' : MD} {idx k : Nat} {as : List AV} (hd : decode M.2.1 pc = .ok (.invokestatic idx, 3)) (hn : pc + 3 = n) (hl : (Cond.methodLink M.1.cls idx M'.1) ∈ oa_GT) (hst : (Cond.static M'.1) ∈ oa_GT) (hM : oa_MB M' as.length) (hh : M.2.2.2.2 = []) (hk : k ≤ rb) (hcat : (S.map oa_cat).sum ≤ 8) (hSt : St = as.reverse ++ S)
    (cc : CL k d M' as h (fun v h' => AW X (d + 1) (rb - k) M n L (v.toList ++ S) h' Qr Qx) Qx) : AW X (d + 1) rb M pc L St h Qr Qx := by
  intro w p l e R s m args below meth c mc ms F hX hf hlo hmc hms H locs cells slots ls hc hs hRP hS hl' hL hV
  subst hn
  subst hSt
  have hvS : ∀ v ∈ S, oa_vd v := fun v hv => hV v (List.mem_append_right _ hv)
  have hva : ∀ v ∈ as, oa_vd v := fun v hv => hV v (List.mem_append_left _ (List.mem_reverse.mpr hv))
  refine oa_after (k := k) (S := S) F hX hf hlo hmc hms hk hc hs hS hl' hL hvS hh (a := (as.map (oa_cz w)).toArray) ?_
  refine vx_runS (Ts := oa_GT) (nL := M.2.2.1) (As := as.map (oa_cz w)) (rest := S.map (oa_cz w)) ⟨F.1, F.2.1, F.2.2.1, F.2.2.2.2.1, fun q hq => F.2.2.2.2.2.2.2.2.1 q hq args⟩ (cc w l) ⟨oa_CB1 F.2.2.2.2.2.2.2 hM hl hf hlo, F.2.2.2.2.2.2.2.2.1 _ hst args⟩ ⟨oa_PC_blind, oa_pre F hS hRP hva⟩ rfl (by rw [List.length_map]) hl'.1 ?_ (lv_room (by rw [oa_sumcat]; exact hcat)) hd ⟨by omega, by omega⟩
  show (as.reverse ++ S).map (oa_cz w) = _
  rw [List.map_append, List.map_reverse]
theorem aw_callSN {M' : MD} {idx k : Nat} {as : List AV} {host : String} (hd : decode M.2.1 pc = .ok (.invokestatic idx, 3)) (hn : pc + 3 = n) (hl : (Cond.methodLinkNest M.1.cls idx M'.1 host) ∈ lw_tbl) (hst : (Cond.static M'.1) ∈ oa_GT) (hM : oa_MB M' as.length) (hh : M.2.2.2.2 = []) (hk : k ≤ rb) (hcat : (S.map oa_cat).sum ≤ 8) (hSt : St = as.reverse ++ S)
    (cc : CL k d M' as h (fun v h' => AW X (d + 1) (rb - k) M n L (v.toList ++ S) h' Qr Qx) Qx) : AW X (d + 1) rb M pc L St h Qr Qx := by
  intro w p l e R s m args below meth c mc ms F hX hf hlo hmc hms H locs cells slots ls hc hs hRP hS hl' hL hV
  subst hn
  subst hSt
  have hvS : ∀ v ∈ S, oa_vd v := fun v hv => hV v (List.mem_append_right _ hv)
  have hva : ∀ v ∈ as, oa_vd v := fun v hv => hV v (List.mem_append_left _ (List.mem_reverse.mpr hv))
  obtain ⟨m1, m2, m3, m4, m5⟩ := hM
  have J := F.2.2.2.2.2.2.2
  refine oa_after (k := k) (S := S) F hX hf hlo hmc hms hk hc hs hS hl' hL hvS hh (a := (as.map (oa_cz w)).toArray) ?_
  refine vx_runSN (Ts := oa_GT) (nL := M.2.2.1) (As := as.map (oa_cz w)) (rest := S.map (oa_cz w)) (n := as.length) (host := host) (bytes := M'.2.1) (maxL := M'.2.2.1) (ret := M'.2.2.2.1) ⟨F.1, F.2.1, F.2.2.1, F.2.2.2.2.1, fun q hq => J.2.1 q hq args⟩ (cc w l)
    ⟨⟨⟨rfl, rfl, hf, by show 8 + (M'.2.2.1 + 11) + 64 * d ≤ R.locals; omega, ?_, List.mem_cons_self⟩, J.2.1 _ m1 args, J.2.1 _ m2 args, m3, fun sig hs => ?_, va_Nw.use rfl (J.2.2.1 _ _ _ _ hl)⟩, J.2.1 _ hst args, trivial⟩ ⟨oa_PC_blind, oa_pre F hS hRP hva⟩ rfl (by rw [List.length_map]) hl'.1 ?_ (lv_room (by rw [oa_sumcat]; exact hcat)) hd ⟨by omega, by omega⟩
  · intro q hq a' U hW
    rcases List.mem_singleton.mp hq with rfl
    exact word_at hW (good_of_word (List.mem_filter.mp m1).2) (J.2.1 _ m1 args)
  · rw [hs] at m4
    exact (Option.some.inj m4).symm
  · show (as.reverse ++ S).map (oa_cz w) = _
    rw [List.map_append, List.map_reverse]
theorem aw_callV {M' : MD} {idx k t i ci N : Nat} {as : List AV} {fs : List (Nat × Nat)} {T : u_T} (hd : decode M.2.1 pc = .ok (.invokevirtual idx, 3)) (hn : pc + 3 = n) (ht : t < oa_nT) (hkd : oa_kd t = (0, ci, fs)) (hci : vwCl[ci]? = some (M'.1.cls, T, N)) (hl : (Cond.methodLink M.1.cls idx M'.1) ∈ oa_GT) (hin : (Cond.instanceMethod M'.1) ∈ oa_GT) (hse : (Cond.selects M'.1.cls M'.1 M'.1) ∈ oa_GT) (hM : oa_MB M' as.length) (hh : M.2.2.2.2 = []) (hk : k ≤ rb) (hcat : (S.map oa_cat).sum ≤ 8) (hSt : St = as.reverse ++ vR t i :: S)
    (cc : CL k d M' (vR t i :: as) h (fun v h' => AW X (d + 1) (rb - k) M n L (v.toList ++ S) h' Qr Qx) Qx) : AW X (d + 1) rb M pc L St h Qr Qx := by
  intro w p l e R s m args below meth c mc ms F hX hf hlo hmc hms H locs cells slots ls hc hs hRP hS hl' hL hV
  subst hn
  subst hSt
  have hvS : ∀ v ∈ S, oa_vd v := fun v hv => hV v (List.mem_append_right _ (List.mem_cons_of_mem _ hv))
  have hv0 : oa_vd (vR t i) := hV _ (List.mem_append_right _ List.mem_cons_self)
  have hva : ∀ v ∈ vR t i :: as, oa_vd v := oa_vc hv0 fun v hv => hV v (List.mem_append_left _ (List.mem_reverse.mpr hv))
  obtain ⟨q0, hq0, he⟩ := oa_ws_at (w := w) (h := h) ht hv0
  rw [oa_ent0 hkd] at he
  have J := F.2.2.2.2.2.2.2
  refine oa_after (k := k) (S := S) F hX hf hlo hmc hms hk hc hs hS hl' hL hvS hh (a := ((vR t i :: as).map (oa_cz w)).toArray) ?_
  refine vx_runV (Ts := oa_GT) (nL := M.2.2.1) (C := M'.1.cls) (b := w.2.2.1 t i) (As := as.map (oa_cz w)) (rest := S.map (oa_cz w)) ⟨F.1, F.2.1, F.2.2.1, F.2.2.2.2.1, fun q hq => J.2.1 q hq args⟩ (cc w l) ⟨oa_CB1 J hM hl hf hlo, J.2.1 _ hin args, J.2.1 _ hse args⟩ ⟨oa_PC_blind, va_recv J.2.2.2.1 hRP.1 hci he, oa_pre F hS hRP hva⟩ rfl (by rw [List.length_map]) hl'.1 ?_ (lv_room (by rw [oa_sumcat]; exact hcat)) hd ⟨by omega, by omega⟩
  show (as.reverse ++ vR t i :: S).map (oa_cz w) = _
  rw [List.map_append, List.map_reverse]
  rfl
/-- more room than is needed -/
theorem AW.mono {d' rb' : Nat} (hd : d ≤ d') (hb : rb ≤ rb') (k : AW X d rb M pc L S h Qr Qx) : AW X d' rb' M pc L S h Qr Qx := by
  intro w p l e R s m args below meth c mc ms F hX hf hlo hmc hms H locs cells slots ls hc hs hRP hS hl hL hV
  exact k w p l e R s m args below meth c mc ms F hX (by omega) (by omega) hmc hms H locs cells slots ls (by omega) (by omega) hRP hS hl hL hV
theorem AW.imp {Qr' : Option AV → Hp → Prop} {Qx' : String → Hp → Prop} (k : AW X d rb M pc L S h Qr Qx) (h1 : ∀ v h', Qr v h' → Qr' v h') (h2 : ∀ E h', Qx E h' → Qx' E h') : AW X d rb M pc L S h Qr' Qx' := by
  intro w p l e R s m args below meth c mc ms F hX hf hlo hmc hms H locs cells slots ls hc hs hRP hS hl hL hV T hT X0
  obtain ⟨t, a1, o, b1, b2, b3⟩ := k w p l e R s m args below meth c mc ms F hX hf hlo hmc hms H locs cells slots ls hc hs hRP hS hl hL hV T hT X0
  refine ⟨t, a1, o, b1, b2, ?_⟩
  rcases b3 with ⟨⟨v, h', c1, c2, c3, c4⟩, c5⟩ | ⟨q, c1, E, ce, LL, ⟨h', c3, c4⟩, c5⟩
  · exact Or.inl ⟨⟨v, h', c1, c2, h1 v h' c3, c4⟩, c5⟩
  · exact Or.inr ⟨q, c1, E, ce, LL, ⟨h', h2 E h' c3, c4⟩, c5⟩
end AWC
