/-! methods with handlers: the law's helpers -/
/-- a throw of E at pc is caught by a row of M's table, at hp; there the exception is stored, z is answered -/
def oa_ct (M : MD) (pc : Nat) (E : String) (z : Int32) : Prop :=
  ∃ (pre suf : List (Nat × Nat × Nat × Nat)) (x : Nat × Nat × Nat × Nat) (name : String) (i n : Nat), M.2.2.2.2 = pre ++ x :: suf ∧
    (∀ y ∈ pre, y.2.2.2 ≠ 0 ∧ ∃ nm : String, Cond.classLink M.1.cls y.2.2.2 nm ∈ oa_GT ∧ (E, nm) ∈ oa_NC) ∧ covers ⟨x.1, x.2.1, x.2.2.1, x.2.2.2⟩ pc = true ∧ x.2.2.2 ≠ 0 ∧
    Cond.classLink M.1.cls x.2.2.2 name ∈ oa_GT ∧ Cond.castable E name ∈ lw_tbl ∧ i < M.2.2.1 ∧
    ((∃ q : Fin 4, (q : Nat) = i ∧ decode M.2.1 x.2.2.1 = .ok (.astore_n q, 1) ∧ n = x.2.2.1 + 1) ∨ (decode M.2.1 x.2.2.1 = .ok (.astore i, 2) ∧ n = x.2.2.1 + 2)) ∧
    (∃ zi : Int, decode M.2.1 n = .ok (.iconst zi, 1) ∧ Int32.ofInt zi = z) ∧ decode M.2.1 (n + 1) = .ok (.ireturn, 1) ∧ M.2.2.2.1 = some .int
section AWH
variable {X : WD → State → Prop} {d rb : Nat} {M : MD} {pc n : Nat} {L L2 : List (Nat × AV)} {S St : List AV} {h : Hp} {Qr : Option AV → Hp → Prop} {Qx : String → Hp → Prop}
theorem oa_afterT {w : WD} {p : Program} {l : Launch} {e : Env} {R : Room} {s : State} {m : MethodId} {args : Array Value} {below : List Frame} {meth : Method} {c : Code} {mc ms k : Nat} {H : Heap} {locs : List Loc} {cells slots : Nat} {ls : Array Slot} {a : Array Value} {st0 : List Value}
    (F : oa_Fx w p l s m meth c M) (hX : X w s) (hf : d ≤ R.frames) (hlo : 64 * d ≤ R.locals) (hmc : mc ≤ R.cells) (hms : ms ≤ R.slots) (hk : k ≤ rb) (hc : cells + rb ≤ mc) (hs : slots + 6 * rb ≤ ms) (hS : va_S (oa_A w) s.heap H locs) (hl : lv_has ls M.2.2.1 (oa_lz w L)) (hL : ∀ q ∈ L, oa_vd q.2) (hV : ∀ v ∈ S, oa_vd v)
    (hr : vx_Run p l e R s m args below meth c H locs cells slots k (6 * k) (F0 m pc ls st0) (S.map (oa_cz w)) (oa_QC w (fun v h' => AW X d (rb - k) M (pc + 3) L (v.toList ++ S) h' Qr Qx) a) (oa_XC w (fun E h' => ∃ z, oa_ct M pc E z ∧ Qr (some (vI z)) h')) (oa_A w)) :
    W p l e R s m args below meth c H locs cells slots (vx_MQ below (oa_QC w Qr) (oa_XC w Qx) args s mc ms (oa_A w)) (F0 m pc ls st0) := by
  intro T hT X0
  rcases hr T hT X0 with ⟨v, st₀, t, T', L', h0, X', hL', e1, e2, ⟨v', h', hv, hvd, hq, hRP', hF⟩, st⟩ | ⟨q, st₀, t, T', L', E, ce, h0, X', hL', e1, e2, ⟨h', ⟨z, hz, hq⟩, hRP', hF⟩, hce, hcv, hcl, st⟩
  · cases hv
    obtain ⟨k1, k2, k3⟩ := vx_keep (A1 := oa_A w) (free := oa_A w) h0 e1 hS (fun _ _ z => z) (fun _ z => z) hL' hF
    have hV' : ∀ u ∈ v'.toList ++ S, oa_vd u := by
      intro u hu
      rcases List.mem_append.mp hu with hu | hu
      · exact hvd u (Option.mem_toList.mp hu)
      · exact hV u hu
    obtain ⟨t2, a1, b1⟩ := hq w p l e R s m args below meth c mc ms F hX hf hlo hmc hms T'.heap (locs ++ L') (cells + k) (slots + 6 * k) ls (by omega) (by omega) (by rw [e1]; exact hRP') k3 hl hL hV' T' rfl X'
    refine ⟨t2, st t2 ?_, b1⟩
    have e3 : (v'.map (oa_cz w)).toList ++ S.map (oa_cz w) = (v'.toList ++ S).map (oa_cz w) := by
      rw [List.map_append]
      congr 1
      cases v' <;> rfl
    rw [e3]
    exact a1
  · obtain ⟨k1, k2, k3⟩ := vx_keep (A1 := oa_A w) (free := oa_A w) h0 e1 hS (fun _ _ z => z) (fun _ z => z) hL' hF
    obtain ⟨pre, suf, x, name, i, n, hsp, hpre, hcov, hx0, hnm, hcast, hi, hst, ⟨zi, hco, hzi⟩, hre, hrt⟩ := hz
    have J := F.2.2.2.2.2.2.2
    have hend : AW X d (rb - k) M n [] [] h' Qr Qx := aw_iconst hco rfl hzi (aw_iret hre hrt hq)
    have hW : ∀ ls' : Array Slot, lv_has ls' M.2.2.1 ([] : List (Nat × Value)) → W p l e R s m args below meth c T'.heap (locs ++ L') (cells + k) (slots + 6 * k) (vx_MQ below (oa_QC w Qr) (oa_XC w Qx) args s mc ms (oa_A w)) (F0 m n ls' []) := fun ls' hl' =>
      hend w p l e R s m args below meth c mc ms F hX hf hlo hmc hms T'.heap (locs ++ L') (cells + k) (slots + 6 * k) ls' (by omega) (by omega) (by rw [e1]; exact hRP') k3 hl' (fun _ z => nomatch z) (fun _ z => nomatch z)
    obtain ⟨t2, a1, b1⟩ := vx_catch (p := p) (l := l) (e := e) (R := R) (below := below) (args := args) (locs := locs ++ L') (cells := cells + k) (slots := slots + 6 * k) (ls := ls) (rest := S.map (oa_cz w)) (pc := pc) (H := T'.heap) (Q := vx_MQ below (oa_QC w Qr) (oa_XC w Qx) args s mc ms (oa_A w)) (meth := meth) (c := c) (m := m) (s := s)
      (own := M.1.cls) (name := name) (E := E) (ce := ce) (q := q) F.2.2.2.2.1 (tableOf pre) ⟨x.1, x.2.1, x.2.2.1, x.2.2.2⟩ (tableOf suf) (by rw [F.2.2.2.2.2.2.1, hsp]; unfold tableOf; rw [List.map_append]; rfl)
      (fun z hz => by
        obtain ⟨y, hy, rfl⟩ := List.mem_map.mp hz
        obtain ⟨g1, nm, g2, g3⟩ := hpre y hy
        exact Or.inr ⟨g1, nm, J.2.1 _ g2 args, J.2.2.2.2.2.2.2.2.2.2.2.2 _ g3⟩) hcov hx0 (J.2.1 _ hnm args) (va_Nw.use rfl (J.2.2.2.2.2.2.2.1 _ _ hcast)) (by rw [e1]; exact hce) hcv hcl
      (by
        rcases hst with ⟨q4, hq4, hd4, rfl⟩ | ⟨hd4, rfl⟩
        · exact lv_astore_n F.1 F.2.1 hd4 hq4 hl hi rfl (fun ls' hl' => hW ls' ⟨hl'.1, hl'.2.1, fun _ z => nomatch z⟩)
        · exact lv_astore F.1 F.2.1 hd4 hl hi rfl (fun ls' hl' => hW ls' ⟨hl'.1, hl'.2.1, fun _ z => nomatch z⟩)) T' rfl X'
    exact ⟨t2, st.trans a1, b1⟩
theorem aw_callVT {M' : MD} {idx k t i ci N : Nat} {as : List AV} {fs : List (Nat × Nat)} {T : u_T} (hd : decode M.2.1 pc = .ok (.invokevirtual idx, 3)) (hn : pc + 3 = n) (ht : t < oa_nT) (hkd : oa_kd t = (0, ci, fs)) (hci : vwCl[ci]? = some (M'.1.cls, T, N)) (hl : (Cond.methodLink M.1.cls idx M'.1) ∈ oa_GT) (hin : (Cond.instanceMethod M'.1) ∈ oa_GT) (hse : (Cond.selects M'.1.cls M'.1 M'.1) ∈ oa_GT) (hM : oa_MB M' as.length) (hk : k ≤ rb) (hcat : (S.map oa_cat).sum ≤ 8) (hSt : St = as.reverse ++ vR t i :: S)
    (cc : CL k d M' (vR t i :: as) h (fun v h' => AW X (d + 1) (rb - k) M n L (v.toList ++ S) h' Qr Qx) (fun E h' => ∃ z, oa_ct M pc E z ∧ Qr (some (vI z)) h')) : AW X (d + 1) rb M pc L St h Qr Qx := by
  intro w p l e R s m args below meth c mc ms F hX hf hlo hmc hms H locs cells slots ls hc hs hRP hS hl' hL hV
  subst hn
  subst hSt
  have hvS : ∀ v ∈ S, oa_vd v := fun v hv => hV v (List.mem_append_right _ (List.mem_cons_of_mem _ hv))
  have hv0 : oa_vd (vR t i) := hV _ (List.mem_append_right _ List.mem_cons_self)
  have hva : ∀ v ∈ vR t i :: as, oa_vd v := oa_vc hv0 fun v hv => hV v (List.mem_append_left _ (List.mem_reverse.mpr hv))
  obtain ⟨q0, hq0, he⟩ := oa_ws_at (w := w) (h := h) ht hv0
  rw [oa_ent0 hkd] at he
  have J := F.2.2.2.2.2.2.2
  refine oa_afterT (k := k) (S := S) F hX hf hlo hmc hms hk hc hs hS hl' hL hvS (a := ((vR t i :: as).map (oa_cz w)).toArray) ?_
  refine vx_runV (Ts := oa_GT) (nL := M.2.2.1) (C := M'.1.cls) (b := w.2.2.1 t i) (As := as.map (oa_cz w)) (rest := S.map (oa_cz w)) ⟨F.1, F.2.1, F.2.2.1, F.2.2.2.2.1, fun q hq => J.2.1 q hq args⟩ (cc w l) ⟨oa_CB1 J hM hl hf hlo, J.2.1 _ hin args, J.2.1 _ hse args⟩ ⟨oa_PC_blind, va_recv J.2.2.2.1 hRP.1 hci he, oa_pre F hS hRP hva⟩ rfl (by rw [List.length_map]) hl'.1 ?_ (lv_room (by rw [oa_sumcat]; exact hcat)) hd ⟨by omega, by omega⟩
  show (as.reverse ++ vR t i :: S).map (oa_cz w) = _
  rw [List.map_append, List.map_reverse]
  rfl
end AWH
/-- the contract of a method with handlers -/
def oa_cwH (M : MD) : Cond := .codeWith M.1 M.2.1 M.2.2.1 M.2.2.2.1 M.2.2.2.2
def CLH (k d : Nat) (M : MD) (as : List AV) (h : Hp) (Qr : Option AV → Hp → Prop) (Qx : String → Hp → Prop) : Prop :=
  ∀ (w : WD) (l : Launch), vx_Met l M.1 [oa_cwH M] (oa_rm d k) (oa_PC w l as h) (oa_QC w Qr) (oa_XC w Qx) k (6 * k) (oa_A w)
theorem CLH.of {k d : Nat} {M : MD} {as : List AV} {h : Hp} {Qr : Option AV → Hp → Prop} {Qx : String → Hp → Prop} (hy : plainName M.1.cls = true) (hl : (as.map oa_cat).sum ≤ M.2.2.1)
    (kk : AW (fun _ _ => True) d k M 0 (oa_la 0 as) [] h Qr Qx) : CLH k d M as h Qr Qx := by
  intro w l
  refine vx_ofWH (cc := M.2.1) (maxL := M.2.2.1) (ret := M.2.2.2.1) (hh := M.2.2.2.2) (ws' := []) hy rfl ?_
  intro p e s m args below meth c s₁ B hml hv
  obtain ⟨rfl, hvd, hJ, hRP⟩ := hv
  have hown : s.vm.findClass M.1.cls = some m.cls := findClass_of_methodNamed B.named
  have hle := lv_entry (as.map (oa_cz w)) (n := M.2.2.1) (by rw [oa_sl_len]; exact hl)
  rw [oa_la_lz] at hle
  rw [lg_entry_eq]
  have htb : c.exceptionTable.toList = tableOf M.2.2.2.2 := vx_table (x := M.1) B (bytes := M.2.1) (maxL' := M.2.2.1) (ret' := M.2.2.2.1) (atoms_spec (ws := [oa_cwH M]) B.pre _ List.mem_cons_self)
  exact kk w p l e _ s m _ below meth c k (6 * k) ⟨B.exec, B.bytes, hml, B.returns, hown, B.notSynchronized, htb, hJ⟩ trivial (Nat.le_refl _) (Nat.le_refl _) (Nat.le_refl _) (Nat.le_refl _) s.heap [] 0 0 _ (by omega) (by omega) hRP va_S.rf hle (fun q hq => hvd _ (oa_la_mem hq)) (fun v hv => nomatch hv)
def oa_MBH (M' : MD) (n : Nat) : Prop := oa_cwH M' ∈ oa_GT ∧ (Cond.initialized M'.1.cls) ∈ oa_GT ∧ (M'.1.cls ≠ "java/lang/invoke/MethodHandle" ∧ M'.1.cls ≠ "java/lang/invoke/VarHandle") ∧ (parseMethodDescriptor M'.1.desc).map (fun d => d.parameters.length) = some n ∧ M'.2.2.1 ≤ 45
section AWI
variable {X : WD → State → Prop} {d rb : Nat} {M : MD} {pc n : Nat} {L L2 : List (Nat × AV)} {S St : List AV} {h : Hp} {Qr : Option AV → Hp → Prop} {Qx : String → Hp → Prop}
theorem aw_callSH {M' : MD} {idx k : Nat} {as : List AV} (hd : decode M.2.1 pc = .ok (.invokestatic idx, 3)) (hn : pc + 3 = n) (hl : (Cond.methodLink M.1.cls idx M'.1) ∈ oa_GT) (hst : (Cond.static M'.1) ∈ oa_GT) (hM : oa_MBH M' as.length) (hh : M.2.2.2.2 = []) (hk : k ≤ rb) (hcat : (S.map oa_cat).sum ≤ 8) (hSt : St = as.reverse ++ S)
    (cc : CLH k d M' as h (fun v h' => AW X (d + 1) (rb - k) M n L (v.toList ++ S) h' Qr Qx) Qx) : AW X (d + 1) rb M pc L St h Qr Qx := by
  intro w p l e R s m args below meth c mc ms F hX hf hlo hmc hms H locs cells slots ls hc hs hRP hS hl' hL hV
  subst hn
  subst hSt
  have hvS : ∀ v ∈ S, oa_vd v := fun v hv => hV v (List.mem_append_right _ hv)
  have hva : ∀ v ∈ as, oa_vd v := fun v hv => hV v (List.mem_append_left _ (List.mem_reverse.mpr hv))
  obtain ⟨m1, m2, m3, m4, m5⟩ := hM
  have J := F.2.2.2.2.2.2.2
  refine oa_after (k := k) (S := S) F hX hf hlo hmc hms hk hc hs hS hl' hL hvS hh (a := (as.map (oa_cz w)).toArray) ?_
  refine vx_runSX (hh := M'.2.2.2.2) (Ts := oa_GT) (nL := M.2.2.1) (n := as.length) (bytes := M'.2.1) (maxL := M'.2.2.1) (ret := M'.2.2.2.1) (As := as.map (oa_cz w)) (rest := S.map (oa_cz w)) ⟨F.1, F.2.1, F.2.2.1, F.2.2.2.2.1, fun q hq => J.2.1 q hq args⟩ (cc w l)
    ⟨⟨rfl, rfl, hf, by show 8 + (M'.2.2.1 + 11) + 64 * d ≤ R.locals; omega, ?_, List.mem_cons_self⟩, J.2.1 _ m1 args, J.2.1 _ m2 args, m3, fun sig hs => ?_, J.2.1 _ hl args, J.2.1 _ hst args⟩ ⟨oa_PC_blind, oa_pre F hS hRP hva⟩ rfl (by rw [List.length_map]) hl'.1 ?_ (lv_room (by rw [oa_sumcat]; exact hcat)) hd ⟨by omega, by omega⟩
  · intro q hq a' U hW
    rcases List.mem_singleton.mp hq with rfl
    exact word_at hW (good_of_word (List.mem_filter.mp m1).2) (J.2.1 _ m1 args)
  · rw [hs] at m4
    exact (Option.some.inj m4).symm
  · show (as.reverse ++ S).map (oa_cz w) = _
    rw [List.map_append, List.map_reverse]
end AWI
