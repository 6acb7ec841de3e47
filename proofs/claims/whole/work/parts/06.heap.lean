/-! changed heaps -/
def hp_a (h : Hp) (t i : Nat) (f : Nat → Int32) : Hp := (fun a b => if a = t ∧ b = i then f else h.1 a b, h.2)
def hp_i (h : Hp) (t i k : Nat) (x : Int32) : Hp := hp_a h t i (upd (h.1 t i) k x)
def hp_b (h : Hp) (t i : Nat) (f : Nat → Int64) : Hp := (h.1, fun a b => if a = t ∧ b = i then f else h.2.1 a b, h.2.2)
def hp_l (h : Hp) (t i k : Nat) (x : Int64) : Hp := hp_b h t i (vp_updL (h.2.1 t i) k x)
def hp_r (h : Hp) (t i k z : Nat) : Hp := (h.1, h.2.1, fun a b c => if a = t ∧ b = i ∧ c = k then z else h.2.2 a b c)
theorem hp_a_s {h : Hp} {t i : Nat} {f : Nat → Int32} : (hp_a h t i f).1 t i = f := if_pos ⟨rfl, rfl⟩
theorem hp_a_n {h : Hp} {t i a b : Nat} {f : Nat → Int32} (hn : ¬ (a = t ∧ b = i)) : (hp_a h t i f).1 a b = h.1 a b := if_neg hn
theorem hp_b_s {h : Hp} {t i : Nat} {f : Nat → Int64} : (hp_b h t i f).2.1 t i = f := if_pos ⟨rfl, rfl⟩
theorem hp_b_n {h : Hp} {t i a b : Nat} {f : Nat → Int64} (hn : ¬ (a = t ∧ b = i)) : (hp_b h t i f).2.1 a b = h.2.1 a b := if_neg hn
theorem oa_ent_congr {w : WD} {h h' : Hp} {t i : Nat} (h1 : h'.1 t i = h.1 t i) (h2 : h'.2.1 t i = h.2.1 t i) (h3 : h'.2.2 t i = h.2.2 t i) : oa_ent w h' t i = oa_ent w h t i := by
  have hf : (fun k f => oa_fv w h' t i k f) = (fun k f => oa_fv w h t i k f) := by
    funext k f
    simp only [oa_fv, h1, h3]
  simp only [oa_ent, h1, h2, hf]
theorem oa_ent0 {w : WD} {h : Hp} {t i ci : Nat} {fs : List (Nat × Nat)} (hk : oa_kd t = (0, ci, fs)) : oa_ent w h t i = .inr (ci, fs.mapIdx fun k f => oa_fv w h t i k f) := by
  unfold oa_ent; rw [hk]; rfl
theorem oa_ent1 {w : WD} {h : Hp} {t i n : Nat} {fs : List (Nat × Nat)} (hk : oa_kd t = (1, n, fs)) : oa_ent w h t i = .inl (w.2.1 0, n, .inl (h.1 t i)) := by
  unfold oa_ent; rw [hk]; rfl
theorem oa_ent2 {w : WD} {h : Hp} {t i n : Nat} {fs : List (Nat × Nat)} (hk : oa_kd t = (2, n, fs)) : oa_ent w h t i = .inl (w.2.1 1, n, .inl (h.1 t i)) := by
  unfold oa_ent; rw [hk]; rfl
theorem oa_ent3 {w : WD} {h : Hp} {t i n : Nat} {fs : List (Nat × Nat)} (hk : oa_kd t = (3, n, fs)) : oa_ent w h t i = .inl (w.2.1 2, n, .inr (.inl (h.2.1 t i))) := by
  unfold oa_ent; rw [hk]; rfl
theorem oa_ent4 {w : WD} {h : Hp} {t i n : Nat} {fs : List (Nat × Nat)} (hk : oa_kd t = (4, n, fs)) : oa_ent w h t i = .inl (w.2.1 3, n, .inl (h.1 t i)) := by
  unfold oa_ent; rw [hk]; rfl
theorem oa_ent5 {w : WD} {h : Hp} {t i n o u : Nat} (hk : oa_kd t = (5, n, [(o, u)])) : oa_ent w h t i = .inl (w.2.1 4, n, .inr (.inr (.inr (.inr fun j => if j < n then some (w.2.2.1 u (o + j)) else none)))) := by
  unfold oa_ent; rw [hk]; rfl
theorem oa_ent6 {w : WD} {h : Hp} {t i n o u : Nat} (hk : oa_kd t = (6, n, [(o, u)])) : oa_ent w h t i = .inl (w.2.1 5, n, .inr (.inr (.inr (.inr fun j => if j < n then some (w.2.2.1 u (o * i + j)) else none)))) := by
  unfold oa_ent; rw [hk]; rfl
/-- the row of ints of one cell is replaced -/
theorem oa_RP_a {w : WD} {h : Hp} {t i k : Nat} {f : Nat → Int32} {H1 : Heap} (hk : oa_ix[k]? = some (t, i)) (hok : oa_ok h) (hz : (oa_kd t).1 = 4 → ∀ j, f j = 0 ∨ f j = 1)
    (hP : va_P w.1 vwCl ((oa_ws w h).set k (w.2.2.1 t i, oa_ent w (hp_a h t i f) t i)) H1) (hD : va_D (oa_A w) (oa_ws w h)) : oa_RP w (hp_a h t i f) H1 := by
  rw [oa_ws_set hk (fun t' i' hne => oa_ent_congr (hp_a_n (fun e => hne (by rw [e.1, e.2]))) rfl rfl)] at hP
  refine ⟨hP, oa_D_any hD, hok.1, fun t' i' k' h4 => ?_⟩
  by_cases e : t' = t ∧ i' = i
  · obtain ⟨rfl, rfl⟩ := e
    rw [hp_a_s]
    exact hz h4 k'
  · rw [hp_a_n e]
    exact hok.2 t' i' k' h4
theorem oa_RP_b {w : WD} {h : Hp} {t i k : Nat} {f : Nat → Int64} {H1 : Heap} (hk : oa_ix[k]? = some (t, i)) (hok : oa_ok h)
    (hP : va_P w.1 vwCl ((oa_ws w h).set k (w.2.2.1 t i, oa_ent w (hp_b h t i f) t i)) H1) (hD : va_D (oa_A w) (oa_ws w h)) : oa_RP w (hp_b h t i f) H1 := by
  rw [oa_ws_set (h := h) (h' := hp_b h t i f) hk (fun t' i' hne => oa_ent_congr rfl (hp_b_n (fun e => hne (by rw [e.1, e.2]))) rfl)] at hP
  exact ⟨hP, oa_D_any hD, hok⟩
theorem oa_RP_r {w : WD} {h : Hp} {t i k c z : Nat} {H1 : Heap} (hk : oa_ix[k]? = some (t, i)) (hok : oa_ok h) (hz : ∀ t', (oa_kd t).2.2[c]? = some (3, t') → z < oa_cn t')
    (hP : va_P w.1 vwCl ((oa_ws w h).set k (w.2.2.1 t i, oa_ent w (hp_r h t i c z) t i)) H1) (hD : va_D (oa_A w) (oa_ws w h)) : oa_RP w (hp_r h t i c z) H1 := by
  rw [oa_ws_set (h := h) (h' := hp_r h t i c z) hk (fun t' i' hne => oa_ent_congr rfl rfl (funext fun c' => if_neg (fun e => hne (by rw [e.1, e.2.1]))))] at hP
  refine ⟨hP, oa_D_any hD, fun t' i' k' u hu hi => ?_, hok.2⟩
  show (if t' = t ∧ i' = i ∧ k' = c then z else h.2.2 t' i' k') < _
  by_cases e : t' = t ∧ i' = i ∧ k' = c
  · rw [if_pos e]
    obtain ⟨rfl, rfl, rfl⟩ := e
    exact hz u hu
  · rw [if_neg e]
    exact hok.1 t' i' k' u hu hi
/-- what the tables say of a class of ours -/
def oa_CB (ci : Nat) (C : String) (T : u_T) (N : Nat) (ty : Nat → FieldType) : Prop := vwCl[ci]? = some (C, T, N) ∧ (∀ q ∈ u_ws C T N, q ∈ oa_GT) ∧ (∀ k, k < N → parseFieldDescriptor (T k).2.2.1 = some (ty k)) ∧ ∀ a, a < N → ∀ b, b < N → a ≠ b → (T a).2.1 ≠ (T b).2.1
section AWH
variable {X : WD → State → Prop} {d rb : Nat} {M : MD} {pc n : Nat} {L L2 : List (Nat × AV)} {S : List AV} {h : Hp} {Qr : Option AV → Hp → Prop} {Qx : String → Hp → Prop}
theorem aw_get {t i k idx ci N : Nat} {fs : List (Nat × Nat)} {f : Nat × Nat} {C : String} {T : u_T} {ty : Nat → FieldType} {v : AV} (hd : decode M.2.1 pc = .ok (.getfield idx, 3)) (hn : pc + 3 = n) (ht : t < oa_nT) (hk : oa_kd t = (0, ci, fs)) (hf : fs[k]? = some f) (hB : oa_CB ci C T N ty) (hkN : k < N)
    (hw : Cond.fieldLink M.1.cls idx (T k).1 (T k).2.1 (T k).2.2.1 ∈ oa_GT) (hv : ∀ w, oa_fv w h t i k f = oa_cz w v) (hvd : oa_ok h → i < oa_cn t → oa_vd v) (kk : AW X d rb M n L (v :: S) h Qr Qx) : AW X d rb M pc L (vR t i :: S) h Qr Qx := by
  intro w p l e R s m args below meth c mc ms F hX hf' hlo hmc hms H locs cells slots ls hc hs hRP hS hl hL hV
  subst hn
  have hi : i < oa_cn t := oa_vh hV
  obtain ⟨q0, hq0, he⟩ := oa_ws_at (w := w) (h := h) ht hi
  rw [oa_ent0 hk] at he
  obtain ⟨-, hts, -, hK, -⟩ := F.2.2.2.2.2.2.2
  refine va_get F.1 F.2.1 (Ts := oa_GT) (fun q hq => hts q hq args) hB.2.1 F.2.2.2.2.1 hK hRP.1 q0 he hB.1 k hkN (hts _ hw args) (fun _ z => z) (v := oa_cz w v) ?_ hd (kk w p l e R s m args below meth c mc ms F hX hf' hlo hmc hms H locs cells slots ls hc hs hRP hS hl hL (oa_vc (hvd hRP.2.2 hi) (oa_v1 hV)))
  rw [List.getElem?_mapIdx, hf, ← hv w]
  rfl
theorem aw_geti {t i k idx ci N z : Nat} {fs : List (Nat × Nat)} {C : String} {T : u_T} {ty : Nat → FieldType} (hd : decode M.2.1 pc = .ok (.getfield idx, 3)) (hn : pc + 3 = n) (ht : t < oa_nT) (hk : oa_kd t = (0, ci, fs)) (hf : fs[k]? = some (0, z)) (hB : oa_CB ci C T N ty) (hkN : k < N)
    (hw : Cond.fieldLink M.1.cls idx (T k).1 (T k).2.1 (T k).2.2.1 ∈ oa_GT) (kk : AW X d rb M n L (vI (h.1 t i k) :: S) h Qr Qx) : AW X d rb M pc L (vR t i :: S) h Qr Qx :=
  aw_get (v := vI (h.1 t i k)) hd hn ht hk hf hB hkN hw (fun _ => rfl) (fun _ _ => trivial) kk
theorem aw_getf {t i k idx ci N z : Nat} {fs : List (Nat × Nat)} {C : String} {T : u_T} {ty : Nat → FieldType} (hd : decode M.2.1 pc = .ok (.getfield idx, 3)) (hn : pc + 3 = n) (ht : t < oa_nT) (hk : oa_kd t = (0, ci, fs)) (hf : fs[k]? = some (2, z)) (hz : oa_cn t = oa_cn z) (hB : oa_CB ci C T N ty) (hkN : k < N)
    (hw : Cond.fieldLink M.1.cls idx (T k).1 (T k).2.1 (T k).2.2.1 ∈ oa_GT) (kk : AW X d rb M n L (vR z i :: S) h Qr Qx) : AW X d rb M pc L (vR t i :: S) h Qr Qx :=
  aw_get (v := vR z i) hd hn ht hk hf hB hkN hw (fun _ => rfl) (fun _ hi => by rw [hz] at hi; exact hi) kk
theorem aw_getm {t i k idx ci N z : Nat} {fs : List (Nat × Nat)} {C : String} {T : u_T} {ty : Nat → FieldType} (hd : decode M.2.1 pc = .ok (.getfield idx, 3)) (hn : pc + 3 = n) (ht : t < oa_nT) (hk : oa_kd t = (0, ci, fs)) (hf : fs[k]? = some (3, z)) (hB : oa_CB ci C T N ty) (hkN : k < N)
    (hw : Cond.fieldLink M.1.cls idx (T k).1 (T k).2.1 (T k).2.2.1 ∈ oa_GT) (kk : AW X d rb M n L (vR z (h.2.2 t i k) :: S) h Qr Qx) : AW X d rb M pc L (vR t i :: S) h Qr Qx :=
  aw_get (v := vR z (h.2.2 t i k)) hd hn ht hk hf hB hkN hw (fun _ => rfl) (fun hok hi => hok.1 t i k z (by rw [hk]; exact hf) hi) kk
theorem aw_puti {t i k idx ci N z : Nat} {x : Int32} {fs : List (Nat × Nat)} {C : String} {T : u_T} {ty : Nat → FieldType} (hd : decode M.2.1 pc = .ok (.putfield idx, 3)) (hn : pc + 3 = n) (ht : t < oa_nT) (hk : oa_kd t = (0, ci, fs)) (hf : fs[k]? = some (0, z)) (hB : oa_CB ci C T N ty) (hkN : k < N) (hfin : (T k).2.2.2 = false) (hty : ty k = .int)
    (hw : Cond.fieldLink M.1.cls idx (T k).1 (T k).2.1 (T k).2.2.1 ∈ oa_GT) (kk : AW X d rb M n L S (hp_i h t i k x) Qr Qx) : AW X d rb M pc L (vI x :: vR t i :: S) h Qr Qx := by
  intro w p l e R s m args below meth c mc ms F hX hf' hlo hmc hms H locs cells slots ls hc hs hRP hS hl hL hV
  subst hn
  have hi : i < oa_cn t := oa_vh (oa_v1 hV)
  obtain ⟨q0, hq0, he⟩ := oa_ws_at (w := w) (h := h) ht hi
  rw [oa_ent0 hk] at he
  obtain ⟨-, hts, -, hK, -⟩ := F.2.2.2.2.2.2.2
  refine va_put F.1 F.2.1 (Ts := oa_GT) (fun q hq => hts q hq args) hB.2.1 ty hB.2.2.1 hB.2.2.2 F.2.2.2.2.1 hK hRP.1 hRP.2.1 hS q0 he hB.1 k hkN (hts _ hw args) (fun _ z => z) hfin (ty := .int) (v := .int x) (by rw [hB.2.2.1 k hkN, hty]) rfl rfl (by rw [List.length_mapIdx]; exact (List.getElem?_eq_some_iff.mp hf).1) hd (fun H1 locs1 hP1 hD1 hS1 => ?_)
  refine kk w p l e R s m args below meth c mc ms F hX hf' hlo hmc hms H1 locs1 cells slots ls hc hs ?_ hS1 hl hL (oa_v1 (oa_v1 hV))
  refine oa_RP_a hq0 hRP.2.2 (fun h4 => by rw [hk] at h4; cases h4) ?_ hRP.2.1
  rw [oa_ent0 hk]
  have e2 : (fs.mapIdx fun k' f => oa_fv w (hp_a h t i (upd (h.1 t i) k x)) t i k' f) = (fs.mapIdx fun k f => oa_fv w h t i k f).set k (.int x) := by
    apply List.ext_getElem?
    intro j
    by_cases hj : j = k
    · subst hj
      rw [List.getElem?_set_self (by rw [List.length_mapIdx]; exact (List.getElem?_eq_some_iff.mp hf).1), List.getElem?_mapIdx, hf]
      show some (Value.int ((hp_a h t i (upd (h.1 t i) j x)).1 t i j)) = _
      rw [hp_a_s, pk_us]
    · rw [List.getElem?_set_ne (Ne.symm hj), List.getElem?_mapIdx, List.getElem?_mapIdx]
      cases fs[j]? with
      | none => rfl
      | some g =>
        show some _ = some _
        simp only [oa_fv, hp_a_s]
        rw [pk_un hj]
        rfl
  rw [e2]
  exact hP1
theorem aw_putm {t i k idx ci N z u : Nat} {fs : List (Nat × Nat)} {C : String} {T : u_T} {ty : Nat → FieldType} {cn : String} (hd : decode M.2.1 pc = .ok (.putfield idx, 3)) (hn : pc + 3 = n) (ht : t < oa_nT) (hk : oa_kd t = (0, ci, fs)) (hf : fs[k]? = some (3, z)) (hB : oa_CB ci C T N ty) (hkN : k < N) (hfin : (T k).2.2.2 = false) (hty : ty k = .object cn)
    (hw : Cond.fieldLink M.1.cls idx (T k).1 (T k).2.1 (T k).2.2.1 ∈ oa_GT) (kk : AW X d rb M n L S (hp_r h t i k u) Qr Qx) : AW X d rb M pc L (vR z u :: vR t i :: S) h Qr Qx := by
  intro w p l e R s m args below meth c mc ms F hX hf' hlo hmc hms H locs cells slots ls hc hs hRP hS hl hL hV
  subst hn
  have hu : u < oa_cn z := oa_vh hV
  have hi : i < oa_cn t := oa_vh (oa_v1 hV)
  obtain ⟨q0, hq0, he⟩ := oa_ws_at (w := w) (h := h) ht hi
  rw [oa_ent0 hk] at he
  obtain ⟨-, hts, -, hK, -⟩ := F.2.2.2.2.2.2.2
  refine va_put F.1 F.2.1 (Ts := oa_GT) (fun q hq => hts q hq args) hB.2.1 ty hB.2.2.1 hB.2.2.2 F.2.2.2.2.1 hK hRP.1 hRP.2.1 hS q0 he hB.1 k hkN (hts _ hw args) (fun _ z => z) hfin (ty := .object cn) (v := .ref (w.2.2.1 z u)) (by rw [hB.2.2.1 k hkN, hty]) rfl rfl (by rw [List.length_mapIdx]; exact (List.getElem?_eq_some_iff.mp hf).1) hd (fun H1 locs1 hP1 hD1 hS1 => ?_)
  refine kk w p l e R s m args below meth c mc ms F hX hf' hlo hmc hms H1 locs1 cells slots ls hc hs ?_ hS1 hl hL (oa_v1 (oa_v1 hV))
  refine oa_RP_r hq0 hRP.2.2 (fun t' h3 => by rw [hk] at h3; cases hf.symm.trans h3; exact hu) ?_ hRP.2.1
  rw [oa_ent0 hk]
  have e2 : (fs.mapIdx fun k' f => oa_fv w (hp_r h t i k u) t i k' f) = (fs.mapIdx fun k f => oa_fv w h t i k f).set k (.ref (w.2.2.1 z u)) := by
    apply List.ext_getElem?
    intro j
    by_cases hj : j = k
    · subst hj
      rw [List.getElem?_set_self (by rw [List.length_mapIdx]; exact (List.getElem?_eq_some_iff.mp hf).1), List.getElem?_mapIdx, hf]
      show some (Value.ref (w.2.2.1 z (if t = t ∧ i = i ∧ j = j then u else _))) = _
      rw [if_pos ⟨rfl, rfl, rfl⟩]
    · rw [List.getElem?_set_ne (Ne.symm hj), List.getElem?_mapIdx, List.getElem?_mapIdx]
      cases fs[j]? with
      | none => rfl
      | some g =>
        show some _ = some _
        have e3 : (hp_r h t i k u).2.2 t i j = h.2.2 t i j := if_neg (fun z => hj z.2.2)
        simp only [oa_fv, e3]
        rfl
  rw [e2]
  exact hP1
theorem aw_iald {t i len : Nat} {fs : List (Nat × Nat)} {j : Int32} (hd : decode M.2.1 pc = .ok (.iaload, 1)) (hn : pc + 1 = n) (ht : t < oa_nT) (hk : oa_kd t = (1, len, fs)) (hin : vp_in j len) (kk : AW X d rb M n L (vI (h.1 t i j.toNatClampNeg) :: S) h Qr Qx) : AW X d rb M pc L (vI j :: vR t i :: S) h Qr Qx := by
  intro w p l e R s m args below meth c mc ms F hX hf' hlo hmc hms H locs cells slots ls hc hs hRP hS hl hL hV
  subst hn
  obtain ⟨q0, hq0, he⟩ := oa_ws_at (w := w) (h := h) ht (oa_vh (oa_v1 hV))
  rw [oa_ent1 hk] at he
  obtain ⟨-, hts, -, hK, -⟩ := F.2.2.2.2.2.2.2
  exact va_iald F.1 F.2.1 hK hRP.1 q0 0 he rfl hin hd (kk w p l e R s m args below meth c mc ms F hX hf' hlo hmc hms H locs cells slots ls hc hs hRP hS hl hL (oa_vc trivial (oa_v1 (oa_v1 hV))))
theorem aw_bald {t i len : Nat} {fs : List (Nat × Nat)} {j : Int32} (hd : decode M.2.1 pc = .ok (.baload, 1)) (hn : pc + 1 = n) (ht : t < oa_nT) (hk : oa_kd t = (2, len, fs)) (hin : vp_in j len) (kk : AW X d rb M n L (vI (h.1 t i j.toNatClampNeg) :: S) h Qr Qx) : AW X d rb M pc L (vI j :: vR t i :: S) h Qr Qx := by
  intro w p l e R s m args below meth c mc ms F hX hf' hlo hmc hms H locs cells slots ls hc hs hRP hS hl hL hV
  subst hn
  obtain ⟨q0, hq0, he⟩ := oa_ws_at (w := w) (h := h) ht (oa_vh (oa_v1 hV))
  rw [oa_ent2 hk] at he
  obtain ⟨-, hts, -, hK, -⟩ := F.2.2.2.2.2.2.2
  exact va_bald F.1 F.2.1 hK hRP.1 q0 1 he rfl hin hd (kk w p l e R s m args below meth c mc ms F hX hf' hlo hmc hms H locs cells slots ls hc hs hRP hS hl hL (oa_vc trivial (oa_v1 (oa_v1 hV))))
theorem aw_zald {t i len : Nat} {fs : List (Nat × Nat)} {j : Int32} (hd : decode M.2.1 pc = .ok (.baload, 1)) (hn : pc + 1 = n) (ht : t < oa_nT) (hk : oa_kd t = (4, len, fs)) (hin : vp_in j len) (kk : AW X d rb M n L (vI (h.1 t i j.toNatClampNeg) :: S) h Qr Qx) : AW X d rb M pc L (vI j :: vR t i :: S) h Qr Qx := by
  intro w p l e R s m args below meth c mc ms F hX hf' hlo hmc hms H locs cells slots ls hc hs hRP hS hl hL hV
  subst hn
  obtain ⟨q0, hq0, he⟩ := oa_ws_at (w := w) (h := h) ht (oa_vh (oa_v1 hV))
  rw [oa_ent4 hk] at he
  obtain ⟨-, hts, -, hK, -⟩ := F.2.2.2.2.2.2.2
  exact va_zald F.1 F.2.1 hK hRP.1 q0 3 he rfl hin hd (kk w p l e R s m args below meth c mc ms F hX hf' hlo hmc hms H locs cells slots ls hc hs hRP hS hl hL (oa_vc trivial (oa_v1 (oa_v1 hV))))
/-- a boolean read, with what it can be -/
theorem aw_zaldb {t i len : Nat} {fs : List (Nat × Nat)} {j : Int32} (hd : decode M.2.1 pc = .ok (.baload, 1)) (hn : pc + 1 = n) (ht : t < oa_nT) (hk : oa_kd t = (4, len, fs)) (hin : vp_in j len) (kk : (h.1 t i j.toNatClampNeg = 0 ∨ h.1 t i j.toNatClampNeg = 1) → AW X d rb M n L (vI (h.1 t i j.toNatClampNeg) :: S) h Qr Qx) : AW X d rb M pc L (vI j :: vR t i :: S) h Qr Qx := by
  intro w p l e R s m args below meth c mc ms F hX hf' hlo hmc hms H locs cells slots ls hc hs hRP hS hl hL hV
  exact aw_zald hd hn ht hk hin (kk (hRP.2.2.2 t i j.toNatClampNeg (by rw [hk]))) w p l e R s m args below meth c mc ms F hX hf' hlo hmc hms H locs cells slots ls hc hs hRP hS hl hL hV
theorem aw_lald {t i len : Nat} {fs : List (Nat × Nat)} {j : Int32} (hd : decode M.2.1 pc = .ok (.laload, 1)) (hn : pc + 1 = n) (ht : t < oa_nT) (hk : oa_kd t = (3, len, fs)) (hin : vp_in j len) (kk : AW X d rb M n L (vJ (h.2.1 t i j.toNatClampNeg) :: S) h Qr Qx) : AW X d rb M pc L (vI j :: vR t i :: S) h Qr Qx := by
  intro w p l e R s m args below meth c mc ms F hX hf' hlo hmc hms H locs cells slots ls hc hs hRP hS hl hL hV
  subst hn
  obtain ⟨q0, hq0, he⟩ := oa_ws_at (w := w) (h := h) ht (oa_vh (oa_v1 hV))
  rw [oa_ent3 hk] at he
  obtain ⟨-, hts, -, hK, -⟩ := F.2.2.2.2.2.2.2
  exact va_lald F.1 F.2.1 hK hRP.1 q0 2 he rfl hin hd (kk w p l e R s m args below meth c mc ms F hX hf' hlo hmc hms H locs cells slots ls hc hs hRP hS hl hL (oa_vc trivial (oa_v1 (oa_v1 hV))))
theorem aw_aald5 {t i len o u : Nat} {j : Int32} (hd : decode M.2.1 pc = .ok (.aaload, 1)) (hn : pc + 1 = n) (ht : t < oa_nT) (hk : oa_kd t = (5, len, [(o, u)])) (hu : ∀ a, a < len → o + a < oa_cn u) (hin : vp_in j len) (kk : AW X d rb M n L (vR u (o + j.toNatClampNeg) :: S) h Qr Qx) : AW X d rb M pc L (vI j :: vR t i :: S) h Qr Qx := by
  intro w p l e R s m args below meth c mc ms F hX hf' hlo hmc hms H locs cells slots ls hc hs hRP hS hl hL hV
  subst hn
  obtain ⟨q0, hq0, he⟩ := oa_ws_at (w := w) (h := h) ht (oa_vh (oa_v1 hV))
  rw [oa_ent5 hk] at he
  obtain ⟨-, hts, -, hK, -⟩ := F.2.2.2.2.2.2.2
  have hj : j.toNatClampNeg < len := Nat.not_le.mp fun q => hin (Or.inr q)
  refine va_aldq F.1 F.2.1 hK hRP.1 q0 4 he rfl hin hd ?_
  rw [if_pos hj]
  exact kk w p l e R s m args below meth c mc ms F hX hf' hlo hmc hms H locs cells slots ls hc hs hRP hS hl hL (oa_vc (hu _ hj) (oa_v1 (oa_v1 hV)))
theorem aw_aald6 {t i len o u : Nat} {j : Int32} (hd : decode M.2.1 pc = .ok (.aaload, 1)) (hn : pc + 1 = n) (ht : t < oa_nT) (hk : oa_kd t = (6, len, [(o, u)])) (hu : ∀ b a, b < oa_cn t → a < len → o * b + a < oa_cn u) (hin : vp_in j len) (kk : AW X d rb M n L (vR u (o * i + j.toNatClampNeg) :: S) h Qr Qx) : AW X d rb M pc L (vI j :: vR t i :: S) h Qr Qx := by
  intro w p l e R s m args below meth c mc ms F hX hf' hlo hmc hms H locs cells slots ls hc hs hRP hS hl hL hV
  subst hn
  have hi : i < oa_cn t := oa_vh (oa_v1 hV)
  obtain ⟨q0, hq0, he⟩ := oa_ws_at (w := w) (h := h) ht hi
  rw [oa_ent6 hk] at he
  obtain ⟨-, hts, -, hK, -⟩ := F.2.2.2.2.2.2.2
  have hj : j.toNatClampNeg < len := Nat.not_le.mp fun q => hin (Or.inr q)
  refine W.aald (v := .ref (w.2.2.1 u (o * i + j.toNatClampNeg))) (ty := .array .int) F.1 F.2.1 (hRP.1 q0 _ he) ((hK.2 5 _ rfl).1 len (fun a => va_rf (if a < len then some (w.2.2.1 u (o * i + a)) else none))) rfl (fun q => by cases q) (by show ¬ (j < 0 ∨ (arrV _ _ _).slots.size ≤ _); rw [arrV_size]; exact hin) (by show (arrV _ _ _).slots[_]? = _; rw [arrV_read _ _ hj]; exact congrArg (fun o => some (va_rf o)) (if_pos hj)) rfl rfl hd ?_
  exact kk w p l e R s m args below meth c mc ms F hX hf' hlo hmc hms H locs cells slots ls hc hs hRP hS hl hL (oa_vc (hu _ _ hi hj) (oa_v1 (oa_v1 hV)))
theorem aw_iast {t i len : Nat} {fs : List (Nat × Nat)} {j x : Int32} (hd : decode M.2.1 pc = .ok (.iastore, 1)) (hn : pc + 1 = n) (ht : t < oa_nT) (hk : oa_kd t = (1, len, fs)) (hin : vp_in j len) (kk : AW X d rb M n L S (hp_i h t i j.toNatClampNeg x) Qr Qx) : AW X d rb M pc L (vI x :: vI j :: vR t i :: S) h Qr Qx := by
  intro w p l e R s m args below meth c mc ms F hX hf' hlo hmc hms H locs cells slots ls hc hs hRP hS hl hL hV
  subst hn
  obtain ⟨q0, hq0, he⟩ := oa_ws_at (w := w) (h := h) ht (oa_vh (oa_v1 (oa_v1 hV)))
  rw [oa_ent1 hk] at he
  obtain ⟨-, hts, -, hK, -⟩ := F.2.2.2.2.2.2.2
  refine va_iast F.1 F.2.1 hK hRP.1 hRP.2.1 hS q0 0 he rfl hin hd (fun H1 locs1 hP1 hD1 hS1 => ?_)
  refine kk w p l e R s m args below meth c mc ms F hX hf' hlo hmc hms H1 locs1 cells slots ls hc hs ?_ hS1 hl hL (oa_v1 (oa_v1 (oa_v1 hV)))
  refine oa_RP_a hq0 hRP.2.2 (fun h4 => by rw [hk] at h4; cases h4) ?_ hRP.2.1
  rw [oa_ent1 hk, hp_a_s]
  exact hP1
theorem aw_bast {t i len : Nat} {fs : List (Nat × Nat)} {j x : Int32} (hd : decode M.2.1 pc = .ok (.bastore, 1)) (hn : pc + 1 = n) (ht : t < oa_nT) (hk : oa_kd t = (2, len, fs)) (hin : vp_in j len) (kk : AW X d rb M n L S (hp_i h t i j.toNatClampNeg (vp_nar .byte x)) Qr Qx) : AW X d rb M pc L (vI x :: vI j :: vR t i :: S) h Qr Qx := by
  intro w p l e R s m args below meth c mc ms F hX hf' hlo hmc hms H locs cells slots ls hc hs hRP hS hl hL hV
  subst hn
  obtain ⟨q0, hq0, he⟩ := oa_ws_at (w := w) (h := h) ht (oa_vh (oa_v1 (oa_v1 hV)))
  rw [oa_ent2 hk] at he
  obtain ⟨-, hts, -, hK, -⟩ := F.2.2.2.2.2.2.2
  refine va_bast F.1 F.2.1 hK hRP.1 hRP.2.1 hS q0 1 he rfl hin hd (fun H1 locs1 hP1 hD1 hS1 => ?_)
  refine kk w p l e R s m args below meth c mc ms F hX hf' hlo hmc hms H1 locs1 cells slots ls hc hs ?_ hS1 hl hL (oa_v1 (oa_v1 (oa_v1 hV)))
  refine oa_RP_a hq0 hRP.2.2 (fun h4 => by rw [hk] at h4; cases h4) ?_ hRP.2.1
  rw [oa_ent2 hk, hp_a_s]
  exact hP1
theorem aw_zast {t i len : Nat} {fs : List (Nat × Nat)} {j x : Int32} (hd : decode M.2.1 pc = .ok (.bastore, 1)) (hn : pc + 1 = n) (ht : t < oa_nT) (hk : oa_kd t = (4, len, fs)) (hin : vp_in j len) (hx : x = 0 ∨ x = 1) (kk : AW X d rb M n L S (hp_i h t i j.toNatClampNeg x) Qr Qx) : AW X d rb M pc L (vI x :: vI j :: vR t i :: S) h Qr Qx := by
  intro w p l e R s m args below meth c mc ms F hX hf' hlo hmc hms H locs cells slots ls hc hs hRP hS hl hL hV
  subst hn
  obtain ⟨q0, hq0, he⟩ := oa_ws_at (w := w) (h := h) ht (oa_vh (oa_v1 (oa_v1 hV)))
  rw [oa_ent4 hk] at he
  obtain ⟨-, hts, -, hK, -⟩ := F.2.2.2.2.2.2.2
  refine va_zast F.1 F.2.1 hK hRP.1 hRP.2.1 hS q0 3 he rfl hin hd (fun H1 locs1 hP1 hD1 hS1 => ?_)
  refine kk w p l e R s m args below meth c mc ms F hX hf' hlo hmc hms H1 locs1 cells slots ls hc hs ?_ hS1 hl hL (oa_v1 (oa_v1 (oa_v1 hV)))
  have hx2 : vp_nar .boolean x = x := by rcases hx with rfl | rfl <;> rfl
  rw [hx2] at hP1
  refine oa_RP_a hq0 hRP.2.2 (fun h4 a => ?_) ?_ hRP.2.1
  · by_cases ha : a = j.toNatClampNeg
    · subst ha
      rw [pk_us]
      exact hx
    · rw [pk_un ha]
      exact hRP.2.2.2 t i a h4
  · rw [oa_ent4 hk, hp_a_s]
    exact hP1
theorem aw_last {t i len : Nat} {fs : List (Nat × Nat)} {j : Int32} {x : Int64} (hd : decode M.2.1 pc = .ok (.lastore, 1)) (hn : pc + 1 = n) (ht : t < oa_nT) (hk : oa_kd t = (3, len, fs)) (hin : vp_in j len) (kk : AW X d rb M n L S (hp_l h t i j.toNatClampNeg x) Qr Qx) : AW X d rb M pc L (vJ x :: vI j :: vR t i :: S) h Qr Qx := by
  intro w p l e R s m args below meth c mc ms F hX hf' hlo hmc hms H locs cells slots ls hc hs hRP hS hl hL hV
  subst hn
  obtain ⟨q0, hq0, he⟩ := oa_ws_at (w := w) (h := h) ht (oa_vh (oa_v1 (oa_v1 hV)))
  rw [oa_ent3 hk] at he
  obtain ⟨-, hts, -, hK, -⟩ := F.2.2.2.2.2.2.2
  refine va_last F.1 F.2.1 hK hRP.1 hRP.2.1 hS q0 2 he rfl hin hd (fun H1 locs1 hP1 hD1 hS1 => ?_)
  refine kk w p l e R s m args below meth c mc ms F hX hf' hlo hmc hms H1 locs1 cells slots ls hc hs ?_ hS1 hl hL (oa_v1 (oa_v1 (oa_v1 hV)))
  refine oa_RP_b hq0 hRP.2.2 ?_ hRP.2.1
  rw [oa_ent3 hk, hp_b_s]
  exact hP1
theorem aw_alen {t i len : Nat} {fs : List (Nat × Nat)} {v : Int32} (hd : decode M.2.1 pc = .ok (.arraylength, 1)) (hn : pc + 1 = n) (ht : t < oa_nT) (hk : oa_kd t = (1, len, fs)) (hv : Int32.ofNat len = v) (kk : AW X d rb M n L (vI v :: S) h Qr Qx) : AW X d rb M pc L (vR t i :: S) h Qr Qx := by
  intro w p l e R s m args below meth c mc ms F hX hf' hlo hmc hms H locs cells slots ls hc hs hRP hS hl hL hV
  subst hn
  obtain ⟨q0, hq0, he⟩ := oa_ws_at (w := w) (h := h) ht (oa_vh hV)
  rw [oa_ent1 hk] at he
  obtain ⟨-, hts, -, hK, -⟩ := F.2.2.2.2.2.2.2
  exact va_alen F.1 F.2.1 hK hRP.1 q0 0 he (ty := .int) rfl hv hd (kk w p l e R s m args below meth c mc ms F hX hf' hlo hmc hms H locs cells slots ls hc hs hRP hS hl hL (oa_vc trivial (oa_v1 hV)))
end AWH
