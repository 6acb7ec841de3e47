def oa_kdL : List (Nat × Nat × List (Nat × Nat)) := [(0, 0, [(2, 13), (2, 14), (2, 15), (2, 16), (2, 17), (2, 18)]), (0, 1, [(0, 0), (0, 0), (0, 0), (2, 19), (2, 20), (2, 21), (2, 22), (2, 23), (2, 24), (2, 26), (2, 28), (2, 30), (2, 31), (2, 32)]), (0, 2, [(0, 0), (2, 33)]), (0, 3, [(0, 0), (0, 0), (2, 34)]), (0, 4, [(0, 0), (2, 35)]), (0, 5, [(2, 10), (2, 6), (2, 8)]), (0, 6, [(0, 0), (2, 36), (2, 37), (2, 38), (2, 39), (2, 40), (2, 41), (2, 42), (2, 43)]), (0, 7, [(0, 0), (0, 0), (2, 9), (3, 1), (3, 5)]), (0, 8, [(2, 44), (2, 45), (2, 46), (2, 47)]), (0, 9, [(0, 0), (0, 0), (2, 4), (0, 0)]), (0, 10, [(0, 0), (0, 0), (2, 48), (2, 49), (2, 50), (2, 51), (2, 52)]), (0, 11, [(2, 7), (2, 4), (2, 3), (2, 0), (2, 2), (2, 53), (3, 1), (3, 5)]), (0, 12, [(0, 0), (2, 54), (2, 55), (0, 0), (0, 0), (0, 0), (0, 0), (0, 0), (0, 0), (0, 0), (0, 0), (2, 56), (2, 57), (0, 0), (2, 58), (2, 59), (0, 0), (2, 60), (2, 61), (2, 62), (2, 63), (2, 64), (0, 0), (2, 65), (0, 0)]), (1, 12, []), (1, 12, []), (1, 20, []), (1, 20, []), (1, 20, []), (1, 6, []), (3, 12, []), (1, 12, []), (3, 8, []), (1, 8, []), (1, 8, []), (6, 8, [(8, 25)]), (1, 6, []), (6, 8, [(8, 27)]), (1, 6, []), (6, 8, [(8, 29)]), (1, 12, []), (1, 6, []), (1, 6, []), (1, 6, []), (2, 200, []), (5, 12, [(2, 5)]), (2, 900, []), (1, 20, []), (1, 20, []), (1, 20, []), (1, 20, []), (4, 20, []), (4, 20, []), (1, 20, []), (1, 20, []), (1, 5, []), (1, 16, []), (1, 16, []), (1, 16, []), (1, 12, []), (1, 12, []), (1, 20, []), (1, 20, []), (1, 20, []), (1, 12, []), (2, 900, []), (1, 5, []), (1, 506, []), (1, 506, []), (1, 301, []), (1, 3612, []), (1, 12, []), (1, 12, []), (1, 20, []), (1, 20, []), (1, 6, []), (2, 320, []), (3, 1, [])]
def oa_cnL : List Nat := [1, 2, 1, 1, 1, 14, 14, 1, 14, 1, 14, 1, 1, 1, 1, 1, 1, 1, 1, 2, 2, 2, 2, 2, 2, 16, 2, 16, 2, 16, 2, 2, 2, 1, 1, 1, 14, 14, 14, 14, 14, 14, 14, 14, 14, 14, 14, 14, 14, 14, 14, 14, 14, 1, 1, 1, 1, 1, 1, 1, 1, 1, 1, 1, 1, 1, 1]
def oa_nT : Nat := 67
/-! abstract values, abstract heap, worlds -/
abbrev AV : Type := Int32 ⊕ Int64 ⊕ (Nat × Nat) ⊕ Unit
abbrev vI (x : Int32) : AV := .inl x
abbrev vJ (x : Int64) : AV := .inr (.inl x)
abbrev vR (t i : Nat) : AV := .inr (.inr (.inl (t, i)))
abbrev vN : AV := .inr (.inr (.inr ()))
abbrev Hp : Type := (Nat → Nat → Nat → Int32) × (Nat → Nat → Nat → Int64) × (Nat → Nat → Nat → Nat)
/-- a method: name, code, locals, answer's type, handlers -/
abbrev MD : Type := MethodName × ByteArray × Nat × Option FieldType × List (Nat × Nat × Nat × Nat)
/-- a world: class numbers, array classes, addresses, the first address of ours -/
abbrev WD : Type := va_G × (Nat → ClassId) × (Nat → Nat → Nat) × Nat
def oa_kd (t : Nat) : Nat × Nat × List (Nat × Nat) := oa_kdL.getD t (9, 0, [])
/-- how many cells of a kind there are; from 1000 on: string constants; 2000: the script -/
def oa_cn (t : Nat) : Nat := if 1000 ≤ t then 1 else oa_cnL.getD t 0
def oa_cat : AV → Nat
  | .inr (.inl _) => 2
  | _ => 1
def oa_cz (w : WD) : AV → Value
  | .inl x => .int x
  | .inr (.inl x) => .long x
  | .inr (.inr (.inl r)) => .ref (w.2.2.1 r.1 r.2)
  | .inr (.inr (.inr _)) => .null
def oa_vd : AV → Prop
  | .inr (.inr (.inl r)) => r.2 < oa_cn r.1
  | _ => True
theorem oa_cat_cz (w : WD) (v : AV) : (oa_cz w v).category = oa_cat v := by
  rcases v with x | x | x | x <;> rfl
def oa_A (w : WD) : Nat → Prop := fun q => w.2.2.2 ≤ q
def oa_tys (w : WD) : List (ClassId × FieldType) := [(w.2.1 0, .int), (w.2.1 1, .byte), (w.2.1 2, .long), (w.2.1 3, .boolean), (w.2.1 4, .object "OrderAssembler$Ledger"), (w.2.1 5, .array .int)]
def oa_fv (w : WD) (h : Hp) (t i k : Nat) (f : Nat × Nat) : Value := match f.1 with
  | 0 => .int (h.1 t i k)
  | 2 => .ref (w.2.2.1 f.2 i)
  | 3 => .ref (w.2.2.1 f.2 (h.2.2 t i k))
  | _ => .null
def oa_ent (w : WD) (h : Hp) (t i : Nat) : va_E := match (oa_kd t).1 with
  | 0 => .inr ((oa_kd t).2.1, (oa_kd t).2.2.mapIdx fun k f => oa_fv w h t i k f)
  | 1 => .inl (w.2.1 0, (oa_kd t).2.1, .inl (h.1 t i))
  | 2 => .inl (w.2.1 1, (oa_kd t).2.1, .inl (h.1 t i))
  | 3 => .inl (w.2.1 2, (oa_kd t).2.1, .inr (.inl (h.2.1 t i)))
  | 4 => .inl (w.2.1 3, (oa_kd t).2.1, .inl (h.1 t i))
  | 5 => .inl (w.2.1 4, (oa_kd t).2.1, .inr (.inr (.inr (.inr fun j => if j < (oa_kd t).2.1 then some (w.2.2.1 ((oa_kd t).2.2.headD (0, 0)).2 (((oa_kd t).2.2.headD (0, 0)).1 + j)) else none))))
  | _ => .inl (w.2.1 5, (oa_kd t).2.1, .inr (.inr (.inr (.inr fun j => if j < (oa_kd t).2.1 then some (w.2.2.1 ((oa_kd t).2.2.headD (0, 0)).2 (((oa_kd t).2.2.headD (0, 0)).1 * i + j)) else none))))
def oa_ix : List (Nat × Nat) := (List.range oa_nT).flatMap fun t => (List.range (oa_cn t)).map fun i => (t, i)
def oa_ws (w : WD) (h : Hp) : va_W := oa_ix.map fun r => (w.2.2.1 r.1 r.2, oa_ent w h r.1 r.2)
/-- the heap's own facts: the mutable references are of cells that are there, truth values are 0 or 1 -/
def oa_ok (h : Hp) : Prop := (∀ t i k t', (oa_kd t).2.2[k]? = some (3, t') → i < oa_cn t → h.2.2 t i k < oa_cn t') ∧ ∀ t i k, (oa_kd t).1 = 4 → h.1 t i k = 0 ∨ h.1 t i k = 1
def oa_RP (w : WD) (h : Hp) (H : Heap) : Prop := va_P w.1 vwCl (oa_ws w h) H ∧ va_D (oa_A w) (oa_ws w h) ∧ oa_ok h
theorem oa_ix_mem {t i : Nat} (ht : t < oa_nT) (hi : i < oa_cn t) : ∃ k : Nat, oa_ix[k]? = some (t, i) := by
  have h : (t, i) ∈ oa_ix := by
    unfold oa_ix
    rw [List.mem_flatMap]
    exact ⟨t, List.mem_range.mpr ht, List.mem_map.mpr ⟨i, List.mem_range.mpr hi, rfl⟩⟩
  exact List.getElem?_of_mem h
theorem oa_ws_at {w : WD} {h : Hp} {t i : Nat} (ht : t < oa_nT) (hi : i < oa_cn t) : ∃ k : Nat, oa_ix[k]? = some (t, i) ∧ (oa_ws w h)[k]? = some (w.2.2.1 t i, oa_ent w h t i) := by
  obtain ⟨k, hk⟩ := oa_ix_mem ht hi
  exact ⟨k, hk, by unfold oa_ws; rw [List.getElem?_map, hk]; rfl⟩
def oa_pos (r : Nat × Nat) : Nat := (oa_cnL.take r.1).sum + r.2
theorem oa_ix_pos : (oa_ix.zipIdx.all fun q => oa_pos q.1 == q.2) = true := by decide +kernel
theorem oa_ix_inj : ∀ (i j : Nat) (r : Nat × Nat), oa_ix[i]? = some r → oa_ix[j]? = some r → i = j := by
  intro i j r hi hj
  have h1 := List.all_eq_true.mp oa_ix_pos (r, i) (List.mem_zipIdx_iff_getElem?.mpr hi)
  have h2 := List.all_eq_true.mp oa_ix_pos (r, j) (List.mem_zipIdx_iff_getElem?.mpr hj)
  exact (beq_iff_eq.mp h1).symm.trans (beq_iff_eq.mp h2)
/-- one cell changed -/
theorem oa_ws_set {w : WD} {h h' : Hp} {t i k : Nat} (hk : oa_ix[k]? = some (t, i)) (he : ∀ t' i', (t', i') ≠ (t, i) → oa_ent w h' t' i' = oa_ent w h t' i') :
    (oa_ws w h).set k (w.2.2.1 t i, oa_ent w h' t i) = oa_ws w h' := by
  apply List.ext_getElem?
  intro j
  have hl : k < (oa_ws w h).length := by
    unfold oa_ws
    rw [List.length_map]
    exact (List.getElem?_eq_some_iff.mp hk).1
  by_cases hj : j = k
  · subst hj
    rw [List.getElem?_set_self hl]
    unfold oa_ws
    rw [List.getElem?_map, hk]
    rfl
  · rw [List.getElem?_set_ne (Ne.symm hj)]
    unfold oa_ws
    rw [List.getElem?_map, List.getElem?_map]
    cases hr : oa_ix[j]? with
    | none => rfl
    | some r =>
      have hne : (r.1, r.2) ≠ (t, i) := fun e => hj (oa_ix_inj j k (t, i) (by rw [hr, ← e]) hk)
      simp only [Option.map_some]
      rw [he r.1 r.2 hne]
/-- the cells lie apart whatever they hold -/
theorem oa_D_any {w : WD} {h h' : Hp} (hD : va_D (oa_A w) (oa_ws w h)) : va_D (oa_A w) (oa_ws w h') := by
  have key : ∀ (k : Nat) (q : Nat × va_E), (oa_ws w h')[k]? = some q → ∃ q0, (oa_ws w h)[k]? = some q0 ∧ q0.1 = q.1 := by
    intro k q hk
    unfold oa_ws at hk ⊢
    rw [List.getElem?_map] at hk ⊢
    cases hr : oa_ix[k]? with
    | none => rw [hr] at hk; cases hk
    | some r =>
      rw [hr] at hk
      cases hk
      exact ⟨_, rfl, rfl⟩
  refine ⟨fun i j x y hi hj hxy => ?_, fun k q hk => ?_⟩
  · obtain ⟨x0, h1, h2⟩ := key i x hi
    obtain ⟨y0, h3, h4⟩ := key j y hj
    exact hD.1 i j x0 y0 h1 h3 (h2.trans (hxy.trans h4.symm))
  · obtain ⟨q0, h1, h2⟩ := key k q hk
    rw [← h2]
    exact hD.2 k q0 h1
/-! what a frame knows of the machine -/
def oa_GT : List Cond := lw_tbl.filter goodWord
theorem oa_gm {q : Cond} (i : Nat) (h : lw_tbl[i]? = some q) (g : goodWord q = true) : q ∈ oa_GT := List.mem_filter.mpr ⟨List.mem_of_getElem? h, g⟩
def oa_SL : List (String × Nat × String × List Int32) := [("OrderAssembler$Parser", 56, "part", [112, 97, 114, 116]), ("OrderAssembler$Parser", 73, "product", [112, 114, 111, 100, 117, 99, 116]), ("OrderAssembler$Parser", 81, "rung", [114, 117, 110, 103]), ("OrderAssembler$Parser", 86, "order", [111, 114, 100, 101, 114]), ("OrderAssembler$Parser", 171, "whole", [119, 104, 111, 108, 101]), ("OrderAssembler", 101, "the text does not match", [116, 104, 101, 32, 116, 101, 120, 116, 32, 100, 111, 101, 115, 32, 110, 111, 116, 32, 109, 97, 116, 99, 104]), ("OrderAssembler", 399, "no such product", [110, 111, 32, 115, 117, 99, 104, 32, 112, 114, 111, 100, 117, 99, 116]), ("OrderAssembler", 396, "no such part", [110, 111, 32, 115, 117, 99, 104, 32, 112, 97, 114, 116]), ("OrderAssembler", 405, "an argument is out of range", [97, 110, 32, 97, 114, 103, 117, 109, 101, 110, 116, 32, 105, 115, 32, 111, 117, 116, 32, 111, 102, 32, 114, 97, 110, 103, 101]), ("OrderAssembler", 401, "no such order", [110, 111, 32, 115, 117, 99, 104, 32, 111, 114, 100, 101, 114]), ("OrderAssembler", 403, "no such rung", [110, 111, 32, 115, 117, 99, 104, 32, 114, 117, 110, 103]), ("OrderAssembler", 409, "not possible now", [110, 111, 116, 32, 112, 111, 115, 115, 105, 98, 108, 101, 32, 110, 111, 119]), ("OrderAssembler", 354, " x", [32, 120]), ("OrderAssembler", 360, " c", [32, 99]), ("OrderAssembler", 362, " d", [32, 100]), ("OrderAssembler", 364, " w", [32, 119]), ("OrderAssembler", 369, " o", [32, 111]), ("OrderAssembler", 371, " \x72", [32, 114]), ("OrderAssembler", 373, " s", [32, 115]), ("OrderAssembler", 375, " cancelled", [32, 99, 97, 110, 99, 101, 108, 108, 101, 100]), ("OrderAssembler", 378, ":", [58]), ("OrderAssembler", 380, " ", [32]), ("OrderAssemblerModel", 143, "part", [112, 97, 114, 116]), ("OrderAssemblerModel", 147, "product", [112, 114, 111, 100, 117, 99, 116]), ("OrderAssemblerModel", 151, "rung", [114, 117, 110, 103]), ("OrderAssemblerModel", 155, "order", [111, 114, 100, 101, 114]), ("OrderAssemblerModel", 138, "whole", [119, 104, 111, 108, 101]), ("OrderAssemblerModel", 292, " x", [32, 120]), ("OrderAssemblerModel", 298, " c", [32, 99]), ("OrderAssemblerModel", 300, " d", [32, 100]), ("OrderAssemblerModel", 302, " w", [32, 119]), ("OrderAssemblerModel", 304, " o", [32, 111]), ("OrderAssemblerModel", 306, " \x72", [32, 114]), ("OrderAssemblerModel", 308, " s", [32, 115]), ("OrderAssemblerModel", 310, " cancelled", [32, 99, 97, 110, 99, 101, 108, 108, 101, 100]), ("OrderAssemblerModel", 312, " ", [32])]
def oa_NC : List (String × String) := [("java/lang/IllegalArgumentException", "java/lang/IndexOutOfBoundsException"), ("java/lang/IllegalStateException", "java/lang/IndexOutOfBoundsException"), ("java/lang/IllegalStateException", "java/lang/IllegalArgumentException")]
/-- the string constants: 1000 + j is the j-th, 1500 + j its bytes -/
def oa_SF (w : WD) (U : State) (H : Heap) : Prop :=
  (∀ (j : Nat) (q : String × Nat × String × List Int32), oa_SL[j]? = some q → vk_R q.1 q.2.1 q.2.2.1 (w.2.2.1 (1000 + j) 0) U ∧ va_O "java/lang/String" (w.2.2.1 (1000 + j) 0) (oa_A w) U H ∧ va_OF "java/lang/String" "coder" "B" (.int 0) (w.2.2.1 (1000 + j) 0) (oa_A w) U H ∧
    va_OF "java/lang/String" "value" "[B" (.ref (w.2.2.1 (1500 + j) 0)) (w.2.2.1 (1000 + j) 0) (oa_A w) U H ∧ va_T .byte (w.2.2.1 (1500 + j) 0) q.2.2.2.length (fun i => .int (q.2.2.2.getD i 0)) (oa_A w) U H) ∧
  va_Z "java/lang/String" "COMPACT_STRINGS" "Z" (.int 1) (oa_A w) U H ∧ (va_Z "jdk/internal/util/Preconditions" "SIOOBE_FORMATTER" "Ljava/util/function/BiFunction;" .null (oa_A w) U H ∨ va_Z "jdk/internal/util/Preconditions" "SIOOBE_FORMATTER" "Ljava/util/function/BiFunction;" (.ref (w.2.2.1 3000 0)) (oa_A w) U H) ∧ (∀ q ∈ oa_NC, va_Nc q.1 q.2 U)
theorem oa_SF.moved {w : WD} {s U : State} {H H1 : Heap} (h : oa_SF w s H) (hW : s.WarmedH U.vm) (hq : ∀ q : Nat, q < H.size → ¬ oa_A w q → H1[q]? = H[q]?) : oa_SF w U H1 := by
  obtain ⟨h1, h2, h3, h4⟩ := h
  refine ⟨fun j q hj => ?_, (va_Z.moved hW.alike h2).kept hq, h3.imp (fun z => (va_Z.moved hW.alike z).kept hq) (fun z => (va_Z.moved hW.alike z).kept hq), fun q hq' => va_Nc.moved hW.alike (h4 q hq')⟩
  obtain ⟨a1, a2, a3, a4, a5⟩ := h1 j q hj
  exact ⟨vk_R.warm hW a1, (va_O.moved hW.alike a2).kept hq, (va_OF.moved hW.alike a3).kept hq, (va_OF.moved hW.alike a4).kept hq, (va_T.moved hW.alike a5).kept hq⟩
/-- facts of a state that every method hands to its callees -/
def oa_JF (w : WD) (l : Launch) (U : State) (H : Heap) : Prop :=
  l.flags = flags0 ∧ (∀ q ∈ oa_GT, ∀ a : Array Value, q.before a U = true) ∧ (∀ (o : String) (i : Nat) (y : MethodName) (n : String), Cond.methodLinkNest o i y n ∈ lw_tbl → va_Nw (.methodLinkNest o i y n) U) ∧
  va_K w.1 vwCl (oa_tys w) U ∧ w.2.2.2 ≤ H.size ∧
  vx_Zq Bundle.tN "UNASSIGNED_STACK" Bundle.steD (oa_A w) U H ∧ vx_Zq Bundle.tN "SUPPRESSED_SENTINEL" Bundle.listD (oa_A w) U H ∧
  (∀ C T : String, Cond.castable C T ∈ lw_tbl → va_Nw (.castable C T) U) ∧ (∀ x : MethodName, Cond.declares x ∈ lw_tbl → va_Nw (.declares x) U) ∧ oa_SF w U H
theorem oa_JF.moved {w : WD} {l : Launch} {s U : State} {H H1 : Heap} (h : oa_JF w l s H) (hW : s.WarmedH U.vm) (hz : H.size ≤ H1.size) (hq : ∀ q : Nat, q < H.size → ¬ oa_A w q → H1[q]? = H[q]?) : oa_JF w l U H1 := by
  obtain ⟨h1, h2, h3, h4, h5, h6, h7, h8, h9, h10⟩ := h
  refine ⟨h1, fun q hq' a => ?_, fun o i y n hn => (h3 o i y n hn).warmM hW, va_K.moved hW.alike h4, Nat.le_trans h5 hz, (vx_Zq.moved hW.alike h6).kept hq, (vx_Zq.moved hW.alike h7).kept hq, fun C T hc => (h8 C T hc).warmC hW, fun x hx => (h9 x hx).warmD hW, h10.moved hW hq⟩
  exact word_at hW (good_of_word (List.mem_filter.mp hq').2) (h2 q hq' #[])
/-- the frame of method M: what never changes while it runs -/
def oa_Fx (w : WD) (p : Program) (l : Launch) (s : State) (m : MethodId) (meth : Method) (c : Code) (M : MD) : Prop :=
  p.tables.exec = Jvm.exec ∧ c.code = M.2.1 ∧ c.maxLocals = M.2.2.1 ∧ meth.sig.returnType = M.2.2.2.1 ∧ s.vm.findClass M.1.cls = some m.cls ∧ meth.locks = false ∧ c.exceptionTable.toList = tableOf M.2.2.2.2 ∧ oa_JF w l s s.heap
def oa_QC (w : WD) (Qr : Option AV → Hp → Prop) : Array Value → State → Outcome → State → Prop := fun _ st o t => ∃ (v : Option AV) (h' : Hp), o = .returned (v.map (oa_cz w)) ∧ (∀ x ∈ v, oa_vd x) ∧ Qr v h' ∧ oa_RP w h' t.heap ∧ va_F (oa_A w) st t
def oa_XC (w : WD) (Qx : String → Hp → Prop) : String → State → State → Prop := fun E st t => ∃ h' : Hp, Qx E h' ∧ oa_RP w h' t.heap ∧ va_F (oa_A w) st t
def oa_lz (w : WD) (L : List (Nat × AV)) : List (Nat × Value) := L.map fun q => (q.1, oa_cz w q.2)
/-- from here, with room for rb throws and d frames more, M ends: by a return with Qr, or by a throw with Qx -/
def AW (X : WD → State → Prop) (d rb : Nat) (M : MD) (pc : Nat) (L : List (Nat × AV)) (S : List AV) (h : Hp) (Qr : Option AV → Hp → Prop) (Qx : String → Hp → Prop) : Prop :=
  ∀ (w : WD) (p : Program) (l : Launch) (e : Env) (R : Room) (s : State) (m : MethodId) (args : Array Value) (below : List Frame) (meth : Method) (c : Code) (mc ms : Nat),
    oa_Fx w p l s m meth c M → X w s → d ≤ R.frames → 64 * d ≤ R.locals → mc ≤ R.cells → ms ≤ R.slots →
    ∀ (H : Heap) (locs : List Loc) (cells slots : Nat) (ls : Array Slot), cells + rb ≤ mc → slots + 6 * rb ≤ ms → oa_RP w h H → va_S (oa_A w) s.heap H locs → lv_has ls M.2.2.1 (oa_lz w L) → (∀ q ∈ L, oa_vd q.2) → (∀ v ∈ S, oa_vd v) →
    W p l e R s m args below meth c H locs cells slots (vx_MQ below (oa_QC w Qr) (oa_XC w Qx) args s mc ms (oa_A w)) (F0 m pc ls (S.map (oa_cz w)))
def oa_rm (d k : Nat) : Room := { frames := d, cells := k, slots := 6 * k, locals := 64 * d }
def oa_cw (M : MD) : Cond := .code M.1 M.2.1 M.2.2.1 M.2.2.2.1
def oa_PC (w : WD) (l : Launch) (as : List AV) (h : Hp) : Array Value → State → Prop := fun a U => a = (as.map (oa_cz w)).toArray ∧ (∀ v ∈ as, oa_vd v) ∧ oa_JF w l U U.heap ∧ oa_RP w h U.heap
/-- a call of M: k throws at most, d frames -/
def CL (k d : Nat) (M : MD) (as : List AV) (h : Hp) (Qr : Option AV → Hp → Prop) (Qx : String → Hp → Prop) : Prop :=
  ∀ (w : WD) (l : Launch), vx_Met l M.1 [oa_cw M] (oa_rm d k) (oa_PC w l as h) (oa_QC w Qr) (oa_XC w Qx) k (6 * k) (oa_A w)
