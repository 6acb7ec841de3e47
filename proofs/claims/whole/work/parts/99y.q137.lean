/-! what the statement gives of the start (start.py) -/
def bz_gv : List Cond := flatC (Jvm.Cond.and given_1 narrow_1)
def bz_st : List Nat := [56, 64, 75, 83, 92, 101, 128, 147, 163, 194, 211, 227, 247, 253, 259, 265, 271, 277, 283, 289, 303, 308, 313, 322, 334, 343, 353, 363, 370, 377, 384, 391, 398, 405, 412, 427]
def bz_si : List Nat := [791, 901, 945, 951, 957, 1003, 1063, 1108, 1199, 1228, 1349, 1389, 1526, 1538, 1539, 1540, 1542, 1543, 1544, 1545, 1553, 1554, 1686, 1720, 1733, 1738, 1743, 2087, 2100, 2101, 2102, 2103, 2104, 2105, 2106, 2111]
def bz_sv (q : String × Nat × String × List Int32) : Term := .field (.string q.1 q.2.1) "java/lang/String" "value" "[B"
def bz_sc (q : String × Nat × String × List Int32) : List Cond := [.exactly (.string q.1 q.2.1) "java/lang/String", .eq (.field (.string q.1 q.2.1) "java/lang/String" "coder" "B") (.int 0), .arrayOf (bz_sv q) .byte, .eq (.length (bz_sv q)) (.int (Int32.ofNat q.2.2.2.length))] ++ (List.range q.2.2.2.length).map fun j => .eq (.elem (bz_sv q) (.int (Int32.ofNat j))) (.int (q.2.2.2.getD j 0))
theorem bz_sck : ((oa_SL.zip (bz_st.zip bz_si)).all fun p => decide ((bz_gv.drop p.2.1).take (4 + p.1.2.2.2.length) = bz_sc p.1) && decide (lw_tbl[p.2.2]? = some (.stringRef p.1.1 p.1.2.1 p.1.2.2.1)) && decide (p.1.2.2.2.length < 100)) = true := by decide +kernel
theorem bz_scl : oa_SL.length = 36 ∧ (bz_st.zip bz_si).length = 36 := by decide +kernel
section STF
variable {s : State} {args : Array Value} {A : Nat → Prop}
theorem ss_of {j : Nat} {q : String × Nat × String × List Int32} (hg : ∀ c ∈ bz_gv, c.before args s = true) (hts : ∀ w ∈ lw_tbl, w.before args s = true) (hA : ∀ a : Nat, a < s.heap.size → ¬ A a) (hj : oa_SL[j]? = some q) :
    ∃ a v : Nat, vk_R q.1 q.2.1 q.2.2.1 a s ∧ va_O "java/lang/String" a A s s.heap ∧ va_OF "java/lang/String" "coder" "B" (.int 0) a A s s.heap ∧ va_OF "java/lang/String" "value" "[B" (.ref v) a A s s.heap ∧ va_T .byte v q.2.2.2.length (fun i => .int (q.2.2.2.getD i 0)) A s s.heap := by
  have hl : j < 36 := by
    have := (List.getElem?_eq_some_iff.mp hj).1
    rw [bz_scl.1] at this
    exact this
  have hz : (bz_st.zip bz_si)[j]? = some ((bz_st.zip bz_si)[j]'(by rw [bz_scl.2]; exact hl)) := List.getElem?_eq_getElem _
  generalize (bz_st.zip bz_si)[j]'(by rw [bz_scl.2]; exact hl) = z at hz
  have hm : (q, z) ∈ oa_SL.zip (bz_st.zip bz_si) := List.mem_of_getElem? (i := j) (by rw [List.getElem?_zip_eq_some]; exact ⟨hj, hz⟩)
  have a := List.all_eq_true.mp bz_sck _ hm
  simp only [Bool.and_eq_true, decide_eq_true_eq] at a
  obtain ⟨⟨a1, a2⟩, a3⟩ := a
  have hc : ∀ c ∈ bz_sc q, c.before args s = true := fun c hc => hg c (List.mem_of_mem_drop (List.mem_of_mem_take (by rw [a1]; exact hc)))
  have c0 := hc (.exactly (.string q.1 q.2.1) "java/lang/String") (List.mem_append_left _ List.mem_cons_self)
  have c1 := hc (.eq (.field (.string q.1 q.2.1) "java/lang/String" "coder" "B") (.int 0)) (List.mem_append_left _ (List.mem_cons_of_mem _ List.mem_cons_self))
  have c2 := hc (.arrayOf (bz_sv q) .byte) (List.mem_append_left _ (List.mem_cons_of_mem _ (List.mem_cons_of_mem _ List.mem_cons_self)))
  have c3 := hc (.eq (.length (bz_sv q)) (.int (Int32.ofNat q.2.2.2.length))) (List.mem_append_left _ (List.mem_cons_of_mem _ (List.mem_cons_of_mem _ (List.mem_cons_of_mem _ List.mem_cons_self))))
  have c4 : ∀ j : Nat, j < q.2.2.2.length → (Cond.eq (.elem (bz_sv q) (.int (Int32.ofNat j))) (.int (q.2.2.2.getD j 0))).before args s = true := fun j hj => hc _ (List.mem_append_right _ (List.mem_map.mpr ⟨j, List.mem_range.mpr hj, rfl⟩))
  obtain ⟨a, c, cA, kA, q1, q2, q3, q4, q5, q6, -⟩ := Cond.exactly_spec (args := args) (first := s) (o := none) (s := s) (idx := []) (t := .string q.1 q.2.1) (cls := "java/lang/String") c0
  obtain ⟨t, ht, hT⟩ := va_Tof (f := fun j => .int (q.2.2.2.getD j 0)) (A := A) (by omega) c2 (va_eqt c3) (fun j hj => va_eqt (c4 j hj)) hA
  exact ⟨a, t, vk_R.of (hts _ (List.mem_of_getElem? a2)) q1, ⟨cA, q3, q5, by rw [q6]; exact q2, hA a (Array.getElem?_eq_some_iff.mp q3).1⟩, vk_OFof q1 (va_eqt c1) hA, vk_OFof q1 ht hA, hT⟩
theorem ss_ac {ty : FieldType} (h : (Cond.arrayClass ty).before args s = true) (ho : ∀ C, ty ≠ .object C) : ∃ c : ClassId, ArrOfT s c ty ∧ va_RA s c ty := by
  obtain ⟨c, k, comp, hc, hk, hkind⟩ := Cond.arrayClass_spec h
  refine ⟨c, fun n z => ⟨fun k h => (by cases h), k, hk, comp, hkind⟩, ?_⟩
  cases ty with
  | object C => exact absurd rfl (ho C)
  | _ => exact hc
theorem ss_oi (h : (Cond.arrayOver (.array .int)).before args s = true) : ∃ c : ClassId, ArrOfT s c (.array .int) ∧ va_RA s c (.array .int) := by
  obtain ⟨comp, c, k, hcomp, hk, hkind, hname⟩ := Cond.arrayOver_specA h
  exact ⟨c, fun n z => ⟨fun k h => (by cases h), k, hk, comp, hkind⟩, hname⟩
theorem ss_ol (h : (Cond.arrayOver (.object "OrderAssembler$Ledger")).before args s = true) : ∃ c : ClassId, ArrOfT s c (.object "OrderAssembler$Ledger") ∧ va_RA s c (.object "OrderAssembler$Ledger") := by
  obtain ⟨comp, c, k, hcomp, hidx, hk, hkind, hname⟩ := Cond.arrayOver_spec h
  exact ⟨c, fun n z => ⟨fun k h => (by cases h), k, hk, comp, hkind⟩, k, comp, hk, hkind, hcomp, hname⟩
end STF
