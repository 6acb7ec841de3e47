theorem oa_ofW {l : Launch} {y : MethodName} {ws ws' : List Cond} {rm : Room} {Pc : Array Value → State → Prop} {Qc : Array Value → State → Outcome → State → Prop} {XC : String → State → State → Prop} {mc ms : Nat} {free : Addr → Prop} {cc : ByteArray} {maxL : Nat} {ret : Option FieldType}
    (hy : plainFor y = true) (hw : ws = Cond.code y cc maxL ret :: ws')
    (body : ∀ p e s m args below meth c s₁, BodyLoose p l y (headSpec ws rm) cc maxL ret e s m args below meth c s₁ → c.maxLocals = maxL → (∀ x ∈ c.exceptionTable.toList, False) → Pc args s →
      W p l e (headSpec ws rm).room s m args below meth c s.heap [] 0 0 (vx_MQ below Qc XC args s mc ms free) (entryFrame m args maxL)) : vx_Met l y ws rm Pc Qc XC mc ms free := by
  refine MetFree.of_bodySF (code := cc) (maxLocals := maxL) (ret := ret) hy ?_ ?_
  · intro args s m h hn
    obtain ⟨meth, c, h1, h2, h3, h4, h5, h6, -, -⟩ := Cond.code_spec hn (atoms_spec (ws := ws) h _ (by rw [hw]; exact List.mem_cons_self))
    exact ⟨meth, c, h1, h2, h3, h4, h5, h6⟩
  · intro p e s m args below meth c s₁ B hml hP _
    have hh0 : s₁.heap = s.heap := by rw [B.state]; rfl
    have ht : ∀ x ∈ c.exceptionTable.toList, False := by
      obtain ⟨meth9, c9, h1, h2, -, -, -, -, h7, -⟩ := Cond.code_spec B.named (atoms_spec (ws := ws) B.pre _ (by rw [hw]; exact List.mem_cons_self))
      cases Option.some.inj (h1.symm.trans B.method)
      cases Option.some.inj (h2.symm.trans (Stand.of_body B).code)
      intro x hx
      rw [Array.isEmpty_iff.mp h7] at hx
      cases hx
    obtain ⟨t, a1, o, b1, b2, b3⟩ := body p e s m args below meth c s₁ B hml ht hP s₁ hh0 (Stand.of_body B)
    exact ⟨t, o, a1, b1, b2, b3⟩
theorem CL.ofF {k d : Nat} {M : MD} {as : List AV} {h : Hp} {Qr : Option AV → Hp → Prop} {Qx : String → Hp → Prop} (hy : plainFor M.1 = true) (hh : M.2.2.2.2 = []) (hl : (as.map oa_cat).sum ≤ M.2.2.1)
    (kk : AW (fun _ _ => True) d k M 0 (oa_la 0 as) [] h Qr Qx) : CL k d M as h Qr Qx := by
  intro w l
  refine oa_ofW (cc := M.2.1) (maxL := M.2.2.1) (ret := M.2.2.2.1) (ws' := []) hy rfl ?_
  intro p e s m args below meth c s₁ B hml ht hv
  obtain ⟨rfl, hvd, hJ, hRP⟩ := hv
  have hown : s.vm.findClass M.1.cls = some m.cls := findClass_of_methodNamed B.named
  have hle := lv_entry (as.map (oa_cz w)) (n := M.2.2.1) (by rw [oa_sl_len]; exact hl)
  rw [oa_la_lz] at hle
  rw [lg_entry_eq]
  refine kk w p l e _ s m _ below meth c k (6 * k) ⟨B.exec, B.bytes, hml, B.returns, hown, B.notSynchronized, ?_, hJ⟩ trivial (Nat.le_refl _) (Nat.le_refl _) (Nat.le_refl _) (Nat.le_refl _) s.heap [] 0 0 _ (by omega) (by omega) hRP va_S.rf hle (fun q hq => hvd _ (oa_la_mem hq)) (fun v hv => nomatch hv)
  rw [hh]
  exact List.eq_nil_iff_forall_not_mem.mpr (fun x hx => ht x hx)
def oa_N : Nat := 100000
def oa_ex : Nat → String
  | 1 => "java/lang/IndexOutOfBoundsException"
  | 2 => "java/lang/IllegalArgumentException"
  | _ => "java/lang/IllegalStateException"
/-- String.length() and charAt(i) of the constant j -/
def oa_by (j : Nat) : List Int32 := (oa_SL.getD j ("", 0, "", [])).2.2.2
def p_J0_length_8abf5 (_ : Hp) (j : Nat) : Prop := j < 36
def f_J0_length_8abf5 (_ : Hp) (j : Nat) : Int32 := nI (oa_by j).length
def p_J0_charAt_5068e (_ : Hp) (j : Nat) (a : Int32) : Prop := j < 36 ∧ vp_in a (oa_by j).length
def f_J0_charAt_5068e (_ : Hp) (j : Nat) (a : Int32) : Int32 := (oa_by j).getD a.toNatClampNeg 0
theorem c_J0_length_8abf5 {d : Nat} {h : Hp} {P : Int32 → Hp → Prop} {Qx : String → Hp → Prop} {j : Nat} (hp : p_J0_length_8abf5 h j) (k : P (f_J0_length_8abf5 h j) h) : CL 0 (d + 3) mJ0_length_8abf5 [vR (1000 + j) 0] h (oI P) Qx := by
  sorry
theorem c_J0_charAt_5068e {d : Nat} {h : Hp} {P : Int32 → Hp → Prop} {Qx : String → Hp → Prop} {j : Nat} {a : Int32} (hp : p_J0_charAt_5068e h j a) (k : P (f_J0_charAt_5068e h j a) h) : CL 0 (d + 5) mJ0_charAt_5068e [vR (1000 + j) 0, vI a] h (oI P) Qx := by
  sorry
theorem pf_J7_fill_53178 : plainFor mJ7_fill_53178.1 = true := by decide +kernel
theorem pf_J9_floorMod_7cf53 : plainFor mJ9_floorMod_7cf53.1 = true := by decide +kernel
theorem pf_J0_length_8abf5 : plainFor mJ0_length_8abf5.1 = true := by decide +kernel
theorem pf_J0_charAt_5068e : plainFor mJ0_charAt_5068e.1 = true := by decide +kernel
theorem pf_J0_coder_7d493 : plainFor mJ0_coder_7d493.1 = true := by decide +kernel
theorem pf_J0_isLatin1_aae02 : plainFor mJ0_isLatin1_aae02.1 = true := by decide +kernel
theorem pf_J0_checkIndex_df160 : plainFor mJ0_checkIndex_df160.1 = true := by decide +kernel
theorem pf_J1_charAt_3b067 : plainFor mJ1_charAt_3b067.1 = true := by decide +kernel
theorem pf_J3_checkIndex_8e157 : plainFor mJ3_checkIndex_8e157.1 = true := by decide +kernel
