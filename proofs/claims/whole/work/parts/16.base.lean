def oa_N : Nat := 100000
def oa_ex : Nat → String
  | 1 => "java/lang/IndexOutOfBoundsException"
  | 2 => "java/lang/IllegalArgumentException"
  | _ => "java/lang/IllegalStateException"
/-- String.length() and charAt(i) of the constant j -/
def oa_by (j : Nat) : List Int32 := (oa_SL.getD j ("", 0, "", [])).2.2.2
def p_J0_length_8abf5 (_ : Hp) (j : Nat) : Prop := j < 36
def f_J0_length_8abf5 (_ : Hp) (j : Nat) : Int32 := nI (oa_by j).length
def p_J0_charAt_5068e (_ : Hp) (j : Nat) (a : Int32) : Prop := j < 36 ∧ vp_in a (oa_by j).length
def f_J0_charAt_5068e (_ : Hp) (j : Nat) (a : Int32) : Int32 := (oa_by j).getD a.toNatClampNeg 0
theorem c_J0_length_8abf5 {d : Nat} {h : Hp} {P : Int32 → Hp → Prop} {Qx : String → Hp → Prop} {j : Nat} (hp : p_J0_length_8abf5 h j) (k : P (f_J0_length_8abf5 h j) h) : CL 0 (d + 3) mJ0_length_8abf5 [vR (1000 + j) 0] h (oI P) Qx := by
  sorry
theorem c_J0_charAt_5068e {d : Nat} {h : Hp} {P : Int32 → Hp → Prop} {Qx : String → Hp → Prop} {j : Nat} {a : Int32} (hp : p_J0_charAt_5068e h j a) (k : P (f_J0_charAt_5068e h j a) h) : CL 0 (d + 5) mJ0_charAt_5068e [vR (1000 + j) 0, vI a] h (oI P) Qx := by
  sorry
