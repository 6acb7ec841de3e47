/-! load: the model's line of an order, summed up by hand -/
def og1 (hm : Hp) : Hp := g_X12_must hm (if 20 ≤ hm.1 57 0 3 then (0 : Int32) else 1) 4
def og2 (hm : Hp) : Hp := hp_i (og1 hm) 12 0 4 ((og1 hm).1 12 0 4 + 5)
def og3 (hm : Hp) : Hp := g_X12_must (g_X12_named (og2 hm)) (if f_X12_named (og2 hm) < 12 then (0 : Int32) else 1) 3
def oix (hm : Hp) : Int32 := 406 + (5 * ((g_X12_letters (og3 hm)).1 57 0 3))
def og4 (hm : Hp) : Hp := hp_i (hp_i (g_X12_letters (og3 hm)) 12 0 4 ((og3 hm).1 12 0 4 + f_X12_letters (og3 hm))) 57 0 (oix hm).toNatClampNeg (f_X12_named (og2 hm) - 12)
def og5 (hm : Hp) : Hp := hp_i (g_X12_number (og4 hm) 1 99) 57 0 (oix hm + 1).toNatClampNeg (f_X12_number (og4 hm) 1 99)
def og6 (hm : Hp) : Hp := hp_i (g_X12_number (og5 hm) 0 9) 57 0 (oix hm + 2).toNatClampNeg (f_X12_number (og5 hm) 0 9)
def og7 (hm : Hp) : Hp := hp_i (g_X12_number (og6 hm) 0 999) 57 0 (oix hm + 3).toNatClampNeg (f_X12_number (og6 hm) 0 999)
def og8 (hm : Hp) : Hp := hp_i (g_X12_takes (og7 hm) 26) 57 0 (oix hm + 4).toNatClampNeg (if f_X12_takes (og7 hm) 26 = 0 then (0 : Int32) else 1)
def og (hm : Hp) : Hp := if f_X12_hasFailed (og1 hm) = 0 then (if f_X12_hasFailed (og3 hm) = 0 then hp_i (og8 hm) 57 0 3 ((og8 hm).1 57 0 3 + 1) else og3 hm) else og1 hm
def op (hm : Hp) : Prop := f_X12_hasFailed (og1 hm) = 0 → (p_X12_named (og2 hm) ∧ (f_X12_hasFailed (og3 hm) = 0 → (p_X12_letters (og3 hm) ∧ vp_in (oix hm) 506 ∧ p_X12_number (og4 hm) 1 99 ∧ vp_in (oix hm + 1) 506 ∧ p_X12_number (og5 hm) 0 9 ∧ vp_in (oix hm + 2) 506 ∧ p_X12_number (og6 hm) 0 999 ∧ vp_in (oix hm + 3) 506 ∧ p_X12_takes (og7 hm) 26 ∧ vp_in (oix hm + 4) 506)))
theorem c_X12_order {d : Nat} {hm : Hp} {P : Hp → Prop} {Qx : String → Hp → Prop} (hp : op hm) (k : P (og hm)) : CL 0 (d + 9) mX12_order [vR 12 0] hm (oV P) Qx := by
  refine CL.ofF (plainFor_of_name rfl) rfl (Nat.le_of_ble_eq_true rfl) (vc_X12_order_0 (d := d + 8) ?_)
  refine c_X12_must (d := d + 6) (m_pM _ _ _) ?_
  unfold op og og8 og7 og6 og5 og4 oix og3 og2 og1 at *
  generalize g_X12_must hm (if 20 ≤ hm.1 57 0 3 then (0 : Int32) else 1) 4 = o1 at hp k ⊢
  refine c_X12_hasFailed (d := d + 7) (m_pF _) ?_
  refine ⟨fun z => ?_, fun z => ?_⟩
  · rw [if_pos z] at k
    obtain ⟨p1, p2⟩ := hp z
    refine c_X12_named p1 ?_
    generalize f_X12_named (hp_i o1 12 0 4 (o1.1 12 0 4 + 5)) = r5 at p2 k ⊢
    generalize g_X12_named (hp_i o1 12 0 4 (o1.1 12 0 4 + 5)) = o2 at p2 k ⊢
    refine c_X12_must (d := d + 6) (m_pM _ _ _) ?_
    generalize g_X12_must o2 (if r5 < 12 then (0 : Int32) else 1) 3 = o3 at p2 k ⊢
    refine c_X12_hasFailed (d := d + 7) (m_pF _) ?_
    refine ⟨fun y => ?_, fun y => ?_⟩
    · rw [if_pos y] at k
      obtain ⟨q1, v0, q2, v1, q3, v2, q4, v3, q5, v4⟩ := p2 y
      refine c_X12_letters q1 ?_
      generalize f_X12_letters o3 = r10 at *
      generalize g_X12_letters o3 = o4 at *
      refine ⟨v0, ?_⟩
      generalize hp_i (hp_i o4 12 0 4 (o3.1 12 0 4 + r10)) 57 0 (406 + 5 * o4.1 57 0 3).toNatClampNeg (r5 - 12) = o5 at *
      refine c_X12_number q2 ?_
      refine ⟨v1, ?_⟩
      generalize hp_i (g_X12_number o5 1 99) 57 0 (406 + 5 * o4.1 57 0 3 + 1).toNatClampNeg (f_X12_number o5 1 99) = o6 at *
      refine c_X12_number q3 ?_
      refine ⟨v2, ?_⟩
      generalize hp_i (g_X12_number o6 0 9) 57 0 (406 + 5 * o4.1 57 0 3 + 2).toNatClampNeg (f_X12_number o6 0 9) = o7 at *
      refine c_X12_number q4 ?_
      refine ⟨v3, ?_⟩
      generalize hp_i (g_X12_number o7 0 999) 57 0 (406 + 5 * o4.1 57 0 3 + 3).toNatClampNeg (f_X12_number o7 0 999) = o8 at *
      refine c_X12_takes (j1 := 26) (by omega) q5 ?_
      exact ⟨v4, k⟩
    · rw [if_neg y] at k
      exact k
  · rw [if_neg z] at k
    exact k
