def p_X11_reserve (h : Hp) (a1 : Int32) (a2 : Int32) : Prop := p_X11_checkOrder h a1 ∧ (x_X11_checkOrder h a1 = 0 → (p_X11_checkArgument h (if a2 < 1 then (0 : Int32) else 1) ∧ (x_X11_checkArgument h (if a2 < 1 then (0 : Int32) else 1) = 0 → (p_X6_openOf h (h.2.2 11 0 7) a1 ∧ ((((f_X6_openOf h (h.2.2 11 0 7) a1) < a2) → (p_X11_checkState h 0 ∧ (x_X11_checkState h 0 = 0 → (p_X10_fillFree h (h.2.2 11 0 7) 53 0 12 ∧ (p_X6_productOf (g_X10_fillFree h (h.2.2 11 0 7) 53 0 12) (h.2.2 11 0 7) a1 ∧ (p_X1_mostUnits (g_X10_fillFree h (h.2.2 11 0 7) 53 0 12) ((g_X10_fillFree h (h.2.2 11 0 7) 53 0 12).2.2 11 0 6) (f_X6_productOf (g_X10_fillFree h (h.2.2 11 0 7) 53 0 12) (h.2.2 11 0 7) a1) 53 0 12 ∧ (p_X11_checkState (g_X10_fillFree h (h.2.2 11 0 7) 53 0 12) (if (f_X1_mostUnits (g_X10_fillFree h (h.2.2 11 0 7) 53 0 12) ((g_X10_fillFree h (h.2.2 11 0 7) 53 0 12).2.2 11 0 6) (f_X6_productOf (g_X10_fillFree h (h.2.2 11 0 7) 53 0 12) (h.2.2 11 0 7) a1) 53 0 12) < a2 then (0 : Int32) else 1) ∧ (x_X11_checkState (g_X10_fillFree h (h.2.2 11 0 7) 53 0 12) (if (f_X1_mostUnits (g_X10_fillFree h (h.2.2 11 0 7) 53 0 12) ((g_X10_fillFree h (h.2.2 11 0 7) 53 0 12).2.2 11 0 6) (f_X6_productOf (g_X10_fillFree h (h.2.2 11 0 7) 53 0 12) (h.2.2 11 0 7) a1) 53 0 12) < a2 then (0 : Int32) else 1) = 0 → (p_X3_record (g_X10_fillFree h (h.2.2 11 0 7) 53 0 12) ((g_X10_fillFree h (h.2.2 11 0 7) 53 0 12).2.2 11 0 7) ∧ (p_X5_changeReserved (g_X3_record (g_X10_fillFree h (h.2.2 11 0 7) 53 0 12) ((g_X10_fillFree h (h.2.2 11 0 7) 53 0 12).2.2 11 0 7)) ((g_X3_record (g_X10_fillFree h (h.2.2 11 0 7) 53 0 12) ((g_X10_fillFree h (h.2.2 11 0 7) 53 0 12).2.2 11 0 7)).2.2 11 0 7) ((g_X3_record (g_X10_fillFree h (h.2.2 11 0 7) 53 0 12) ((g_X10_fillFree h (h.2.2 11 0 7) 53 0 12).2.2 11 0 7)).2.2 11 0 6) a1 a2 ∧ (p_X6_openOf (g_X5_changeReserved (g_X3_record (g_X10_fillFree h (h.2.2 11 0 7) 53 0 12) ((g_X10_fillFree h (h.2.2 11 0 7) 53 0 12).2.2 11 0 7)) ((g_X3_record (g_X10_fillFree h (h.2.2 11 0 7) 53 0 12) ((g_X10_fillFree h (h.2.2 11 0 7) 53 0 12).2.2 11 0 7)).2.2 11 0 7) ((g_X3_record (g_X10_fillFree h (h.2.2 11 0 7) 53 0 12) ((g_X10_fillFree h (h.2.2 11 0 7) 53 0 12).2.2 11 0 7)).2.2 11 0 6) a1 a2) (h.2.2 11 0 7) a1 ∧ True))))))))))) ∧ ((¬ (f_X6_openOf h (h.2.2 11 0 7) a1) < a2) → (p_X6_mayMove h (h.2.2 11 0 7) a1 a2 ∧ (p_X11_checkState h (if (f_X6_mayMove h (h.2.2 11 0 7) a1 a2) = 0 then (0 : Int32) else 1) ∧ (x_X11_checkState h (if (f_X6_mayMove h (h.2.2 11 0 7) a1 a2) = 0 then (0 : Int32) else 1) = 0 → (p_X10_fillFree h (h.2.2 11 0 7) 53 0 12 ∧ (p_X6_productOf (g_X10_fillFree h (h.2.2 11 0 7) 53 0 12) (h.2.2 11 0 7) a1 ∧ (p_X1_mostUnits (g_X10_fillFree h (h.2.2 11 0 7) 53 0 12) ((g_X10_fillFree h (h.2.2 11 0 7) 53 0 12).2.2 11 0 6) (f_X6_productOf (g_X10_fillFree h (h.2.2 11 0 7) 53 0 12) (h.2.2 11 0 7) a1) 53 0 12 ∧ (p_X11_checkState (g_X10_fillFree h (h.2.2 11 0 7) 53 0 12) (if (f_X1_mostUnits (g_X10_fillFree h (h.2.2 11 0 7) 53 0 12) ((g_X10_fillFree h (h.2.2 11 0 7) 53 0 12).2.2 11 0 6) (f_X6_productOf (g_X10_fillFree h (h.2.2 11 0 7) 53 0 12) (h.2.2 11 0 7) a1) 53 0 12) < a2 then (0 : Int32) else 1) ∧ (x_X11_checkState (g_X10_fillFree h (h.2.2 11 0 7) 53 0 12) (if (f_X1_mostUnits (g_X10_fillFree h (h.2.2 11 0 7) 53 0 12) ((g_X10_fillFree h (h.2.2 11 0 7) 53 0 12).2.2 11 0 6) (f_X6_productOf (g_X10_fillFree h (h.2.2 11 0 7) 53 0 12) (h.2.2 11 0 7) a1) 53 0 12) < a2 then (0 : Int32) else 1) = 0 → (p_X3_record (g_X10_fillFree h (h.2.2 11 0 7) 53 0 12) ((g_X10_fillFree h (h.2.2 11 0 7) 53 0 12).2.2 11 0 7) ∧ (p_X5_changeReserved (g_X3_record (g_X10_fillFree h (h.2.2 11 0 7) 53 0 12) ((g_X10_fillFree h (h.2.2 11 0 7) 53 0 12).2.2 11 0 7)) ((g_X3_record (g_X10_fillFree h (h.2.2 11 0 7) 53 0 12) ((g_X10_fillFree h (h.2.2 11 0 7) 53 0 12).2.2 11 0 7)).2.2 11 0 7) ((g_X3_record (g_X10_fillFree h (h.2.2 11 0 7) 53 0 12) ((g_X10_fillFree h (h.2.2 11 0 7) 53 0 12).2.2 11 0 7)).2.2 11 0 6) a1 a2 ∧ (p_X6_openOf (g_X5_changeReserved (g_X3_record (g_X10_fillFree h (h.2.2 11 0 7) 53 0 12) ((g_X10_fillFree h (h.2.2 11 0 7) 53 0 12).2.2 11 0 7)) ((g_X3_record (g_X10_fillFree h (h.2.2 11 0 7) 53 0 12) ((g_X10_fillFree h (h.2.2 11 0 7) 53 0 12).2.2 11 0 7)).2.2 11 0 7) ((g_X3_record (g_X10_fillFree h (h.2.2 11 0 7) 53 0 12) ((g_X10_fillFree h (h.2.2 11 0 7) 53 0 12).2.2 11 0 7)).2.2 11 0 6) a1 a2) (h.2.2 11 0 7) a1 ∧ True)))))))))))))))))
def f_X11_reserve (h : Hp) (a1 : Int32) (a2 : Int32) : Int32 := if x_X11_checkOrder h a1 = 0 then (if x_X11_checkArgument h (if a2 < 1 then (0 : Int32) else 1) = 0 then (if (f_X6_openOf h (h.2.2 11 0 7) a1) < a2 then (if x_X11_checkState h 0 = 0 then (if x_X11_checkState (g_X10_fillFree h (h.2.2 11 0 7) 53 0 12) (if (f_X1_mostUnits (g_X10_fillFree h (h.2.2 11 0 7) 53 0 12) ((g_X10_fillFree h (h.2.2 11 0 7) 53 0 12).2.2 11 0 6) (f_X6_productOf (g_X10_fillFree h (h.2.2 11 0 7) 53 0 12) (h.2.2 11 0 7) a1) 53 0 12) < a2 then (0 : Int32) else 1) = 0 then (f_X6_openOf (g_X5_changeReserved (g_X3_record (g_X10_fillFree h (h.2.2 11 0 7) 53 0 12) ((g_X10_fillFree h (h.2.2 11 0 7) 53 0 12).2.2 11 0 7)) ((g_X3_record (g_X10_fillFree h (h.2.2 11 0 7) 53 0 12) ((g_X10_fillFree h (h.2.2 11 0 7) 53 0 12).2.2 11 0 7)).2.2 11 0 7) ((g_X3_record (g_X10_fillFree h (h.2.2 11 0 7) 53 0 12) ((g_X10_fillFree h (h.2.2 11 0 7) 53 0 12).2.2 11 0 7)).2.2 11 0 6) a1 a2) (h.2.2 11 0 7) a1) else 0) else 0) else (if x_X11_checkState h (if (f_X6_mayMove h (h.2.2 11 0 7) a1 a2) = 0 then (0 : Int32) else 1) = 0 then (if x_X11_checkState (g_X10_fillFree h (h.2.2 11 0 7) 53 0 12) (if (f_X1_mostUnits (g_X10_fillFree h (h.2.2 11 0 7) 53 0 12) ((g_X10_fillFree h (h.2.2 11 0 7) 53 0 12).2.2 11 0 6) (f_X6_productOf (g_X10_fillFree h (h.2.2 11 0 7) 53 0 12) (h.2.2 11 0 7) a1) 53 0 12) < a2 then (0 : Int32) else 1) = 0 then (f_X6_openOf (g_X5_changeReserved (g_X3_record (g_X10_fillFree h (h.2.2 11 0 7) 53 0 12) ((g_X10_fillFree h (h.2.2 11 0 7) 53 0 12).2.2 11 0 7)) ((g_X3_record (g_X10_fillFree h (h.2.2 11 0 7) 53 0 12) ((g_X10_fillFree h (h.2.2 11 0 7) 53 0 12).2.2 11 0 7)).2.2 11 0 7) ((g_X3_record (g_X10_fillFree h (h.2.2 11 0 7) 53 0 12) ((g_X10_fillFree h (h.2.2 11 0 7) 53 0 12).2.2 11 0 7)).2.2 11 0 6) a1 a2) (h.2.2 11 0 7) a1) else 0) else 0)) else 0) else 0
def g_X11_reserve (h : Hp) (a1 : Int32) (a2 : Int32) : Hp := if x_X11_checkOrder h a1 = 0 then (if x_X11_checkArgument h (if a2 < 1 then (0 : Int32) else 1) = 0 then (if (f_X6_openOf h (h.2.2 11 0 7) a1) < a2 then (if x_X11_checkState h 0 = 0 then (if x_X11_checkState (g_X10_fillFree h (h.2.2 11 0 7) 53 0 12) (if (f_X1_mostUnits (g_X10_fillFree h (h.2.2 11 0 7) 53 0 12) ((g_X10_fillFree h (h.2.2 11 0 7) 53 0 12).2.2 11 0 6) (f_X6_productOf (g_X10_fillFree h (h.2.2 11 0 7) 53 0 12) (h.2.2 11 0 7) a1) 53 0 12) < a2 then (0 : Int32) else 1) = 0 then (g_X5_changeReserved (g_X3_record (g_X10_fillFree h (h.2.2 11 0 7) 53 0 12) ((g_X10_fillFree h (h.2.2 11 0 7) 53 0 12).2.2 11 0 7)) ((g_X3_record (g_X10_fillFree h (h.2.2 11 0 7) 53 0 12) ((g_X10_fillFree h (h.2.2 11 0 7) 53 0 12).2.2 11 0 7)).2.2 11 0 7) ((g_X3_record (g_X10_fillFree h (h.2.2 11 0 7) 53 0 12) ((g_X10_fillFree h (h.2.2 11 0 7) 53 0 12).2.2 11 0 7)).2.2 11 0 6) a1 a2) else (g_X10_fillFree h (h.2.2 11 0 7) 53 0 12)) else h) else (if x_X11_checkState h (if (f_X6_mayMove h (h.2.2 11 0 7) a1 a2) = 0 then (0 : Int32) else 1) = 0 then (if x_X11_checkState (g_X10_fillFree h (h.2.2 11 0 7) 53 0 12) (if (f_X1_mostUnits (g_X10_fillFree h (h.2.2 11 0 7) 53 0 12) ((g_X10_fillFree h (h.2.2 11 0 7) 53 0 12).2.2 11 0 6) (f_X6_productOf (g_X10_fillFree h (h.2.2 11 0 7) 53 0 12) (h.2.2 11 0 7) a1) 53 0 12) < a2 then (0 : Int32) else 1) = 0 then (g_X5_changeReserved (g_X3_record (g_X10_fillFree h (h.2.2 11 0 7) 53 0 12) ((g_X10_fillFree h (h.2.2 11 0 7) 53 0 12).2.2 11 0 7)) ((g_X3_record (g_X10_fillFree h (h.2.2 11 0 7) 53 0 12) ((g_X10_fillFree h (h.2.2 11 0 7) 53 0 12).2.2 11 0 7)).2.2 11 0 7) ((g_X3_record (g_X10_fillFree h (h.2.2 11 0 7) 53 0 12) ((g_X10_fillFree h (h.2.2 11 0 7) 53 0 12).2.2 11 0 7)).2.2 11 0 6) a1 a2) else (g_X10_fillFree h (h.2.2 11 0 7) 53 0 12)) else h)) else h) else h
def x_X11_reserve (h : Hp) (a1 : Int32) (a2 : Int32) : Nat := if x_X11_checkOrder h a1 = 0 then (if x_X11_checkArgument h (if a2 < 1 then (0 : Int32) else 1) = 0 then (if (f_X6_openOf h (h.2.2 11 0 7) a1) < a2 then (if x_X11_checkState h 0 = 0 then (if x_X11_checkState (g_X10_fillFree h (h.2.2 11 0 7) 53 0 12) (if (f_X1_mostUnits (g_X10_fillFree h (h.2.2 11 0 7) 53 0 12) ((g_X10_fillFree h (h.2.2 11 0 7) 53 0 12).2.2 11 0 6) (f_X6_productOf (g_X10_fillFree h (h.2.2 11 0 7) 53 0 12) (h.2.2 11 0 7) a1) 53 0 12) < a2 then (0 : Int32) else 1) = 0 then 0 else x_X11_checkState (g_X10_fillFree h (h.2.2 11 0 7) 53 0 12) (if (f_X1_mostUnits (g_X10_fillFree h (h.2.2 11 0 7) 53 0 12) ((g_X10_fillFree h (h.2.2 11 0 7) 53 0 12).2.2 11 0 6) (f_X6_productOf (g_X10_fillFree h (h.2.2 11 0 7) 53 0 12) (h.2.2 11 0 7) a1) 53 0 12) < a2 then (0 : Int32) else 1)) else x_X11_checkState h 0) else (if x_X11_checkState h (if (f_X6_mayMove h (h.2.2 11 0 7) a1 a2) = 0 then (0 : Int32) else 1) = 0 then (if x_X11_checkState (g_X10_fillFree h (h.2.2 11 0 7) 53 0 12) (if (f_X1_mostUnits (g_X10_fillFree h (h.2.2 11 0 7) 53 0 12) ((g_X10_fillFree h (h.2.2 11 0 7) 53 0 12).2.2 11 0 6) (f_X6_productOf (g_X10_fillFree h (h.2.2 11 0 7) 53 0 12) (h.2.2 11 0 7) a1) 53 0 12) < a2 then (0 : Int32) else 1) = 0 then 0 else x_X11_checkState (g_X10_fillFree h (h.2.2 11 0 7) 53 0 12) (if (f_X1_mostUnits (g_X10_fillFree h (h.2.2 11 0 7) 53 0 12) ((g_X10_fillFree h (h.2.2 11 0 7) 53 0 12).2.2 11 0 6) (f_X6_productOf (g_X10_fillFree h (h.2.2 11 0 7) 53 0 12) (h.2.2 11 0 7) a1) 53 0 12) < a2 then (0 : Int32) else 1)) else x_X11_checkState h (if (f_X6_mayMove h (h.2.2 11 0 7) a1 a2) = 0 then (0 : Int32) else 1))) else x_X11_checkArgument h (if a2 < 1 then (0 : Int32) else 1)) else x_X11_checkOrder h a1
set_option maxHeartbeats 4000000 in
theorem c_X11_reserve {d : Nat} {h : Hp} {P : Int32 → Hp → Prop} {Qx : String → Hp → Prop} {a1 : Int32} {a2 : Int32}  (hp : p_X11_reserve h a1 a2) (hx : x_X11_reserve h a1 a2 = 0) (k : P (f_X11_reserve h a1 a2) (g_X11_reserve h a1 a2)) : CL 0 (d + 7) mX11_reserve [vR 11 0, vI a1, vI a2] h (oI P) Qx := by
  replace k : oI P (some (vI (f_X11_reserve h a1 a2))) (g_X11_reserve h a1 a2) := k
  unfold p_X11_reserve at hp
  unfold f_X11_reserve at k
  unfold g_X11_reserve at k
  unfold x_X11_reserve at hx
  refine CL.ofF (plainFor_of_name rfl) rfl (Nat.le_of_ble_eq_true rfl) (vc_X11_reserve_0 (d := d + 6)  ?_)
  by_cases hc : x_X11_checkOrder h a1 = 0
  · refine Or.inl (c_X11_checkOrder  hp.1 hc ?_)
    replace hp := hp.2 hc
    try simp only [if_pos hc] at k
    try simp only [if_pos hc] at hx
    by_cases hc : x_X11_checkArgument h (if a2 < 1 then (0 : Int32) else 1) = 0
    · refine Or.inl (c_X11_checkArgument  hp.1 hc ?_)
      replace hp := hp.2 hc
      try simp only [if_pos hc] at k
      try simp only [if_pos hc] at hx
      refine c_X6_openOf  hp.1 ?_
      replace hp := hp.2
      refine ⟨fun c => ?_, fun c => ?_⟩
      · replace hp := hp.1 c
        try simp only [if_pos c] at k
        try simp only [if_pos c] at hx
        by_cases hc : x_X11_checkState h 0 = 0
        · refine Or.inl (c_X11_checkState  hp.1 hc ?_)
          replace hp := hp.2 hc
          try simp only [if_pos hc] at k
          try simp only [if_pos hc] at hx
          refine c_X10_fillFree (by decide) rfl hp.1 ?_
          replace hp := hp.2
          refine c_X6_productOf  hp.1 ?_
          replace hp := hp.2
          refine c_X1_mostUnits (by decide) rfl hp.1 ?_
          replace hp := hp.2
          by_cases hc : x_X11_checkState (g_X10_fillFree h (h.2.2 11 0 7) 53 0 12) (if (f_X1_mostUnits (g_X10_fillFree h (h.2.2 11 0 7) 53 0 12) ((g_X10_fillFree h (h.2.2 11 0 7) 53 0 12).2.2 11 0 6) (f_X6_productOf (g_X10_fillFree h (h.2.2 11 0 7) 53 0 12) (h.2.2 11 0 7) a1) 53 0 12) < a2 then (0 : Int32) else 1) = 0
          · refine Or.inl (c_X11_checkState  hp.1 hc ?_)
            replace hp := hp.2 hc
            try simp only [if_pos hc] at k
            try simp only [if_pos hc] at hx
            refine c_X3_record  hp.1 ?_
            replace hp := hp.2
            refine c_X5_changeReserved  hp.1 ?_
            replace hp := hp.2
            refine c_X6_openOf  hp.1 ?_
            replace hp := hp.2
            exact k
          · simp only [if_neg hc] at hx
            exact absurd hx hc
        · simp only [if_neg hc] at hx
          exact absurd hx hc
      · replace hp := hp.2 c
        try simp only [if_neg c] at k
        try simp only [if_neg c] at hx
        refine c_X6_mayMove  hp.1 ?_
        replace hp := hp.2
        by_cases hc : x_X11_checkState h (if (f_X6_mayMove h (h.2.2 11 0 7) a1 a2) = 0 then (0 : Int32) else 1) = 0
        · refine Or.inl (c_X11_checkState  hp.1 hc ?_)
          replace hp := hp.2 hc
          try simp only [if_pos hc] at k
          try simp only [if_pos hc] at hx
          refine c_X10_fillFree (by decide) rfl hp.1 ?_
          replace hp := hp.2
          refine c_X6_productOf  hp.1 ?_
          replace hp := hp.2
          refine c_X1_mostUnits (by decide) rfl hp.1 ?_
          replace hp := hp.2
          by_cases hc : x_X11_checkState (g_X10_fillFree h (h.2.2 11 0 7) 53 0 12) (if (f_X1_mostUnits (g_X10_fillFree h (h.2.2 11 0 7) 53 0 12) ((g_X10_fillFree h (h.2.2 11 0 7) 53 0 12).2.2 11 0 6) (f_X6_productOf (g_X10_fillFree h (h.2.2 11 0 7) 53 0 12) (h.2.2 11 0 7) a1) 53 0 12) < a2 then (0 : Int32) else 1) = 0
          · refine Or.inl (c_X11_checkState  hp.1 hc ?_)
            replace hp := hp.2 hc
            try simp only [if_pos hc] at k
            try simp only [if_pos hc] at hx
            refine c_X3_record  hp.1 ?_
            replace hp := hp.2
            refine c_X5_changeReserved  hp.1 ?_
            replace hp := hp.2
            refine c_X6_openOf  hp.1 ?_
            replace hp := hp.2
            exact k
          · simp only [if_neg hc] at hx
            exact absurd hx hc
        · simp only [if_neg hc] at hx
          exact absurd hx hc
    · simp only [if_neg hc] at hx
      exact absurd hx hc
  · simp only [if_neg hc] at hx
    exact absurd hx hc
set_option maxHeartbeats 4000000 in
theorem t_X11_reserve {d : Nat} {h : Hp} {Qx : String → Hp → Prop} {a1 : Int32} {a2 : Int32}  (hp : p_X11_reserve h a1 a2) (hx : ¬ x_X11_reserve h a1 a2 = 0) (k : Qx (oa_ex (x_X11_reserve h a1 a2)) (g_X11_reserve h a1 a2)) : CL 1 (d + 7) mX11_reserve [vR 11 0, vI a1, vI a2] h (fun _ _ => False) Qx := by
  unfold p_X11_reserve at hp
  unfold g_X11_reserve at k
  unfold x_X11_reserve at hx
  unfold x_X11_reserve at k
  refine CL.ofF (plainFor_of_name rfl) rfl (Nat.le_of_ble_eq_true rfl) (vc_X11_reserve_0 (d := d + 6)  ?_)
  by_cases hc : x_X11_checkOrder h a1 = 0
  · refine Or.inl (c_X11_checkOrder  hp.1 hc ?_)
    replace hp := hp.2 hc
    try simp only [if_pos hc] at k
    try simp only [if_pos hc] at hx
    by_cases hc : x_X11_checkArgument h (if a2 < 1 then (0 : Int32) else 1) = 0
    · refine Or.inl (c_X11_checkArgument  hp.1 hc ?_)
      replace hp := hp.2 hc
      try simp only [if_pos hc] at k
      try simp only [if_pos hc] at hx
      refine c_X6_openOf  hp.1 ?_
      replace hp := hp.2
      refine ⟨fun c => ?_, fun c => ?_⟩
      · replace hp := hp.1 c
        try simp only [if_pos c] at k
        try simp only [if_pos c] at hx
        by_cases hc : x_X11_checkState h 0 = 0
        · refine Or.inl (c_X11_checkState  hp.1 hc ?_)
          replace hp := hp.2 hc
          try simp only [if_pos hc] at k
          try simp only [if_pos hc] at hx
          refine c_X10_fillFree (by decide) rfl hp.1 ?_
          replace hp := hp.2
          refine c_X6_productOf  hp.1 ?_
          replace hp := hp.2
          refine c_X1_mostUnits (by decide) rfl hp.1 ?_
          replace hp := hp.2
          by_cases hc : x_X11_checkState (g_X10_fillFree h (h.2.2 11 0 7) 53 0 12) (if (f_X1_mostUnits (g_X10_fillFree h (h.2.2 11 0 7) 53 0 12) ((g_X10_fillFree h (h.2.2 11 0 7) 53 0 12).2.2 11 0 6) (f_X6_productOf (g_X10_fillFree h (h.2.2 11 0 7) 53 0 12) (h.2.2 11 0 7) a1) 53 0 12) < a2 then (0 : Int32) else 1) = 0
          · refine Or.inl (c_X11_checkState  hp.1 hc ?_)
            replace hp := hp.2 hc
            try simp only [if_pos hc] at k
            try simp only [if_pos hc] at hx
            refine c_X3_record  hp.1 ?_
            replace hp := hp.2
            refine c_X5_changeReserved  hp.1 ?_
            replace hp := hp.2
            refine c_X6_openOf  hp.1 ?_
            replace hp := hp.2
            exact (hx (by first | rfl | trivial)).elim
          · try simp only [if_neg hc] at k
            exact Or.inr (t_X11_checkState  hp.1 hc k)
        · try simp only [if_neg hc] at k
          exact Or.inr (t_X11_checkState  hp.1 hc k)
      · replace hp := hp.2 c
        try simp only [if_neg c] at k
        try simp only [if_neg c] at hx
        refine c_X6_mayMove  hp.1 ?_
        replace hp := hp.2
        by_cases hc : x_X11_checkState h (if (f_X6_mayMove h (h.2.2 11 0 7) a1 a2) = 0 then (0 : Int32) else 1) = 0
        · refine Or.inl (c_X11_checkState  hp.1 hc ?_)
          replace hp := hp.2 hc
          try simp only [if_pos hc] at k
          try simp only [if_pos hc] at hx
          refine c_X10_fillFree (by decide) rfl hp.1 ?_
          replace hp := hp.2
          refine c_X6_productOf  hp.1 ?_
          replace hp := hp.2
          refine c_X1_mostUnits (by decide) rfl hp.1 ?_
          replace hp := hp.2
          by_cases hc : x_X11_checkState (g_X10_fillFree h (h.2.2 11 0 7) 53 0 12) (if (f_X1_mostUnits (g_X10_fillFree h (h.2.2 11 0 7) 53 0 12) ((g_X10_fillFree h (h.2.2 11 0 7) 53 0 12).2.2 11 0 6) (f_X6_productOf (g_X10_fillFree h (h.2.2 11 0 7) 53 0 12) (h.2.2 11 0 7) a1) 53 0 12) < a2 then (0 : Int32) else 1) = 0
          · refine Or.inl (c_X11_checkState  hp.1 hc ?_)
            replace hp := hp.2 hc
            try simp only [if_pos hc] at k
            try simp only [if_pos hc] at hx
            refine c_X3_record  hp.1 ?_
            replace hp := hp.2
            refine c_X5_changeReserved  hp.1 ?_
            replace hp := hp.2
            refine c_X6_openOf  hp.1 ?_
            replace hp := hp.2
            exact (hx (by first | rfl | trivial)).elim
          · try simp only [if_neg hc] at k
            exact Or.inr (t_X11_checkState  hp.1 hc k)
        · try simp only [if_neg hc] at k
          exact Or.inr (t_X11_checkState  hp.1 hc k)
    · try simp only [if_neg hc] at k
      exact Or.inr (t_X11_checkArgument  hp.1 hc k)
  · try simp only [if_neg hc] at k
    exact Or.inr (t_X11_checkOrder  hp.1 hc k)
def p_X11_release (h : Hp) (a1 : Int32) (a2 : Int32) : Prop := p_X11_checkOrder h a1 ∧ (x_X11_checkOrder h a1 = 0 → (p_X11_checkArgument h (if a2 < 1 then (0 : Int32) else 1) ∧ (x_X11_checkArgument h (if a2 < 1 then (0 : Int32) else 1) = 0 → (p_X6_reservedOf h (h.2.2 11 0 7) a1 ∧ ((((f_X6_reservedOf h (h.2.2 11 0 7) a1) < a2) → (p_X11_checkState h 0 ∧ (x_X11_checkState h 0 = 0 → (p_X3_record h (h.2.2 11 0 7) ∧ (p_X5_changeReserved (g_X3_record h (h.2.2 11 0 7)) ((g_X3_record h (h.2.2 11 0 7)).2.2 11 0 7) ((g_X3_record h (h.2.2 11 0 7)).2.2 11 0 6) a1 (-a2) ∧ (p_X6_reservedOf (g_X5_changeReserved (g_X3_record h (h.2.2 11 0 7)) ((g_X3_record h (h.2.2 11 0 7)).2.2 11 0 7) ((g_X3_record h (h.2.2 11 0 7)).2.2 11 0 6) a1 (-a2)) (h.2.2 11 0 7) a1 ∧ True)))))) ∧ ((¬ (f_X6_reservedOf h (h.2.2 11 0 7) a1) < a2) → (p_X6_mayMove h (h.2.2 11 0 7) a1 a2 ∧ (p_X11_checkState h (if (f_X6_mayMove h (h.2.2 11 0 7) a1 a2) = 0 then (0 : Int32) else 1) ∧ (x_X11_checkState h (if (f_X6_mayMove h (h.2.2 11 0 7) a1 a2) = 0 then (0 : Int32) else 1) = 0 → (p_X3_record h (h.2.2 11 0 7) ∧ (p_X5_changeReserved (g_X3_record h (h.2.2 11 0 7)) ((g_X3_record h (h.2.2 11 0 7)).2.2 11 0 7) ((g_X3_record h (h.2.2 11 0 7)).2.2 11 0 6) a1 (-a2) ∧ (p_X6_reservedOf (g_X5_changeReserved (g_X3_record h (h.2.2 11 0 7)) ((g_X3_record h (h.2.2 11 0 7)).2.2 11 0 7) ((g_X3_record h (h.2.2 11 0 7)).2.2 11 0 6) a1 (-a2)) (h.2.2 11 0 7) a1 ∧ True))))))))))))
def f_X11_release (h : Hp) (a1 : Int32) (a2 : Int32) : Int32 := if x_X11_checkOrder h a1 = 0 then (if x_X11_checkArgument h (if a2 < 1 then (0 : Int32) else 1) = 0 then (if (f_X6_reservedOf h (h.2.2 11 0 7) a1) < a2 then (if x_X11_checkState h 0 = 0 then (f_X6_reservedOf (g_X5_changeReserved (g_X3_record h (h.2.2 11 0 7)) ((g_X3_record h (h.2.2 11 0 7)).2.2 11 0 7) ((g_X3_record h (h.2.2 11 0 7)).2.2 11 0 6) a1 (-a2)) (h.2.2 11 0 7) a1) else 0) else (if x_X11_checkState h (if (f_X6_mayMove h (h.2.2 11 0 7) a1 a2) = 0 then (0 : Int32) else 1) = 0 then (f_X6_reservedOf (g_X5_changeReserved (g_X3_record h (h.2.2 11 0 7)) ((g_X3_record h (h.2.2 11 0 7)).2.2 11 0 7) ((g_X3_record h (h.2.2 11 0 7)).2.2 11 0 6) a1 (-a2)) (h.2.2 11 0 7) a1) else 0)) else 0) else 0
def g_X11_release (h : Hp) (a1 : Int32) (a2 : Int32) : Hp := if x_X11_checkOrder h a1 = 0 then (if x_X11_checkArgument h (if a2 < 1 then (0 : Int32) else 1) = 0 then (if (f_X6_reservedOf h (h.2.2 11 0 7) a1) < a2 then (if x_X11_checkState h 0 = 0 then (g_X5_changeReserved (g_X3_record h (h.2.2 11 0 7)) ((g_X3_record h (h.2.2 11 0 7)).2.2 11 0 7) ((g_X3_record h (h.2.2 11 0 7)).2.2 11 0 6) a1 (-a2)) else h) else (if x_X11_checkState h (if (f_X6_mayMove h (h.2.2 11 0 7) a1 a2) = 0 then (0 : Int32) else 1) = 0 then (g_X5_changeReserved (g_X3_record h (h.2.2 11 0 7)) ((g_X3_record h (h.2.2 11 0 7)).2.2 11 0 7) ((g_X3_record h (h.2.2 11 0 7)).2.2 11 0 6) a1 (-a2)) else h)) else h) else h
def x_X11_release (h : Hp) (a1 : Int32) (a2 : Int32) : Nat := if x_X11_checkOrder h a1 = 0 then (if x_X11_checkArgument h (if a2 < 1 then (0 : Int32) else 1) = 0 then (if (f_X6_reservedOf h (h.2.2 11 0 7) a1) < a2 then (if x_X11_checkState h 0 = 0 then 0 else x_X11_checkState h 0) else (if x_X11_checkState h (if (f_X6_mayMove h (h.2.2 11 0 7) a1 a2) = 0 then (0 : Int32) else 1) = 0 then 0 else x_X11_checkState h (if (f_X6_mayMove h (h.2.2 11 0 7) a1 a2) = 0 then (0 : Int32) else 1))) else x_X11_checkArgument h (if a2 < 1 then (0 : Int32) else 1)) else x_X11_checkOrder h a1
set_option maxHeartbeats 4000000 in
theorem c_X11_release {d : Nat} {h : Hp} {P : Int32 → Hp → Prop} {Qx : String → Hp → Prop} {a1 : Int32} {a2 : Int32}  (hp : p_X11_release h a1 a2) (hx : x_X11_release h a1 a2 = 0) (k : P (f_X11_release h a1 a2) (g_X11_release h a1 a2)) : CL 0 (d + 7) mX11_release [vR 11 0, vI a1, vI a2] h (oI P) Qx := by
  replace k : oI P (some (vI (f_X11_release h a1 a2))) (g_X11_release h a1 a2) := k
  unfold p_X11_release at hp
  unfold f_X11_release at k
  unfold g_X11_release at k
  unfold x_X11_release at hx
  refine CL.ofF (plainFor_of_name rfl) rfl (Nat.le_of_ble_eq_true rfl) (vc_X11_release_0 (d := d + 6)  ?_)
  by_cases hc : x_X11_checkOrder h a1 = 0
  · refine Or.inl (c_X11_checkOrder  hp.1 hc ?_)
    replace hp := hp.2 hc
    try simp only [if_pos hc] at k
    try simp only [if_pos hc] at hx
    by_cases hc : x_X11_checkArgument h (if a2 < 1 then (0 : Int32) else 1) = 0
    · refine Or.inl (c_X11_checkArgument  hp.1 hc ?_)
      replace hp := hp.2 hc
      try simp only [if_pos hc] at k
      try simp only [if_pos hc] at hx
      refine c_X6_reservedOf  hp.1 ?_
      replace hp := hp.2
      refine ⟨fun c => ?_, fun c => ?_⟩
      · replace hp := hp.1 c
        try simp only [if_pos c] at k
        try simp only [if_pos c] at hx
        by_cases hc : x_X11_checkState h 0 = 0
        · refine Or.inl (c_X11_checkState  hp.1 hc ?_)
          replace hp := hp.2 hc
          try simp only [if_pos hc] at k
          try simp only [if_pos hc] at hx
          refine c_X3_record  hp.1 ?_
          replace hp := hp.2
          refine c_X5_changeReserved  hp.1 ?_
          replace hp := hp.2
          refine c_X6_reservedOf  hp.1 ?_
          replace hp := hp.2
          exact k
        · simp only [if_neg hc] at hx
          exact absurd hx hc
      · replace hp := hp.2 c
        try simp only [if_neg c] at k
        try simp only [if_neg c] at hx
        refine c_X6_mayMove  hp.1 ?_
        replace hp := hp.2
        by_cases hc : x_X11_checkState h (if (f_X6_mayMove h (h.2.2 11 0 7) a1 a2) = 0 then (0 : Int32) else 1) = 0
        · refine Or.inl (c_X11_checkState  hp.1 hc ?_)
          replace hp := hp.2 hc
          try simp only [if_pos hc] at k
          try simp only [if_pos hc] at hx
          refine c_X3_record  hp.1 ?_
          replace hp := hp.2
          refine c_X5_changeReserved  hp.1 ?_
          replace hp := hp.2
          refine c_X6_reservedOf  hp.1 ?_
          replace hp := hp.2
          exact k
        · simp only [if_neg hc] at hx
          exact absurd hx hc
    · simp only [if_neg hc] at hx
      exact absurd hx hc
  · simp only [if_neg hc] at hx
    exact absurd hx hc
set_option maxHeartbeats 4000000 in
theorem t_X11_release {d : Nat} {h : Hp} {Qx : String → Hp → Prop} {a1 : Int32} {a2 : Int32}  (hp : p_X11_release h a1 a2) (hx : ¬ x_X11_release h a1 a2 = 0) (k : Qx (oa_ex (x_X11_release h a1 a2)) (g_X11_release h a1 a2)) : CL 1 (d + 7) mX11_release [vR 11 0, vI a1, vI a2] h (fun _ _ => False) Qx := by
  unfold p_X11_release at hp
  unfold g_X11_release at k
  unfold x_X11_release at hx
  unfold x_X11_release at k
  refine CL.ofF (plainFor_of_name rfl) rfl (Nat.le_of_ble_eq_true rfl) (vc_X11_release_0 (d := d + 6)  ?_)
  by_cases hc : x_X11_checkOrder h a1 = 0
  · refine Or.inl (c_X11_checkOrder  hp.1 hc ?_)
    replace hp := hp.2 hc
    try simp only [if_pos hc] at k
    try simp only [if_pos hc] at hx
    by_cases hc : x_X11_checkArgument h (if a2 < 1 then (0 : Int32) else 1) = 0
    · refine Or.inl (c_X11_checkArgument  hp.1 hc ?_)
      replace hp := hp.2 hc
      try simp only [if_pos hc] at k
      try simp only [if_pos hc] at hx
      refine c_X6_reservedOf  hp.1 ?_
      replace hp := hp.2
      refine ⟨fun c => ?_, fun c => ?_⟩
      · replace hp := hp.1 c
        try simp only [if_pos c] at k
        try simp only [if_pos c] at hx
        by_cases hc : x_X11_checkState h 0 = 0
        · refine Or.inl (c_X11_checkState  hp.1 hc ?_)
          replace hp := hp.2 hc
          try simp only [if_pos hc] at k
          try simp only [if_pos hc] at hx
          refine c_X3_record  hp.1 ?_
          replace hp := hp.2
          refine c_X5_changeReserved  hp.1 ?_
          replace hp := hp.2
          refine c_X6_reservedOf  hp.1 ?_
          replace hp := hp.2
          exact (hx (by first | rfl | trivial)).elim
        · try simp only [if_neg hc] at k
          exact Or.inr (t_X11_checkState  hp.1 hc k)
      · replace hp := hp.2 c
        try simp only [if_neg c] at k
        try simp only [if_neg c] at hx
        refine c_X6_mayMove  hp.1 ?_
        replace hp := hp.2
        by_cases hc : x_X11_checkState h (if (f_X6_mayMove h (h.2.2 11 0 7) a1 a2) = 0 then (0 : Int32) else 1) = 0
        · refine Or.inl (c_X11_checkState  hp.1 hc ?_)
          replace hp := hp.2 hc
          try simp only [if_pos hc] at k
          try simp only [if_pos hc] at hx
          refine c_X3_record  hp.1 ?_
          replace hp := hp.2
          refine c_X5_changeReserved  hp.1 ?_
          replace hp := hp.2
          refine c_X6_reservedOf  hp.1 ?_
          replace hp := hp.2
          exact (hx (by first | rfl | trivial)).elim
        · try simp only [if_neg hc] at k
          exact Or.inr (t_X11_checkState  hp.1 hc k)
    · try simp only [if_neg hc] at k
      exact Or.inr (t_X11_checkArgument  hp.1 hc k)
  · try simp only [if_neg hc] at k
    exact Or.inr (t_X11_checkOrder  hp.1 hc k)
def p_X11_ship (h : Hp) (a1 : Int32) : Prop := p_X11_checkOrder h a1 ∧ (x_X11_checkOrder h a1 = 0 → (p_X6_reservedOf h (h.2.2 11 0 7) a1 ∧ (p_X11_checkState h (if (f_X6_reservedOf h (h.2.2 11 0 7) a1) ≤ 0 then (0 : Int32) else 1) ∧ (x_X11_checkState h (if (f_X6_reservedOf h (h.2.2 11 0 7) a1) ≤ 0 then (0 : Int32) else 1) = 0 → (p_X3_record h (h.2.2 11 0 7) ∧ (p_X5_sendReserved (g_X3_record h (h.2.2 11 0 7)) ((g_X3_record h (h.2.2 11 0 7)).2.2 11 0 7) ((g_X3_record h (h.2.2 11 0 7)).2.2 11 0 6) a1 ∧ True))))))
def f_X11_ship (h : Hp) (a1 : Int32) : Int32 := if x_X11_checkOrder h a1 = 0 then (if x_X11_checkState h (if (f_X6_reservedOf h (h.2.2 11 0 7) a1) ≤ 0 then (0 : Int32) else 1) = 0 then (f_X5_sendReserved (g_X3_record h (h.2.2 11 0 7)) ((g_X3_record h (h.2.2 11 0 7)).2.2 11 0 7) ((g_X3_record h (h.2.2 11 0 7)).2.2 11 0 6) a1) else 0) else 0
def g_X11_ship (h : Hp) (a1 : Int32) : Hp := if x_X11_checkOrder h a1 = 0 then (if x_X11_checkState h (if (f_X6_reservedOf h (h.2.2 11 0 7) a1) ≤ 0 then (0 : Int32) else 1) = 0 then (g_X5_sendReserved (g_X3_record h (h.2.2 11 0 7)) ((g_X3_record h (h.2.2 11 0 7)).2.2 11 0 7) ((g_X3_record h (h.2.2 11 0 7)).2.2 11 0 6) a1) else h) else h
def x_X11_ship (h : Hp) (a1 : Int32) : Nat := if x_X11_checkOrder h a1 = 0 then (if x_X11_checkState h (if (f_X6_reservedOf h (h.2.2 11 0 7) a1) ≤ 0 then (0 : Int32) else 1) = 0 then 0 else x_X11_checkState h (if (f_X6_reservedOf h (h.2.2 11 0 7) a1) ≤ 0 then (0 : Int32) else 1)) else x_X11_checkOrder h a1
set_option maxHeartbeats 4000000 in
theorem c_X11_ship {d : Nat} {h : Hp} {P : Int32 → Hp → Prop} {Qx : String → Hp → Prop} {a1 : Int32}  (hp : p_X11_ship h a1) (hx : x_X11_ship h a1 = 0) (k : P (f_X11_ship h a1) (g_X11_ship h a1)) : CL 0 (d + 7) mX11_ship [vR 11 0, vI a1] h (oI P) Qx := by
  replace k : oI P (some (vI (f_X11_ship h a1))) (g_X11_ship h a1) := k
  unfold p_X11_ship at hp
  unfold f_X11_ship at k
  unfold g_X11_ship at k
  unfold x_X11_ship at hx
  refine CL.ofF (plainFor_of_name rfl) rfl (Nat.le_of_ble_eq_true rfl) (vc_X11_ship_0 (d := d + 6)  ?_)
  by_cases hc : x_X11_checkOrder h a1 = 0
  · refine Or.inl (c_X11_checkOrder  hp.1 hc ?_)
    replace hp := hp.2 hc
    try simp only [if_pos hc] at k
    try simp only [if_pos hc] at hx
    refine c_X6_reservedOf  hp.1 ?_
    replace hp := hp.2
    by_cases hc : x_X11_checkState h (if (f_X6_reservedOf h (h.2.2 11 0 7) a1) ≤ 0 then (0 : Int32) else 1) = 0
    · refine Or.inl (c_X11_checkState  hp.1 hc ?_)
      replace hp := hp.2 hc
      try simp only [if_pos hc] at k
      try simp only [if_pos hc] at hx
      refine c_X3_record  hp.1 ?_
      replace hp := hp.2
      refine c_X5_sendReserved  hp.1 ?_
      replace hp := hp.2
      exact k
    · simp only [if_neg hc] at hx
      exact absurd hx hc
  · simp only [if_neg hc] at hx
    exact absurd hx hc
set_option maxHeartbeats 4000000 in
theorem t_X11_ship {d : Nat} {h : Hp} {Qx : String → Hp → Prop} {a1 : Int32}  (hp : p_X11_ship h a1) (hx : ¬ x_X11_ship h a1 = 0) (k : Qx (oa_ex (x_X11_ship h a1)) (g_X11_ship h a1)) : CL 1 (d + 7) mX11_ship [vR 11 0, vI a1] h (fun _ _ => False) Qx := by
  unfold p_X11_ship at hp
  unfold g_X11_ship at k
  unfold x_X11_ship at hx
  unfold x_X11_ship at k
  refine CL.ofF (plainFor_of_name rfl) rfl (Nat.le_of_ble_eq_true rfl) (vc_X11_ship_0 (d := d + 6)  ?_)
  by_cases hc : x_X11_checkOrder h a1 = 0
  · refine Or.inl (c_X11_checkOrder  hp.1 hc ?_)
    replace hp := hp.2 hc
    try simp only [if_pos hc] at k
    try simp only [if_pos hc] at hx
    refine c_X6_reservedOf  hp.1 ?_
    replace hp := hp.2
    by_cases hc : x_X11_checkState h (if (f_X6_reservedOf h (h.2.2 11 0 7) a1) ≤ 0 then (0 : Int32) else 1) = 0
    · refine Or.inl (c_X11_checkState  hp.1 hc ?_)
      replace hp := hp.2 hc
      try simp only [if_pos hc] at k
      try simp only [if_pos hc] at hx
      refine c_X3_record  hp.1 ?_
      replace hp := hp.2
      refine c_X5_sendReserved  hp.1 ?_
      replace hp := hp.2
      exact (hx (by first | rfl | trivial)).elim
    · try simp only [if_neg hc] at k
      exact Or.inr (t_X11_checkState  hp.1 hc k)
  · try simp only [if_neg hc] at k
    exact Or.inr (t_X11_checkOrder  hp.1 hc k)
def p_X11_buy (h : Hp) (a1 : Int32) (a2 : Int32) : Prop := p_X11_checkPart h a1 ∧ (x_X11_checkPart h a1 = 0 → (p_X11_checkArgument h (if a2 < 1 then (0 : Int32) else (if 999 < a2 then (0 : Int32) else 1)) ∧ (x_X11_checkArgument h (if a2 < 1 then (0 : Int32) else (if 999 < a2 then (0 : Int32) else 1)) = 0 → (p_X11_checkState h (if 20 ≤ (h.1 10 (h.2.2 11 0 7) 1) then (0 : Int32) else 1) ∧ (x_X11_checkState h (if 20 ≤ (h.1 10 (h.2.2 11 0 7) 1) then (0 : Int32) else 1) = 0 → (p_X3_record h (h.2.2 11 0 7) ∧ (p_X8_addBought (g_X3_record h (h.2.2 11 0 7)) ((g_X3_record h (h.2.2 11 0 7)).2.2 11 0 7) a2 ∧ (p_X1_leadTimeOf (g_X8_addBought (g_X3_record h (h.2.2 11 0 7)) ((g_X3_record h (h.2.2 11 0 7)).2.2 11 0 7) a2) ((g_X8_addBought (g_X3_record h (h.2.2 11 0 7)) ((g_X3_record h (h.2.2 11 0 7)).2.2 11 0 7) a2).2.2 11 0 6) a1 ∧ (p_X10_addArrival (g_X8_addBought (g_X3_record h (h.2.2 11 0 7)) ((g_X3_record h (h.2.2 11 0 7)).2.2 11 0 7) a2) ((g_X8_addBought (g_X3_record h (h.2.2 11 0 7)) ((g_X3_record h (h.2.2 11 0 7)).2.2 11 0 7) a2).2.2 11 0 7) a1 a2 (f_X1_leadTimeOf (g_X8_addBought (g_X3_record h (h.2.2 11 0 7)) ((g_X3_record h (h.2.2 11 0 7)).2.2 11 0 7) a2) ((g_X8_addBought (g_X3_record h (h.2.2 11 0 7)) ((g_X3_record h (h.2.2 11 0 7)).2.2 11 0 7) a2).2.2 11 0 6) a1) ∧ True)))))))))
def f_X11_buy (h : Hp) (a1 : Int32) (a2 : Int32) : Int32 := if x_X11_checkPart h a1 = 0 then (if x_X11_checkArgument h (if a2 < 1 then (0 : Int32) else (if 999 < a2 then (0 : Int32) else 1)) = 0 then (if x_X11_checkState h (if 20 ≤ (h.1 10 (h.2.2 11 0 7) 1) then (0 : Int32) else 1) = 0 then (f_X10_addArrival (g_X8_addBought (g_X3_record h (h.2.2 11 0 7)) ((g_X3_record h (h.2.2 11 0 7)).2.2 11 0 7) a2) ((g_X8_addBought (g_X3_record h (h.2.2 11 0 7)) ((g_X3_record h (h.2.2 11 0 7)).2.2 11 0 7) a2).2.2 11 0 7) a1 a2 (f_X1_leadTimeOf (g_X8_addBought (g_X3_record h (h.2.2 11 0 7)) ((g_X3_record h (h.2.2 11 0 7)).2.2 11 0 7) a2) ((g_X8_addBought (g_X3_record h (h.2.2 11 0 7)) ((g_X3_record h (h.2.2 11 0 7)).2.2 11 0 7) a2).2.2 11 0 6) a1)) else 0) else 0) else 0
def g_X11_buy (h : Hp) (a1 : Int32) (a2 : Int32) : Hp := if x_X11_checkPart h a1 = 0 then (if x_X11_checkArgument h (if a2 < 1 then (0 : Int32) else (if 999 < a2 then (0 : Int32) else 1)) = 0 then (if x_X11_checkState h (if 20 ≤ (h.1 10 (h.2.2 11 0 7) 1) then (0 : Int32) else 1) = 0 then (g_X10_addArrival (g_X8_addBought (g_X3_record h (h.2.2 11 0 7)) ((g_X3_record h (h.2.2 11 0 7)).2.2 11 0 7) a2) ((g_X8_addBought (g_X3_record h (h.2.2 11 0 7)) ((g_X3_record h (h.2.2 11 0 7)).2.2 11 0 7) a2).2.2 11 0 7) a1 a2 (f_X1_leadTimeOf (g_X8_addBought (g_X3_record h (h.2.2 11 0 7)) ((g_X3_record h (h.2.2 11 0 7)).2.2 11 0 7) a2) ((g_X8_addBought (g_X3_record h (h.2.2 11 0 7)) ((g_X3_record h (h.2.2 11 0 7)).2.2 11 0 7) a2).2.2 11 0 6) a1)) else h) else h) else h
def x_X11_buy (h : Hp) (a1 : Int32) (a2 : Int32) : Nat := if x_X11_checkPart h a1 = 0 then (if x_X11_checkArgument h (if a2 < 1 then (0 : Int32) else (if 999 < a2 then (0 : Int32) else 1)) = 0 then (if x_X11_checkState h (if 20 ≤ (h.1 10 (h.2.2 11 0 7) 1) then (0 : Int32) else 1) = 0 then 0 else x_X11_checkState h (if 20 ≤ (h.1 10 (h.2.2 11 0 7) 1) then (0 : Int32) else 1)) else x_X11_checkArgument h (if a2 < 1 then (0 : Int32) else (if 999 < a2 then (0 : Int32) else 1))) else x_X11_checkPart h a1
set_option maxHeartbeats 4000000 in
theorem c_X11_buy {d : Nat} {h : Hp} {P : Int32 → Hp → Prop} {Qx : String → Hp → Prop} {a1 : Int32} {a2 : Int32}  (hp : p_X11_buy h a1 a2) (hx : x_X11_buy h a1 a2 = 0) (k : P (f_X11_buy h a1 a2) (g_X11_buy h a1 a2)) : CL 0 (d + 7) mX11_buy [vR 11 0, vI a1, vI a2] h (oI P) Qx := by
  replace k : oI P (some (vI (f_X11_buy h a1 a2))) (g_X11_buy h a1 a2) := k
  unfold p_X11_buy at hp
  unfold f_X11_buy at k
  unfold g_X11_buy at k
  unfold x_X11_buy at hx
  refine CL.ofF (plainFor_of_name rfl) rfl (Nat.le_of_ble_eq_true rfl) (vc_X11_buy_0 (d := d + 6)  ?_)
  by_cases hc : x_X11_checkPart h a1 = 0
  · refine Or.inl (c_X11_checkPart  hp.1 hc ?_)
    replace hp := hp.2 hc
    try simp only [if_pos hc] at k
    try simp only [if_pos hc] at hx
    by_cases hc : x_X11_checkArgument h (if a2 < 1 then (0 : Int32) else (if 999 < a2 then (0 : Int32) else 1)) = 0
    · refine Or.inl (c_X11_checkArgument  hp.1 hc ?_)
      replace hp := hp.2 hc
      try simp only [if_pos hc] at k
      try simp only [if_pos hc] at hx
      by_cases hc : x_X11_checkState h (if 20 ≤ (h.1 10 (h.2.2 11 0 7) 1) then (0 : Int32) else 1) = 0
      · refine Or.inl (c_X11_checkState  hp.1 hc ?_)
        replace hp := hp.2 hc
        try simp only [if_pos hc] at k
        try simp only [if_pos hc] at hx
        refine c_X3_record  hp.1 ?_
        replace hp := hp.2
        refine c_X8_addBought  hp.1 ?_
        replace hp := hp.2
        refine c_X1_leadTimeOf  hp.1 ?_
        replace hp := hp.2
        refine c_X10_addArrival  hp.1 ?_
        replace hp := hp.2
        exact k
      · simp only [if_neg hc] at hx
        exact absurd hx hc
    · simp only [if_neg hc] at hx
      exact absurd hx hc
  · simp only [if_neg hc] at hx
    exact absurd hx hc
set_option maxHeartbeats 4000000 in
theorem t_X11_buy {d : Nat} {h : Hp} {Qx : String → Hp → Prop} {a1 : Int32} {a2 : Int32}  (hp : p_X11_buy h a1 a2) (hx : ¬ x_X11_buy h a1 a2 = 0) (k : Qx (oa_ex (x_X11_buy h a1 a2)) (g_X11_buy h a1 a2)) : CL 1 (d + 7) mX11_buy [vR 11 0, vI a1, vI a2] h (fun _ _ => False) Qx := by
  unfold p_X11_buy at hp
  unfold g_X11_buy at k
  unfold x_X11_buy at hx
  unfold x_X11_buy at k
  refine CL.ofF (plainFor_of_name rfl) rfl (Nat.le_of_ble_eq_true rfl) (vc_X11_buy_0 (d := d + 6)  ?_)
  by_cases hc : x_X11_checkPart h a1 = 0
  · refine Or.inl (c_X11_checkPart  hp.1 hc ?_)
    replace hp := hp.2 hc
    try simp only [if_pos hc] at k
    try simp only [if_pos hc] at hx
    by_cases hc : x_X11_checkArgument h (if a2 < 1 then (0 : Int32) else (if 999 < a2 then (0 : Int32) else 1)) = 0
    · refine Or.inl (c_X11_checkArgument  hp.1 hc ?_)
      replace hp := hp.2 hc
      try simp only [if_pos hc] at k
      try simp only [if_pos hc] at hx
      by_cases hc : x_X11_checkState h (if 20 ≤ (h.1 10 (h.2.2 11 0 7) 1) then (0 : Int32) else 1) = 0
      · refine Or.inl (c_X11_checkState  hp.1 hc ?_)
        replace hp := hp.2 hc
        try simp only [if_pos hc] at k
        try simp only [if_pos hc] at hx
        refine c_X3_record  hp.1 ?_
        replace hp := hp.2
        refine c_X8_addBought  hp.1 ?_
        replace hp := hp.2
        refine c_X1_leadTimeOf  hp.1 ?_
        replace hp := hp.2
        refine c_X10_addArrival  hp.1 ?_
        replace hp := hp.2
        exact (hx (by first | rfl | trivial)).elim
      · try simp only [if_neg hc] at k
        exact Or.inr (t_X11_checkState  hp.1 hc k)
    · try simp only [if_neg hc] at k
      exact Or.inr (t_X11_checkArgument  hp.1 hc k)
  · try simp only [if_neg hc] at k
    exact Or.inr (t_X11_checkPart  hp.1 hc k)
def pw_X11_advance_34 : Nat → Hp → Int32 → Int32 → Int32 → Prop
  | 0, _, _, _, _ => False
  | n + 1, h, x1, x2, x3 => ((x1 ≤ x3) → True) ∧ ((¬ x1 ≤ x3) → (p_X10_passDay h (h.2.2 11 0 7) ∧ (pw_X11_advance_34 n (g_X10_passDay h (h.2.2 11 0 7)) x1 (x2 + (f_X10_passDay h (h.2.2 11 0 7))) (x3 + 1))))
def fw_X11_advance_34 : Nat → Hp → Int32 → Int32 → Int32 → Int32
  | 0, _, _, _, _ => 0
  | n + 1, h, x1, x2, x3 => if x1 ≤ x3 then x2 else (fw_X11_advance_34 n (g_X10_passDay h (h.2.2 11 0 7)) x1 (x2 + (f_X10_passDay h (h.2.2 11 0 7))) (x3 + 1))
def gw_X11_advance_34 : Nat → Hp → Int32 → Int32 → Int32 → Hp
  | 0, h, _, _, _ => h
  | n + 1, h, x1, x2, x3 => if x1 ≤ x3 then h else (gw_X11_advance_34 n (g_X10_passDay h (h.2.2 11 0 7)) x1 (x2 + (f_X10_passDay h (h.2.2 11 0 7))) (x3 + 1))
set_option maxHeartbeats 4000000 in
theorem lw_X11_advance_34 {X : WD → State → Prop} {d rb : Nat} {Qr : Option AV → Hp → Prop} {Qx : String → Hp → Prop}   : ∀ (n : Nat) (h : Hp) (x1 : Int32) (x2 : Int32) (x3 : Int32), pw_X11_advance_34 n h x1 x2 x3 → Qr (some (vI (fw_X11_advance_34 n h x1 x2 x3))) (gw_X11_advance_34 n h x1 x2 x3) → AW X (d + 7) rb mX11_advance 34 [(0, vR 11 0), (1, vI x1), (2, vI x2), (3, vI x3)] [] h Qr Qx := by
  intro n
  induction n with
  | zero => intro h x1 x2 x3 hp; exact hp.elim
  | succ n ih =>
    intro h x1 x2 x3 hp k
    rw [pw_X11_advance_34] at hp
    rw [fw_X11_advance_34] at k
    rw [gw_X11_advance_34] at k
    refine vc_X11_advance_34 (d := d + 6)  ?_
    refine ⟨fun c => ?_, fun c => ?_⟩
    · replace hp := hp.1 c
      try simp only [if_pos c] at k
      exact k
    · replace hp := hp.2 c
      try simp only [if_neg c] at k
      refine c_X10_passDay  hp.1 ?_
      replace hp := hp.2
      exact ih _ _ _ _ hp k
def p_X11_advance (h : Hp) (a1 : Int32) : Prop := p_X11_checkArgument h (if a1 < 1 then (0 : Int32) else (if 100 < a1 then (0 : Int32) else 1)) ∧ (x_X11_checkArgument h (if a1 < 1 then (0 : Int32) else (if 100 < a1 then (0 : Int32) else 1)) = 0 → (p_X3_record h (h.2.2 11 0 7) ∧ (pw_X11_advance_34 oa_N (g_X3_record h (h.2.2 11 0 7)) a1 0 0)))
def f_X11_advance (h : Hp) (a1 : Int32) : Int32 := if x_X11_checkArgument h (if a1 < 1 then (0 : Int32) else (if 100 < a1 then (0 : Int32) else 1)) = 0 then (fw_X11_advance_34 oa_N (g_X3_record h (h.2.2 11 0 7)) a1 0 0) else 0
def g_X11_advance (h : Hp) (a1 : Int32) : Hp := if x_X11_checkArgument h (if a1 < 1 then (0 : Int32) else (if 100 < a1 then (0 : Int32) else 1)) = 0 then (gw_X11_advance_34 oa_N (g_X3_record h (h.2.2 11 0 7)) a1 0 0) else h
def x_X11_advance (h : Hp) (a1 : Int32) : Nat := if x_X11_checkArgument h (if a1 < 1 then (0 : Int32) else (if 100 < a1 then (0 : Int32) else 1)) = 0 then 0 else x_X11_checkArgument h (if a1 < 1 then (0 : Int32) else (if 100 < a1 then (0 : Int32) else 1))
set_option maxHeartbeats 4000000 in
theorem c_X11_advance {d : Nat} {h : Hp} {P : Int32 → Hp → Prop} {Qx : String → Hp → Prop} {a1 : Int32}  (hp : p_X11_advance h a1) (hx : x_X11_advance h a1 = 0) (k : P (f_X11_advance h a1) (g_X11_advance h a1)) : CL 0 (d + 7) mX11_advance [vR 11 0, vI a1] h (oI P) Qx := by
  replace k : oI P (some (vI (f_X11_advance h a1))) (g_X11_advance h a1) := k
  unfold p_X11_advance at hp
  unfold f_X11_advance at k
  unfold g_X11_advance at k
  unfold x_X11_advance at hx
  refine CL.ofF (plainFor_of_name rfl) rfl (Nat.le_of_ble_eq_true rfl) (vc_X11_advance_0 (d := d + 6)  ?_)
  by_cases hc : x_X11_checkArgument h (if a1 < 1 then (0 : Int32) else (if 100 < a1 then (0 : Int32) else 1)) = 0
  · refine Or.inl (c_X11_checkArgument  hp.1 hc ?_)
    replace hp := hp.2 hc
    try simp only [if_pos hc] at k
    try simp only [if_pos hc] at hx
    refine c_X3_record  hp.1 ?_
    replace hp := hp.2
    exact lw_X11_advance_34  _ _ _ _ _ hp k
  · simp only [if_neg hc] at hx
    exact absurd hx hc
set_option maxHeartbeats 4000000 in
theorem t_X11_advance {d : Nat} {h : Hp} {Qx : String → Hp → Prop} {a1 : Int32}  (hp : p_X11_advance h a1) (hx : ¬ x_X11_advance h a1 = 0) (k : Qx (oa_ex (x_X11_advance h a1)) (g_X11_advance h a1)) : CL 1 (d + 7) mX11_advance [vR 11 0, vI a1] h (fun _ _ => False) Qx := by
  unfold p_X11_advance at hp
  unfold g_X11_advance at k
  unfold x_X11_advance at hx
  unfold x_X11_advance at k
  refine CL.ofF (plainFor_of_name rfl) rfl (Nat.le_of_ble_eq_true rfl) (vc_X11_advance_0 (d := d + 6)  ?_)
  by_cases hc : x_X11_checkArgument h (if a1 < 1 then (0 : Int32) else (if 100 < a1 then (0 : Int32) else 1)) = 0
  · refine Or.inl (c_X11_checkArgument  hp.1 hc ?_)
    replace hp := hp.2 hc
    try simp only [if_pos hc] at k
    try simp only [if_pos hc] at hx
    refine c_X3_record  hp.1 ?_
    replace hp := hp.2
    exact (hx (by first | rfl | trivial)).elim
  · try simp only [if_neg hc] at k
    exact Or.inr (t_X11_checkArgument  hp.1 hc k)
def p_X11_undo (h : Hp)  : Prop := p_X3_takeBack h (h.2.2 11 0 7) ∧ True
def f_X11_undo (h : Hp)  : Int32 := if (f_X3_takeBack h (h.2.2 11 0 7)) = 0 then ((-1) : Int32) else ((g_X3_takeBack h (h.2.2 11 0 7)).1 3 0 0)
def g_X11_undo (h : Hp)  : Hp := (g_X3_takeBack h (h.2.2 11 0 7))
set_option maxHeartbeats 4000000 in
theorem c_X11_undo {d : Nat} {h : Hp} {P : Int32 → Hp → Prop} {Qx : String → Hp → Prop}   (hp : p_X11_undo h ) (k : P (f_X11_undo h ) (g_X11_undo h )) : CL 0 (d + 4) mX11_undo [vR 11 0] h (oI P) Qx := by
  replace k : oI P (some (vI (f_X11_undo h ))) (g_X11_undo h ) := k
  unfold p_X11_undo at hp
  unfold f_X11_undo at k
  unfold g_X11_undo at k
  refine CL.ofF (plainFor_of_name rfl) rfl (Nat.le_of_ble_eq_true rfl) (vc_X11_undo_0 (d := d + 3)  ?_)
  refine c_X3_takeBack  hp.1 ?_
  replace hp := hp.2
  exact k
def pw_X11_formatNeeds_32 : Nat → Hp → Int32 → Int32 → Prop
  | 0, _, _, _ => False
  | n + 1, h, x1, x2 => (((h.1 1 (h.2.2 11 0 6) 0) ≤ x2) → True) ∧ ((¬ (h.1 1 (h.2.2 11 0 6) 0) ≤ x2) → (p_X1_needOf h (h.2.2 11 0 6) x1 x2 ∧ ((((f_X1_needOf h (h.2.2 11 0 6) x1 x2) ≤ 0) → (pw_X11_formatNeeds_32 n h x1 (x2 + 1))) ∧ ((¬ (f_X1_needOf h (h.2.2 11 0 6) x1 x2) ≤ 0) → (p_X2_putNumbered h 21 (f_X1_needOf h (h.2.2 11 0 6) x1 x2) ∧ (p_X1_partName (g_X2_putNumbered h 21 (f_X1_needOf h (h.2.2 11 0 6) x1 x2)) ((g_X2_putNumbered h 21 (f_X1_needOf h (h.2.2 11 0 6) x1 x2)).2.2 11 0 6) x2 ∧ (p_X2_putName (g_X2_putNumbered h 21 (f_X1_needOf h (h.2.2 11 0 6) x1 x2)) (f_X1_partName (g_X2_putNumbered h 21 (f_X1_needOf h (h.2.2 11 0 6) x1 x2)) ((g_X2_putNumbered h 21 (f_X1_needOf h (h.2.2 11 0 6) x1 x2)).2.2 11 0 6) x2) ∧ (pw_X11_formatNeeds_32 n (g_X2_putName (g_X2_putNumbered h 21 (f_X1_needOf h (h.2.2 11 0 6) x1 x2)) (f_X1_partName (g_X2_putNumbered h 21 (f_X1_needOf h (h.2.2 11 0 6) x1 x2)) ((g_X2_putNumbered h 21 (f_X1_needOf h (h.2.2 11 0 6) x1 x2)).2.2 11 0 6) x2)) x1 (x2 + 1)))))))))
def fw_X11_formatNeeds_32 : Nat → Hp → Int32 → Int32 → Int32
  | 0, _, _, _ => 0
  | n + 1, h, x1, x2 => if (h.1 1 (h.2.2 11 0 6) 0) ≤ x2 then (h.1 2 0 0) else (if (f_X1_needOf h (h.2.2 11 0 6) x1 x2) ≤ 0 then (fw_X11_formatNeeds_32 n h x1 (x2 + 1)) else (fw_X11_formatNeeds_32 n (g_X2_putName (g_X2_putNumbered h 21 (f_X1_needOf h (h.2.2 11 0 6) x1 x2)) (f_X1_partName (g_X2_putNumbered h 21 (f_X1_needOf h (h.2.2 11 0 6) x1 x2)) ((g_X2_putNumbered h 21 (f_X1_needOf h (h.2.2 11 0 6) x1 x2)).2.2 11 0 6) x2)) x1 (x2 + 1)))
def gw_X11_formatNeeds_32 : Nat → Hp → Int32 → Int32 → Hp
  | 0, h, _, _ => h
  | n + 1, h, x1, x2 => if (h.1 1 (h.2.2 11 0 6) 0) ≤ x2 then h else (if (f_X1_needOf h (h.2.2 11 0 6) x1 x2) ≤ 0 then (gw_X11_formatNeeds_32 n h x1 (x2 + 1)) else (gw_X11_formatNeeds_32 n (g_X2_putName (g_X2_putNumbered h 21 (f_X1_needOf h (h.2.2 11 0 6) x1 x2)) (f_X1_partName (g_X2_putNumbered h 21 (f_X1_needOf h (h.2.2 11 0 6) x1 x2)) ((g_X2_putNumbered h 21 (f_X1_needOf h (h.2.2 11 0 6) x1 x2)).2.2 11 0 6) x2)) x1 (x2 + 1)))
set_option maxHeartbeats 4000000 in
theorem lw_X11_formatNeeds_32 {X : WD → State → Prop} {d rb : Nat} {Qr : Option AV → Hp → Prop} {Qx : String → Hp → Prop}   : ∀ (n : Nat) (h : Hp) (x1 : Int32) (x2 : Int32), pw_X11_formatNeeds_32 n h x1 x2 → Qr (some (vI (fw_X11_formatNeeds_32 n h x1 x2))) (gw_X11_formatNeeds_32 n h x1 x2) → AW X (d + 8) rb mX11_formatNeeds 32 [(0, vR 11 0), (1, vI x1), (2, vI x2)] [] h Qr Qx := by
  intro n
  induction n with
  | zero => intro h x1 x2 hp; exact hp.elim
  | succ n ih =>
    intro h x1 x2 hp k
    rw [pw_X11_formatNeeds_32] at hp
    rw [fw_X11_formatNeeds_32] at k
    rw [gw_X11_formatNeeds_32] at k
    refine vc_X11_formatNeeds_32 (d := d + 7)  ?_
    refine ⟨fun c => ?_, fun c => ?_⟩
    · replace hp := hp.1 c
      try simp only [if_pos c] at k
      exact k
    · replace hp := hp.2 c
      try simp only [if_neg c] at k
      refine c_X1_needOf  hp.1 ?_
      replace hp := hp.2
      refine ⟨fun c => ?_, fun c => ?_⟩
      · replace hp := hp.1 c
        try simp only [if_pos c] at k
        exact ih _ _ _ hp k
      · replace hp := hp.2 c
        try simp only [if_neg c] at k
        refine c_X2_putNumbered (by decide) hp.1 ?_
        replace hp := hp.2
        refine c_X1_partName  hp.1 ?_
        replace hp := hp.2
        refine c_X2_putName  hp.1 ?_
        replace hp := hp.2
        exact ih _ _ _ hp k
def p_X11_formatNeeds (h : Hp) (a1 : Int32) : Prop := p_X11_checkProduct h a1 ∧ (x_X11_checkProduct h a1 = 0 → (p_X1_productName h (h.2.2 11 0 6) a1 ∧ (p_X2_begin h (f_X1_productName h (h.2.2 11 0 6) a1) ∧ (p_X2_putText (g_X2_begin h (f_X1_productName h (h.2.2 11 0 6) a1)) 20 ∧ (pw_X11_formatNeeds_32 oa_N (g_X2_putText (g_X2_begin h (f_X1_productName h (h.2.2 11 0 6) a1)) 20) a1 0)))))
def f_X11_formatNeeds (h : Hp) (a1 : Int32) : Int32 := if x_X11_checkProduct h a1 = 0 then (fw_X11_formatNeeds_32 oa_N (g_X2_putText (g_X2_begin h (f_X1_productName h (h.2.2 11 0 6) a1)) 20) a1 0) else 0
def g_X11_formatNeeds (h : Hp) (a1 : Int32) : Hp := if x_X11_checkProduct h a1 = 0 then (gw_X11_formatNeeds_32 oa_N (g_X2_putText (g_X2_begin h (f_X1_productName h (h.2.2 11 0 6) a1)) 20) a1 0) else h
def x_X11_formatNeeds (h : Hp) (a1 : Int32) : Nat := if x_X11_checkProduct h a1 = 0 then 0 else x_X11_checkProduct h a1
set_option maxHeartbeats 4000000 in
theorem c_X11_formatNeeds {d : Nat} {h : Hp} {P : Int32 → Hp → Prop} {Qx : String → Hp → Prop} {a1 : Int32}  (hp : p_X11_formatNeeds h a1) (hx : x_X11_formatNeeds h a1 = 0) (k : P (f_X11_formatNeeds h a1) (g_X11_formatNeeds h a1)) : CL 0 (d + 8) mX11_formatNeeds [vR 11 0, vI a1] h (oI P) Qx := by
  replace k : oI P (some (vI (f_X11_formatNeeds h a1))) (g_X11_formatNeeds h a1) := k
  unfold p_X11_formatNeeds at hp
  unfold f_X11_formatNeeds at k
  unfold g_X11_formatNeeds at k
  unfold x_X11_formatNeeds at hx
  refine CL.ofF (plainFor_of_name rfl) rfl (Nat.le_of_ble_eq_true rfl) (vc_X11_formatNeeds_0 (d := d + 7)  ?_)
  by_cases hc : x_X11_checkProduct h a1 = 0
  · refine Or.inl (c_X11_checkProduct  hp.1 hc ?_)
    replace hp := hp.2 hc
    try simp only [if_pos hc] at k
    try simp only [if_pos hc] at hx
    refine c_X1_productName  hp.1 ?_
    replace hp := hp.2
    refine c_X2_begin  hp.1 ?_
    replace hp := hp.2
    refine c_X2_putText (by decide) hp.1 ?_
    replace hp := hp.2
    exact lw_X11_formatNeeds_32  _ _ _ _ hp k
  · simp only [if_neg hc] at hx
    exact absurd hx hc
set_option maxHeartbeats 4000000 in
theorem t_X11_formatNeeds {d : Nat} {h : Hp} {Qx : String → Hp → Prop} {a1 : Int32}  (hp : p_X11_formatNeeds h a1) (hx : ¬ x_X11_formatNeeds h a1 = 0) (k : Qx (oa_ex (x_X11_formatNeeds h a1)) (g_X11_formatNeeds h a1)) : CL 1 (d + 8) mX11_formatNeeds [vR 11 0, vI a1] h (fun _ _ => False) Qx := by
  unfold p_X11_formatNeeds at hp
  unfold g_X11_formatNeeds at k
  unfold x_X11_formatNeeds at hx
  unfold x_X11_formatNeeds at k
  refine CL.ofF (plainFor_of_name rfl) rfl (Nat.le_of_ble_eq_true rfl) (vc_X11_formatNeeds_0 (d := d + 7)  ?_)
  by_cases hc : x_X11_checkProduct h a1 = 0
  · refine Or.inl (c_X11_checkProduct  hp.1 hc ?_)
    replace hp := hp.2 hc
    try simp only [if_pos hc] at k
    try simp only [if_pos hc] at hx
    refine c_X1_productName  hp.1 ?_
    replace hp := hp.2
    refine c_X2_begin  hp.1 ?_
    replace hp := hp.2
    refine c_X2_putText (by decide) hp.1 ?_
    replace hp := hp.2
    exact (hx (by first | rfl | trivial)).elim
  · try simp only [if_neg hc] at k
    exact Or.inr (t_X11_checkProduct  hp.1 hc k)
def p_X11_shortageOfAll (h : Hp) (a1 : Int32) : Prop := p_X5_openPieces h (h.2.2 11 0 7) (h.2.2 11 0 6) a1 ∧ (p_X10_freeOf h (h.2.2 11 0 7) a1 ∧ (p_X10_allArriving h (h.2.2 11 0 7) a1 ∧ True))
def f_X11_shortageOfAll (h : Hp) (a1 : Int32) : Int32 := if 0 < (((f_X5_openPieces h (h.2.2 11 0 7) (h.2.2 11 0 6) a1) - (f_X10_freeOf h (h.2.2 11 0 7) a1)) - (f_X10_allArriving h (h.2.2 11 0 7) a1)) then (((f_X5_openPieces h (h.2.2 11 0 7) (h.2.2 11 0 6) a1) - (f_X10_freeOf h (h.2.2 11 0 7) a1)) - (f_X10_allArriving h (h.2.2 11 0 7) a1)) else 0
set_option maxHeartbeats 4000000 in
theorem c_X11_shortageOfAll {d : Nat} {h : Hp} {P : Int32 → Hp → Prop} {Qx : String → Hp → Prop} {a1 : Int32}  (hp : p_X11_shortageOfAll h a1) (k : P (f_X11_shortageOfAll h a1) h) : CL 0 (d + 4) mX11_shortageOfAll [vR 11 0, vI a1] h (oI P) Qx := by
  replace k : oI P (some (vI (f_X11_shortageOfAll h a1))) h := k
  unfold p_X11_shortageOfAll at hp
  unfold f_X11_shortageOfAll at k
  refine CL.ofF (plainFor_of_name rfl) rfl (Nat.le_of_ble_eq_true rfl) (vc_X11_shortageOfAll_0 (d := d + 3)  ?_)
  refine c_X5_openPieces  hp.1 ?_
  replace hp := hp.2
  refine c_X10_freeOf  hp.1 ?_
  replace hp := hp.2
  refine c_X10_allArriving  hp.1 ?_
  replace hp := hp.2
  exact k
def pw_X12_triesAll_55 : Nat → Hp → Int32 → Prop
  | 0, _, _ => False
  | n + 1, h, x1 => (((h.1 56 0 2) ≤ x1) → True) ∧ ((¬ (h.1 56 0 2) ≤ x1) → (p_X12_triesRung h x1 ∧ (pw_X12_triesAll_55 n (g_X12_triesRung h x1) (x1 + 1))))
def gw_X12_triesAll_55 : Nat → Hp → Int32 → Hp
  | 0, h, _ => h
  | n + 1, h, x1 => if (h.1 56 0 2) ≤ x1 then h else (gw_X12_triesAll_55 n (g_X12_triesRung h x1) (x1 + 1))
set_option maxHeartbeats 4000000 in
theorem lw_X12_triesAll_55 {X : WD → State → Prop} {d rb : Nat} {Qr : Option AV → Hp → Prop} {Qx : String → Hp → Prop}   : ∀ (n : Nat) (h : Hp) (x1 : Int32), pw_X12_triesAll_55 n h x1 → Qr none (gw_X12_triesAll_55 n h x1) → AW X (d + 5) rb mX12_triesAll 55 [(0, vR 12 0), (1, vI x1)] [] h Qr Qx := by
  intro n
  induction n with
  | zero => intro h x1 hp; exact hp.elim
  | succ n ih =>
    intro h x1 hp k
    rw [pw_X12_triesAll_55] at hp
    rw [gw_X12_triesAll_55] at k
    refine vc_X12_triesAll_55 (d := d + 4)  ?_
    refine ⟨fun c => ?_, fun c => ?_⟩
    · replace hp := hp.1 c
      try simp only [if_pos c] at k
      exact k
    · replace hp := hp.2 c
      try simp only [if_neg c] at k
      refine c_X12_triesRung  hp.1 ?_
      replace hp := hp.2
      exact ih _ _ hp k
def pw_X12_triesAll_27 : Nat → Hp → Int32 → Prop
  | 0, _, _ => False
  | n + 1, h, x1 => ((20 ≤ x1) → (pw_X12_triesAll_55 oa_N h 0)) ∧ ((¬ 20 ≤ x1) → ((vp_in x1 20) ∧ ((vp_in x1 20) ∧ (pw_X12_triesAll_27 n (hp_i (hp_i h 62 0 x1.toNatClampNeg 0) 63 0 x1.toNatClampNeg (-1)) (x1 + 1)))))
def gw_X12_triesAll_27 : Nat → Hp → Int32 → Hp
  | 0, h, _ => h
  | n + 1, h, x1 => if 20 ≤ x1 then (gw_X12_triesAll_55 oa_N h 0) else (gw_X12_triesAll_27 n (hp_i (hp_i h 62 0 x1.toNatClampNeg 0) 63 0 x1.toNatClampNeg (-1)) (x1 + 1))
set_option maxHeartbeats 4000000 in
theorem lw_X12_triesAll_27 {X : WD → State → Prop} {d rb : Nat} {Qr : Option AV → Hp → Prop} {Qx : String → Hp → Prop}   : ∀ (n : Nat) (h : Hp) (x1 : Int32), pw_X12_triesAll_27 n h x1 → Qr none (gw_X12_triesAll_27 n h x1) → AW X (d + 5) rb mX12_triesAll 27 [(0, vR 12 0), (1, vI x1)] [] h Qr Qx := by
  intro n
  induction n with
  | zero => intro h x1 hp; exact hp.elim
  | succ n ih =>
    intro h x1 hp k
    rw [pw_X12_triesAll_27] at hp
    rw [gw_X12_triesAll_27] at k
    refine vc_X12_triesAll_27 (d := d + 4)  ?_
    refine ⟨fun c => ?_, fun c => ?_⟩
    · replace hp := hp.1 c
      try simp only [if_pos c] at k
      exact lw_X12_triesAll_55  _ _ _ hp k
    · replace hp := hp.2 c
      try simp only [if_neg c] at k
      refine ⟨hp.1, ?_⟩
      replace hp := hp.2
      refine ⟨hp.1, ?_⟩
      replace hp := hp.2
      exact ih _ _ hp k
def pw_X12_triesAll_2 : Nat → Hp → Int32 → Prop
  | 0, _, _ => False
  | n + 1, h, x1 => ((12 ≤ x1) → (pw_X12_triesAll_27 oa_N h 0)) ∧ ((¬ 12 ≤ x1) → (p_X12_free h x1 ∧ ((vp_in x1 12) ∧ (pw_X12_triesAll_2 n (hp_i h 60 0 x1.toNatClampNeg (f_X12_free h x1)) (x1 + 1)))))
def gw_X12_triesAll_2 : Nat → Hp → Int32 → Hp
  | 0, h, _ => h
  | n + 1, h, x1 => if 12 ≤ x1 then (gw_X12_triesAll_27 oa_N h 0) else (gw_X12_triesAll_2 n (hp_i h 60 0 x1.toNatClampNeg (f_X12_free h x1)) (x1 + 1))
set_option maxHeartbeats 4000000 in
theorem lw_X12_triesAll_2 {X : WD → State → Prop} {d rb : Nat} {Qr : Option AV → Hp → Prop} {Qx : String → Hp → Prop}   : ∀ (n : Nat) (h : Hp) (x1 : Int32), pw_X12_triesAll_2 n h x1 → Qr none (gw_X12_triesAll_2 n h x1) → AW X (d + 5) rb mX12_triesAll 2 [(0, vR 12 0), (1, vI x1)] [] h Qr Qx := by
  intro n
  induction n with
  | zero => intro h x1 hp; exact hp.elim
  | succ n ih =>
    intro h x1 hp k
    rw [pw_X12_triesAll_2] at hp
    rw [gw_X12_triesAll_2] at k
    refine vc_X12_triesAll_2 (d := d + 4)  ?_
    refine ⟨fun c => ?_, fun c => ?_⟩
    · replace hp := hp.1 c
      try simp only [if_pos c] at k
      exact lw_X12_triesAll_27  _ _ _ hp k
    · replace hp := hp.2 c
      try simp only [if_neg c] at k
      refine c_X12_free  hp.1 ?_
      replace hp := hp.2
      refine ⟨hp.1, ?_⟩
      replace hp := hp.2
      exact ih _ _ hp k
def p_X12_triesAll (h : Hp)  : Prop := pw_X12_triesAll_2 oa_N h 0
def g_X12_triesAll (h : Hp)  : Hp := gw_X12_triesAll_2 oa_N h 0
set_option maxHeartbeats 4000000 in
theorem c_X12_triesAll {d : Nat} {h : Hp} {P : Hp → Prop} {Qx : String → Hp → Prop}   (hp : p_X12_triesAll h ) (k : P  (g_X12_triesAll h )) : CL 0 (d + 5) mX12_triesAll [vR 12 0] h (oV P) Qx := by
  replace k : oV P none (g_X12_triesAll h ) := k
  unfold p_X12_triesAll at hp
  unfold g_X12_triesAll at k
  refine CL.ofF (plainFor_of_name rfl) rfl (Nat.le_of_ble_eq_true rfl) (vc_X12_triesAll_0 (d := d + 4)  ?_)
  exact lw_X12_triesAll_2  _ _ _ hp k
def p_X12_wouldGet (h : Hp) (a1 : Int32) : Prop := p_X12_noOrder (hp_i h 12 0 0 0) a1 ∧ ((((f_X12_noOrder (hp_i h 12 0 0 0) a1) = 0) → (p_X12_triesAll (g_X12_noOrder (hp_i h 12 0 0 0) a1) ∧ ((vp_in a1 20) ∧ True))) ∧ ((¬ (f_X12_noOrder (hp_i h 12 0 0 0) a1) = 0) → True))
def f_X12_wouldGet (h : Hp) (a1 : Int32) : Int32 := if (f_X12_noOrder (hp_i h 12 0 0 0) a1) = 0 then ((g_X12_triesAll (g_X12_noOrder (hp_i h 12 0 0 0) a1)).1 62 0 a1.toNatClampNeg) else 0
def g_X12_wouldGet (h : Hp) (a1 : Int32) : Hp := if (f_X12_noOrder (hp_i h 12 0 0 0) a1) = 0 then (g_X12_triesAll (g_X12_noOrder (hp_i h 12 0 0 0) a1)) else (g_X12_noOrder (hp_i h 12 0 0 0) a1)
set_option maxHeartbeats 4000000 in
theorem c_X12_wouldGet {d : Nat} {h : Hp} {P : Int32 → Hp → Prop} {Qx : String → Hp → Prop} {a1 : Int32}  (hp : p_X12_wouldGet h a1) (k : P (f_X12_wouldGet h a1) (g_X12_wouldGet h a1)) : CL 0 (d + 6) mX12_wouldGet [vR 12 0, vI a1] h (oI P) Qx := by
  replace k : oI P (some (vI (f_X12_wouldGet h a1))) (g_X12_wouldGet h a1) := k
  unfold p_X12_wouldGet at hp
  unfold f_X12_wouldGet at k
  unfold g_X12_wouldGet at k
  refine CL.ofF (plainFor_of_name rfl) rfl (Nat.le_of_ble_eq_true rfl) (vc_X12_wouldGet_0 (d := d + 5)  ?_)
  refine c_X12_noOrder  hp.1 ?_
  replace hp := hp.2
  refine ⟨fun c => ?_, fun c => ?_⟩
  · replace hp := hp.1 c
    try simp only [if_pos c] at k
    refine c_X12_triesAll  hp.1 ?_
    replace hp := hp.2
    refine ⟨hp.1, ?_⟩
    replace hp := hp.2
    exact k
  · replace hp := hp.2 c
    try simp only [if_neg c] at k
    exact k
def p_X12_rungOf (h : Hp) (a1 : Int32) : Prop := p_X12_noOrder (hp_i h 12 0 0 0) a1 ∧ ((((f_X12_noOrder (hp_i h 12 0 0 0) a1) = 0) → (p_X12_triesAll (g_X12_noOrder (hp_i h 12 0 0 0) a1) ∧ ((vp_in a1 20) ∧ True))) ∧ ((¬ (f_X12_noOrder (hp_i h 12 0 0 0) a1) = 0) → True))
def f_X12_rungOf (h : Hp) (a1 : Int32) : Int32 := if (f_X12_noOrder (hp_i h 12 0 0 0) a1) = 0 then ((g_X12_triesAll (g_X12_noOrder (hp_i h 12 0 0 0) a1)).1 63 0 a1.toNatClampNeg) else 0
def g_X12_rungOf (h : Hp) (a1 : Int32) : Hp := if (f_X12_noOrder (hp_i h 12 0 0 0) a1) = 0 then (g_X12_triesAll (g_X12_noOrder (hp_i h 12 0 0 0) a1)) else (g_X12_noOrder (hp_i h 12 0 0 0) a1)
set_option maxHeartbeats 4000000 in
theorem c_X12_rungOf {d : Nat} {h : Hp} {P : Int32 → Hp → Prop} {Qx : String → Hp → Prop} {a1 : Int32}  (hp : p_X12_rungOf h a1) (k : P (f_X12_rungOf h a1) (g_X12_rungOf h a1)) : CL 0 (d + 6) mX12_rungOf [vR 12 0, vI a1] h (oI P) Qx := by
  replace k : oI P (some (vI (f_X12_rungOf h a1))) (g_X12_rungOf h a1) := k
  unfold p_X12_rungOf at hp
  unfold f_X12_rungOf at k
  unfold g_X12_rungOf at k
  refine CL.ofF (plainFor_of_name rfl) rfl (Nat.le_of_ble_eq_true rfl) (vc_X12_rungOf_0 (d := d + 5)  ?_)
  refine c_X12_noOrder  hp.1 ?_
  replace hp := hp.2
  refine ⟨fun c => ?_, fun c => ?_⟩
  · replace hp := hp.1 c
    try simp only [if_pos c] at k
    refine c_X12_triesAll  hp.1 ?_
    replace hp := hp.2
    refine ⟨hp.1, ?_⟩
    replace hp := hp.2
    exact k
  · replace hp := hp.2 c
    try simp only [if_neg c] at k
    exact k
def p_X12_rungUnits (h : Hp) (a1 : Int32) : Prop := p_X12_in (hp_i h 12 0 0 0) a1 0 ((h.1 56 0 2) - 1) ∧ (p_X12_throwsIf (hp_i h 12 0 0 0) (if ¬ (f_X12_in (hp_i h 12 0 0 0) a1 0 ((h.1 56 0 2) - 1)) = 0 then (0 : Int32) else 1) 1 ∧ ((((f_X12_throwsIf (hp_i h 12 0 0 0) (if ¬ (f_X12_in (hp_i h 12 0 0 0) a1 0 ((h.1 56 0 2) - 1)) = 0 then (0 : Int32) else 1) 1) = 0) → (p_X12_triesAll (g_X12_throwsIf (hp_i h 12 0 0 0) (if ¬ (f_X12_in (hp_i h 12 0 0 0) a1 0 ((h.1 56 0 2) - 1)) = 0 then (0 : Int32) else 1) 1) ∧ ((vp_in a1 6) ∧ True))) ∧ ((¬ (f_X12_throwsIf (hp_i h 12 0 0 0) (if ¬ (f_X12_in (hp_i h 12 0 0 0) a1 0 ((h.1 56 0 2) - 1)) = 0 then (0 : Int32) else 1) 1) = 0) → True)))
def f_X12_rungUnits (h : Hp) (a1 : Int32) : Int32 := if (f_X12_throwsIf (hp_i h 12 0 0 0) (if ¬ (f_X12_in (hp_i h 12 0 0 0) a1 0 ((h.1 56 0 2) - 1)) = 0 then (0 : Int32) else 1) 1) = 0 then ((g_X12_triesAll (g_X12_throwsIf (hp_i h 12 0 0 0) (if ¬ (f_X12_in (hp_i h 12 0 0 0) a1 0 ((h.1 56 0 2) - 1)) = 0 then (0 : Int32) else 1) 1)).1 64 0 a1.toNatClampNeg) else 0
def g_X12_rungUnits (h : Hp) (a1 : Int32) : Hp := if (f_X12_throwsIf (hp_i h 12 0 0 0) (if ¬ (f_X12_in (hp_i h 12 0 0 0) a1 0 ((h.1 56 0 2) - 1)) = 0 then (0 : Int32) else 1) 1) = 0 then (g_X12_triesAll (g_X12_throwsIf (hp_i h 12 0 0 0) (if ¬ (f_X12_in (hp_i h 12 0 0 0) a1 0 ((h.1 56 0 2) - 1)) = 0 then (0 : Int32) else 1) 1)) else (g_X12_throwsIf (hp_i h 12 0 0 0) (if ¬ (f_X12_in (hp_i h 12 0 0 0) a1 0 ((h.1 56 0 2) - 1)) = 0 then (0 : Int32) else 1) 1)
set_option maxHeartbeats 4000000 in
theorem c_X12_rungUnits {d : Nat} {h : Hp} {P : Int32 → Hp → Prop} {Qx : String → Hp → Prop} {a1 : Int32}  (hp : p_X12_rungUnits h a1) (k : P (f_X12_rungUnits h a1) (g_X12_rungUnits h a1)) : CL 0 (d + 6) mX12_rungUnits [vR 12 0, vI a1] h (oI P) Qx := by
  replace k : oI P (some (vI (f_X12_rungUnits h a1))) (g_X12_rungUnits h a1) := k
  unfold p_X12_rungUnits at hp
  unfold f_X12_rungUnits at k
  unfold g_X12_rungUnits at k
  refine CL.ofF (plainFor_of_name rfl) rfl (Nat.le_of_ble_eq_true rfl) (vc_X12_rungUnits_0 (d := d + 5)  ?_)
  refine c_X12_in  hp.1 ?_
  replace hp := hp.2
  refine c_X12_throwsIf  hp.1 ?_
  replace hp := hp.2
  refine ⟨fun c => ?_, fun c => ?_⟩
  · replace hp := hp.1 c
    try simp only [if_pos c] at k
    refine c_X12_triesAll  hp.1 ?_
    replace hp := hp.2
    refine ⟨hp.1, ?_⟩
    replace hp := hp.2
    exact k
  · replace hp := hp.2 c
    try simp only [if_neg c] at k
    exact k
def pw_X12_allocate_17 : Nat → Hp → Int32 → Int32 → Prop
  | 0, _, _, _ => False
  | n + 1, h, x1, x2 => (((h.1 58 0 1) ≤ x2) → True) ∧ ((¬ (h.1 58 0 1) ≤ x2) → ((vp_in x2 20) ∧ (p_X12_holds h x2 (h.1 62 0 x2.toNatClampNeg) ∧ ((vp_in x2 20) ∧ (pw_X12_allocate_17 n (g_X12_holds h x2 (h.1 62 0 x2.toNatClampNeg)) (x1 + ((g_X12_holds h x2 (h.1 62 0 x2.toNatClampNeg)).1 62 0 x2.toNatClampNeg)) (x2 + 1))))))
def fw_X12_allocate_17 : Nat → Hp → Int32 → Int32 → Int32
  | 0, _, _, _ => 0
  | n + 1, h, x1, x2 => if (h.1 58 0 1) ≤ x2 then x1 else (fw_X12_allocate_17 n (g_X12_holds h x2 (h.1 62 0 x2.toNatClampNeg)) (x1 + ((g_X12_holds h x2 (h.1 62 0 x2.toNatClampNeg)).1 62 0 x2.toNatClampNeg)) (x2 + 1))
def gw_X12_allocate_17 : Nat → Hp → Int32 → Int32 → Hp
  | 0, h, _, _ => h
  | n + 1, h, x1, x2 => if (h.1 58 0 1) ≤ x2 then h else (gw_X12_allocate_17 n (g_X12_holds h x2 (h.1 62 0 x2.toNatClampNeg)) (x1 + ((g_X12_holds h x2 (h.1 62 0 x2.toNatClampNeg)).1 62 0 x2.toNatClampNeg)) (x2 + 1))
set_option maxHeartbeats 4000000 in
theorem lw_X12_allocate_17 {X : WD → State → Prop} {d rb : Nat} {Qr : Option AV → Hp → Prop} {Qx : String → Hp → Prop}   : ∀ (n : Nat) (h : Hp) (x1 : Int32) (x2 : Int32), pw_X12_allocate_17 n h x1 x2 → Qr (some (vI (fw_X12_allocate_17 n h x1 x2))) (gw_X12_allocate_17 n h x1 x2) → AW X (d + 6) rb mX12_allocate 17 [(0, vR 12 0), (1, vI x1), (2, vI x2)] [] h Qr Qx := by
  intro n
  induction n with
  | zero => intro h x1 x2 hp; exact hp.elim
  | succ n ih =>
    intro h x1 x2 hp k
    rw [pw_X12_allocate_17] at hp
    rw [fw_X12_allocate_17] at k
    rw [gw_X12_allocate_17] at k
    refine vc_X12_allocate_17 (d := d + 5)  ?_
    refine ⟨fun c => ?_, fun c => ?_⟩
    · replace hp := hp.1 c
      try simp only [if_pos c] at k
      exact k
    · replace hp := hp.2 c
      try simp only [if_neg c] at k
      refine ⟨hp.1, ?_⟩
      replace hp := hp.2
      refine c_X12_holds  hp.1 ?_
      replace hp := hp.2
      refine ⟨hp.1, ?_⟩
      replace hp := hp.2
      exact ih _ _ _ hp k
def p_X12_allocate (h : Hp)  : Prop := p_X12_keeps (hp_i h 12 0 0 0) ∧ (p_X12_triesAll (g_X12_keeps (hp_i h 12 0 0 0)) ∧ (pw_X12_allocate_17 oa_N (g_X12_triesAll (g_X12_keeps (hp_i h 12 0 0 0))) 0 0))
def f_X12_allocate (h : Hp)  : Int32 := fw_X12_allocate_17 oa_N (g_X12_triesAll (g_X12_keeps (hp_i h 12 0 0 0))) 0 0
def g_X12_allocate (h : Hp)  : Hp := gw_X12_allocate_17 oa_N (g_X12_triesAll (g_X12_keeps (hp_i h 12 0 0 0))) 0 0
set_option maxHeartbeats 4000000 in
theorem c_X12_allocate {d : Nat} {h : Hp} {P : Int32 → Hp → Prop} {Qx : String → Hp → Prop}   (hp : p_X12_allocate h ) (k : P (f_X12_allocate h ) (g_X12_allocate h )) : CL 0 (d + 6) mX12_allocate [vR 12 0] h (oI P) Qx := by
  replace k : oI P (some (vI (f_X12_allocate h ))) (g_X12_allocate h ) := k
  unfold p_X12_allocate at hp
  unfold f_X12_allocate at k
  unfold g_X12_allocate at k
  refine CL.ofF (plainFor_of_name rfl) rfl (Nat.le_of_ble_eq_true rfl) (vc_X12_allocate_0 (d := d + 5)  ?_)
  refine c_X12_keeps  hp.1 ?_
  replace hp := hp.2
  refine c_X12_triesAll  hp.1 ?_
  replace hp := hp.2
  exact lw_X12_allocate_17  _ _ _ _ hp k
def p_X0_begin (h : Hp) (i1 : Nat) : Prop := p_X10_fillFree h i1 13 0 12 ∧ (p_X6_fillTurns (g_X10_fillFree h i1 13 0 12) i1 15 0 20 ∧ (p_J7_fill_53178 (g_X6_fillTurns (g_X10_fillFree h i1 13 0 12) i1 15 0 20) 16 0 20 0 ∧ (p_J7_fill_53178 (g_J7_fill_53178 (g_X6_fillTurns (g_X10_fillFree h i1 13 0 12) i1 15 0 20) 16 0 20 0) 17 0 20 (-1) ∧ (p_J7_fill_53178 (g_J7_fill_53178 (g_J7_fill_53178 (g_X6_fillTurns (g_X10_fillFree h i1 13 0 12) i1 15 0 20) 16 0 20 0) 17 0 20 (-1)) 18 0 6 0 ∧ True))))
def g_X0_begin (h : Hp) (i1 : Nat) : Hp := (g_J7_fill_53178 (g_J7_fill_53178 (g_J7_fill_53178 (g_X6_fillTurns (g_X10_fillFree h i1 13 0 12) i1 15 0 20) 16 0 20 0) 17 0 20 (-1)) 18 0 6 0)
set_option maxHeartbeats 4000000 in
theorem c_X0_begin {d : Nat} {h : Hp} {P : Hp → Prop} {Qx : String → Hp → Prop} {i1 : Nat}  (hp : p_X0_begin h i1) (k : P  (g_X0_begin h i1)) : CL 0 (d + 5) mX0_begin [vR 0 0, vR 5 i1] h (oV P) Qx := by
  replace k : oV P none (g_X0_begin h i1) := k
  unfold p_X0_begin at hp
  unfold g_X0_begin at k
  refine CL.ofF (plainFor_of_name rfl) rfl (Nat.le_of_ble_eq_true rfl) (vc_X0_begin_0 (d := d + 4)  ?_)
  refine c_X10_fillFree (by decide) rfl hp.1 ?_
  replace hp := hp.2
  refine c_X6_fillTurns (by decide) rfl hp.1 ?_
  replace hp := hp.2
  refine c_J7_fill_53178 (by decide) rfl hp.1 ?_
  replace hp := hp.2
  refine c_J7_fill_53178 (by decide) rfl hp.1 ?_
  replace hp := hp.2
  refine c_J7_fill_53178 (by decide) rfl hp.1 ?_
  replace hp := hp.2
  exact k
def pw_X0_coveredSet_10 : Nat → Hp → Nat → Nat → Int32 → Int32 → Prop
  | 0, _, _, _, _, _ => False
  | n + 1, h, i1, i2, x3, x4 => (((h.1 6 i2 0) ≤ x4) → True) ∧ ((¬ (h.1 6 i2 0) ≤ x4) → (((20 ≤ x4) → True) ∧ ((¬ 20 ≤ x4) → ((vp_in x4 20) ∧ (p_X6_productOf h i2 (h.1 15 0 x4.toNatClampNeg) ∧ (p_X6_openOf h i2 (h.1 15 0 x4.toNatClampNeg) ∧ ((((f_X6_openOf h i2 (h.1 15 0 x4.toNatClampNeg)) ≤ 0) → (pw_X0_coveredSet_10 n h i1 i2 x3 (x4 + 1))) ∧ ((¬ (f_X6_openOf h i2 (h.1 15 0 x4.toNatClampNeg)) ≤ 0) → (p_X1_mostUnits h i1 (f_X6_productOf h i2 (h.1 15 0 x4.toNatClampNeg)) 13 0 12 ∧ ((((f_X1_mostUnits h i1 (f_X6_productOf h i2 (h.1 15 0 x4.toNatClampNeg)) 13 0 12) < (f_X6_openOf h i2 (h.1 15 0 x4.toNatClampNeg))) → (pw_X0_coveredSet_10 n h i1 i2 x3 (x4 + 1))) ∧ ((¬ (f_X1_mostUnits h i1 (f_X6_productOf h i2 (h.1 15 0 x4.toNatClampNeg)) 13 0 12) < (f_X6_openOf h i2 (h.1 15 0 x4.toNatClampNeg))) → (p_X1_takePieces h i1 (f_X6_productOf h i2 (h.1 15 0 x4.toNatClampNeg)) (f_X6_openOf h i2 (h.1 15 0 x4.toNatClampNeg)) 13 0 12 ∧ (pw_X0_coveredSet_10 n (g_X1_takePieces h i1 (f_X6_productOf h i2 (h.1 15 0 x4.toNatClampNeg)) (f_X6_openOf h i2 (h.1 15 0 x4.toNatClampNeg)) 13 0 12) i1 i2 (x3 ||| (1 <<< ((h.1 15 0 x4.toNatClampNeg) &&& 31))) (x4 + 1))))))))))))))
def fw_X0_coveredSet_10 : Nat → Hp → Nat → Nat → Int32 → Int32 → Int32
  | 0, _, _, _, _, _ => 0
  | n + 1, h, i1, i2, x3, x4 => if (h.1 6 i2 0) ≤ x4 then x3 else (if 20 ≤ x4 then x3 else (if (f_X6_openOf h i2 (h.1 15 0 x4.toNatClampNeg)) ≤ 0 then (fw_X0_coveredSet_10 n h i1 i2 x3 (x4 + 1)) else (if (f_X1_mostUnits h i1 (f_X6_productOf h i2 (h.1 15 0 x4.toNatClampNeg)) 13 0 12) < (f_X6_openOf h i2 (h.1 15 0 x4.toNatClampNeg)) then (fw_X0_coveredSet_10 n h i1 i2 x3 (x4 + 1)) else (fw_X0_coveredSet_10 n (g_X1_takePieces h i1 (f_X6_productOf h i2 (h.1 15 0 x4.toNatClampNeg)) (f_X6_openOf h i2 (h.1 15 0 x4.toNatClampNeg)) 13 0 12) i1 i2 (x3 ||| (1 <<< ((h.1 15 0 x4.toNatClampNeg) &&& 31))) (x4 + 1)))))
def gw_X0_coveredSet_10 : Nat → Hp → Nat → Nat → Int32 → Int32 → Hp
  | 0, h, _, _, _, _ => h
  | n + 1, h, i1, i2, x3, x4 => if (h.1 6 i2 0) ≤ x4 then h else (if 20 ≤ x4 then h else (if (f_X6_openOf h i2 (h.1 15 0 x4.toNatClampNeg)) ≤ 0 then (gw_X0_coveredSet_10 n h i1 i2 x3 (x4 + 1)) else (if (f_X1_mostUnits h i1 (f_X6_productOf h i2 (h.1 15 0 x4.toNatClampNeg)) 13 0 12) < (f_X6_openOf h i2 (h.1 15 0 x4.toNatClampNeg)) then (gw_X0_coveredSet_10 n h i1 i2 x3 (x4 + 1)) else (gw_X0_coveredSet_10 n (g_X1_takePieces h i1 (f_X6_productOf h i2 (h.1 15 0 x4.toNatClampNeg)) (f_X6_openOf h i2 (h.1 15 0 x4.toNatClampNeg)) 13 0 12) i1 i2 (x3 ||| (1 <<< ((h.1 15 0 x4.toNatClampNeg) &&& 31))) (x4 + 1)))))
set_option maxHeartbeats 4000000 in
theorem lw_X0_coveredSet_10 {X : WD → State → Prop} {d rb : Nat} {Qr : Option AV → Hp → Prop} {Qx : String → Hp → Prop}   : ∀ (n : Nat) (h : Hp) (i1 : Nat) (i2 : Nat) (x3 : Int32) (x4 : Int32), pw_X0_coveredSet_10 n h i1 i2 x3 x4 → Qr (some (vI (fw_X0_coveredSet_10 n h i1 i2 x3 x4))) (gw_X0_coveredSet_10 n h i1 i2 x3 x4) → AW X (d + 6) rb mX0_coveredSet 10 [(0, vR 0 0), (1, vR 1 i1), (2, vR 5 i2), (3, vI x3), (4, vI x4)] [] h Qr Qx := by
  intro n
  induction n with
  | zero => intro h i1 i2 x3 x4 hp; exact hp.elim
  | succ n ih =>
    intro h i1 i2 x3 x4 hp k
    rw [pw_X0_coveredSet_10] at hp
    rw [fw_X0_coveredSet_10] at k
    rw [gw_X0_coveredSet_10] at k
    refine vc_X0_coveredSet_10 (d := d + 5)  ?_
    refine ⟨fun c => ?_, fun c => ?_⟩
    · replace hp := hp.1 c
      try simp only [if_pos c] at k
      exact k
    · replace hp := hp.2 c
      try simp only [if_neg c] at k
      refine ⟨fun c => ?_, fun c => ?_⟩
      · replace hp := hp.1 c
        try simp only [if_pos c] at k
        exact k
      · replace hp := hp.2 c
        try simp only [if_neg c] at k
        refine ⟨hp.1, ?_⟩
        replace hp := hp.2
        refine c_X6_productOf  hp.1 ?_
        replace hp := hp.2
        refine c_X6_openOf  hp.1 ?_
        replace hp := hp.2
        refine ⟨fun c => ?_, fun c => ?_⟩
        · replace hp := hp.1 c
          try simp only [if_pos c] at k
          exact ih _ _ _ _ _ hp k
        · replace hp := hp.2 c
          try simp only [if_neg c] at k
          refine c_X1_mostUnits (by decide) rfl hp.1 ?_
          replace hp := hp.2
          refine ⟨fun c => ?_, fun c => ?_⟩
          · replace hp := hp.1 c
            try simp only [if_pos c] at k
            exact ih _ _ _ _ _ hp k
          · replace hp := hp.2 c
            try simp only [if_neg c] at k
            refine c_X1_takePieces (by decide) rfl hp.1 ?_
            replace hp := hp.2
            exact ih _ _ _ _ _ hp k
def p_X0_coveredSet (h : Hp) (i1 : Nat) (i2 : Nat) : Prop := p_X0_begin h i2 ∧ (pw_X0_coveredSet_10 oa_N (g_X0_begin h i2) i1 i2 0 0)
def f_X0_coveredSet (h : Hp) (i1 : Nat) (i2 : Nat) : Int32 := fw_X0_coveredSet_10 oa_N (g_X0_begin h i2) i1 i2 0 0
def g_X0_coveredSet (h : Hp) (i1 : Nat) (i2 : Nat) : Hp := gw_X0_coveredSet_10 oa_N (g_X0_begin h i2) i1 i2 0 0
set_option maxHeartbeats 4000000 in
theorem c_X0_coveredSet {d : Nat} {h : Hp} {P : Int32 → Hp → Prop} {Qx : String → Hp → Prop} {i1 : Nat} {i2 : Nat}  (hp : p_X0_coveredSet h i1 i2) (k : P (f_X0_coveredSet h i1 i2) (g_X0_coveredSet h i1 i2)) : CL 0 (d + 6) mX0_coveredSet [vR 0 0, vR 1 i1, vR 5 i2] h (oI P) Qx := by
  replace k : oI P (some (vI (f_X0_coveredSet h i1 i2))) (g_X0_coveredSet h i1 i2) := k
  unfold p_X0_coveredSet at hp
  unfold f_X0_coveredSet at k
  unfold g_X0_coveredSet at k
  refine CL.ofF (plainFor_of_name rfl) rfl (Nat.le_of_ble_eq_true rfl) (vc_X0_coveredSet_0 (d := d + 5)  ?_)
  refine c_X0_begin  hp.1 ?_
  replace hp := hp.2
  exact lw_X0_coveredSet_10  _ _ _ _ _ _ hp k
def p_X1_oneMoreGains (h : Hp) (i0 : Nat) (a1 : Int32) (a2 : Int32) (t3 : Nat) (i3 : Nat) (n3 : Nat) (a4 : Int32) : Prop := p_X1_limitingPart h i0 a1 a2 t3 i3 n3 a4 ∧ (p_X1_limitingPart h i0 a1 a2 t3 i3 n3 (a4 + 1) ∧ (p_X1_needOf h i0 a2 (f_X1_limitingPart h i0 a1 a2 t3 i3 n3 a4) ∧ (p_X1_needOf h i0 a2 (f_X1_limitingPart h i0 a1 a2 t3 i3 n3 (a4 + 1)) ∧ (p_X1_leftAfter h i0 a1 t3 i3 n3 (f_X1_limitingPart h i0 a1 a2 t3 i3 n3 a4) a4 ∧ (p_X1_leftAfter h i0 a1 t3 i3 n3 (f_X1_limitingPart h i0 a1 a2 t3 i3 n3 (a4 + 1)) (a4 + 1) ∧ (((if (lg_cmp (((f_X1_leftAfter h i0 a1 t3 i3 n3 (f_X1_limitingPart h i0 a1 a2 t3 i3 n3 (a4 + 1)) (a4 + 1)) + (f_X1_needOf h i0 a2 (f_X1_limitingPart h i0 a1 a2 t3 i3 n3 (a4 + 1))).toInt64) * (f_X1_needOf h i0 a2 (f_X1_limitingPart h i0 a1 a2 t3 i3 n3 a4)).toInt64) ((f_X1_leftAfter h i0 a1 t3 i3 n3 (f_X1_limitingPart h i0 a1 a2 t3 i3 n3 a4) a4) * (f_X1_needOf h i0 a2 (f_X1_limitingPart h i0 a1 a2 t3 i3 n3 (a4 + 1))).toInt64)) ≤ 0 then (0 : Int32) else 1) = 0 ∨ (if (lg_cmp (((f_X1_leftAfter h i0 a1 t3 i3 n3 (f_X1_limitingPart h i0 a1 a2 t3 i3 n3 (a4 + 1)) (a4 + 1)) + (f_X1_needOf h i0 a2 (f_X1_limitingPart h i0 a1 a2 t3 i3 n3 (a4 + 1))).toInt64) * (f_X1_needOf h i0 a2 (f_X1_limitingPart h i0 a1 a2 t3 i3 n3 a4)).toInt64) ((f_X1_leftAfter h i0 a1 t3 i3 n3 (f_X1_limitingPart h i0 a1 a2 t3 i3 n3 a4) a4) * (f_X1_needOf h i0 a2 (f_X1_limitingPart h i0 a1 a2 t3 i3 n3 (a4 + 1))).toInt64)) ≤ 0 then (0 : Int32) else 1) = 1) ∧ True))))))
def f_X1_oneMoreGains (h : Hp) (i0 : Nat) (a1 : Int32) (a2 : Int32) (t3 : Nat) (i3 : Nat) (n3 : Nat) (a4 : Int32) : Int32 := if (lg_cmp (((f_X1_leftAfter h i0 a1 t3 i3 n3 (f_X1_limitingPart h i0 a1 a2 t3 i3 n3 (a4 + 1)) (a4 + 1)) + (f_X1_needOf h i0 a2 (f_X1_limitingPart h i0 a1 a2 t3 i3 n3 (a4 + 1))).toInt64) * (f_X1_needOf h i0 a2 (f_X1_limitingPart h i0 a1 a2 t3 i3 n3 a4)).toInt64) ((f_X1_leftAfter h i0 a1 t3 i3 n3 (f_X1_limitingPart h i0 a1 a2 t3 i3 n3 a4) a4) * (f_X1_needOf h i0 a2 (f_X1_limitingPart h i0 a1 a2 t3 i3 n3 (a4 + 1))).toInt64)) ≤ 0 then (0 : Int32) else 1
set_option maxHeartbeats 4000000 in
theorem c_X1_oneMoreGains {d : Nat} {h : Hp} {P : Int32 → Hp → Prop} {Qx : String → Hp → Prop} {i0 : Nat} {a1 : Int32} {a2 : Int32} {t3 i3 n3 : Nat} {f3 : List (Nat × Nat)} {a4 : Int32} (ht3 : t3 < oa_nT) (hk3 : oa_kd t3 = (1, n3, f3)) (hp : p_X1_oneMoreGains h i0 a1 a2 t3 i3 n3 a4) (k : P (f_X1_oneMoreGains h i0 a1 a2 t3 i3 n3 a4) h) : CL 0 (d + 4) mX1_oneMoreGains [vR 1 i0, vI a1, vI a2, vR t3 i3, vI a4] h (oI P) Qx := by
  replace k : oI P (some (vI (f_X1_oneMoreGains h i0 a1 a2 t3 i3 n3 a4))) h := k
  unfold p_X1_oneMoreGains at hp
  unfold f_X1_oneMoreGains at k
  refine CL.ofF (plainFor_of_name rfl) rfl (Nat.le_of_ble_eq_true rfl) (vc_X1_oneMoreGains_0 (d := d + 3) ht3 hk3 ?_)
  refine c_X1_limitingPart ht3 hk3 hp.1 ?_
  replace hp := hp.2
  refine c_X1_limitingPart ht3 hk3 hp.1 ?_
  replace hp := hp.2
  refine c_X1_needOf  hp.1 ?_
  replace hp := hp.2
  refine c_X1_needOf  hp.1 ?_
  replace hp := hp.2
  refine c_X1_leftAfter ht3 hk3 hp.1 ?_
  replace hp := hp.2
  refine c_X1_leftAfter ht3 hk3 hp.1 ?_
  replace hp := hp.2
  refine ⟨hp.1, ?_⟩
  replace hp := hp.2
  exact k
def pw_X5_releaseExcess_5 : Nat → Hp → Nat → Nat → Int32 → Int32 → Int32 → Prop
  | 0, _, _, _, _, _, _ => False
  | n + 1, h, i0, i1, x2, x3, x4 => ((1980 ≤ x4) → True) ∧ ((¬ 1980 ≤ x4) → (p_X10_freeOf h i0 x2 ∧ (((0 ≤ (f_X10_freeOf h i0 x2)) → True) ∧ ((¬ 0 ≤ (f_X10_freeOf h i0 x2)) → (p_X6_firstToLose h i0 i1 x2 ∧ (((¬ (f_X6_firstToLose h i0 i1 x2) = (-1)) → (p_X6_isWhole h i0 (f_X6_firstToLose h i0 i1 x2) ∧ ((((f_X6_isWhole h i0 (f_X6_firstToLose h i0 i1 x2)) = 0) → (p_X5_changeReserved h i0 i1 (f_X6_firstToLose h i0 i1 x2) (-1) ∧ (pw_X5_releaseExcess_5 n (g_X5_changeReserved h i0 i1 (f_X6_firstToLose h i0 i1 x2) (-1)) i0 i1 x2 (x3 + 1) (x4 + 1)))) ∧ ((¬ (f_X6_isWhole h i0 (f_X6_firstToLose h i0 i1 x2)) = 0) → (p_X6_reservedOf h i0 (f_X6_firstToLose h i0 i1 x2) ∧ (p_X5_changeReserved h i0 i1 (f_X6_firstToLose h i0 i1 x2) (-(f_X6_reservedOf h i0 (f_X6_firstToLose h i0 i1 x2))) ∧ (pw_X5_releaseExcess_5 n (g_X5_changeReserved h i0 i1 (f_X6_firstToLose h i0 i1 x2) (-(f_X6_reservedOf h i0 (f_X6_firstToLose h i0 i1 x2)))) i0 i1 x2 (x3 + (f_X6_reservedOf h i0 (f_X6_firstToLose h i0 i1 x2))) (x4 + 1)))))))) ∧ (((f_X6_firstToLose h i0 i1 x2) = (-1)) → True)))))))
def fw_X5_releaseExcess_5 : Nat → Hp → Nat → Nat → Int32 → Int32 → Int32 → Int32
  | 0, _, _, _, _, _, _ => 0
  | n + 1, h, i0, i1, x2, x3, x4 => if 1980 ≤ x4 then x3 else (if 0 ≤ (f_X10_freeOf h i0 x2) then x3 else (if ¬ (f_X6_firstToLose h i0 i1 x2) = (-1) then (if (f_X6_isWhole h i0 (f_X6_firstToLose h i0 i1 x2)) = 0 then (fw_X5_releaseExcess_5 n (g_X5_changeReserved h i0 i1 (f_X6_firstToLose h i0 i1 x2) (-1)) i0 i1 x2 (x3 + 1) (x4 + 1)) else (fw_X5_releaseExcess_5 n (g_X5_changeReserved h i0 i1 (f_X6_firstToLose h i0 i1 x2) (-(f_X6_reservedOf h i0 (f_X6_firstToLose h i0 i1 x2)))) i0 i1 x2 (x3 + (f_X6_reservedOf h i0 (f_X6_firstToLose h i0 i1 x2))) (x4 + 1))) else x3))
def gw_X5_releaseExcess_5 : Nat → Hp → Nat → Nat → Int32 → Int32 → Int32 → Hp
  | 0, h, _, _, _, _, _ => h
  | n + 1, h, i0, i1, x2, x3, x4 => if 1980 ≤ x4 then h else (if 0 ≤ (f_X10_freeOf h i0 x2) then h else (if ¬ (f_X6_firstToLose h i0 i1 x2) = (-1) then (if (f_X6_isWhole h i0 (f_X6_firstToLose h i0 i1 x2)) = 0 then (gw_X5_releaseExcess_5 n (g_X5_changeReserved h i0 i1 (f_X6_firstToLose h i0 i1 x2) (-1)) i0 i1 x2 (x3 + 1) (x4 + 1)) else (gw_X5_releaseExcess_5 n (g_X5_changeReserved h i0 i1 (f_X6_firstToLose h i0 i1 x2) (-(f_X6_reservedOf h i0 (f_X6_firstToLose h i0 i1 x2)))) i0 i1 x2 (x3 + (f_X6_reservedOf h i0 (f_X6_firstToLose h i0 i1 x2))) (x4 + 1))) else h))
set_option maxHeartbeats 4000000 in
theorem lw_X5_releaseExcess_5 {X : WD → State → Prop} {d rb : Nat} {Qr : Option AV → Hp → Prop} {Qx : String → Hp → Prop}   : ∀ (n : Nat) (h : Hp) (i0 : Nat) (i1 : Nat) (x2 : Int32) (x3 : Int32) (x4 : Int32), pw_X5_releaseExcess_5 n h i0 i1 x2 x3 x4 → Qr (some (vI (fw_X5_releaseExcess_5 n h i0 i1 x2 x3 x4))) (gw_X5_releaseExcess_5 n h i0 i1 x2 x3 x4) → AW X (d + 5) rb mX5_releaseExcess 5 [(0, vR 5 i0), (1, vR 1 i1), (2, vI x2), (3, vI x3), (4, vI x4)] [] h Qr Qx := by
  intro n
  induction n with
  | zero => intro h i0 i1 x2 x3 x4 hp; exact hp.elim
  | succ n ih =>
    intro h i0 i1 x2 x3 x4 hp k
    rw [pw_X5_releaseExcess_5] at hp
    rw [fw_X5_releaseExcess_5] at k
    rw [gw_X5_releaseExcess_5] at k
    refine vc_X5_releaseExcess_5 (d := d + 4)  ?_
    refine ⟨fun c => ?_, fun c => ?_⟩
    · replace hp := hp.1 c
      try simp only [if_pos c] at k
      exact k
    · replace hp := hp.2 c
      try simp only [if_neg c] at k
      refine c_X10_freeOf  hp.1 ?_
      replace hp := hp.2
      refine ⟨fun c => ?_, fun c => ?_⟩
      · replace hp := hp.1 c
        try simp only [if_pos c] at k
        exact k
      · replace hp := hp.2 c
        try simp only [if_neg c] at k
        refine c_X6_firstToLose  hp.1 ?_
        replace hp := hp.2
        refine ⟨fun c => ?_, fun c => ?_⟩
        · replace hp := hp.1 c
          try simp only [if_pos c] at k
          refine c_X6_isWhole  hp.1 ?_
          replace hp := hp.2
          refine ⟨fun c => ?_, fun c => ?_⟩
          · replace hp := hp.1 c
            try simp only [if_pos c] at k
            refine c_X5_changeReserved  hp.1 ?_
            replace hp := hp.2
            exact ih _ _ _ _ _ _ hp k
          · replace hp := hp.2 c
            try simp only [if_neg c] at k
            refine c_X6_reservedOf  hp.1 ?_
            replace hp := hp.2
            refine c_X5_changeReserved  hp.1 ?_
            replace hp := hp.2
            exact ih _ _ _ _ _ _ hp k
        · replace hp := hp.2 c
          try simp only [if_neg (oa_nn c)] at k
          exact k
def p_X5_releaseExcess (h : Hp) (i0 : Nat) (i1 : Nat) (a2 : Int32) : Prop := pw_X5_releaseExcess_5 oa_N h i0 i1 a2 0 0
def f_X5_releaseExcess (h : Hp) (i0 : Nat) (i1 : Nat) (a2 : Int32) : Int32 := fw_X5_releaseExcess_5 oa_N h i0 i1 a2 0 0
def g_X5_releaseExcess (h : Hp) (i0 : Nat) (i1 : Nat) (a2 : Int32) : Hp := gw_X5_releaseExcess_5 oa_N h i0 i1 a2 0 0
set_option maxHeartbeats 4000000 in
theorem c_X5_releaseExcess {d : Nat} {h : Hp} {P : Int32 → Hp → Prop} {Qx : String → Hp → Prop} {i0 : Nat} {i1 : Nat} {a2 : Int32}  (hp : p_X5_releaseExcess h i0 i1 a2) (k : P (f_X5_releaseExcess h i0 i1 a2) (g_X5_releaseExcess h i0 i1 a2)) : CL 0 (d + 5) mX5_releaseExcess [vR 5 i0, vR 1 i1, vI a2] h (oI P) Qx := by
  replace k : oI P (some (vI (f_X5_releaseExcess h i0 i1 a2))) (g_X5_releaseExcess h i0 i1 a2) := k
  unfold p_X5_releaseExcess at hp
  unfold f_X5_releaseExcess at k
  unfold g_X5_releaseExcess at k
  refine CL.ofF (plainFor_of_name rfl) rfl (Nat.le_of_ble_eq_true rfl) (vc_X5_releaseExcess_0 (d := d + 4)  ?_)
  exact lw_X5_releaseExcess_5  _ _ _ _ _ _ _ hp k
def p_X7_begin (h : Hp)  : Prop := p_X1_clear h (h.2.2 7 0 3) ∧ (p_X5_clear (g_X1_clear h (h.2.2 7 0 3)) ((g_X1_clear h (h.2.2 7 0 3)).2.2 7 0 4) ∧ (p_X9_restart (hp_i (hp_i (g_X5_clear (g_X1_clear h (h.2.2 7 0 3)) ((g_X1_clear h (h.2.2 7 0 3)).2.2 7 0 4)) 7 0 0 (-1)) 7 0 1 0) ∧ True))
def g_X7_begin (h : Hp)  : Hp := (g_X9_restart (hp_i (hp_i (g_X5_clear (g_X1_clear h (h.2.2 7 0 3)) ((g_X1_clear h (h.2.2 7 0 3)).2.2 7 0 4)) 7 0 0 (-1)) 7 0 1 0))
set_option maxHeartbeats 4000000 in
theorem c_X7_begin {d : Nat} {h : Hp} {P : Hp → Prop} {Qx : String → Hp → Prop}   (hp : p_X7_begin h ) (k : P  (g_X7_begin h )) : CL 0 (d + 4) mX7_begin [vR 7 0] h (oV P) Qx := by
  replace k : oV P none (g_X7_begin h ) := k
  unfold p_X7_begin at hp
  unfold g_X7_begin at k
  refine CL.ofF (plainFor_of_name rfl) rfl (Nat.le_of_ble_eq_true rfl) (vc_X7_begin_0 (d := d + 3)  ?_)
  refine c_X1_clear  hp.1 ?_
  replace hp := hp.2
  refine c_X5_clear  hp.1 ?_
  replace hp := hp.2
  refine c_X9_restart  hp.1 ?_
  replace hp := hp.2
  exact k
def p_X7_readPart (h : Hp)  : Prop := p_X9_step h ∧ (p_X7_isNewName (g_X9_step h) ∧ (((¬ (f_X7_isNewName (g_X9_step h)) = 0) → (p_X9_name (g_X7_isNewName (g_X9_step h)) ∧ (p_X9_step (g_X7_isNewName (g_X9_step h)) ∧ (p_X7_readNumber (g_X9_step (g_X7_isNewName (g_X9_step h))) 0 9999 ∧ (((¬ (f_X7_readNumber (g_X9_step (g_X7_isNewName (g_X9_step h))) 0 9999) = (-1)) → (p_X7_readNumber (g_X7_readNumber (g_X9_step (g_X7_isNewName (g_X9_step h))) 0 9999) 1 60 ∧ (((¬ (f_X7_readNumber (g_X7_readNumber (g_X9_step (g_X7_isNewName (g_X9_step h))) 0 9999) 1 60) = (-1)) → (p_X10_setStock (g_X7_readNumber (g_X7_readNumber (g_X9_step (g_X7_isNewName (g_X9_step h))) 0 9999) 1 60) ((g_X7_readNumber (g_X7_readNumber (g_X9_step (g_X7_isNewName (g_X9_step h))) 0 9999) 1 60).2.2 7 0 4) ((g_X7_readNumber (g_X7_readNumber (g_X9_step (g_X7_isNewName (g_X9_step h))) 0 9999) 1 60).1 1 ((g_X7_readNumber (g_X7_readNumber (g_X9_step (g_X7_isNewName (g_X9_step h))) 0 9999) 1 60).2.2 7 0 3) 0) (f_X7_readNumber (g_X9_step (g_X7_isNewName (g_X9_step h))) 0 9999) ∧ (p_X1_addPart (g_X10_setStock (g_X7_readNumber (g_X7_readNumber (g_X9_step (g_X7_isNewName (g_X9_step h))) 0 9999) 1 60) ((g_X7_readNumber (g_X7_readNumber (g_X9_step (g_X7_isNewName (g_X9_step h))) 0 9999) 1 60).2.2 7 0 4) ((g_X7_readNumber (g_X7_readNumber (g_X9_step (g_X7_isNewName (g_X9_step h))) 0 9999) 1 60).1 1 ((g_X7_readNumber (g_X7_readNumber (g_X9_step (g_X7_isNewName (g_X9_step h))) 0 9999) 1 60).2.2 7 0 3) 0) (f_X7_readNumber (g_X9_step (g_X7_isNewName (g_X9_step h))) 0 9999)) ((g_X10_setStock (g_X7_readNumber (g_X7_readNumber (g_X9_step (g_X7_isNewName (g_X9_step h))) 0 9999) 1 60) ((g_X7_readNumber (g_X7_readNumber (g_X9_step (g_X7_isNewName (g_X9_step h))) 0 9999) 1 60).2.2 7 0 4) ((g_X7_readNumber (g_X7_readNumber (g_X9_step (g_X7_isNewName (g_X9_step h))) 0 9999) 1 60).1 1 ((g_X7_readNumber (g_X7_readNumber (g_X9_step (g_X7_isNewName (g_X9_step h))) 0 9999) 1 60).2.2 7 0 3) 0) (f_X7_readNumber (g_X9_step (g_X7_isNewName (g_X9_step h))) 0 9999)).2.2 7 0 3) (f_X9_name (g_X7_isNewName (g_X9_step h))) (f_X7_readNumber (g_X7_readNumber (g_X9_step (g_X7_isNewName (g_X9_step h))) 0 9999) 1 60) ∧ (p_X7_readSemicolon (g_X1_addPart (g_X10_setStock (g_X7_readNumber (g_X7_readNumber (g_X9_step (g_X7_isNewName (g_X9_step h))) 0 9999) 1 60) ((g_X7_readNumber (g_X7_readNumber (g_X9_step (g_X7_isNewName (g_X9_step h))) 0 9999) 1 60).2.2 7 0 4) ((g_X7_readNumber (g_X7_readNumber (g_X9_step (g_X7_isNewName (g_X9_step h))) 0 9999) 1 60).1 1 ((g_X7_readNumber (g_X7_readNumber (g_X9_step (g_X7_isNewName (g_X9_step h))) 0 9999) 1 60).2.2 7 0 3) 0) (f_X7_readNumber (g_X9_step (g_X7_isNewName (g_X9_step h))) 0 9999)) ((g_X10_setStock (g_X7_readNumber (g_X7_readNumber (g_X9_step (g_X7_isNewName (g_X9_step h))) 0 9999) 1 60) ((g_X7_readNumber (g_X7_readNumber (g_X9_step (g_X7_isNewName (g_X9_step h))) 0 9999) 1 60).2.2 7 0 4) ((g_X7_readNumber (g_X7_readNumber (g_X9_step (g_X7_isNewName (g_X9_step h))) 0 9999) 1 60).1 1 ((g_X7_readNumber (g_X7_readNumber (g_X9_step (g_X7_isNewName (g_X9_step h))) 0 9999) 1 60).2.2 7 0 3) 0) (f_X7_readNumber (g_X9_step (g_X7_isNewName (g_X9_step h))) 0 9999)).2.2 7 0 3) (f_X9_name (g_X7_isNewName (g_X9_step h))) (f_X7_readNumber (g_X7_readNumber (g_X9_step (g_X7_isNewName (g_X9_step h))) 0 9999) 1 60)) ∧ (((f_X7_readSemicolon (g_X1_addPart (g_X10_setStock (g_X7_readNumber (g_X7_readNumber (g_X9_step (g_X7_isNewName (g_X9_step h))) 0 9999) 1 60) ((g_X7_readNumber (g_X7_readNumber (g_X9_step (g_X7_isNewName (g_X9_step h))) 0 9999) 1 60).2.2 7 0 4) ((g_X7_readNumber (g_X7_readNumber (g_X9_step (g_X7_isNewName (g_X9_step h))) 0 9999) 1 60).1 1 ((g_X7_readNumber (g_X7_readNumber (g_X9_step (g_X7_isNewName (g_X9_step h))) 0 9999) 1 60).2.2 7 0 3) 0) (f_X7_readNumber (g_X9_step (g_X7_isNewName (g_X9_step h))) 0 9999)) ((g_X10_setStock (g_X7_readNumber (g_X7_readNumber (g_X9_step (g_X7_isNewName (g_X9_step h))) 0 9999) 1 60) ((g_X7_readNumber (g_X7_readNumber (g_X9_step (g_X7_isNewName (g_X9_step h))) 0 9999) 1 60).2.2 7 0 4) ((g_X7_readNumber (g_X7_readNumber (g_X9_step (g_X7_isNewName (g_X9_step h))) 0 9999) 1 60).1 1 ((g_X7_readNumber (g_X7_readNumber (g_X9_step (g_X7_isNewName (g_X9_step h))) 0 9999) 1 60).2.2 7 0 3) 0) (f_X7_readNumber (g_X9_step (g_X7_isNewName (g_X9_step h))) 0 9999)).2.2 7 0 3) (f_X9_name (g_X7_isNewName (g_X9_step h))) (f_X7_readNumber (g_X7_readNumber (g_X9_step (g_X7_isNewName (g_X9_step h))) 0 9999) 1 60))) = 0 ∨ (f_X7_readSemicolon (g_X1_addPart (g_X10_setStock (g_X7_readNumber (g_X7_readNumber (g_X9_step (g_X7_isNewName (g_X9_step h))) 0 9999) 1 60) ((g_X7_readNumber (g_X7_readNumber (g_X9_step (g_X7_isNewName (g_X9_step h))) 0 9999) 1 60).2.2 7 0 4) ((g_X7_readNumber (g_X7_readNumber (g_X9_step (g_X7_isNewName (g_X9_step h))) 0 9999) 1 60).1 1 ((g_X7_readNumber (g_X7_readNumber (g_X9_step (g_X7_isNewName (g_X9_step h))) 0 9999) 1 60).2.2 7 0 3) 0) (f_X7_readNumber (g_X9_step (g_X7_isNewName (g_X9_step h))) 0 9999)) ((g_X10_setStock (g_X7_readNumber (g_X7_readNumber (g_X9_step (g_X7_isNewName (g_X9_step h))) 0 9999) 1 60) ((g_X7_readNumber (g_X7_readNumber (g_X9_step (g_X7_isNewName (g_X9_step h))) 0 9999) 1 60).2.2 7 0 4) ((g_X7_readNumber (g_X7_readNumber (g_X9_step (g_X7_isNewName (g_X9_step h))) 0 9999) 1 60).1 1 ((g_X7_readNumber (g_X7_readNumber (g_X9_step (g_X7_isNewName (g_X9_step h))) 0 9999) 1 60).2.2 7 0 3) 0) (f_X7_readNumber (g_X9_step (g_X7_isNewName (g_X9_step h))) 0 9999)).2.2 7 0 3) (f_X9_name (g_X7_isNewName (g_X9_step h))) (f_X7_readNumber (g_X7_readNumber (g_X9_step (g_X7_isNewName (g_X9_step h))) 0 9999) 1 60))) = 1) ∧ True))))) ∧ (((f_X7_readNumber (g_X7_readNumber (g_X9_step (g_X7_isNewName (g_X9_step h))) 0 9999) 1 60) = (-1)) → True)))) ∧ (((f_X7_readNumber (g_X9_step (g_X7_isNewName (g_X9_step h))) 0 9999) = (-1)) → True)))))) ∧ (((f_X7_isNewName (g_X9_step h)) = 0) → True)))
def f_X7_readPart (h : Hp)  : Int32 := if ¬ (f_X7_isNewName (g_X9_step h)) = 0 then (if ¬ (f_X7_readNumber (g_X9_step (g_X7_isNewName (g_X9_step h))) 0 9999) = (-1) then (if ¬ (f_X7_readNumber (g_X7_readNumber (g_X9_step (g_X7_isNewName (g_X9_step h))) 0 9999) 1 60) = (-1) then (f_X7_readSemicolon (g_X1_addPart (g_X10_setStock (g_X7_readNumber (g_X7_readNumber (g_X9_step (g_X7_isNewName (g_X9_step h))) 0 9999) 1 60) ((g_X7_readNumber (g_X7_readNumber (g_X9_step (g_X7_isNewName (g_X9_step h))) 0 9999) 1 60).2.2 7 0 4) ((g_X7_readNumber (g_X7_readNumber (g_X9_step (g_X7_isNewName (g_X9_step h))) 0 9999) 1 60).1 1 ((g_X7_readNumber (g_X7_readNumber (g_X9_step (g_X7_isNewName (g_X9_step h))) 0 9999) 1 60).2.2 7 0 3) 0) (f_X7_readNumber (g_X9_step (g_X7_isNewName (g_X9_step h))) 0 9999)) ((g_X10_setStock (g_X7_readNumber (g_X7_readNumber (g_X9_step (g_X7_isNewName (g_X9_step h))) 0 9999) 1 60) ((g_X7_readNumber (g_X7_readNumber (g_X9_step (g_X7_isNewName (g_X9_step h))) 0 9999) 1 60).2.2 7 0 4) ((g_X7_readNumber (g_X7_readNumber (g_X9_step (g_X7_isNewName (g_X9_step h))) 0 9999) 1 60).1 1 ((g_X7_readNumber (g_X7_readNumber (g_X9_step (g_X7_isNewName (g_X9_step h))) 0 9999) 1 60).2.2 7 0 3) 0) (f_X7_readNumber (g_X9_step (g_X7_isNewName (g_X9_step h))) 0 9999)).2.2 7 0 3) (f_X9_name (g_X7_isNewName (g_X9_step h))) (f_X7_readNumber (g_X7_readNumber (g_X9_step (g_X7_isNewName (g_X9_step h))) 0 9999) 1 60))) else 0) else 0) else 0
def g_X7_readPart (h : Hp)  : Hp := if ¬ (f_X7_isNewName (g_X9_step h)) = 0 then (if ¬ (f_X7_readNumber (g_X9_step (g_X7_isNewName (g_X9_step h))) 0 9999) = (-1) then (if ¬ (f_X7_readNumber (g_X7_readNumber (g_X9_step (g_X7_isNewName (g_X9_step h))) 0 9999) 1 60) = (-1) then (g_X7_readSemicolon (g_X1_addPart (g_X10_setStock (g_X7_readNumber (g_X7_readNumber (g_X9_step (g_X7_isNewName (g_X9_step h))) 0 9999) 1 60) ((g_X7_readNumber (g_X7_readNumber (g_X9_step (g_X7_isNewName (g_X9_step h))) 0 9999) 1 60).2.2 7 0 4) ((g_X7_readNumber (g_X7_readNumber (g_X9_step (g_X7_isNewName (g_X9_step h))) 0 9999) 1 60).1 1 ((g_X7_readNumber (g_X7_readNumber (g_X9_step (g_X7_isNewName (g_X9_step h))) 0 9999) 1 60).2.2 7 0 3) 0) (f_X7_readNumber (g_X9_step (g_X7_isNewName (g_X9_step h))) 0 9999)) ((g_X10_setStock (g_X7_readNumber (g_X7_readNumber (g_X9_step (g_X7_isNewName (g_X9_step h))) 0 9999) 1 60) ((g_X7_readNumber (g_X7_readNumber (g_X9_step (g_X7_isNewName (g_X9_step h))) 0 9999) 1 60).2.2 7 0 4) ((g_X7_readNumber (g_X7_readNumber (g_X9_step (g_X7_isNewName (g_X9_step h))) 0 9999) 1 60).1 1 ((g_X7_readNumber (g_X7_readNumber (g_X9_step (g_X7_isNewName (g_X9_step h))) 0 9999) 1 60).2.2 7 0 3) 0) (f_X7_readNumber (g_X9_step (g_X7_isNewName (g_X9_step h))) 0 9999)).2.2 7 0 3) (f_X9_name (g_X7_isNewName (g_X9_step h))) (f_X7_readNumber (g_X7_readNumber (g_X9_step (g_X7_isNewName (g_X9_step h))) 0 9999) 1 60))) else (g_X7_readNumber (g_X7_readNumber (g_X9_step (g_X7_isNewName (g_X9_step h))) 0 9999) 1 60)) else (g_X7_readNumber (g_X9_step (g_X7_isNewName (g_X9_step h))) 0 9999)) else (g_X7_isNewName (g_X9_step h))
set_option maxHeartbeats 4000000 in
theorem c_X7_readPart {d : Nat} {h : Hp} {P : Int32 → Hp → Prop} {Qx : String → Hp → Prop}   (hp : p_X7_readPart h ) (k : P (f_X7_readPart h ) (g_X7_readPart h )) : CL 0 (d + 4) mX7_readPart [vR 7 0] h (oI P) Qx := by
  replace k : oI P (some (vI (f_X7_readPart h ))) (g_X7_readPart h ) := k
  unfold p_X7_readPart at hp
  unfold f_X7_readPart at k
  unfold g_X7_readPart at k
  refine CL.ofF (plainFor_of_name rfl) rfl (Nat.le_of_ble_eq_true rfl) (vc_X7_readPart_0 (d := d + 3)  ?_)
  refine c_X9_step  hp.1 ?_
  replace hp := hp.2
  refine c_X7_isNewName  hp.1 ?_
  replace hp := hp.2
  refine ⟨fun c => ?_, fun c => ?_⟩
  · replace hp := hp.1 c
    try simp only [if_pos c] at k
    refine c_X9_name  hp.1 ?_
    replace hp := hp.2
    refine c_X9_step  hp.1 ?_
    replace hp := hp.2
    refine c_X7_readNumber  hp.1 ?_
    replace hp := hp.2
    refine ⟨fun c => ?_, fun c => ?_⟩
    · replace hp := hp.1 c
      try simp only [if_pos c] at k
      refine c_X7_readNumber  hp.1 ?_
      replace hp := hp.2
      refine ⟨fun c => ?_, fun c => ?_⟩
      · replace hp := hp.1 c
        try simp only [if_pos c] at k
        refine c_X10_setStock  hp.1 ?_
        replace hp := hp.2
        refine c_X1_addPart  hp.1 ?_
        replace hp := hp.2
        refine c_X7_readSemicolon  hp.1 ?_
        replace hp := hp.2
        refine ⟨hp.1, ?_⟩
        replace hp := hp.2
        exact k
      · replace hp := hp.2 c
        try simp only [if_neg (oa_nn c)] at k
        exact k
    · replace hp := hp.2 c
      try simp only [if_neg (oa_nn c)] at k
      exact k
  · replace hp := hp.2 c
    try simp only [if_neg (oa_nn c)] at k
    exact k
def p_X7_readBillLine (h : Hp)  : Prop := ((¬ (h.1 9 0 0) = 2) → (p_X7_readNumber h 1 20 ∧ (((¬ (f_X7_readNumber h 1 20) = (-1)) → (p_X9_isName (g_X7_readNumber h 1 20) ∧ (((¬ (f_X9_isName (g_X7_readNumber h 1 20)) = 0) → (p_X9_name (g_X7_readNumber h 1 20) ∧ (p_X1_itemNamed (g_X7_readNumber h 1 20) ((g_X7_readNumber h 1 20).2.2 7 0 3) (f_X9_name (g_X7_readNumber h 1 20)) ∧ ((((f_X1_itemNamed (g_X7_readNumber h 1 20) ((g_X7_readNumber h 1 20).2.2 7 0 3) (f_X9_name (g_X7_readNumber h 1 20))) = (-1)) → (p_X7_fail (g_X7_readNumber h 1 20) 3 ∧ (((f_X7_fail (g_X7_readNumber h 1 20) 3) = 0 ∨ (f_X7_fail (g_X7_readNumber h 1 20) 3) = 1) ∧ True))) ∧ ((¬ (f_X1_itemNamed (g_X7_readNumber h 1 20) ((g_X7_readNumber h 1 20).2.2 7 0 3) (f_X9_name (g_X7_readNumber h 1 20))) = (-1)) → (p_X1_begunHas (g_X7_readNumber h 1 20) ((g_X7_readNumber h 1 20).2.2 7 0 3) (f_X1_itemNamed (g_X7_readNumber h 1 20) ((g_X7_readNumber h 1 20).2.2 7 0 3) (f_X9_name (g_X7_readNumber h 1 20))) ∧ ((((f_X1_begunHas (g_X7_readNumber h 1 20) ((g_X7_readNumber h 1 20).2.2 7 0 3) (f_X1_itemNamed (g_X7_readNumber h 1 20) ((g_X7_readNumber h 1 20).2.2 7 0 3) (f_X9_name (g_X7_readNumber h 1 20)))) = 0) → (p_X1_begunCanHold (g_X7_readNumber h 1 20) ((g_X7_readNumber h 1 20).2.2 7 0 3) (f_X1_itemNamed (g_X7_readNumber h 1 20) ((g_X7_readNumber h 1 20).2.2 7 0 3) (f_X9_name (g_X7_readNumber h 1 20))) (f_X7_readNumber h 1 20) ∧ (((¬ (f_X1_begunCanHold (g_X7_readNumber h 1 20) ((g_X7_readNumber h 1 20).2.2 7 0 3) (f_X1_itemNamed (g_X7_readNumber h 1 20) ((g_X7_readNumber h 1 20).2.2 7 0 3) (f_X9_name (g_X7_readNumber h 1 20))) (f_X7_readNumber h 1 20)) = 0) → (p_X1_addLine (g_X7_readNumber h 1 20) ((g_X7_readNumber h 1 20).2.2 7 0 3) (f_X1_itemNamed (g_X7_readNumber h 1 20) ((g_X7_readNumber h 1 20).2.2 7 0 3) (f_X9_name (g_X7_readNumber h 1 20))) (f_X7_readNumber h 1 20) ∧ (p_X9_step (g_X1_addLine (g_X7_readNumber h 1 20) ((g_X7_readNumber h 1 20).2.2 7 0 3) (f_X1_itemNamed (g_X7_readNumber h 1 20) ((g_X7_readNumber h 1 20).2.2 7 0 3) (f_X9_name (g_X7_readNumber h 1 20))) (f_X7_readNumber h 1 20)) ∧ True))) ∧ (((f_X1_begunCanHold (g_X7_readNumber h 1 20) ((g_X7_readNumber h 1 20).2.2 7 0 3) (f_X1_itemNamed (g_X7_readNumber h 1 20) ((g_X7_readNumber h 1 20).2.2 7 0 3) (f_X9_name (g_X7_readNumber h 1 20))) (f_X7_readNumber h 1 20)) = 0) → (p_X7_fail (g_X7_readNumber h 1 20) 5 ∧ (((f_X7_fail (g_X7_readNumber h 1 20) 5) = 0 ∨ (f_X7_fail (g_X7_readNumber h 1 20) 5) = 1) ∧ True)))))) ∧ ((¬ (f_X1_begunHas (g_X7_readNumber h 1 20) ((g_X7_readNumber h 1 20).2.2 7 0 3) (f_X1_itemNamed (g_X7_readNumber h 1 20) ((g_X7_readNumber h 1 20).2.2 7 0 3) (f_X9_name (g_X7_readNumber h 1 20)))) = 0) → (p_X7_fail (g_X7_readNumber h 1 20) 3 ∧ (((f_X7_fail (g_X7_readNumber h 1 20) 3) = 0 ∨ (f_X7_fail (g_X7_readNumber h 1 20) 3) = 1) ∧ True)))))))))) ∧ (((f_X9_isName (g_X7_readNumber h 1 20)) = 0) → (p_X7_fail (g_X7_readNumber h 1 20) 1 ∧ (((f_X7_fail (g_X7_readNumber h 1 20) 1) = 0 ∨ (f_X7_fail (g_X7_readNumber h 1 20) 1) = 1) ∧ True)))))) ∧ (((f_X7_readNumber h 1 20) = (-1)) → True)))) ∧ (((h.1 9 0 0) = 2) → (p_X1_linesOfBegun h (h.2.2 7 0 3) ∧ ((((f_X1_linesOfBegun h (h.2.2 7 0 3)) < 6) → (p_X7_readNumber h 1 20 ∧ (((¬ (f_X7_readNumber h 1 20) = (-1)) → (p_X9_isName (g_X7_readNumber h 1 20) ∧ (((¬ (f_X9_isName (g_X7_readNumber h 1 20)) = 0) → (p_X9_name (g_X7_readNumber h 1 20) ∧ (p_X1_itemNamed (g_X7_readNumber h 1 20) ((g_X7_readNumber h 1 20).2.2 7 0 3) (f_X9_name (g_X7_readNumber h 1 20)) ∧ ((((f_X1_itemNamed (g_X7_readNumber h 1 20) ((g_X7_readNumber h 1 20).2.2 7 0 3) (f_X9_name (g_X7_readNumber h 1 20))) = (-1)) → (p_X7_fail (g_X7_readNumber h 1 20) 3 ∧ (((f_X7_fail (g_X7_readNumber h 1 20) 3) = 0 ∨ (f_X7_fail (g_X7_readNumber h 1 20) 3) = 1) ∧ True))) ∧ ((¬ (f_X1_itemNamed (g_X7_readNumber h 1 20) ((g_X7_readNumber h 1 20).2.2 7 0 3) (f_X9_name (g_X7_readNumber h 1 20))) = (-1)) → (p_X1_begunHas (g_X7_readNumber h 1 20) ((g_X7_readNumber h 1 20).2.2 7 0 3) (f_X1_itemNamed (g_X7_readNumber h 1 20) ((g_X7_readNumber h 1 20).2.2 7 0 3) (f_X9_name (g_X7_readNumber h 1 20))) ∧ ((((f_X1_begunHas (g_X7_readNumber h 1 20) ((g_X7_readNumber h 1 20).2.2 7 0 3) (f_X1_itemNamed (g_X7_readNumber h 1 20) ((g_X7_readNumber h 1 20).2.2 7 0 3) (f_X9_name (g_X7_readNumber h 1 20)))) = 0) → (p_X1_begunCanHold (g_X7_readNumber h 1 20) ((g_X7_readNumber h 1 20).2.2 7 0 3) (f_X1_itemNamed (g_X7_readNumber h 1 20) ((g_X7_readNumber h 1 20).2.2 7 0 3) (f_X9_name (g_X7_readNumber h 1 20))) (f_X7_readNumber h 1 20) ∧ (((¬ (f_X1_begunCanHold (g_X7_readNumber h 1 20) ((g_X7_readNumber h 1 20).2.2 7 0 3) (f_X1_itemNamed (g_X7_readNumber h 1 20) ((g_X7_readNumber h 1 20).2.2 7 0 3) (f_X9_name (g_X7_readNumber h 1 20))) (f_X7_readNumber h 1 20)) = 0) → (p_X1_addLine (g_X7_readNumber h 1 20) ((g_X7_readNumber h 1 20).2.2 7 0 3) (f_X1_itemNamed (g_X7_readNumber h 1 20) ((g_X7_readNumber h 1 20).2.2 7 0 3) (f_X9_name (g_X7_readNumber h 1 20))) (f_X7_readNumber h 1 20) ∧ (p_X9_step (g_X1_addLine (g_X7_readNumber h 1 20) ((g_X7_readNumber h 1 20).2.2 7 0 3) (f_X1_itemNamed (g_X7_readNumber h 1 20) ((g_X7_readNumber h 1 20).2.2 7 0 3) (f_X9_name (g_X7_readNumber h 1 20))) (f_X7_readNumber h 1 20)) ∧ True))) ∧ (((f_X1_begunCanHold (g_X7_readNumber h 1 20) ((g_X7_readNumber h 1 20).2.2 7 0 3) (f_X1_itemNamed (g_X7_readNumber h 1 20) ((g_X7_readNumber h 1 20).2.2 7 0 3) (f_X9_name (g_X7_readNumber h 1 20))) (f_X7_readNumber h 1 20)) = 0) → (p_X7_fail (g_X7_readNumber h 1 20) 5 ∧ (((f_X7_fail (g_X7_readNumber h 1 20) 5) = 0 ∨ (f_X7_fail (g_X7_readNumber h 1 20) 5) = 1) ∧ True)))))) ∧ ((¬ (f_X1_begunHas (g_X7_readNumber h 1 20) ((g_X7_readNumber h 1 20).2.2 7 0 3) (f_X1_itemNamed (g_X7_readNumber h 1 20) ((g_X7_readNumber h 1 20).2.2 7 0 3) (f_X9_name (g_X7_readNumber h 1 20)))) = 0) → (p_X7_fail (g_X7_readNumber h 1 20) 3 ∧ (((f_X7_fail (g_X7_readNumber h 1 20) 3) = 0 ∨ (f_X7_fail (g_X7_readNumber h 1 20) 3) = 1) ∧ True)))))))))) ∧ (((f_X9_isName (g_X7_readNumber h 1 20)) = 0) → (p_X7_fail (g_X7_readNumber h 1 20) 1 ∧ (((f_X7_fail (g_X7_readNumber h 1 20) 1) = 0 ∨ (f_X7_fail (g_X7_readNumber h 1 20) 1) = 1) ∧ True)))))) ∧ (((f_X7_readNumber h 1 20) = (-1)) → True)))) ∧ ((¬ (f_X1_linesOfBegun h (h.2.2 7 0 3)) < 6) → (p_X7_fail h 4 ∧ (((f_X7_fail h 4) = 0 ∨ (f_X7_fail h 4) = 1) ∧ True))))))
def f_X7_readBillLine (h : Hp)  : Int32 := if ¬ (h.1 9 0 0) = 2 then (if ¬ (f_X7_readNumber h 1 20) = (-1) then (if ¬ (f_X9_isName (g_X7_readNumber h 1 20)) = 0 then (if (f_X1_itemNamed (g_X7_readNumber h 1 20) ((g_X7_readNumber h 1 20).2.2 7 0 3) (f_X9_name (g_X7_readNumber h 1 20))) = (-1) then (f_X7_fail (g_X7_readNumber h 1 20) 3) else (if (f_X1_begunHas (g_X7_readNumber h 1 20) ((g_X7_readNumber h 1 20).2.2 7 0 3) (f_X1_itemNamed (g_X7_readNumber h 1 20) ((g_X7_readNumber h 1 20).2.2 7 0 3) (f_X9_name (g_X7_readNumber h 1 20)))) = 0 then (if ¬ (f_X1_begunCanHold (g_X7_readNumber h 1 20) ((g_X7_readNumber h 1 20).2.2 7 0 3) (f_X1_itemNamed (g_X7_readNumber h 1 20) ((g_X7_readNumber h 1 20).2.2 7 0 3) (f_X9_name (g_X7_readNumber h 1 20))) (f_X7_readNumber h 1 20)) = 0 then 1 else (f_X7_fail (g_X7_readNumber h 1 20) 5)) else (f_X7_fail (g_X7_readNumber h 1 20) 3))) else (f_X7_fail (g_X7_readNumber h 1 20) 1)) else 0) else (if (f_X1_linesOfBegun h (h.2.2 7 0 3)) < 6 then (if ¬ (f_X7_readNumber h 1 20) = (-1) then (if ¬ (f_X9_isName (g_X7_readNumber h 1 20)) = 0 then (if (f_X1_itemNamed (g_X7_readNumber h 1 20) ((g_X7_readNumber h 1 20).2.2 7 0 3) (f_X9_name (g_X7_readNumber h 1 20))) = (-1) then (f_X7_fail (g_X7_readNumber h 1 20) 3) else (if (f_X1_begunHas (g_X7_readNumber h 1 20) ((g_X7_readNumber h 1 20).2.2 7 0 3) (f_X1_itemNamed (g_X7_readNumber h 1 20) ((g_X7_readNumber h 1 20).2.2 7 0 3) (f_X9_name (g_X7_readNumber h 1 20)))) = 0 then (if ¬ (f_X1_begunCanHold (g_X7_readNumber h 1 20) ((g_X7_readNumber h 1 20).2.2 7 0 3) (f_X1_itemNamed (g_X7_readNumber h 1 20) ((g_X7_readNumber h 1 20).2.2 7 0 3) (f_X9_name (g_X7_readNumber h 1 20))) (f_X7_readNumber h 1 20)) = 0 then 1 else (f_X7_fail (g_X7_readNumber h 1 20) 5)) else (f_X7_fail (g_X7_readNumber h 1 20) 3))) else (f_X7_fail (g_X7_readNumber h 1 20) 1)) else 0) else (f_X7_fail h 4))
def g_X7_readBillLine (h : Hp)  : Hp := if ¬ (h.1 9 0 0) = 2 then (if ¬ (f_X7_readNumber h 1 20) = (-1) then (if ¬ (f_X9_isName (g_X7_readNumber h 1 20)) = 0 then (if (f_X1_itemNamed (g_X7_readNumber h 1 20) ((g_X7_readNumber h 1 20).2.2 7 0 3) (f_X9_name (g_X7_readNumber h 1 20))) = (-1) then (g_X7_fail (g_X7_readNumber h 1 20) 3) else (if (f_X1_begunHas (g_X7_readNumber h 1 20) ((g_X7_readNumber h 1 20).2.2 7 0 3) (f_X1_itemNamed (g_X7_readNumber h 1 20) ((g_X7_readNumber h 1 20).2.2 7 0 3) (f_X9_name (g_X7_readNumber h 1 20)))) = 0 then (if ¬ (f_X1_begunCanHold (g_X7_readNumber h 1 20) ((g_X7_readNumber h 1 20).2.2 7 0 3) (f_X1_itemNamed (g_X7_readNumber h 1 20) ((g_X7_readNumber h 1 20).2.2 7 0 3) (f_X9_name (g_X7_readNumber h 1 20))) (f_X7_readNumber h 1 20)) = 0 then (g_X9_step (g_X1_addLine (g_X7_readNumber h 1 20) ((g_X7_readNumber h 1 20).2.2 7 0 3) (f_X1_itemNamed (g_X7_readNumber h 1 20) ((g_X7_readNumber h 1 20).2.2 7 0 3) (f_X9_name (g_X7_readNumber h 1 20))) (f_X7_readNumber h 1 20))) else (g_X7_fail (g_X7_readNumber h 1 20) 5)) else (g_X7_fail (g_X7_readNumber h 1 20) 3))) else (g_X7_fail (g_X7_readNumber h 1 20) 1)) else (g_X7_readNumber h 1 20)) else (if (f_X1_linesOfBegun h (h.2.2 7 0 3)) < 6 then (if ¬ (f_X7_readNumber h 1 20) = (-1) then (if ¬ (f_X9_isName (g_X7_readNumber h 1 20)) = 0 then (if (f_X1_itemNamed (g_X7_readNumber h 1 20) ((g_X7_readNumber h 1 20).2.2 7 0 3) (f_X9_name (g_X7_readNumber h 1 20))) = (-1) then (g_X7_fail (g_X7_readNumber h 1 20) 3) else (if (f_X1_begunHas (g_X7_readNumber h 1 20) ((g_X7_readNumber h 1 20).2.2 7 0 3) (f_X1_itemNamed (g_X7_readNumber h 1 20) ((g_X7_readNumber h 1 20).2.2 7 0 3) (f_X9_name (g_X7_readNumber h 1 20)))) = 0 then (if ¬ (f_X1_begunCanHold (g_X7_readNumber h 1 20) ((g_X7_readNumber h 1 20).2.2 7 0 3) (f_X1_itemNamed (g_X7_readNumber h 1 20) ((g_X7_readNumber h 1 20).2.2 7 0 3) (f_X9_name (g_X7_readNumber h 1 20))) (f_X7_readNumber h 1 20)) = 0 then (g_X9_step (g_X1_addLine (g_X7_readNumber h 1 20) ((g_X7_readNumber h 1 20).2.2 7 0 3) (f_X1_itemNamed (g_X7_readNumber h 1 20) ((g_X7_readNumber h 1 20).2.2 7 0 3) (f_X9_name (g_X7_readNumber h 1 20))) (f_X7_readNumber h 1 20))) else (g_X7_fail (g_X7_readNumber h 1 20) 5)) else (g_X7_fail (g_X7_readNumber h 1 20) 3))) else (g_X7_fail (g_X7_readNumber h 1 20) 1)) else (g_X7_readNumber h 1 20)) else (g_X7_fail h 4))
set_option maxHeartbeats 4000000 in
theorem c_X7_readBillLine {d : Nat} {h : Hp} {P : Int32 → Hp → Prop} {Qx : String → Hp → Prop}   (hp : p_X7_readBillLine h ) (k : P (f_X7_readBillLine h ) (g_X7_readBillLine h )) : CL 0 (d + 4) mX7_readBillLine [vR 7 0] h (oI P) Qx := by
  replace k : oI P (some (vI (f_X7_readBillLine h ))) (g_X7_readBillLine h ) := k
  unfold p_X7_readBillLine at hp
  unfold f_X7_readBillLine at k
  unfold g_X7_readBillLine at k
  refine CL.ofF (plainFor_of_name rfl) rfl (Nat.le_of_ble_eq_true rfl) (vc_X7_readBillLine_0 (d := d + 3)  ?_)
  refine ⟨fun c => ?_, fun c => ?_⟩
  · replace hp := hp.1 c
    try simp only [if_pos c] at k
    refine c_X7_readNumber  hp.1 ?_
    replace hp := hp.2
    refine ⟨fun c => ?_, fun c => ?_⟩
    · replace hp := hp.1 c
      try simp only [if_pos c] at k
      refine c_X9_isName  hp.1 ?_
      replace hp := hp.2
      refine ⟨fun c => ?_, fun c => ?_⟩
      · replace hp := hp.1 c
        try simp only [if_pos c] at k
        refine c_X9_name  hp.1 ?_
        replace hp := hp.2
        refine c_X1_itemNamed  hp.1 ?_
        replace hp := hp.2
        refine ⟨fun c => ?_, fun c => ?_⟩
        · replace hp := hp.1 c
          try simp only [if_pos c] at k
          refine c_X7_fail  hp.1 ?_
          replace hp := hp.2
          refine ⟨hp.1, ?_⟩
          replace hp := hp.2
          exact k
        · replace hp := hp.2 c
          try simp only [if_neg c] at k
          refine c_X1_begunHas  hp.1 ?_
          replace hp := hp.2
          refine ⟨fun c => ?_, fun c => ?_⟩
          · replace hp := hp.1 c
            try simp only [if_pos c] at k
            refine c_X1_begunCanHold  hp.1 ?_
            replace hp := hp.2
            refine ⟨fun c => ?_, fun c => ?_⟩
            · replace hp := hp.1 c
              try simp only [if_pos c] at k
              refine c_X1_addLine  hp.1 ?_
              replace hp := hp.2
              refine c_X9_step  hp.1 ?_
              replace hp := hp.2
              exact k
            · replace hp := hp.2 c
              try simp only [if_neg (oa_nn c)] at k
              refine c_X7_fail  hp.1 ?_
              replace hp := hp.2
              refine ⟨hp.1, ?_⟩
              replace hp := hp.2
              exact k
          · replace hp := hp.2 c
            try simp only [if_neg c] at k
            refine c_X7_fail  hp.1 ?_
            replace hp := hp.2
            refine ⟨hp.1, ?_⟩
            replace hp := hp.2
            exact k
      · replace hp := hp.2 c
        try simp only [if_neg (oa_nn c)] at k
        refine c_X7_fail  hp.1 ?_
        replace hp := hp.2
        refine ⟨hp.1, ?_⟩
        replace hp := hp.2
        exact k
    · replace hp := hp.2 c
      try simp only [if_neg (oa_nn c)] at k
      exact k
  · replace hp := hp.2 c
    try simp only [if_neg (oa_nn c)] at k
    refine c_X1_linesOfBegun  hp.1 ?_
    replace hp := hp.2
    refine ⟨fun c => ?_, fun c => ?_⟩
    · replace hp := hp.1 c
      try simp only [if_pos c] at k
      refine c_X7_readNumber  hp.1 ?_
      replace hp := hp.2
      refine ⟨fun c => ?_, fun c => ?_⟩
      · replace hp := hp.1 c
        try simp only [if_pos c] at k
        refine c_X9_isName  hp.1 ?_
        replace hp := hp.2
        refine ⟨fun c => ?_, fun c => ?_⟩
        · replace hp := hp.1 c
          try simp only [if_pos c] at k
          refine c_X9_name  hp.1 ?_
          replace hp := hp.2
          refine c_X1_itemNamed  hp.1 ?_
          replace hp := hp.2
          refine ⟨fun c => ?_, fun c => ?_⟩
          · replace hp := hp.1 c
            try simp only [if_pos c] at k
            refine c_X7_fail  hp.1 ?_
            replace hp := hp.2
            refine ⟨hp.1, ?_⟩
            replace hp := hp.2
            exact k
          · replace hp := hp.2 c
            try simp only [if_neg c] at k
            refine c_X1_begunHas  hp.1 ?_
            replace hp := hp.2
            refine ⟨fun c => ?_, fun c => ?_⟩
            · replace hp := hp.1 c
              try simp only [if_pos c] at k
              refine c_X1_begunCanHold  hp.1 ?_
              replace hp := hp.2
              refine ⟨fun c => ?_, fun c => ?_⟩
              · replace hp := hp.1 c
                try simp only [if_pos c] at k
                refine c_X1_addLine  hp.1 ?_
                replace hp := hp.2
                refine c_X9_step  hp.1 ?_
                replace hp := hp.2
                exact k
              · replace hp := hp.2 c
                try simp only [if_neg (oa_nn c)] at k
                refine c_X7_fail  hp.1 ?_
                replace hp := hp.2
                refine ⟨hp.1, ?_⟩
                replace hp := hp.2
                exact k
            · replace hp := hp.2 c
              try simp only [if_neg c] at k
              refine c_X7_fail  hp.1 ?_
              replace hp := hp.2
              refine ⟨hp.1, ?_⟩
              replace hp := hp.2
              exact k
        · replace hp := hp.2 c
          try simp only [if_neg (oa_nn c)] at k
          refine c_X7_fail  hp.1 ?_
          replace hp := hp.2
          refine ⟨hp.1, ?_⟩
          replace hp := hp.2
          exact k
      · replace hp := hp.2 c
        try simp only [if_neg (oa_nn c)] at k
        exact k
    · replace hp := hp.2 c
      try simp only [if_neg c] at k
      refine c_X7_fail  hp.1 ?_
      replace hp := hp.2
      refine ⟨hp.1, ?_⟩
      replace hp := hp.2
      exact k
def p_X7_readRung (h : Hp)  : Prop := p_X9_step h ∧ (p_X7_readNumber (g_X9_step h) 0 9 ∧ (((¬ (f_X7_readNumber (g_X9_step h) 0 9) = (-1)) → (p_X7_readNumber (g_X7_readNumber (g_X9_step h) 0 9) (f_X7_readNumber (g_X9_step h) 0 9) 9 ∧ (((¬ (f_X7_readNumber (g_X7_readNumber (g_X9_step h) 0 9) (f_X7_readNumber (g_X9_step h) 0 9) 9) = (-1)) → (p_X7_readNumber (g_X7_readNumber (g_X7_readNumber (g_X9_step h) 0 9) (f_X7_readNumber (g_X9_step h) 0 9) 9) 1 100 ∧ (((¬ (f_X7_readNumber (g_X7_readNumber (g_X7_readNumber (g_X9_step h) 0 9) (f_X7_readNumber (g_X9_step h) 0 9) 9) 1 100) = (-1)) → (p_X1_addRung (g_X7_readNumber (g_X7_readNumber (g_X7_readNumber (g_X9_step h) 0 9) (f_X7_readNumber (g_X9_step h) 0 9) 9) 1 100) ((g_X7_readNumber (g_X7_readNumber (g_X7_readNumber (g_X9_step h) 0 9) (f_X7_readNumber (g_X9_step h) 0 9) 9) 1 100).2.2 7 0 3) (f_X7_readNumber (g_X9_step h) 0 9) (f_X7_readNumber (g_X7_readNumber (g_X9_step h) 0 9) (f_X7_readNumber (g_X9_step h) 0 9) 9) (f_X7_readNumber (g_X7_readNumber (g_X7_readNumber (g_X9_step h) 0 9) (f_X7_readNumber (g_X9_step h) 0 9) 9) 1 100) ∧ (p_X7_readSemicolon (g_X1_addRung (g_X7_readNumber (g_X7_readNumber (g_X7_readNumber (g_X9_step h) 0 9) (f_X7_readNumber (g_X9_step h) 0 9) 9) 1 100) ((g_X7_readNumber (g_X7_readNumber (g_X7_readNumber (g_X9_step h) 0 9) (f_X7_readNumber (g_X9_step h) 0 9) 9) 1 100).2.2 7 0 3) (f_X7_readNumber (g_X9_step h) 0 9) (f_X7_readNumber (g_X7_readNumber (g_X9_step h) 0 9) (f_X7_readNumber (g_X9_step h) 0 9) 9) (f_X7_readNumber (g_X7_readNumber (g_X7_readNumber (g_X9_step h) 0 9) (f_X7_readNumber (g_X9_step h) 0 9) 9) 1 100)) ∧ (((f_X7_readSemicolon (g_X1_addRung (g_X7_readNumber (g_X7_readNumber (g_X7_readNumber (g_X9_step h) 0 9) (f_X7_readNumber (g_X9_step h) 0 9) 9) 1 100) ((g_X7_readNumber (g_X7_readNumber (g_X7_readNumber (g_X9_step h) 0 9) (f_X7_readNumber (g_X9_step h) 0 9) 9) 1 100).2.2 7 0 3) (f_X7_readNumber (g_X9_step h) 0 9) (f_X7_readNumber (g_X7_readNumber (g_X9_step h) 0 9) (f_X7_readNumber (g_X9_step h) 0 9) 9) (f_X7_readNumber (g_X7_readNumber (g_X7_readNumber (g_X9_step h) 0 9) (f_X7_readNumber (g_X9_step h) 0 9) 9) 1 100))) = 0 ∨ (f_X7_readSemicolon (g_X1_addRung (g_X7_readNumber (g_X7_readNumber (g_X7_readNumber (g_X9_step h) 0 9) (f_X7_readNumber (g_X9_step h) 0 9) 9) 1 100) ((g_X7_readNumber (g_X7_readNumber (g_X7_readNumber (g_X9_step h) 0 9) (f_X7_readNumber (g_X9_step h) 0 9) 9) 1 100).2.2 7 0 3) (f_X7_readNumber (g_X9_step h) 0 9) (f_X7_readNumber (g_X7_readNumber (g_X9_step h) 0 9) (f_X7_readNumber (g_X9_step h) 0 9) 9) (f_X7_readNumber (g_X7_readNumber (g_X7_readNumber (g_X9_step h) 0 9) (f_X7_readNumber (g_X9_step h) 0 9) 9) 1 100))) = 1) ∧ True)))) ∧ (((f_X7_readNumber (g_X7_readNumber (g_X7_readNumber (g_X9_step h) 0 9) (f_X7_readNumber (g_X9_step h) 0 9) 9) 1 100) = (-1)) → True)))) ∧ (((f_X7_readNumber (g_X7_readNumber (g_X9_step h) 0 9) (f_X7_readNumber (g_X9_step h) 0 9) 9) = (-1)) → True)))) ∧ (((f_X7_readNumber (g_X9_step h) 0 9) = (-1)) → True)))
def f_X7_readRung (h : Hp)  : Int32 := if ¬ (f_X7_readNumber (g_X9_step h) 0 9) = (-1) then (if ¬ (f_X7_readNumber (g_X7_readNumber (g_X9_step h) 0 9) (f_X7_readNumber (g_X9_step h) 0 9) 9) = (-1) then (if ¬ (f_X7_readNumber (g_X7_readNumber (g_X7_readNumber (g_X9_step h) 0 9) (f_X7_readNumber (g_X9_step h) 0 9) 9) 1 100) = (-1) then (f_X7_readSemicolon (g_X1_addRung (g_X7_readNumber (g_X7_readNumber (g_X7_readNumber (g_X9_step h) 0 9) (f_X7_readNumber (g_X9_step h) 0 9) 9) 1 100) ((g_X7_readNumber (g_X7_readNumber (g_X7_readNumber (g_X9_step h) 0 9) (f_X7_readNumber (g_X9_step h) 0 9) 9) 1 100).2.2 7 0 3) (f_X7_readNumber (g_X9_step h) 0 9) (f_X7_readNumber (g_X7_readNumber (g_X9_step h) 0 9) (f_X7_readNumber (g_X9_step h) 0 9) 9) (f_X7_readNumber (g_X7_readNumber (g_X7_readNumber (g_X9_step h) 0 9) (f_X7_readNumber (g_X9_step h) 0 9) 9) 1 100))) else 0) else 0) else 0
def g_X7_readRung (h : Hp)  : Hp := if ¬ (f_X7_readNumber (g_X9_step h) 0 9) = (-1) then (if ¬ (f_X7_readNumber (g_X7_readNumber (g_X9_step h) 0 9) (f_X7_readNumber (g_X9_step h) 0 9) 9) = (-1) then (if ¬ (f_X7_readNumber (g_X7_readNumber (g_X7_readNumber (g_X9_step h) 0 9) (f_X7_readNumber (g_X9_step h) 0 9) 9) 1 100) = (-1) then (g_X7_readSemicolon (g_X1_addRung (g_X7_readNumber (g_X7_readNumber (g_X7_readNumber (g_X9_step h) 0 9) (f_X7_readNumber (g_X9_step h) 0 9) 9) 1 100) ((g_X7_readNumber (g_X7_readNumber (g_X7_readNumber (g_X9_step h) 0 9) (f_X7_readNumber (g_X9_step h) 0 9) 9) 1 100).2.2 7 0 3) (f_X7_readNumber (g_X9_step h) 0 9) (f_X7_readNumber (g_X7_readNumber (g_X9_step h) 0 9) (f_X7_readNumber (g_X9_step h) 0 9) 9) (f_X7_readNumber (g_X7_readNumber (g_X7_readNumber (g_X9_step h) 0 9) (f_X7_readNumber (g_X9_step h) 0 9) 9) 1 100))) else (g_X7_readNumber (g_X7_readNumber (g_X7_readNumber (g_X9_step h) 0 9) (f_X7_readNumber (g_X9_step h) 0 9) 9) 1 100)) else (g_X7_readNumber (g_X7_readNumber (g_X9_step h) 0 9) (f_X7_readNumber (g_X9_step h) 0 9) 9)) else (g_X7_readNumber (g_X9_step h) 0 9)
set_option maxHeartbeats 4000000 in
theorem c_X7_readRung {d : Nat} {h : Hp} {P : Int32 → Hp → Prop} {Qx : String → Hp → Prop}   (hp : p_X7_readRung h ) (k : P (f_X7_readRung h ) (g_X7_readRung h )) : CL 0 (d + 4) mX7_readRung [vR 7 0] h (oI P) Qx := by
  replace k : oI P (some (vI (f_X7_readRung h ))) (g_X7_readRung h ) := k
  unfold p_X7_readRung at hp
  unfold f_X7_readRung at k
  unfold g_X7_readRung at k
  refine CL.ofF (plainFor_of_name rfl) rfl (Nat.le_of_ble_eq_true rfl) (vc_X7_readRung_0 (d := d + 3)  ?_)
  refine c_X9_step  hp.1 ?_
  replace hp := hp.2
  refine c_X7_readNumber  hp.1 ?_
  replace hp := hp.2
  refine ⟨fun c => ?_, fun c => ?_⟩
  · replace hp := hp.1 c
    try simp only [if_pos c] at k
    refine c_X7_readNumber  hp.1 ?_
    replace hp := hp.2
    refine ⟨fun c => ?_, fun c => ?_⟩
    · replace hp := hp.1 c
      try simp only [if_pos c] at k
      refine c_X7_readNumber  hp.1 ?_
      replace hp := hp.2
      refine ⟨fun c => ?_, fun c => ?_⟩
      · replace hp := hp.1 c
        try simp only [if_pos c] at k
        refine c_X1_addRung  hp.1 ?_
        replace hp := hp.2
        refine c_X7_readSemicolon  hp.1 ?_
        replace hp := hp.2
        refine ⟨hp.1, ?_⟩
        replace hp := hp.2
        exact k
      · replace hp := hp.2 c
        try simp only [if_neg (oa_nn c)] at k
        exact k
    · replace hp := hp.2 c
      try simp only [if_neg (oa_nn c)] at k
      exact k
  · replace hp := hp.2 c
    try simp only [if_neg (oa_nn c)] at k
    exact k
def p_X7_readOrder (h : Hp)  : Prop := p_X9_step h ∧ (p_X9_isName (g_X9_step h) ∧ (((¬ (f_X9_isName (g_X9_step h)) = 0) → (p_X9_name (g_X9_step h) ∧ (p_X1_productNamed (g_X9_step h) ((g_X9_step h).2.2 7 0 3) (f_X9_name (g_X9_step h)) ∧ (((¬ (f_X1_productNamed (g_X9_step h) ((g_X9_step h).2.2 7 0 3) (f_X9_name (g_X9_step h))) = (-1)) → (p_X9_step (g_X9_step h) ∧ (p_X7_readNumber (g_X9_step (g_X9_step h)) 1 99 ∧ (((¬ (f_X7_readNumber (g_X9_step (g_X9_step h)) 1 99) = (-1)) → (p_X7_readNumber (g_X7_readNumber (g_X9_step (g_X9_step h)) 1 99) 0 9 ∧ (((¬ (f_X7_readNumber (g_X7_readNumber (g_X9_step (g_X9_step h)) 1 99) 0 9) = (-1)) → (p_X7_readNumber (g_X7_readNumber (g_X7_readNumber (g_X9_step (g_X9_step h)) 1 99) 0 9) 0 999 ∧ (((¬ (f_X7_readNumber (g_X7_readNumber (g_X7_readNumber (g_X9_step (g_X9_step h)) 1 99) 0 9) 0 999) = (-1)) → (p_X9_isWord (g_X7_readNumber (g_X7_readNumber (g_X7_readNumber (g_X9_step (g_X9_step h)) 1 99) 0 9) 0 999) 4 ∧ ((((f_X9_isWord (g_X7_readNumber (g_X7_readNumber (g_X7_readNumber (g_X9_step (g_X9_step h)) 1 99) 0 9) 0 999) 4) = 0) → (p_X6_enter (g_X7_readNumber (g_X7_readNumber (g_X7_readNumber (g_X9_step (g_X9_step h)) 1 99) 0 9) 0 999) ((g_X7_readNumber (g_X7_readNumber (g_X7_readNumber (g_X9_step (g_X9_step h)) 1 99) 0 9) 0 999).2.2 7 0 4) (f_X1_productNamed (g_X9_step h) ((g_X9_step h).2.2 7 0 3) (f_X9_name (g_X9_step h))) (f_X7_readNumber (g_X9_step (g_X9_step h)) 1 99) (f_X7_readNumber (g_X7_readNumber (g_X9_step (g_X9_step h)) 1 99) 0 9) (f_X7_readNumber (g_X7_readNumber (g_X7_readNumber (g_X9_step (g_X9_step h)) 1 99) 0 9) 0 999) (f_X9_isWord (g_X7_readNumber (g_X7_readNumber (g_X7_readNumber (g_X9_step (g_X9_step h)) 1 99) 0 9) 0 999) 4) ∧ (p_X7_readSemicolon (g_X6_enter (g_X7_readNumber (g_X7_readNumber (g_X7_readNumber (g_X9_step (g_X9_step h)) 1 99) 0 9) 0 999) ((g_X7_readNumber (g_X7_readNumber (g_X7_readNumber (g_X9_step (g_X9_step h)) 1 99) 0 9) 0 999).2.2 7 0 4) (f_X1_productNamed (g_X9_step h) ((g_X9_step h).2.2 7 0 3) (f_X9_name (g_X9_step h))) (f_X7_readNumber (g_X9_step (g_X9_step h)) 1 99) (f_X7_readNumber (g_X7_readNumber (g_X9_step (g_X9_step h)) 1 99) 0 9) (f_X7_readNumber (g_X7_readNumber (g_X7_readNumber (g_X9_step (g_X9_step h)) 1 99) 0 9) 0 999) (f_X9_isWord (g_X7_readNumber (g_X7_readNumber (g_X7_readNumber (g_X9_step (g_X9_step h)) 1 99) 0 9) 0 999) 4)) ∧ (((f_X7_readSemicolon (g_X6_enter (g_X7_readNumber (g_X7_readNumber (g_X7_readNumber (g_X9_step (g_X9_step h)) 1 99) 0 9) 0 999) ((g_X7_readNumber (g_X7_readNumber (g_X7_readNumber (g_X9_step (g_X9_step h)) 1 99) 0 9) 0 999).2.2 7 0 4) (f_X1_productNamed (g_X9_step h) ((g_X9_step h).2.2 7 0 3) (f_X9_name (g_X9_step h))) (f_X7_readNumber (g_X9_step (g_X9_step h)) 1 99) (f_X7_readNumber (g_X7_readNumber (g_X9_step (g_X9_step h)) 1 99) 0 9) (f_X7_readNumber (g_X7_readNumber (g_X7_readNumber (g_X9_step (g_X9_step h)) 1 99) 0 9) 0 999) (f_X9_isWord (g_X7_readNumber (g_X7_readNumber (g_X7_readNumber (g_X9_step (g_X9_step h)) 1 99) 0 9) 0 999) 4))) = 0 ∨ (f_X7_readSemicolon (g_X6_enter (g_X7_readNumber (g_X7_readNumber (g_X7_readNumber (g_X9_step (g_X9_step h)) 1 99) 0 9) 0 999) ((g_X7_readNumber (g_X7_readNumber (g_X7_readNumber (g_X9_step (g_X9_step h)) 1 99) 0 9) 0 999).2.2 7 0 4) (f_X1_productNamed (g_X9_step h) ((g_X9_step h).2.2 7 0 3) (f_X9_name (g_X9_step h))) (f_X7_readNumber (g_X9_step (g_X9_step h)) 1 99) (f_X7_readNumber (g_X7_readNumber (g_X9_step (g_X9_step h)) 1 99) 0 9) (f_X7_readNumber (g_X7_readNumber (g_X7_readNumber (g_X9_step (g_X9_step h)) 1 99) 0 9) 0 999) (f_X9_isWord (g_X7_readNumber (g_X7_readNumber (g_X7_readNumber (g_X9_step (g_X9_step h)) 1 99) 0 9) 0 999) 4))) = 1) ∧ True)))) ∧ ((¬ (f_X9_isWord (g_X7_readNumber (g_X7_readNumber (g_X7_readNumber (g_X9_step (g_X9_step h)) 1 99) 0 9) 0 999) 4) = 0) → (p_X9_step (g_X7_readNumber (g_X7_readNumber (g_X7_readNumber (g_X9_step (g_X9_step h)) 1 99) 0 9) 0 999) ∧ (p_X6_enter (g_X9_step (g_X7_readNumber (g_X7_readNumber (g_X7_readNumber (g_X9_step (g_X9_step h)) 1 99) 0 9) 0 999)) ((g_X9_step (g_X7_readNumber (g_X7_readNumber (g_X7_readNumber (g_X9_step (g_X9_step h)) 1 99) 0 9) 0 999)).2.2 7 0 4) (f_X1_productNamed (g_X9_step h) ((g_X9_step h).2.2 7 0 3) (f_X9_name (g_X9_step h))) (f_X7_readNumber (g_X9_step (g_X9_step h)) 1 99) (f_X7_readNumber (g_X7_readNumber (g_X9_step (g_X9_step h)) 1 99) 0 9) (f_X7_readNumber (g_X7_readNumber (g_X7_readNumber (g_X9_step (g_X9_step h)) 1 99) 0 9) 0 999) (f_X9_isWord (g_X7_readNumber (g_X7_readNumber (g_X7_readNumber (g_X9_step (g_X9_step h)) 1 99) 0 9) 0 999) 4) ∧ (p_X7_readSemicolon (g_X6_enter (g_X9_step (g_X7_readNumber (g_X7_readNumber (g_X7_readNumber (g_X9_step (g_X9_step h)) 1 99) 0 9) 0 999)) ((g_X9_step (g_X7_readNumber (g_X7_readNumber (g_X7_readNumber (g_X9_step (g_X9_step h)) 1 99) 0 9) 0 999)).2.2 7 0 4) (f_X1_productNamed (g_X9_step h) ((g_X9_step h).2.2 7 0 3) (f_X9_name (g_X9_step h))) (f_X7_readNumber (g_X9_step (g_X9_step h)) 1 99) (f_X7_readNumber (g_X7_readNumber (g_X9_step (g_X9_step h)) 1 99) 0 9) (f_X7_readNumber (g_X7_readNumber (g_X7_readNumber (g_X9_step (g_X9_step h)) 1 99) 0 9) 0 999) (f_X9_isWord (g_X7_readNumber (g_X7_readNumber (g_X7_readNumber (g_X9_step (g_X9_step h)) 1 99) 0 9) 0 999) 4)) ∧ (((f_X7_readSemicolon (g_X6_enter (g_X9_step (g_X7_readNumber (g_X7_readNumber (g_X7_readNumber (g_X9_step (g_X9_step h)) 1 99) 0 9) 0 999)) ((g_X9_step (g_X7_readNumber (g_X7_readNumber (g_X7_readNumber (g_X9_step (g_X9_step h)) 1 99) 0 9) 0 999)).2.2 7 0 4) (f_X1_productNamed (g_X9_step h) ((g_X9_step h).2.2 7 0 3) (f_X9_name (g_X9_step h))) (f_X7_readNumber (g_X9_step (g_X9_step h)) 1 99) (f_X7_readNumber (g_X7_readNumber (g_X9_step (g_X9_step h)) 1 99) 0 9) (f_X7_readNumber (g_X7_readNumber (g_X7_readNumber (g_X9_step (g_X9_step h)) 1 99) 0 9) 0 999) (f_X9_isWord (g_X7_readNumber (g_X7_readNumber (g_X7_readNumber (g_X9_step (g_X9_step h)) 1 99) 0 9) 0 999) 4))) = 0 ∨ (f_X7_readSemicolon (g_X6_enter (g_X9_step (g_X7_readNumber (g_X7_readNumber (g_X7_readNumber (g_X9_step (g_X9_step h)) 1 99) 0 9) 0 999)) ((g_X9_step (g_X7_readNumber (g_X7_readNumber (g_X7_readNumber (g_X9_step (g_X9_step h)) 1 99) 0 9) 0 999)).2.2 7 0 4) (f_X1_productNamed (g_X9_step h) ((g_X9_step h).2.2 7 0 3) (f_X9_name (g_X9_step h))) (f_X7_readNumber (g_X9_step (g_X9_step h)) 1 99) (f_X7_readNumber (g_X7_readNumber (g_X9_step (g_X9_step h)) 1 99) 0 9) (f_X7_readNumber (g_X7_readNumber (g_X7_readNumber (g_X9_step (g_X9_step h)) 1 99) 0 9) 0 999) (f_X9_isWord (g_X7_readNumber (g_X7_readNumber (g_X7_readNumber (g_X9_step (g_X9_step h)) 1 99) 0 9) 0 999) 4))) = 1) ∧ True)))))))) ∧ (((f_X7_readNumber (g_X7_readNumber (g_X7_readNumber (g_X9_step (g_X9_step h)) 1 99) 0 9) 0 999) = (-1)) → True)))) ∧ (((f_X7_readNumber (g_X7_readNumber (g_X9_step (g_X9_step h)) 1 99) 0 9) = (-1)) → True)))) ∧ (((f_X7_readNumber (g_X9_step (g_X9_step h)) 1 99) = (-1)) → True))))) ∧ (((f_X1_productNamed (g_X9_step h) ((g_X9_step h).2.2 7 0 3) (f_X9_name (g_X9_step h))) = (-1)) → (p_X7_fail (g_X9_step h) 3 ∧ (((f_X7_fail (g_X9_step h) 3) = 0 ∨ (f_X7_fail (g_X9_step h) 3) = 1) ∧ True))))))) ∧ (((f_X9_isName (g_X9_step h)) = 0) → (p_X7_fail (g_X9_step h) 1 ∧ (((f_X7_fail (g_X9_step h) 1) = 0 ∨ (f_X7_fail (g_X9_step h) 1) = 1) ∧ True)))))
def f_X7_readOrder (h : Hp)  : Int32 := if ¬ (f_X9_isName (g_X9_step h)) = 0 then (if ¬ (f_X1_productNamed (g_X9_step h) ((g_X9_step h).2.2 7 0 3) (f_X9_name (g_X9_step h))) = (-1) then (if ¬ (f_X7_readNumber (g_X9_step (g_X9_step h)) 1 99) = (-1) then (if ¬ (f_X7_readNumber (g_X7_readNumber (g_X9_step (g_X9_step h)) 1 99) 0 9) = (-1) then (if ¬ (f_X7_readNumber (g_X7_readNumber (g_X7_readNumber (g_X9_step (g_X9_step h)) 1 99) 0 9) 0 999) = (-1) then (if (f_X9_isWord (g_X7_readNumber (g_X7_readNumber (g_X7_readNumber (g_X9_step (g_X9_step h)) 1 99) 0 9) 0 999) 4) = 0 then (f_X7_readSemicolon (g_X6_enter (g_X7_readNumber (g_X7_readNumber (g_X7_readNumber (g_X9_step (g_X9_step h)) 1 99) 0 9) 0 999) ((g_X7_readNumber (g_X7_readNumber (g_X7_readNumber (g_X9_step (g_X9_step h)) 1 99) 0 9) 0 999).2.2 7 0 4) (f_X1_productNamed (g_X9_step h) ((g_X9_step h).2.2 7 0 3) (f_X9_name (g_X9_step h))) (f_X7_readNumber (g_X9_step (g_X9_step h)) 1 99) (f_X7_readNumber (g_X7_readNumber (g_X9_step (g_X9_step h)) 1 99) 0 9) (f_X7_readNumber (g_X7_readNumber (g_X7_readNumber (g_X9_step (g_X9_step h)) 1 99) 0 9) 0 999) (f_X9_isWord (g_X7_readNumber (g_X7_readNumber (g_X7_readNumber (g_X9_step (g_X9_step h)) 1 99) 0 9) 0 999) 4))) else (f_X7_readSemicolon (g_X6_enter (g_X9_step (g_X7_readNumber (g_X7_readNumber (g_X7_readNumber (g_X9_step (g_X9_step h)) 1 99) 0 9) 0 999)) ((g_X9_step (g_X7_readNumber (g_X7_readNumber (g_X7_readNumber (g_X9_step (g_X9_step h)) 1 99) 0 9) 0 999)).2.2 7 0 4) (f_X1_productNamed (g_X9_step h) ((g_X9_step h).2.2 7 0 3) (f_X9_name (g_X9_step h))) (f_X7_readNumber (g_X9_step (g_X9_step h)) 1 99) (f_X7_readNumber (g_X7_readNumber (g_X9_step (g_X9_step h)) 1 99) 0 9) (f_X7_readNumber (g_X7_readNumber (g_X7_readNumber (g_X9_step (g_X9_step h)) 1 99) 0 9) 0 999) (f_X9_isWord (g_X7_readNumber (g_X7_readNumber (g_X7_readNumber (g_X9_step (g_X9_step h)) 1 99) 0 9) 0 999) 4)))) else 0) else 0) else 0) else (f_X7_fail (g_X9_step h) 3)) else (f_X7_fail (g_X9_step h) 1)
def g_X7_readOrder (h : Hp)  : Hp := if ¬ (f_X9_isName (g_X9_step h)) = 0 then (if ¬ (f_X1_productNamed (g_X9_step h) ((g_X9_step h).2.2 7 0 3) (f_X9_name (g_X9_step h))) = (-1) then (if ¬ (f_X7_readNumber (g_X9_step (g_X9_step h)) 1 99) = (-1) then (if ¬ (f_X7_readNumber (g_X7_readNumber (g_X9_step (g_X9_step h)) 1 99) 0 9) = (-1) then (if ¬ (f_X7_readNumber (g_X7_readNumber (g_X7_readNumber (g_X9_step (g_X9_step h)) 1 99) 0 9) 0 999) = (-1) then (if (f_X9_isWord (g_X7_readNumber (g_X7_readNumber (g_X7_readNumber (g_X9_step (g_X9_step h)) 1 99) 0 9) 0 999) 4) = 0 then (g_X7_readSemicolon (g_X6_enter (g_X7_readNumber (g_X7_readNumber (g_X7_readNumber (g_X9_step (g_X9_step h)) 1 99) 0 9) 0 999) ((g_X7_readNumber (g_X7_readNumber (g_X7_readNumber (g_X9_step (g_X9_step h)) 1 99) 0 9) 0 999).2.2 7 0 4) (f_X1_productNamed (g_X9_step h) ((g_X9_step h).2.2 7 0 3) (f_X9_name (g_X9_step h))) (f_X7_readNumber (g_X9_step (g_X9_step h)) 1 99) (f_X7_readNumber (g_X7_readNumber (g_X9_step (g_X9_step h)) 1 99) 0 9) (f_X7_readNumber (g_X7_readNumber (g_X7_readNumber (g_X9_step (g_X9_step h)) 1 99) 0 9) 0 999) (f_X9_isWord (g_X7_readNumber (g_X7_readNumber (g_X7_readNumber (g_X9_step (g_X9_step h)) 1 99) 0 9) 0 999) 4))) else (g_X7_readSemicolon (g_X6_enter (g_X9_step (g_X7_readNumber (g_X7_readNumber (g_X7_readNumber (g_X9_step (g_X9_step h)) 1 99) 0 9) 0 999)) ((g_X9_step (g_X7_readNumber (g_X7_readNumber (g_X7_readNumber (g_X9_step (g_X9_step h)) 1 99) 0 9) 0 999)).2.2 7 0 4) (f_X1_productNamed (g_X9_step h) ((g_X9_step h).2.2 7 0 3) (f_X9_name (g_X9_step h))) (f_X7_readNumber (g_X9_step (g_X9_step h)) 1 99) (f_X7_readNumber (g_X7_readNumber (g_X9_step (g_X9_step h)) 1 99) 0 9) (f_X7_readNumber (g_X7_readNumber (g_X7_readNumber (g_X9_step (g_X9_step h)) 1 99) 0 9) 0 999) (f_X9_isWord (g_X7_readNumber (g_X7_readNumber (g_X7_readNumber (g_X9_step (g_X9_step h)) 1 99) 0 9) 0 999) 4)))) else (g_X7_readNumber (g_X7_readNumber (g_X7_readNumber (g_X9_step (g_X9_step h)) 1 99) 0 9) 0 999)) else (g_X7_readNumber (g_X7_readNumber (g_X9_step (g_X9_step h)) 1 99) 0 9)) else (g_X7_readNumber (g_X9_step (g_X9_step h)) 1 99)) else (g_X7_fail (g_X9_step h) 3)) else (g_X7_fail (g_X9_step h) 1)
set_option maxHeartbeats 4000000 in
theorem c_X7_readOrder {d : Nat} {h : Hp} {P : Int32 → Hp → Prop} {Qx : String → Hp → Prop}   (hp : p_X7_readOrder h ) (k : P (f_X7_readOrder h ) (g_X7_readOrder h )) : CL 0 (d + 7) mX7_readOrder [vR 7 0] h (oI P) Qx := by
  replace k : oI P (some (vI (f_X7_readOrder h ))) (g_X7_readOrder h ) := k
  unfold p_X7_readOrder at hp
  unfold f_X7_readOrder at k
  unfold g_X7_readOrder at k
  refine CL.ofF (plainFor_of_name rfl) rfl (Nat.le_of_ble_eq_true rfl) (vc_X7_readOrder_0 (d := d + 6)  ?_)
  refine c_X9_step  hp.1 ?_
  replace hp := hp.2
  refine c_X9_isName  hp.1 ?_
  replace hp := hp.2
  refine ⟨fun c => ?_, fun c => ?_⟩
  · replace hp := hp.1 c
    try simp only [if_pos c] at k
    refine c_X9_name  hp.1 ?_
    replace hp := hp.2
    refine c_X1_productNamed  hp.1 ?_
    replace hp := hp.2
    refine ⟨fun c => ?_, fun c => ?_⟩
    · replace hp := hp.1 c
      try simp only [if_pos c] at k
      refine c_X9_step  hp.1 ?_
      replace hp := hp.2
      refine c_X7_readNumber  hp.1 ?_
      replace hp := hp.2
      refine ⟨fun c => ?_, fun c => ?_⟩
      · replace hp := hp.1 c
        try simp only [if_pos c] at k
        refine c_X7_readNumber  hp.1 ?_
        replace hp := hp.2
        refine ⟨fun c => ?_, fun c => ?_⟩
        · replace hp := hp.1 c
          try simp only [if_pos c] at k
          refine c_X7_readNumber  hp.1 ?_
          replace hp := hp.2
          refine ⟨fun c => ?_, fun c => ?_⟩
          · replace hp := hp.1 c
            try simp only [if_pos c] at k
            refine c_X9_isWord (by decide) hp.1 ?_
            replace hp := hp.2
            refine ⟨fun c => ?_, fun c => ?_⟩
            · replace hp := hp.1 c
              try simp only [if_pos c] at k
              refine c_X6_enter  hp.1 ?_
              replace hp := hp.2
              refine c_X7_readSemicolon  hp.1 ?_
              replace hp := hp.2
              refine ⟨hp.1, ?_⟩
              replace hp := hp.2
              exact k
            · replace hp := hp.2 c
              try simp only [if_neg c] at k
              refine c_X9_step  hp.1 ?_
              replace hp := hp.2
              refine c_X6_enter  hp.1 ?_
              replace hp := hp.2
              refine c_X7_readSemicolon  hp.1 ?_
              replace hp := hp.2
              refine ⟨hp.1, ?_⟩
              replace hp := hp.2
              exact k
          · replace hp := hp.2 c
            try simp only [if_neg (oa_nn c)] at k
            exact k
        · replace hp := hp.2 c
          try simp only [if_neg (oa_nn c)] at k
          exact k
      · replace hp := hp.2 c
        try simp only [if_neg (oa_nn c)] at k
        exact k
    · replace hp := hp.2 c
      try simp only [if_neg (oa_nn c)] at k
      refine c_X7_fail  hp.1 ?_
      replace hp := hp.2
      refine ⟨hp.1, ?_⟩
      replace hp := hp.2
      exact k
  · replace hp := hp.2 c
    try simp only [if_neg (oa_nn c)] at k
    refine c_X7_fail  hp.1 ?_
    replace hp := hp.2
    refine ⟨hp.1, ?_⟩
    replace hp := hp.2
    exact k
def p_X11_toBuy (h : Hp) (a1 : Int32) : Prop := p_X11_checkPart h a1 ∧ (x_X11_checkPart h a1 = 0 → (p_X11_shortageOfAll h a1 ∧ True))
def f_X11_toBuy (h : Hp) (a1 : Int32) : Int32 := if x_X11_checkPart h a1 = 0 then (f_X11_shortageOfAll h a1) else 0
def x_X11_toBuy (h : Hp) (a1 : Int32) : Nat := if x_X11_checkPart h a1 = 0 then 0 else x_X11_checkPart h a1
set_option maxHeartbeats 4000000 in
theorem c_X11_toBuy {d : Nat} {h : Hp} {P : Int32 → Hp → Prop} {Qx : String → Hp → Prop} {a1 : Int32}  (hp : p_X11_toBuy h a1) (hx : x_X11_toBuy h a1 = 0) (k : P (f_X11_toBuy h a1) h) : CL 0 (d + 7) mX11_toBuy [vR 11 0, vI a1] h (oI P) Qx := by
  replace k : oI P (some (vI (f_X11_toBuy h a1))) h := k
  unfold p_X11_toBuy at hp
  unfold f_X11_toBuy at k
  unfold x_X11_toBuy at hx
  refine CL.ofF (plainFor_of_name rfl) rfl (Nat.le_of_ble_eq_true rfl) (vc_X11_toBuy_0 (d := d + 6)  ?_)
  by_cases hc : x_X11_checkPart h a1 = 0
  · refine Or.inl (c_X11_checkPart  hp.1 hc ?_)
    replace hp := hp.2 hc
    try simp only [if_pos hc] at k
    try simp only [if_pos hc] at hx
    refine c_X11_shortageOfAll  hp.1 ?_
    replace hp := hp.2
    exact k
  · simp only [if_neg hc] at hx
    exact absurd hx hc
set_option maxHeartbeats 4000000 in
theorem t_X11_toBuy {d : Nat} {h : Hp} {Qx : String → Hp → Prop} {a1 : Int32}  (hp : p_X11_toBuy h a1) (hx : ¬ x_X11_toBuy h a1 = 0) (k : Qx (oa_ex (x_X11_toBuy h a1)) h) : CL 1 (d + 7) mX11_toBuy [vR 11 0, vI a1] h (fun _ _ => False) Qx := by
  unfold p_X11_toBuy at hp
  unfold x_X11_toBuy at hx
  unfold x_X11_toBuy at k
  refine CL.ofF (plainFor_of_name rfl) rfl (Nat.le_of_ble_eq_true rfl) (vc_X11_toBuy_0 (d := d + 6)  ?_)
  by_cases hc : x_X11_checkPart h a1 = 0
  · refine Or.inl (c_X11_checkPart  hp.1 hc ?_)
    replace hp := hp.2 hc
    try simp only [if_pos hc] at k
    try simp only [if_pos hc] at hx
    refine c_X11_shortageOfAll  hp.1 ?_
    replace hp := hp.2
    exact (hx (by first | rfl | trivial)).elim
  · try simp only [if_neg hc] at k
    exact Or.inr (t_X11_checkPart  hp.1 hc k)
def pw_X11_scarcestPart_6 : Nat → Hp → Int32 → Int32 → Int32 → Prop
  | 0, _, _, _, _ => False
  | n + 1, h, x1, x2, x3 => (((h.1 1 (h.2.2 11 0 6) 0) ≤ x3) → True) ∧ ((¬ (h.1 1 (h.2.2 11 0 6) 0) ≤ x3) → (p_X11_shortageOfAll h x3 ∧ ((((f_X11_shortageOfAll h x3) ≤ x2) → (pw_X11_scarcestPart_6 n h x1 x2 (x3 + 1))) ∧ ((¬ (f_X11_shortageOfAll h x3) ≤ x2) → (pw_X11_scarcestPart_6 n h x3 (f_X11_shortageOfAll h x3) (x3 + 1))))))
def fw_X11_scarcestPart_6 : Nat → Hp → Int32 → Int32 → Int32 → Int32
  | 0, _, _, _, _ => 0
  | n + 1, h, x1, x2, x3 => if (h.1 1 (h.2.2 11 0 6) 0) ≤ x3 then x1 else (if (f_X11_shortageOfAll h x3) ≤ x2 then (fw_X11_scarcestPart_6 n h x1 x2 (x3 + 1)) else (fw_X11_scarcestPart_6 n h x3 (f_X11_shortageOfAll h x3) (x3 + 1)))
set_option maxHeartbeats 4000000 in
theorem lw_X11_scarcestPart_6 {X : WD → State → Prop} {d rb : Nat} {Qr : Option AV → Hp → Prop} {Qx : String → Hp → Prop}   : ∀ (n : Nat) (h : Hp) (x1 : Int32) (x2 : Int32) (x3 : Int32), pw_X11_scarcestPart_6 n h x1 x2 x3 → Qr (some (vI (fw_X11_scarcestPart_6 n h x1 x2 x3))) h → AW X (d + 5) rb mX11_scarcestPart 6 [(0, vR 11 0), (1, vI x1), (2, vI x2), (3, vI x3)] [] h Qr Qx := by
  intro n
  induction n with
  | zero => intro h x1 x2 x3 hp; exact hp.elim
  | succ n ih =>
    intro h x1 x2 x3 hp k
    rw [pw_X11_scarcestPart_6] at hp
    rw [fw_X11_scarcestPart_6] at k
    refine vc_X11_scarcestPart_6 (d := d + 4)  ?_
    refine ⟨fun c => ?_, fun c => ?_⟩
    · replace hp := hp.1 c
      try simp only [if_pos c] at k
      exact k
    · replace hp := hp.2 c
      try simp only [if_neg c] at k
      refine c_X11_shortageOfAll  hp.1 ?_
      replace hp := hp.2
      refine ⟨fun c => ?_, fun c => ?_⟩
      · replace hp := hp.1 c
        try simp only [if_pos c] at k
        exact ih _ _ _ _ hp k
      · replace hp := hp.2 c
        try simp only [if_neg c] at k
        exact ih _ _ _ _ hp k
def p_X11_scarcestPart (h : Hp)  : Prop := pw_X11_scarcestPart_6 oa_N h (-1) 0 0
def f_X11_scarcestPart (h : Hp)  : Int32 := fw_X11_scarcestPart_6 oa_N h (-1) 0 0
set_option maxHeartbeats 4000000 in
theorem c_X11_scarcestPart {d : Nat} {h : Hp} {P : Int32 → Hp → Prop} {Qx : String → Hp → Prop}   (hp : p_X11_scarcestPart h ) (k : P (f_X11_scarcestPart h ) h) : CL 0 (d + 5) mX11_scarcestPart [vR 11 0] h (oI P) Qx := by
  replace k : oI P (some (vI (f_X11_scarcestPart h ))) h := k
  unfold p_X11_scarcestPart at hp
  unfold f_X11_scarcestPart at k
  refine CL.ofF (plainFor_of_name rfl) rfl (Nat.le_of_ble_eq_true rfl) (vc_X11_scarcestPart_0 (d := d + 4)  ?_)
  exact lw_X11_scarcestPart_6  _ _ _ _ _ hp k
def p_X11_coveredOrders (h : Hp)  : Prop := p_X0_coveredSet h (h.2.2 11 0 6) (h.2.2 11 0 7) ∧ True
def f_X11_coveredOrders (h : Hp)  : Int32 := (f_X0_coveredSet h (h.2.2 11 0 6) (h.2.2 11 0 7))
def g_X11_coveredOrders (h : Hp)  : Hp := (g_X0_coveredSet h (h.2.2 11 0 6) (h.2.2 11 0 7))
set_option maxHeartbeats 4000000 in
theorem c_X11_coveredOrders {d : Nat} {h : Hp} {P : Int32 → Hp → Prop} {Qx : String → Hp → Prop}   (hp : p_X11_coveredOrders h ) (k : P (f_X11_coveredOrders h ) (g_X11_coveredOrders h )) : CL 0 (d + 7) mX11_coveredOrders [vR 11 0] h (oI P) Qx := by
  replace k : oI P (some (vI (f_X11_coveredOrders h ))) (g_X11_coveredOrders h ) := k
  unfold p_X11_coveredOrders at hp
  unfold f_X11_coveredOrders at k
  unfold g_X11_coveredOrders at k
  refine CL.ofF (plainFor_of_name rfl) rfl (Nat.le_of_ble_eq_true rfl) (vc_X11_coveredOrders_0 (d := d + 6)  ?_)
  refine c_X0_coveredSet  hp.1 ?_
  replace hp := hp.2
  exact k
def p_X11_adjust (h : Hp) (a1 : Int32) (a2 : Int32) : Prop := p_X11_checkPart h a1 ∧ (x_X11_checkPart h a1 = 0 → (p_X11_checkArgument h (if a2 < 0 then (0 : Int32) else (if 9999 < a2 then (0 : Int32) else 1)) ∧ (x_X11_checkArgument h (if a2 < 0 then (0 : Int32) else (if 9999 < a2 then (0 : Int32) else 1)) = 0 → (p_X3_record h (h.2.2 11 0 7) ∧ (p_X10_setStock (g_X3_record h (h.2.2 11 0 7)) ((g_X3_record h (h.2.2 11 0 7)).2.2 11 0 7) a1 a2 ∧ (p_X5_releaseExcess (g_X10_setStock (g_X3_record h (h.2.2 11 0 7)) ((g_X3_record h (h.2.2 11 0 7)).2.2 11 0 7) a1 a2) ((g_X10_setStock (g_X3_record h (h.2.2 11 0 7)) ((g_X3_record h (h.2.2 11 0 7)).2.2 11 0 7) a1 a2).2.2 11 0 7) ((g_X10_setStock (g_X3_record h (h.2.2 11 0 7)) ((g_X3_record h (h.2.2 11 0 7)).2.2 11 0 7) a1 a2).2.2 11 0 6) a1 ∧ True))))))
def f_X11_adjust (h : Hp) (a1 : Int32) (a2 : Int32) : Int32 := if x_X11_checkPart h a1 = 0 then (if x_X11_checkArgument h (if a2 < 0 then (0 : Int32) else (if 9999 < a2 then (0 : Int32) else 1)) = 0 then (f_X5_releaseExcess (g_X10_setStock (g_X3_record h (h.2.2 11 0 7)) ((g_X3_record h (h.2.2 11 0 7)).2.2 11 0 7) a1 a2) ((g_X10_setStock (g_X3_record h (h.2.2 11 0 7)) ((g_X3_record h (h.2.2 11 0 7)).2.2 11 0 7) a1 a2).2.2 11 0 7) ((g_X10_setStock (g_X3_record h (h.2.2 11 0 7)) ((g_X3_record h (h.2.2 11 0 7)).2.2 11 0 7) a1 a2).2.2 11 0 6) a1) else 0) else 0
def g_X11_adjust (h : Hp) (a1 : Int32) (a2 : Int32) : Hp := if x_X11_checkPart h a1 = 0 then (if x_X11_checkArgument h (if a2 < 0 then (0 : Int32) else (if 9999 < a2 then (0 : Int32) else 1)) = 0 then (g_X5_releaseExcess (g_X10_setStock (g_X3_record h (h.2.2 11 0 7)) ((g_X3_record h (h.2.2 11 0 7)).2.2 11 0 7) a1 a2) ((g_X10_setStock (g_X3_record h (h.2.2 11 0 7)) ((g_X3_record h (h.2.2 11 0 7)).2.2 11 0 7) a1 a2).2.2 11 0 7) ((g_X10_setStock (g_X3_record h (h.2.2 11 0 7)) ((g_X3_record h (h.2.2 11 0 7)).2.2 11 0 7) a1 a2).2.2 11 0 6) a1) else h) else h
def x_X11_adjust (h : Hp) (a1 : Int32) (a2 : Int32) : Nat := if x_X11_checkPart h a1 = 0 then (if x_X11_checkArgument h (if a2 < 0 then (0 : Int32) else (if 9999 < a2 then (0 : Int32) else 1)) = 0 then 0 else x_X11_checkArgument h (if a2 < 0 then (0 : Int32) else (if 9999 < a2 then (0 : Int32) else 1))) else x_X11_checkPart h a1
set_option maxHeartbeats 4000000 in
theorem c_X11_adjust {d : Nat} {h : Hp} {P : Int32 → Hp → Prop} {Qx : String → Hp → Prop} {a1 : Int32} {a2 : Int32}  (hp : p_X11_adjust h a1 a2) (hx : x_X11_adjust h a1 a2 = 0) (k : P (f_X11_adjust h a1 a2) (g_X11_adjust h a1 a2)) : CL 0 (d + 7) mX11_adjust [vR 11 0, vI a1, vI a2] h (oI P) Qx := by
  replace k : oI P (some (vI (f_X11_adjust h a1 a2))) (g_X11_adjust h a1 a2) := k
  unfold p_X11_adjust at hp
  unfold f_X11_adjust at k
  unfold g_X11_adjust at k
  unfold x_X11_adjust at hx
  refine CL.ofF (plainFor_of_name rfl) rfl (Nat.le_of_ble_eq_true rfl) (vc_X11_adjust_0 (d := d + 6)  ?_)
  by_cases hc : x_X11_checkPart h a1 = 0
  · refine Or.inl (c_X11_checkPart  hp.1 hc ?_)
    replace hp := hp.2 hc
    try simp only [if_pos hc] at k
    try simp only [if_pos hc] at hx
    by_cases hc : x_X11_checkArgument h (if a2 < 0 then (0 : Int32) else (if 9999 < a2 then (0 : Int32) else 1)) = 0
    · refine Or.inl (c_X11_checkArgument  hp.1 hc ?_)
      replace hp := hp.2 hc
      try simp only [if_pos hc] at k
      try simp only [if_pos hc] at hx
      refine c_X3_record  hp.1 ?_
      replace hp := hp.2
      refine c_X10_setStock  hp.1 ?_
      replace hp := hp.2
      refine c_X5_releaseExcess  hp.1 ?_
      replace hp := hp.2
      exact k
    · simp only [if_neg hc] at hx
      exact absurd hx hc
  · simp only [if_neg hc] at hx
    exact absurd hx hc
set_option maxHeartbeats 4000000 in
theorem t_X11_adjust {d : Nat} {h : Hp} {Qx : String → Hp → Prop} {a1 : Int32} {a2 : Int32}  (hp : p_X11_adjust h a1 a2) (hx : ¬ x_X11_adjust h a1 a2 = 0) (k : Qx (oa_ex (x_X11_adjust h a1 a2)) (g_X11_adjust h a1 a2)) : CL 1 (d + 7) mX11_adjust [vR 11 0, vI a1, vI a2] h (fun _ _ => False) Qx := by
  unfold p_X11_adjust at hp
  unfold g_X11_adjust at k
  unfold x_X11_adjust at hx
  unfold x_X11_adjust at k
  refine CL.ofF (plainFor_of_name rfl) rfl (Nat.le_of_ble_eq_true rfl) (vc_X11_adjust_0 (d := d + 6)  ?_)
  by_cases hc : x_X11_checkPart h a1 = 0
  · refine Or.inl (c_X11_checkPart  hp.1 hc ?_)
    replace hp := hp.2 hc
    try simp only [if_pos hc] at k
    try simp only [if_pos hc] at hx
    by_cases hc : x_X11_checkArgument h (if a2 < 0 then (0 : Int32) else (if 9999 < a2 then (0 : Int32) else 1)) = 0
    · refine Or.inl (c_X11_checkArgument  hp.1 hc ?_)
      replace hp := hp.2 hc
      try simp only [if_pos hc] at k
      try simp only [if_pos hc] at hx
      refine c_X3_record  hp.1 ?_
      replace hp := hp.2
      refine c_X10_setStock  hp.1 ?_
      replace hp := hp.2
      refine c_X5_releaseExcess  hp.1 ?_
      replace hp := hp.2
      exact (hx (by first | rfl | trivial)).elim
    · try simp only [if_neg hc] at k
      exact Or.inr (t_X11_checkArgument  hp.1 hc k)
  · try simp only [if_neg hc] at k
    exact Or.inr (t_X11_checkPart  hp.1 hc k)
def pi_X0_tryOut_27 : Nat → Hp → Nat → Nat → Int32 → Int32 → Prop
  | 0, _, _, _, _, _ => False
  | n + 1, h, i1, i2, x3, x4 => (((h.1 6 i2 0) ≤ x4) → True) ∧ ((¬ (h.1 6 i2 0) ≤ x4) → (((20 ≤ x4) → True) ∧ ((¬ 20 ≤ x4) → ((vp_in x4 20) ∧ (p_X6_classOf h i2 (h.1 15 0 x4.toNatClampNeg) ∧ (p_X1_rungTakes h i1 x3 (f_X6_classOf h i2 (h.1 15 0 x4.toNatClampNeg)) ∧ ((((f_X1_rungTakes h i1 x3 (f_X6_classOf h i2 (h.1 15 0 x4.toNatClampNeg))) = 0) → (pi_X0_tryOut_27 n h i1 i2 x3 (x4 + 1))) ∧ ((¬ (f_X1_rungTakes h i1 x3 (f_X6_classOf h i2 (h.1 15 0 x4.toNatClampNeg))) = 0) → ((vp_in x4 20) ∧ (p_X0_serve h i1 i2 (h.1 15 0 x4.toNatClampNeg) x3 ∧ (pi_X0_tryOut_27 n (g_X0_serve h i1 i2 (h.1 15 0 x4.toNatClampNeg) x3) i1 i2 x3 (x4 + 1))))))))))))
def iw_x4_X0_tryOut_27 : Nat → Hp → Nat → Nat → Int32 → Int32 → Int32
  | 0, _, _, _, _, x4 => x4
  | n + 1, h, i1, i2, x3, x4 => if (h.1 6 i2 0) ≤ x4 then x4 else (if 20 ≤ x4 then x4 else (if (f_X1_rungTakes h i1 x3 (f_X6_classOf h i2 (h.1 15 0 x4.toNatClampNeg))) = 0 then (iw_x4_X0_tryOut_27 n h i1 i2 x3 (x4 + 1)) else (iw_x4_X0_tryOut_27 n (g_X0_serve h i1 i2 (h.1 15 0 x4.toNatClampNeg) x3) i1 i2 x3 (x4 + 1))))
def iw_h_X0_tryOut_27 : Nat → Hp → Nat → Nat → Int32 → Int32 → Hp
  | 0, h, _, _, _, _ => h
  | n + 1, h, i1, i2, x3, x4 => if (h.1 6 i2 0) ≤ x4 then h else (if 20 ≤ x4 then h else (if (f_X1_rungTakes h i1 x3 (f_X6_classOf h i2 (h.1 15 0 x4.toNatClampNeg))) = 0 then (iw_h_X0_tryOut_27 n h i1 i2 x3 (x4 + 1)) else (iw_h_X0_tryOut_27 n (g_X0_serve h i1 i2 (h.1 15 0 x4.toNatClampNeg) x3) i1 i2 x3 (x4 + 1))))
set_option maxHeartbeats 4000000 in
theorem li_X0_tryOut_27 {X : WD → State → Prop} {d rb : Nat} {Qr : Option AV → Hp → Prop} {Qx : String → Hp → Prop}   : ∀ (n : Nat) (h : Hp) (i1 : Nat) (i2 : Nat) (x3 : Int32) (x4 : Int32), pi_X0_tryOut_27 n h i1 i2 x3 x4 → AW X (d + 6) rb mX0_tryOut 91 [(0, vR 0 0), (1, vR 1 i1), (2, vR 5 i2), (3, vI x3), (4, vI (iw_x4_X0_tryOut_27 n h i1 i2 x3 x4))] [] (iw_h_X0_tryOut_27 n h i1 i2 x3 x4) Qr Qx → AW X (d + 6) rb mX0_tryOut 27 [(0, vR 0 0), (1, vR 1 i1), (2, vR 5 i2), (3, vI x3), (4, vI x4)] [] h Qr Qx := by
  intro n
  induction n with
  | zero => intro h i1 i2 x3 x4 hp; exact hp.elim
  | succ n ih =>
    intro h i1 i2 x3 x4 hp k
    rw [pi_X0_tryOut_27] at hp
    simp only [iw_x4_X0_tryOut_27, iw_h_X0_tryOut_27] at k
    refine vc_X0_tryOut_27 (d := d + 5)  ?_
    refine ⟨fun c => ?_, fun c => ?_⟩
    · replace hp := hp.1 c
      try simp only [if_pos c] at k
      exact k
    · replace hp := hp.2 c
      try simp only [if_neg c] at k
      refine ⟨fun c => ?_, fun c => ?_⟩
      · replace hp := hp.1 c
        try simp only [if_pos c] at k
        exact k
      · replace hp := hp.2 c
        try simp only [if_neg c] at k
        refine ⟨hp.1, ?_⟩
        replace hp := hp.2
        refine c_X6_classOf  hp.1 ?_
        replace hp := hp.2
        refine c_X1_rungTakes  hp.1 ?_
        replace hp := hp.2
        refine ⟨fun c => ?_, fun c => ?_⟩
        · replace hp := hp.1 c
          try simp only [if_pos c] at k
          exact ih _ _ _ _ _ hp k
        · replace hp := hp.2 c
          try simp only [if_neg c] at k
          refine ⟨hp.1, ?_⟩
          replace hp := hp.2
          refine c_X0_serve  hp.1 ?_
          replace hp := hp.2
          exact ih _ _ _ _ _ hp k
def pw_X0_tryOut_7 : Nat → Hp → Nat → Nat → Int32 → Prop
  | 0, _, _, _, _ => False
  | n + 1, h, i1, i2, x3 => (((h.1 1 i1 2) ≤ x3) → True) ∧ ((¬ (h.1 1 i1 2) ≤ x3) → (p_X1_shareOf h i1 x3 ∧ (p_X0_setQuotas h (f_X1_shareOf h i1 x3) ∧ (pi_X0_tryOut_27 oa_N (g_X0_setQuotas h (f_X1_shareOf h i1 x3)) i1 i2 x3 0 ∧ (pw_X0_tryOut_7 n (iw_h_X0_tryOut_27 oa_N (g_X0_setQuotas h (f_X1_shareOf h i1 x3)) i1 i2 x3 0) i1 i2 (x3 + 1))))))
def gw_X0_tryOut_7 : Nat → Hp → Nat → Nat → Int32 → Hp
  | 0, h, _, _, _ => h
  | n + 1, h, i1, i2, x3 => if (h.1 1 i1 2) ≤ x3 then h else (gw_X0_tryOut_7 n (iw_h_X0_tryOut_27 oa_N (g_X0_setQuotas h (f_X1_shareOf h i1 x3)) i1 i2 x3 0) i1 i2 (x3 + 1))
set_option maxHeartbeats 4000000 in
theorem lw_X0_tryOut_7 {X : WD → State → Prop} {d rb : Nat} {Qr : Option AV → Hp → Prop} {Qx : String → Hp → Prop}   : ∀ (n : Nat) (h : Hp) (i1 : Nat) (i2 : Nat) (x3 : Int32), pw_X0_tryOut_7 n h i1 i2 x3 → Qr none (gw_X0_tryOut_7 n h i1 i2 x3) → AW X (d + 6) rb mX0_tryOut 7 [(0, vR 0 0), (1, vR 1 i1), (2, vR 5 i2), (3, vI x3)] [] h Qr Qx := by
  intro n
  induction n with
  | zero => intro h i1 i2 x3 hp; exact hp.elim
  | succ n ih =>
    intro h i1 i2 x3 hp k
    rw [pw_X0_tryOut_7] at hp
    rw [gw_X0_tryOut_7] at k
    refine vc_X0_tryOut_7 (d := d + 5)  ?_
    refine ⟨fun c => ?_, fun c => ?_⟩
    · replace hp := hp.1 c
      try simp only [if_pos c] at k
      exact k
    · replace hp := hp.2 c
      try simp only [if_neg c] at k
      refine c_X1_shareOf  hp.1 ?_
      replace hp := hp.2
      refine c_X0_setQuotas  hp.1 ?_
      replace hp := hp.2
      refine li_X0_tryOut_27  _ _ _ _ _ _ hp.1 ?_
      replace hp := hp.2
      refine vc_X0_tryOut_91 (d := d + 5)  ?_
      exact ih _ _ _ _ hp k
def p_X0_tryOut (h : Hp) (i1 : Nat) (i2 : Nat) : Prop := p_X0_begin h i2 ∧ (pw_X0_tryOut_7 oa_N (g_X0_begin h i2) i1 i2 0)
def g_X0_tryOut (h : Hp) (i1 : Nat) (i2 : Nat) : Hp := gw_X0_tryOut_7 oa_N (g_X0_begin h i2) i1 i2 0
set_option maxHeartbeats 4000000 in
theorem c_X0_tryOut {d : Nat} {h : Hp} {P : Hp → Prop} {Qx : String → Hp → Prop} {i1 : Nat} {i2 : Nat}  (hp : p_X0_tryOut h i1 i2) (k : P  (g_X0_tryOut h i1 i2)) : CL 0 (d + 6) mX0_tryOut [vR 0 0, vR 1 i1, vR 5 i2] h (oV P) Qx := by
  replace k : oV P none (g_X0_tryOut h i1 i2) := k
  unfold p_X0_tryOut at hp
  unfold g_X0_tryOut at k
  refine CL.ofF (plainFor_of_name rfl) rfl (Nat.le_of_ble_eq_true rfl) (vc_X0_tryOut_0 (d := d + 5)  ?_)
  refine c_X0_begin  hp.1 ?_
  replace hp := hp.2
  exact lw_X0_tryOut_7  _ _ _ _ _ hp k
def pw_X1_mostTogether_14 : Nat → Hp → Nat → Int32 → Int32 → Nat → Nat → Nat → Int32 → Int32 → Int32 → Prop
  | 0, _, _, _, _, _, _, _, _, _, _ => False
  | n + 1, h, i0, x1, x2, t3, i3, n3, x4, x5, x6 => ((32 ≤ x6) → (p_X1_limitingPart h i0 x1 x2 t3 i3 n3 x4 ∧ (p_X1_needOf h i0 x2 (f_X1_limitingPart h i0 x1 x2 t3 i3 n3 x4) ∧ ((((f_X1_needOf h i0 x2 (f_X1_limitingPart h i0 x1 x2 t3 i3 n3 x4)) ≤ 0) → True) ∧ ((¬ (f_X1_needOf h i0 x2 (f_X1_limitingPart h i0 x1 x2 t3 i3 n3 x4)) ≤ 0) → (p_X1_leftAfter h i0 x1 t3 i3 n3 (f_X1_limitingPart h i0 x1 x2 t3 i3 n3 x4) x4 ∧ ((¬ (f_X1_needOf h i0 x2 (f_X1_limitingPart h i0 x1 x2 t3 i3 n3 x4)).toInt64 = 0) ∧ True))))))) ∧ ((¬ 32 ≤ x6) → (((x5 ≤ x4) → (p_X1_limitingPart h i0 x1 x2 t3 i3 n3 x4 ∧ (p_X1_needOf h i0 x2 (f_X1_limitingPart h i0 x1 x2 t3 i3 n3 x4) ∧ ((((f_X1_needOf h i0 x2 (f_X1_limitingPart h i0 x1 x2 t3 i3 n3 x4)) ≤ 0) → True) ∧ ((¬ (f_X1_needOf h i0 x2 (f_X1_limitingPart h i0 x1 x2 t3 i3 n3 x4)) ≤ 0) → (p_X1_leftAfter h i0 x1 t3 i3 n3 (f_X1_limitingPart h i0 x1 x2 t3 i3 n3 x4) x4 ∧ ((¬ (f_X1_needOf h i0 x2 (f_X1_limitingPart h i0 x1 x2 t3 i3 n3 x4)).toInt64 = 0) ∧ True))))))) ∧ ((¬ x5 ≤ x4) → (p_X1_oneMoreGains h i0 x1 x2 t3 i3 n3 (x4 + ((x5 - x4) / 2)) ∧ ((((f_X1_oneMoreGains h i0 x1 x2 t3 i3 n3 (x4 + ((x5 - x4) / 2))) = 0) → (pw_X1_mostTogether_14 n h i0 x1 x2 t3 i3 n3 x4 (x4 + ((x5 - x4) / 2)) (x6 + 1))) ∧ ((¬ (f_X1_oneMoreGains h i0 x1 x2 t3 i3 n3 (x4 + ((x5 - x4) / 2))) = 0) → (pw_X1_mostTogether_14 n h i0 x1 x2 t3 i3 n3 ((x4 + ((x5 - x4) / 2)) + 1) x5 (x6 + 1))))))))
def fw_X1_mostTogether_14 : Nat → Hp → Nat → Int32 → Int32 → Nat → Nat → Nat → Int32 → Int32 → Int32 → Int32
  | 0, _, _, _, _, _, _, _, _, _, _ => 0
  | n + 1, h, i0, x1, x2, t3, i3, n3, x4, x5, x6 => if 32 ≤ x6 then (if (f_X1_needOf h i0 x2 (f_X1_limitingPart h i0 x1 x2 t3 i3 n3 x4)) ≤ 0 then x4 else (x4 + (((f_X1_leftAfter h i0 x1 t3 i3 n3 (f_X1_limitingPart h i0 x1 x2 t3 i3 n3 x4) x4) / (f_X1_needOf h i0 x2 (f_X1_limitingPart h i0 x1 x2 t3 i3 n3 x4)).toInt64).toInt32))) else (if x5 ≤ x4 then (if (f_X1_needOf h i0 x2 (f_X1_limitingPart h i0 x1 x2 t3 i3 n3 x4)) ≤ 0 then x4 else (x4 + (((f_X1_leftAfter h i0 x1 t3 i3 n3 (f_X1_limitingPart h i0 x1 x2 t3 i3 n3 x4) x4) / (f_X1_needOf h i0 x2 (f_X1_limitingPart h i0 x1 x2 t3 i3 n3 x4)).toInt64).toInt32))) else (if (f_X1_oneMoreGains h i0 x1 x2 t3 i3 n3 (x4 + ((x5 - x4) / 2))) = 0 then (fw_X1_mostTogether_14 n h i0 x1 x2 t3 i3 n3 x4 (x4 + ((x5 - x4) / 2)) (x6 + 1)) else (fw_X1_mostTogether_14 n h i0 x1 x2 t3 i3 n3 ((x4 + ((x5 - x4) / 2)) + 1) x5 (x6 + 1))))
set_option maxHeartbeats 4000000 in
theorem lw_X1_mostTogether_14 {X : WD → State → Prop} {d rb : Nat} {Qr : Option AV → Hp → Prop} {Qx : String → Hp → Prop} {t3 i3 n3 : Nat} {f3 : List (Nat × Nat)} (ht3 : t3 < oa_nT) (hk3 : oa_kd t3 = (1, n3, f3)) : ∀ (n : Nat) (h : Hp) (i0 : Nat) (x1 : Int32) (x2 : Int32) (x4 : Int32) (x5 : Int32) (x6 : Int32), pw_X1_mostTogether_14 n h i0 x1 x2 t3 i3 n3 x4 x5 x6 → Qr (some (vI (fw_X1_mostTogether_14 n h i0 x1 x2 t3 i3 n3 x4 x5 x6))) h → AW X (d + 5) rb mX1_mostTogether 14 [(0, vR 1 i0), (1, vI x1), (2, vI x2), (3, vR t3 i3), (4, vI x4), (5, vI x5), (6, vI x6)] [] h Qr Qx := by
  intro n
  induction n with
  | zero => intro h i0 x1 x2 x4 x5 x6 hp; exact hp.elim
  | succ n ih =>
    intro h i0 x1 x2 x4 x5 x6 hp k
    rw [pw_X1_mostTogether_14] at hp
    rw [fw_X1_mostTogether_14] at k
    refine vc_X1_mostTogether_14 (d := d + 4) ht3 hk3 ?_
    refine ⟨fun c => ?_, fun c => ?_⟩
    · replace hp := hp.1 c
      try simp only [if_pos c] at k
      refine c_X1_limitingPart ht3 hk3 hp.1 ?_
      replace hp := hp.2
      refine c_X1_needOf  hp.1 ?_
      replace hp := hp.2
      refine ⟨fun c => ?_, fun c => ?_⟩
      · replace hp := hp.1 c
        try simp only [if_pos c] at k
        exact k
      · replace hp := hp.2 c
        try simp only [if_neg c] at k
        refine c_X1_leftAfter ht3 hk3 hp.1 ?_
        replace hp := hp.2
        refine ⟨hp.1, ?_⟩
        replace hp := hp.2
        exact k
    · replace hp := hp.2 c
      try simp only [if_neg c] at k
      refine ⟨fun c => ?_, fun c => ?_⟩
      · replace hp := hp.1 c
        try simp only [if_pos c] at k
        refine c_X1_limitingPart ht3 hk3 hp.1 ?_
        replace hp := hp.2
        refine c_X1_needOf  hp.1 ?_
        replace hp := hp.2
        refine ⟨fun c => ?_, fun c => ?_⟩
        · replace hp := hp.1 c
          try simp only [if_pos c] at k
          exact k
        · replace hp := hp.2 c
          try simp only [if_neg c] at k
          refine c_X1_leftAfter ht3 hk3 hp.1 ?_
          replace hp := hp.2
          refine ⟨hp.1, ?_⟩
          replace hp := hp.2
          exact k
      · replace hp := hp.2 c
        try simp only [if_neg c] at k
        refine c_X1_oneMoreGains ht3 hk3 hp.1 ?_
        replace hp := hp.2
        refine ⟨fun c => ?_, fun c => ?_⟩
        · replace hp := hp.1 c
          try simp only [if_pos c] at k
          exact ih _ _ _ _ _ _ _ hp k
        · replace hp := hp.2 c
          try simp only [if_neg c] at k
          exact ih _ _ _ _ _ _ _ hp k
def p_X1_mostTogether (h : Hp) (i0 : Nat) (a1 : Int32) (a2 : Int32) (t3 : Nat) (i3 : Nat) (n3 : Nat) : Prop := p_X1_mostUnits h i0 a1 t3 i3 n3 ∧ (pw_X1_mostTogether_14 oa_N h i0 a1 a2 t3 i3 n3 0 (f_X1_mostUnits h i0 a1 t3 i3 n3) 0)
def f_X1_mostTogether (h : Hp) (i0 : Nat) (a1 : Int32) (a2 : Int32) (t3 : Nat) (i3 : Nat) (n3 : Nat) : Int32 := fw_X1_mostTogether_14 oa_N h i0 a1 a2 t3 i3 n3 0 (f_X1_mostUnits h i0 a1 t3 i3 n3) 0
set_option maxHeartbeats 4000000 in
theorem c_X1_mostTogether {d : Nat} {h : Hp} {P : Int32 → Hp → Prop} {Qx : String → Hp → Prop} {i0 : Nat} {a1 : Int32} {a2 : Int32} {t3 i3 n3 : Nat} {f3 : List (Nat × Nat)} (ht3 : t3 < oa_nT) (hk3 : oa_kd t3 = (1, n3, f3)) (hp : p_X1_mostTogether h i0 a1 a2 t3 i3 n3) (k : P (f_X1_mostTogether h i0 a1 a2 t3 i3 n3) h) : CL 0 (d + 5) mX1_mostTogether [vR 1 i0, vI a1, vI a2, vR t3 i3] h (oI P) Qx := by
  replace k : oI P (some (vI (f_X1_mostTogether h i0 a1 a2 t3 i3 n3))) h := k
  unfold p_X1_mostTogether at hp
  unfold f_X1_mostTogether at k
  refine CL.ofF (plainFor_of_name rfl) rfl (Nat.le_of_ble_eq_true rfl) (vc_X1_mostTogether_0 (d := d + 4) ht3 hk3 ?_)
  refine c_X1_mostUnits ht3 hk3 hp.1 ?_
  replace hp := hp.2
  exact lw_X1_mostTogether_14 ht3 hk3 _ _ _ _ _ _ _ _ hp k
def pw_X7_readProduct_44 : Nat → Hp → Int32 → Int32 → Prop
  | 0, _, _, _ => False
  | n + 1, h, x1, x2 => ((6 < x2) → (((¬ x1 = 0) → (p_X1_endProduct h (h.2.2 7 0 3) ∧ (p_X7_readSemicolon (g_X1_endProduct h (h.2.2 7 0 3)) ∧ (((f_X7_readSemicolon (g_X1_endProduct h (h.2.2 7 0 3))) = 0 ∨ (f_X7_readSemicolon (g_X1_endProduct h (h.2.2 7 0 3))) = 1) ∧ True)))) ∧ ((x1 = 0) → True))) ∧ ((¬ 6 < x2) → (((x1 = 0) → (((¬ x1 = 0) → (p_X1_endProduct h (h.2.2 7 0 3) ∧ (p_X7_readSemicolon (g_X1_endProduct h (h.2.2 7 0 3)) ∧ (((f_X7_readSemicolon (g_X1_endProduct h (h.2.2 7 0 3))) = 0 ∨ (f_X7_readSemicolon (g_X1_endProduct h (h.2.2 7 0 3))) = 1) ∧ True)))) ∧ ((x1 = 0) → True))) ∧ ((¬ x1 = 0) → (((¬ (h.1 9 0 0) = 2) → (((¬ x1 = 0) → (p_X1_endProduct h (h.2.2 7 0 3) ∧ (p_X7_readSemicolon (g_X1_endProduct h (h.2.2 7 0 3)) ∧ (((f_X7_readSemicolon (g_X1_endProduct h (h.2.2 7 0 3))) = 0 ∨ (f_X7_readSemicolon (g_X1_endProduct h (h.2.2 7 0 3))) = 1) ∧ True)))) ∧ ((x1 = 0) → True))) ∧ (((h.1 9 0 0) = 2) → (p_X7_readBillLine h ∧ (pw_X7_readProduct_44 n (g_X7_readBillLine h) (f_X7_readBillLine h) (x2 + 1))))))))
def fw_X7_readProduct_44 : Nat → Hp → Int32 → Int32 → Int32
  | 0, _, _, _ => 0
  | n + 1, h, x1, x2 => if 6 < x2 then (if ¬ x1 = 0 then (f_X7_readSemicolon (g_X1_endProduct h (h.2.2 7 0 3))) else 0) else (if x1 = 0 then (if ¬ x1 = 0 then (f_X7_readSemicolon (g_X1_endProduct h (h.2.2 7 0 3))) else 0) else (if ¬ (h.1 9 0 0) = 2 then (if ¬ x1 = 0 then (f_X7_readSemicolon (g_X1_endProduct h (h.2.2 7 0 3))) else 0) else (fw_X7_readProduct_44 n (g_X7_readBillLine h) (f_X7_readBillLine h) (x2 + 1))))
def gw_X7_readProduct_44 : Nat → Hp → Int32 → Int32 → Hp
  | 0, h, _, _ => h
  | n + 1, h, x1, x2 => if 6 < x2 then (if ¬ x1 = 0 then (g_X7_readSemicolon (g_X1_endProduct h (h.2.2 7 0 3))) else h) else (if x1 = 0 then (if ¬ x1 = 0 then (g_X7_readSemicolon (g_X1_endProduct h (h.2.2 7 0 3))) else h) else (if ¬ (h.1 9 0 0) = 2 then (if ¬ x1 = 0 then (g_X7_readSemicolon (g_X1_endProduct h (h.2.2 7 0 3))) else h) else (gw_X7_readProduct_44 n (g_X7_readBillLine h) (f_X7_readBillLine h) (x2 + 1))))
set_option maxHeartbeats 4000000 in
theorem lw_X7_readProduct_44 {X : WD → State → Prop} {d rb : Nat} {Qr : Option AV → Hp → Prop} {Qx : String → Hp → Prop}   : ∀ (n : Nat) (h : Hp) (x1 : Int32) (x2 : Int32), pw_X7_readProduct_44 n h x1 x2 → Qr (some (vI (fw_X7_readProduct_44 n h x1 x2))) (gw_X7_readProduct_44 n h x1 x2) → AW X (d + 5) rb mX7_readProduct 44 [(0, vR 7 0), (1, vI x1), (2, vI x2)] [] h Qr Qx := by
  intro n
  induction n with
  | zero => intro h x1 x2 hp; exact hp.elim
  | succ n ih =>
    intro h x1 x2 hp k
    rw [pw_X7_readProduct_44] at hp
    rw [fw_X7_readProduct_44] at k
    rw [gw_X7_readProduct_44] at k
    refine vc_X7_readProduct_44 (d := d + 4)  ?_
    refine ⟨fun c => ?_, fun c => ?_⟩
    · replace hp := hp.1 c
      try simp only [if_pos c] at k
      refine ⟨fun c => ?_, fun c => ?_⟩
      · replace hp := hp.1 c
        try simp only [if_pos c] at k
        refine c_X1_endProduct  hp.1 ?_
        replace hp := hp.2
        refine c_X7_readSemicolon  hp.1 ?_
        replace hp := hp.2
        refine ⟨hp.1, ?_⟩
        replace hp := hp.2
        exact k
      · replace hp := hp.2 c
        try simp only [if_neg (oa_nn c)] at k
        exact k
    · replace hp := hp.2 c
      try simp only [if_neg c] at k
      refine ⟨fun c => ?_, fun c => ?_⟩
      · replace hp := hp.1 c
        try simp only [if_pos c] at k
        refine ⟨fun c => ?_, fun c => ?_⟩
        · replace hp := hp.1 c
          try simp only [if_pos c] at k
          refine c_X1_endProduct  hp.1 ?_
          replace hp := hp.2
          refine c_X7_readSemicolon  hp.1 ?_
          replace hp := hp.2
          refine ⟨hp.1, ?_⟩
          replace hp := hp.2
          exact k
        · replace hp := hp.2 c
          try simp only [if_neg (oa_nn c)] at k
          exact k
      · replace hp := hp.2 c
        try simp only [if_neg c] at k
        refine ⟨fun c => ?_, fun c => ?_⟩
        · replace hp := hp.1 c
          try simp only [if_pos c] at k
          refine ⟨fun c => ?_, fun c => ?_⟩
          · replace hp := hp.1 c
            try simp only [if_pos c] at k
            refine c_X1_endProduct  hp.1 ?_
            replace hp := hp.2
            refine c_X7_readSemicolon  hp.1 ?_
            replace hp := hp.2
            refine ⟨hp.1, ?_⟩
            replace hp := hp.2
            exact k
          · replace hp := hp.2 c
            try simp only [if_neg (oa_nn c)] at k
            exact k
        · replace hp := hp.2 c
          try simp only [if_neg (oa_nn c)] at k
          refine c_X7_readBillLine  hp.1 ?_
          replace hp := hp.2
          exact ih _ _ _ hp k
def p_X7_readProduct (h : Hp)  : Prop := p_X9_step h ∧ (p_X7_isNewName (g_X9_step h) ∧ (((¬ (f_X7_isNewName (g_X9_step h)) = 0) → (p_X9_name (g_X7_isNewName (g_X9_step h)) ∧ (p_X1_beginProduct (g_X7_isNewName (g_X9_step h)) ((g_X7_isNewName (g_X9_step h)).2.2 7 0 3) (f_X9_name (g_X7_isNewName (g_X9_step h))) ∧ (p_X9_step (g_X1_beginProduct (g_X7_isNewName (g_X9_step h)) ((g_X7_isNewName (g_X9_step h)).2.2 7 0 3) (f_X9_name (g_X7_isNewName (g_X9_step h)))) ∧ (p_X7_readBillLine (g_X9_step (g_X1_beginProduct (g_X7_isNewName (g_X9_step h)) ((g_X7_isNewName (g_X9_step h)).2.2 7 0 3) (f_X9_name (g_X7_isNewName (g_X9_step h))))) ∧ (pw_X7_readProduct_44 oa_N (g_X7_readBillLine (g_X9_step (g_X1_beginProduct (g_X7_isNewName (g_X9_step h)) ((g_X7_isNewName (g_X9_step h)).2.2 7 0 3) (f_X9_name (g_X7_isNewName (g_X9_step h)))))) (f_X7_readBillLine (g_X9_step (g_X1_beginProduct (g_X7_isNewName (g_X9_step h)) ((g_X7_isNewName (g_X9_step h)).2.2 7 0 3) (f_X9_name (g_X7_isNewName (g_X9_step h)))))) 1)))))) ∧ (((f_X7_isNewName (g_X9_step h)) = 0) → True)))
def f_X7_readProduct (h : Hp)  : Int32 := if ¬ (f_X7_isNewName (g_X9_step h)) = 0 then (fw_X7_readProduct_44 oa_N (g_X7_readBillLine (g_X9_step (g_X1_beginProduct (g_X7_isNewName (g_X9_step h)) ((g_X7_isNewName (g_X9_step h)).2.2 7 0 3) (f_X9_name (g_X7_isNewName (g_X9_step h)))))) (f_X7_readBillLine (g_X9_step (g_X1_beginProduct (g_X7_isNewName (g_X9_step h)) ((g_X7_isNewName (g_X9_step h)).2.2 7 0 3) (f_X9_name (g_X7_isNewName (g_X9_step h)))))) 1) else 0
def g_X7_readProduct (h : Hp)  : Hp := if ¬ (f_X7_isNewName (g_X9_step h)) = 0 then (gw_X7_readProduct_44 oa_N (g_X7_readBillLine (g_X9_step (g_X1_beginProduct (g_X7_isNewName (g_X9_step h)) ((g_X7_isNewName (g_X9_step h)).2.2 7 0 3) (f_X9_name (g_X7_isNewName (g_X9_step h)))))) (f_X7_readBillLine (g_X9_step (g_X1_beginProduct (g_X7_isNewName (g_X9_step h)) ((g_X7_isNewName (g_X9_step h)).2.2 7 0 3) (f_X9_name (g_X7_isNewName (g_X9_step h)))))) 1) else (g_X7_isNewName (g_X9_step h))
set_option maxHeartbeats 4000000 in
theorem c_X7_readProduct {d : Nat} {h : Hp} {P : Int32 → Hp → Prop} {Qx : String → Hp → Prop}   (hp : p_X7_readProduct h ) (k : P (f_X7_readProduct h ) (g_X7_readProduct h )) : CL 0 (d + 5) mX7_readProduct [vR 7 0] h (oI P) Qx := by
  replace k : oI P (some (vI (f_X7_readProduct h ))) (g_X7_readProduct h ) := k
  unfold p_X7_readProduct at hp
  unfold f_X7_readProduct at k
  unfold g_X7_readProduct at k
  refine CL.ofF (plainFor_of_name rfl) rfl (Nat.le_of_ble_eq_true rfl) (vc_X7_readProduct_0 (d := d + 4)  ?_)
  refine c_X9_step  hp.1 ?_
  replace hp := hp.2
  refine c_X7_isNewName  hp.1 ?_
  replace hp := hp.2
  refine ⟨fun c => ?_, fun c => ?_⟩
  · replace hp := hp.1 c
    try simp only [if_pos c] at k
    refine c_X9_name  hp.1 ?_
    replace hp := hp.2
    refine c_X1_beginProduct  hp.1 ?_
    replace hp := hp.2
    refine c_X9_step  hp.1 ?_
    replace hp := hp.2
    refine c_X7_readBillLine  hp.1 ?_
    replace hp := hp.2
    exact lw_X7_readProduct_44  _ _ _ _ hp k
  · replace hp := hp.2 c
    try simp only [if_neg (oa_nn c)] at k
    exact k
def p_X11_buildableTogether (h : Hp) (a1 : Int32) (a2 : Int32) : Prop := p_X11_checkProduct h a1 ∧ (x_X11_checkProduct h a1 = 0 → (p_X11_checkProduct h a2 ∧ (x_X11_checkProduct h a2 = 0 → (p_X11_checkArgument h (if a1 = a2 then (0 : Int32) else 1) ∧ (x_X11_checkArgument h (if a1 = a2 then (0 : Int32) else 1) = 0 → (p_X10_fillFree h (h.2.2 11 0 7) 53 0 12 ∧ (p_X1_mostTogether (g_X10_fillFree h (h.2.2 11 0 7) 53 0 12) ((g_X10_fillFree h (h.2.2 11 0 7) 53 0 12).2.2 11 0 6) a1 a2 53 0 12 ∧ True)))))))
def f_X11_buildableTogether (h : Hp) (a1 : Int32) (a2 : Int32) : Int32 := if x_X11_checkProduct h a1 = 0 then (if x_X11_checkProduct h a2 = 0 then (if x_X11_checkArgument h (if a1 = a2 then (0 : Int32) else 1) = 0 then (f_X1_mostTogether (g_X10_fillFree h (h.2.2 11 0 7) 53 0 12) ((g_X10_fillFree h (h.2.2 11 0 7) 53 0 12).2.2 11 0 6) a1 a2 53 0 12) else 0) else 0) else 0
def g_X11_buildableTogether (h : Hp) (a1 : Int32) (a2 : Int32) : Hp := if x_X11_checkProduct h a1 = 0 then (if x_X11_checkProduct h a2 = 0 then (if x_X11_checkArgument h (if a1 = a2 then (0 : Int32) else 1) = 0 then (g_X10_fillFree h (h.2.2 11 0 7) 53 0 12) else h) else h) else h
def x_X11_buildableTogether (h : Hp) (a1 : Int32) (a2 : Int32) : Nat := if x_X11_checkProduct h a1 = 0 then (if x_X11_checkProduct h a2 = 0 then (if x_X11_checkArgument h (if a1 = a2 then (0 : Int32) else 1) = 0 then 0 else x_X11_checkArgument h (if a1 = a2 then (0 : Int32) else 1)) else x_X11_checkProduct h a2) else x_X11_checkProduct h a1
set_option maxHeartbeats 4000000 in
theorem c_X11_buildableTogether {d : Nat} {h : Hp} {P : Int32 → Hp → Prop} {Qx : String → Hp → Prop} {a1 : Int32} {a2 : Int32}  (hp : p_X11_buildableTogether h a1 a2) (hx : x_X11_buildableTogether h a1 a2 = 0) (k : P (f_X11_buildableTogether h a1 a2) (g_X11_buildableTogether h a1 a2)) : CL 0 (d + 7) mX11_buildableTogether [vR 11 0, vI a1, vI a2] h (oI P) Qx := by
  replace k : oI P (some (vI (f_X11_buildableTogether h a1 a2))) (g_X11_buildableTogether h a1 a2) := k
  unfold p_X11_buildableTogether at hp
  unfold f_X11_buildableTogether at k
  unfold g_X11_buildableTogether at k
  unfold x_X11_buildableTogether at hx
  refine CL.ofF (plainFor_of_name rfl) rfl (Nat.le_of_ble_eq_true rfl) (vc_X11_buildableTogether_0 (d := d + 6)  ?_)
  by_cases hc : x_X11_checkProduct h a1 = 0
  · refine Or.inl (c_X11_checkProduct  hp.1 hc ?_)
    replace hp := hp.2 hc
    try simp only [if_pos hc] at k
    try simp only [if_pos hc] at hx
    by_cases hc : x_X11_checkProduct h a2 = 0
    · refine Or.inl (c_X11_checkProduct  hp.1 hc ?_)
      replace hp := hp.2 hc
      try simp only [if_pos hc] at k
      try simp only [if_pos hc] at hx
      by_cases hc : x_X11_checkArgument h (if a1 = a2 then (0 : Int32) else 1) = 0
      · refine Or.inl (c_X11_checkArgument  hp.1 hc ?_)
        replace hp := hp.2 hc
        try simp only [if_pos hc] at k
        try simp only [if_pos hc] at hx
        refine c_X10_fillFree (by decide) rfl hp.1 ?_
        replace hp := hp.2
        refine c_X1_mostTogether (by decide) rfl hp.1 ?_
        replace hp := hp.2
        exact k
      · simp only [if_neg hc] at hx
        exact absurd hx hc
    · simp only [if_neg hc] at hx
      exact absurd hx hc
  · simp only [if_neg hc] at hx
    exact absurd hx hc
set_option maxHeartbeats 4000000 in
theorem t_X11_buildableTogether {d : Nat} {h : Hp} {Qx : String → Hp → Prop} {a1 : Int32} {a2 : Int32}  (hp : p_X11_buildableTogether h a1 a2) (hx : ¬ x_X11_buildableTogether h a1 a2 = 0) (k : Qx (oa_ex (x_X11_buildableTogether h a1 a2)) (g_X11_buildableTogether h a1 a2)) : CL 1 (d + 7) mX11_buildableTogether [vR 11 0, vI a1, vI a2] h (fun _ _ => False) Qx := by
  unfold p_X11_buildableTogether at hp
  unfold g_X11_buildableTogether at k
  unfold x_X11_buildableTogether at hx
  unfold x_X11_buildableTogether at k
  refine CL.ofF (plainFor_of_name rfl) rfl (Nat.le_of_ble_eq_true rfl) (vc_X11_buildableTogether_0 (d := d + 6)  ?_)
  by_cases hc : x_X11_checkProduct h a1 = 0
  · refine Or.inl (c_X11_checkProduct  hp.1 hc ?_)
    replace hp := hp.2 hc
    try simp only [if_pos hc] at k
    try simp only [if_pos hc] at hx
    by_cases hc : x_X11_checkProduct h a2 = 0
    · refine Or.inl (c_X11_checkProduct  hp.1 hc ?_)
      replace hp := hp.2 hc
      try simp only [if_pos hc] at k
      try simp only [if_pos hc] at hx
      by_cases hc : x_X11_checkArgument h (if a1 = a2 then (0 : Int32) else 1) = 0
      · refine Or.inl (c_X11_checkArgument  hp.1 hc ?_)
        replace hp := hp.2 hc
        try simp only [if_pos hc] at k
        try simp only [if_pos hc] at hx
        refine c_X10_fillFree (by decide) rfl hp.1 ?_
        replace hp := hp.2
        refine c_X1_mostTogether (by decide) rfl hp.1 ?_
        replace hp := hp.2
        exact (hx (by first | rfl | trivial)).elim
      · try simp only [if_neg hc] at k
        exact Or.inr (t_X11_checkArgument  hp.1 hc k)
    · try simp only [if_neg hc] at k
      exact Or.inr (t_X11_checkProduct  hp.1 hc k)
  · try simp only [if_neg hc] at k
    exact Or.inr (t_X11_checkProduct  hp.1 hc k)
def p_X11_wouldGet (h : Hp) (a1 : Int32) : Prop := p_X11_checkOrder h a1 ∧ (x_X11_checkOrder h a1 = 0 → (p_X0_tryOut h (h.2.2 11 0 6) (h.2.2 11 0 7) ∧ (p_X0_grantOf (g_X0_tryOut h (h.2.2 11 0 6) (h.2.2 11 0 7)) a1 ∧ True)))
def f_X11_wouldGet (h : Hp) (a1 : Int32) : Int32 := if x_X11_checkOrder h a1 = 0 then (f_X0_grantOf (g_X0_tryOut h (h.2.2 11 0 6) (h.2.2 11 0 7)) a1) else 0
def g_X11_wouldGet (h : Hp) (a1 : Int32) : Hp := if x_X11_checkOrder h a1 = 0 then (g_X0_tryOut h (h.2.2 11 0 6) (h.2.2 11 0 7)) else h
def x_X11_wouldGet (h : Hp) (a1 : Int32) : Nat := if x_X11_checkOrder h a1 = 0 then 0 else x_X11_checkOrder h a1
set_option maxHeartbeats 4000000 in
theorem c_X11_wouldGet {d : Nat} {h : Hp} {P : Int32 → Hp → Prop} {Qx : String → Hp → Prop} {a1 : Int32}  (hp : p_X11_wouldGet h a1) (hx : x_X11_wouldGet h a1 = 0) (k : P (f_X11_wouldGet h a1) (g_X11_wouldGet h a1)) : CL 0 (d + 7) mX11_wouldGet [vR 11 0, vI a1] h (oI P) Qx := by
  replace k : oI P (some (vI (f_X11_wouldGet h a1))) (g_X11_wouldGet h a1) := k
  unfold p_X11_wouldGet at hp
  unfold f_X11_wouldGet at k
  unfold g_X11_wouldGet at k
  unfold x_X11_wouldGet at hx
  refine CL.ofF (plainFor_of_name rfl) rfl (Nat.le_of_ble_eq_true rfl) (vc_X11_wouldGet_0 (d := d + 6)  ?_)
  by_cases hc : x_X11_checkOrder h a1 = 0
  · refine Or.inl (c_X11_checkOrder  hp.1 hc ?_)
    replace hp := hp.2 hc
    try simp only [if_pos hc] at k
    try simp only [if_pos hc] at hx
    refine c_X0_tryOut  hp.1 ?_
    replace hp := hp.2
    refine c_X0_grantOf  hp.1 ?_
    replace hp := hp.2
    exact k
  · simp only [if_neg hc] at hx
    exact absurd hx hc
set_option maxHeartbeats 4000000 in
theorem t_X11_wouldGet {d : Nat} {h : Hp} {Qx : String → Hp → Prop} {a1 : Int32}  (hp : p_X11_wouldGet h a1) (hx : ¬ x_X11_wouldGet h a1 = 0) (k : Qx (oa_ex (x_X11_wouldGet h a1)) (g_X11_wouldGet h a1)) : CL 1 (d + 7) mX11_wouldGet [vR 11 0, vI a1] h (fun _ _ => False) Qx := by
  unfold p_X11_wouldGet at hp
  unfold g_X11_wouldGet at k
  unfold x_X11_wouldGet at hx
  unfold x_X11_wouldGet at k
  refine CL.ofF (plainFor_of_name rfl) rfl (Nat.le_of_ble_eq_true rfl) (vc_X11_wouldGet_0 (d := d + 6)  ?_)
  by_cases hc : x_X11_checkOrder h a1 = 0
  · refine Or.inl (c_X11_checkOrder  hp.1 hc ?_)
    replace hp := hp.2 hc
    try simp only [if_pos hc] at k
    try simp only [if_pos hc] at hx
    refine c_X0_tryOut  hp.1 ?_
    replace hp := hp.2
    refine c_X0_grantOf  hp.1 ?_
    replace hp := hp.2
    exact (hx (by first | rfl | trivial)).elim
  · try simp only [if_neg hc] at k
    exact Or.inr (t_X11_checkOrder  hp.1 hc k)
def p_X11_rungOf (h : Hp) (a1 : Int32) : Prop := p_X11_checkOrder h a1 ∧ (x_X11_checkOrder h a1 = 0 → (p_X0_tryOut h (h.2.2 11 0 6) (h.2.2 11 0 7) ∧ (p_X0_firstRungOf (g_X0_tryOut h (h.2.2 11 0 6) (h.2.2 11 0 7)) a1 ∧ True)))
def f_X11_rungOf (h : Hp) (a1 : Int32) : Int32 := if x_X11_checkOrder h a1 = 0 then (f_X0_firstRungOf (g_X0_tryOut h (h.2.2 11 0 6) (h.2.2 11 0 7)) a1) else 0
def g_X11_rungOf (h : Hp) (a1 : Int32) : Hp := if x_X11_checkOrder h a1 = 0 then (g_X0_tryOut h (h.2.2 11 0 6) (h.2.2 11 0 7)) else h
def x_X11_rungOf (h : Hp) (a1 : Int32) : Nat := if x_X11_checkOrder h a1 = 0 then 0 else x_X11_checkOrder h a1
set_option maxHeartbeats 4000000 in
theorem c_X11_rungOf {d : Nat} {h : Hp} {P : Int32 → Hp → Prop} {Qx : String → Hp → Prop} {a1 : Int32}  (hp : p_X11_rungOf h a1) (hx : x_X11_rungOf h a1 = 0) (k : P (f_X11_rungOf h a1) (g_X11_rungOf h a1)) : CL 0 (d + 7) mX11_rungOf [vR 11 0, vI a1] h (oI P) Qx := by
  replace k : oI P (some (vI (f_X11_rungOf h a1))) (g_X11_rungOf h a1) := k
  unfold p_X11_rungOf at hp
  unfold f_X11_rungOf at k
  unfold g_X11_rungOf at k
  unfold x_X11_rungOf at hx
  refine CL.ofF (plainFor_of_name rfl) rfl (Nat.le_of_ble_eq_true rfl) (vc_X11_rungOf_0 (d := d + 6)  ?_)
  by_cases hc : x_X11_checkOrder h a1 = 0
  · refine Or.inl (c_X11_checkOrder  hp.1 hc ?_)
    replace hp := hp.2 hc
    try simp only [if_pos hc] at k
    try simp only [if_pos hc] at hx
    refine c_X0_tryOut  hp.1 ?_
    replace hp := hp.2
    refine c_X0_firstRungOf  hp.1 ?_
    replace hp := hp.2
    exact k
  · simp only [if_neg hc] at hx
    exact absurd hx hc
set_option maxHeartbeats 4000000 in
theorem t_X11_rungOf {d : Nat} {h : Hp} {Qx : String → Hp → Prop} {a1 : Int32}  (hp : p_X11_rungOf h a1) (hx : ¬ x_X11_rungOf h a1 = 0) (k : Qx (oa_ex (x_X11_rungOf h a1)) (g_X11_rungOf h a1)) : CL 1 (d + 7) mX11_rungOf [vR 11 0, vI a1] h (fun _ _ => False) Qx := by
  unfold p_X11_rungOf at hp
  unfold g_X11_rungOf at k
  unfold x_X11_rungOf at hx
  unfold x_X11_rungOf at k
  refine CL.ofF (plainFor_of_name rfl) rfl (Nat.le_of_ble_eq_true rfl) (vc_X11_rungOf_0 (d := d + 6)  ?_)
  by_cases hc : x_X11_checkOrder h a1 = 0
  · refine Or.inl (c_X11_checkOrder  hp.1 hc ?_)
    replace hp := hp.2 hc
    try simp only [if_pos hc] at k
    try simp only [if_pos hc] at hx
    refine c_X0_tryOut  hp.1 ?_
    replace hp := hp.2
    refine c_X0_firstRungOf  hp.1 ?_
    replace hp := hp.2
    exact (hx (by first | rfl | trivial)).elim
  · try simp only [if_neg hc] at k
    exact Or.inr (t_X11_checkOrder  hp.1 hc k)
def p_X11_rungUnits (h : Hp) (a1 : Int32) : Prop := p_X11_checkRung h a1 ∧ (x_X11_checkRung h a1 = 0 → (p_X0_tryOut h (h.2.2 11 0 6) (h.2.2 11 0 7) ∧ (p_X0_unitsInRung (g_X0_tryOut h (h.2.2 11 0 6) (h.2.2 11 0 7)) a1 ∧ True)))
def f_X11_rungUnits (h : Hp) (a1 : Int32) : Int32 := if x_X11_checkRung h a1 = 0 then (f_X0_unitsInRung (g_X0_tryOut h (h.2.2 11 0 6) (h.2.2 11 0 7)) a1) else 0
def g_X11_rungUnits (h : Hp) (a1 : Int32) : Hp := if x_X11_checkRung h a1 = 0 then (g_X0_tryOut h (h.2.2 11 0 6) (h.2.2 11 0 7)) else h
def x_X11_rungUnits (h : Hp) (a1 : Int32) : Nat := if x_X11_checkRung h a1 = 0 then 0 else x_X11_checkRung h a1
set_option maxHeartbeats 4000000 in
theorem c_X11_rungUnits {d : Nat} {h : Hp} {P : Int32 → Hp → Prop} {Qx : String → Hp → Prop} {a1 : Int32}  (hp : p_X11_rungUnits h a1) (hx : x_X11_rungUnits h a1 = 0) (k : P (f_X11_rungUnits h a1) (g_X11_rungUnits h a1)) : CL 0 (d + 7) mX11_rungUnits [vR 11 0, vI a1] h (oI P) Qx := by
  replace k : oI P (some (vI (f_X11_rungUnits h a1))) (g_X11_rungUnits h a1) := k
  unfold p_X11_rungUnits at hp
  unfold f_X11_rungUnits at k
  unfold g_X11_rungUnits at k
  unfold x_X11_rungUnits at hx
  refine CL.ofF (plainFor_of_name rfl) rfl (Nat.le_of_ble_eq_true rfl) (vc_X11_rungUnits_0 (d := d + 6)  ?_)
  by_cases hc : x_X11_checkRung h a1 = 0
  · refine Or.inl (c_X11_checkRung  hp.1 hc ?_)
    replace hp := hp.2 hc
    try simp only [if_pos hc] at k
    try simp only [if_pos hc] at hx
    refine c_X0_tryOut  hp.1 ?_
    replace hp := hp.2
    refine c_X0_unitsInRung  hp.1 ?_
    replace hp := hp.2
    exact k
  · simp only [if_neg hc] at hx
    exact absurd hx hc
set_option maxHeartbeats 4000000 in
theorem t_X11_rungUnits {d : Nat} {h : Hp} {Qx : String → Hp → Prop} {a1 : Int32}  (hp : p_X11_rungUnits h a1) (hx : ¬ x_X11_rungUnits h a1 = 0) (k : Qx (oa_ex (x_X11_rungUnits h a1)) (g_X11_rungUnits h a1)) : CL 1 (d + 7) mX11_rungUnits [vR 11 0, vI a1] h (fun _ _ => False) Qx := by
  unfold p_X11_rungUnits at hp
  unfold g_X11_rungUnits at k
  unfold x_X11_rungUnits at hx
  unfold x_X11_rungUnits at k
  refine CL.ofF (plainFor_of_name rfl) rfl (Nat.le_of_ble_eq_true rfl) (vc_X11_rungUnits_0 (d := d + 6)  ?_)
  by_cases hc : x_X11_checkRung h a1 = 0
  · refine Or.inl (c_X11_checkRung  hp.1 hc ?_)
    replace hp := hp.2 hc
    try simp only [if_pos hc] at k
    try simp only [if_pos hc] at hx
    refine c_X0_tryOut  hp.1 ?_
    replace hp := hp.2
    refine c_X0_unitsInRung  hp.1 ?_
    replace hp := hp.2
    exact (hx (by first | rfl | trivial)).elim
  · try simp only [if_neg hc] at k
    exact Or.inr (t_X11_checkRung  hp.1 hc k)
def pw_X11_allocate_30 : Nat → Hp → Int32 → Int32 → Prop
  | 0, _, _, _ => False
  | n + 1, h, x1, x2 => (((h.1 6 (h.2.2 11 0 7) 0) ≤ x2) → True) ∧ ((¬ (h.1 6 (h.2.2 11 0 7) 0) ≤ x2) → (p_X0_grantOf h x2 ∧ (p_X5_changeReserved h (h.2.2 11 0 7) (h.2.2 11 0 6) x2 (f_X0_grantOf h x2) ∧ (pw_X11_allocate_30 n (g_X5_changeReserved h (h.2.2 11 0 7) (h.2.2 11 0 6) x2 (f_X0_grantOf h x2)) (x1 + (f_X0_grantOf h x2)) (x2 + 1)))))
def fw_X11_allocate_30 : Nat → Hp → Int32 → Int32 → Int32
  | 0, _, _, _ => 0
  | n + 1, h, x1, x2 => if (h.1 6 (h.2.2 11 0 7) 0) ≤ x2 then x1 else (fw_X11_allocate_30 n (g_X5_changeReserved h (h.2.2 11 0 7) (h.2.2 11 0 6) x2 (f_X0_grantOf h x2)) (x1 + (f_X0_grantOf h x2)) (x2 + 1))
def gw_X11_allocate_30 : Nat → Hp → Int32 → Int32 → Hp
  | 0, h, _, _ => h
  | n + 1, h, x1, x2 => if (h.1 6 (h.2.2 11 0 7) 0) ≤ x2 then h else (gw_X11_allocate_30 n (g_X5_changeReserved h (h.2.2 11 0 7) (h.2.2 11 0 6) x2 (f_X0_grantOf h x2)) (x1 + (f_X0_grantOf h x2)) (x2 + 1))
set_option maxHeartbeats 4000000 in
theorem lw_X11_allocate_30 {X : WD → State → Prop} {d rb : Nat} {Qr : Option AV → Hp → Prop} {Qx : String → Hp → Prop}   : ∀ (n : Nat) (h : Hp) (x1 : Int32) (x2 : Int32), pw_X11_allocate_30 n h x1 x2 → Qr (some (vI (fw_X11_allocate_30 n h x1 x2))) (gw_X11_allocate_30 n h x1 x2) → AW X (d + 7) rb mX11_allocate 30 [(0, vR 11 0), (1, vI x1), (2, vI x2)] [] h Qr Qx := by
  intro n
  induction n with
  | zero => intro h x1 x2 hp; exact hp.elim
  | succ n ih =>
    intro h x1 x2 hp k
    rw [pw_X11_allocate_30] at hp
    rw [fw_X11_allocate_30] at k
    rw [gw_X11_allocate_30] at k
    refine vc_X11_allocate_30 (d := d + 6)  ?_
    refine ⟨fun c => ?_, fun c => ?_⟩
    · replace hp := hp.1 c
      try simp only [if_pos c] at k
      exact k
    · replace hp := hp.2 c
      try simp only [if_neg c] at k
      refine c_X0_grantOf  hp.1 ?_
      replace hp := hp.2
      refine c_X5_changeReserved  hp.1 ?_
      replace hp := hp.2
      exact ih _ _ _ hp k
def p_X11_allocate (h : Hp)  : Prop := p_X3_record h (h.2.2 11 0 7) ∧ (p_X0_tryOut (g_X3_record h (h.2.2 11 0 7)) ((g_X3_record h (h.2.2 11 0 7)).2.2 11 0 6) ((g_X3_record h (h.2.2 11 0 7)).2.2 11 0 7) ∧ (pw_X11_allocate_30 oa_N (g_X0_tryOut (g_X3_record h (h.2.2 11 0 7)) ((g_X3_record h (h.2.2 11 0 7)).2.2 11 0 6) ((g_X3_record h (h.2.2 11 0 7)).2.2 11 0 7)) 0 0))
def f_X11_allocate (h : Hp)  : Int32 := fw_X11_allocate_30 oa_N (g_X0_tryOut (g_X3_record h (h.2.2 11 0 7)) ((g_X3_record h (h.2.2 11 0 7)).2.2 11 0 6) ((g_X3_record h (h.2.2 11 0 7)).2.2 11 0 7)) 0 0
def g_X11_allocate (h : Hp)  : Hp := gw_X11_allocate_30 oa_N (g_X0_tryOut (g_X3_record h (h.2.2 11 0 7)) ((g_X3_record h (h.2.2 11 0 7)).2.2 11 0 6) ((g_X3_record h (h.2.2 11 0 7)).2.2 11 0 7)) 0 0
set_option maxHeartbeats 4000000 in
theorem c_X11_allocate {d : Nat} {h : Hp} {P : Int32 → Hp → Prop} {Qx : String → Hp → Prop}   (hp : p_X11_allocate h ) (k : P (f_X11_allocate h ) (g_X11_allocate h )) : CL 0 (d + 7) mX11_allocate [vR 11 0] h (oI P) Qx := by
  replace k : oI P (some (vI (f_X11_allocate h ))) (g_X11_allocate h ) := k
  unfold p_X11_allocate at hp
  unfold f_X11_allocate at k
  unfold g_X11_allocate at k
  refine CL.ofF (plainFor_of_name rfl) rfl (Nat.le_of_ble_eq_true rfl) (vc_X11_allocate_0 (d := d + 6)  ?_)
  refine c_X3_record  hp.1 ?_
  replace hp := hp.2
  refine c_X0_tryOut  hp.1 ?_
  replace hp := hp.2
  exact lw_X11_allocate_30  _ _ _ _ hp k
def p_X7_readLine (h : Hp)  : Prop := p_X9_isWord h 0 ∧ ((((f_X9_isWord h 0) = 0) → (p_X9_isWord h 1 ∧ ((((f_X9_isWord h 1) = 0) → (p_X9_isWord h 2 ∧ ((((f_X9_isWord h 2) = 0) → (p_X9_isWord h 3 ∧ ((((f_X9_isWord h 3) = 0) → (p_X7_fail h 1 ∧ (((f_X7_fail h 1) = 0 ∨ (f_X7_fail h 1) = 1) ∧ True))) ∧ ((¬ (f_X9_isWord h 3) = 0) → (((20 ≤ (h.1 6 (h.2.2 7 0 4) 0)) → (p_X7_fail h 4 ∧ (((f_X7_fail h 4) = 0 ∨ (f_X7_fail h 4) = 1) ∧ True))) ∧ ((¬ 20 ≤ (h.1 6 (h.2.2 7 0 4) 0)) → (p_X7_readOrder h ∧ (((f_X7_readOrder h) = 0 ∨ (f_X7_readOrder h) = 1) ∧ True)))))))) ∧ ((¬ (f_X9_isWord h 2) = 0) → (((6 ≤ (h.1 1 (h.2.2 7 0 3) 2)) → (p_X7_fail h 4 ∧ (((f_X7_fail h 4) = 0 ∨ (f_X7_fail h 4) = 1) ∧ True))) ∧ ((¬ 6 ≤ (h.1 1 (h.2.2 7 0 3) 2)) → (p_X7_readRung h ∧ (((f_X7_readRung h) = 0 ∨ (f_X7_readRung h) = 1) ∧ True)))))))) ∧ ((¬ (f_X9_isWord h 1) = 0) → (((8 ≤ (h.1 1 (h.2.2 7 0 3) 1)) → (p_X7_fail h 4 ∧ (((f_X7_fail h 4) = 0 ∨ (f_X7_fail h 4) = 1) ∧ True))) ∧ ((¬ 8 ≤ (h.1 1 (h.2.2 7 0 3) 1)) → (p_X7_readProduct h ∧ (((f_X7_readProduct h) = 0 ∨ (f_X7_readProduct h) = 1) ∧ True)))))))) ∧ ((¬ (f_X9_isWord h 0) = 0) → (((12 ≤ (h.1 1 (h.2.2 7 0 3) 0)) → (p_X7_fail h 4 ∧ (((f_X7_fail h 4) = 0 ∨ (f_X7_fail h 4) = 1) ∧ True))) ∧ ((¬ 12 ≤ (h.1 1 (h.2.2 7 0 3) 0)) → (p_X7_readPart h ∧ (((f_X7_readPart h) = 0 ∨ (f_X7_readPart h) = 1) ∧ True))))))
def f_X7_readLine (h : Hp)  : Int32 := if (f_X9_isWord h 0) = 0 then (if (f_X9_isWord h 1) = 0 then (if (f_X9_isWord h 2) = 0 then (if (f_X9_isWord h 3) = 0 then (f_X7_fail h 1) else (if 20 ≤ (h.1 6 (h.2.2 7 0 4) 0) then (f_X7_fail h 4) else (f_X7_readOrder h))) else (if 6 ≤ (h.1 1 (h.2.2 7 0 3) 2) then (f_X7_fail h 4) else (f_X7_readRung h))) else (if 8 ≤ (h.1 1 (h.2.2 7 0 3) 1) then (f_X7_fail h 4) else (f_X7_readProduct h))) else (if 12 ≤ (h.1 1 (h.2.2 7 0 3) 0) then (f_X7_fail h 4) else (f_X7_readPart h))
def g_X7_readLine (h : Hp)  : Hp := if (f_X9_isWord h 0) = 0 then (if (f_X9_isWord h 1) = 0 then (if (f_X9_isWord h 2) = 0 then (if (f_X9_isWord h 3) = 0 then (g_X7_fail h 1) else (if 20 ≤ (h.1 6 (h.2.2 7 0 4) 0) then (g_X7_fail h 4) else (g_X7_readOrder h))) else (if 6 ≤ (h.1 1 (h.2.2 7 0 3) 2) then (g_X7_fail h 4) else (g_X7_readRung h))) else (if 8 ≤ (h.1 1 (h.2.2 7 0 3) 1) then (g_X7_fail h 4) else (g_X7_readProduct h))) else (if 12 ≤ (h.1 1 (h.2.2 7 0 3) 0) then (g_X7_fail h 4) else (g_X7_readPart h))
set_option maxHeartbeats 4000000 in
theorem c_X7_readLine {d : Nat} {h : Hp} {P : Int32 → Hp → Prop} {Qx : String → Hp → Prop}   (hp : p_X7_readLine h ) (k : P (f_X7_readLine h ) (g_X7_readLine h )) : CL 0 (d + 8) mX7_readLine [vR 7 0] h (oI P) Qx := by
  replace k : oI P (some (vI (f_X7_readLine h ))) (g_X7_readLine h ) := k
  unfold p_X7_readLine at hp
  unfold f_X7_readLine at k
  unfold g_X7_readLine at k
  refine CL.ofF (plainFor_of_name rfl) rfl (Nat.le_of_ble_eq_true rfl) (vc_X7_readLine_0 (d := d + 7)  ?_)
  refine c_X9_isWord (by decide) hp.1 ?_
  replace hp := hp.2
  refine ⟨fun c => ?_, fun c => ?_⟩
  · replace hp := hp.1 c
    try simp only [if_pos c] at k
    refine c_X9_isWord (by decide) hp.1 ?_
    replace hp := hp.2
    refine ⟨fun c => ?_, fun c => ?_⟩
    · replace hp := hp.1 c
      try simp only [if_pos c] at k
      refine c_X9_isWord (by decide) hp.1 ?_
      replace hp := hp.2
      refine ⟨fun c => ?_, fun c => ?_⟩
      · replace hp := hp.1 c
        try simp only [if_pos c] at k
        refine c_X9_isWord (by decide) hp.1 ?_
        replace hp := hp.2
        refine ⟨fun c => ?_, fun c => ?_⟩
        · replace hp := hp.1 c
          try simp only [if_pos c] at k
          refine c_X7_fail  hp.1 ?_
          replace hp := hp.2
          refine ⟨hp.1, ?_⟩
          replace hp := hp.2
          exact k
        · replace hp := hp.2 c
          try simp only [if_neg c] at k
          refine ⟨fun c => ?_, fun c => ?_⟩
          · replace hp := hp.1 c
            try simp only [if_pos c] at k
            refine c_X7_fail  hp.1 ?_
            replace hp := hp.2
            refine ⟨hp.1, ?_⟩
            replace hp := hp.2
            exact k
          · replace hp := hp.2 c
            try simp only [if_neg c] at k
            refine c_X7_readOrder  hp.1 ?_
            replace hp := hp.2
            refine ⟨hp.1, ?_⟩
            replace hp := hp.2
            exact k
      · replace hp := hp.2 c
        try simp only [if_neg c] at k
        refine ⟨fun c => ?_, fun c => ?_⟩
        · replace hp := hp.1 c
          try simp only [if_pos c] at k
          refine c_X7_fail  hp.1 ?_
          replace hp := hp.2
          refine ⟨hp.1, ?_⟩
          replace hp := hp.2
          exact k
        · replace hp := hp.2 c
          try simp only [if_neg c] at k
          refine c_X7_readRung  hp.1 ?_
          replace hp := hp.2
          refine ⟨hp.1, ?_⟩
          replace hp := hp.2
          exact k
    · replace hp := hp.2 c
      try simp only [if_neg c] at k
      refine ⟨fun c => ?_, fun c => ?_⟩
      · replace hp := hp.1 c
        try simp only [if_pos c] at k
        refine c_X7_fail  hp.1 ?_
        replace hp := hp.2
        refine ⟨hp.1, ?_⟩
        replace hp := hp.2
        exact k
      · replace hp := hp.2 c
        try simp only [if_neg c] at k
        refine c_X7_readProduct  hp.1 ?_
        replace hp := hp.2
        refine ⟨hp.1, ?_⟩
        replace hp := hp.2
        exact k
  · replace hp := hp.2 c
    try simp only [if_neg c] at k
    refine ⟨fun c => ?_, fun c => ?_⟩
    · replace hp := hp.1 c
      try simp only [if_pos c] at k
      refine c_X7_fail  hp.1 ?_
      replace hp := hp.2
      refine ⟨hp.1, ?_⟩
      replace hp := hp.2
      exact k
    · replace hp := hp.2 c
      try simp only [if_neg c] at k
      refine c_X7_readPart  hp.1 ?_
      replace hp := hp.2
      refine ⟨hp.1, ?_⟩
      replace hp := hp.2
      exact k
