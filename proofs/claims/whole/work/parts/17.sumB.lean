def pw_X12_scarcestPart_9 : Nat → Hp → Int32 → Int32 → Prop
  | 0, _, _, _ => False
  | n + 1, h, x1, x2 => (((h.1 56 0 0) ≤ x2) → True) ∧ ((¬ (h.1 56 0 0) ≤ x2) → (p_X12_buys h x2 ∧ (((¬ x1 = (-1)) → (p_X12_buys h x1 ∧ ((((f_X12_buys h x2) ≤ (f_X12_buys h x1)) → (pw_X12_scarcestPart_9 n h x1 (x2 + 1))) ∧ ((¬ (f_X12_buys h x2) ≤ (f_X12_buys h x1)) → (pw_X12_scarcestPart_9 n h x2 (x2 + 1)))))) ∧ ((x1 = (-1)) → ((((f_X12_buys h x2) ≤ 0) → (pw_X12_scarcestPart_9 n h x1 (x2 + 1))) ∧ ((¬ (f_X12_buys h x2) ≤ 0) → (pw_X12_scarcestPart_9 n h x2 (x2 + 1))))))))
def fw_X12_scarcestPart_9 : Nat → Hp → Int32 → Int32 → Int32
  | 0, _, _, _ => 0
  | n + 1, h, x1, x2 => if (h.1 56 0 0) ≤ x2 then x1 else (if ¬ x1 = (-1) then (if (f_X12_buys h x2) ≤ (f_X12_buys h x1) then (fw_X12_scarcestPart_9 n h x1 (x2 + 1)) else (fw_X12_scarcestPart_9 n h x2 (x2 + 1))) else (if (f_X12_buys h x2) ≤ 0 then (fw_X12_scarcestPart_9 n h x1 (x2 + 1)) else (fw_X12_scarcestPart_9 n h x2 (x2 + 1))))
def gw_X12_scarcestPart_9 : Nat → Hp → Int32 → Int32 → Hp
  | 0, h, _, _ => h
  | n + 1, h, x1, x2 => if (h.1 56 0 0) ≤ x2 then h else (if ¬ x1 = (-1) then (if (f_X12_buys h x2) ≤ (f_X12_buys h x1) then (gw_X12_scarcestPart_9 n h x1 (x2 + 1)) else (gw_X12_scarcestPart_9 n h x2 (x2 + 1))) else (if (f_X12_buys h x2) ≤ 0 then (gw_X12_scarcestPart_9 n h x1 (x2 + 1)) else (gw_X12_scarcestPart_9 n h x2 (x2 + 1))))
set_option maxHeartbeats 4000000 in
theorem lw_X12_scarcestPart_9 {X : WD → State → Prop} {d rb : Nat} {Qr : Option AV → Hp → Prop} {Qx : String → Hp → Prop}   : ∀ (n : Nat) (h : Hp) (x1 : Int32) (x2 : Int32), pw_X12_scarcestPart_9 n h x1 x2 → Qr (some (vI (fw_X12_scarcestPart_9 n h x1 x2))) (gw_X12_scarcestPart_9 n h x1 x2) → AW X (d + 4) rb mX12_scarcestPart 9 [(0, vR 12 0), (1, vI x1), (2, vI x2)] [] h Qr Qx := by
  intro n
  induction n with
  | zero => intro h x1 x2 hp; exact hp.elim
  | succ n ih =>
    intro h x1 x2 hp k
    rw [pw_X12_scarcestPart_9] at hp
    rw [fw_X12_scarcestPart_9] at k
    rw [gw_X12_scarcestPart_9] at k
    refine vc_X12_scarcestPart_9 (d := d + 3)  ?_
    refine ⟨fun c => ?_, fun c => ?_⟩
    · replace hp := hp.1 c
      try simp only [if_pos c] at k
      exact k
    · replace hp := hp.2 c
      try simp only [if_neg c] at k
      refine c_X12_buys  hp.1 ?_
      replace hp := hp.2
      refine ⟨fun c => ?_, fun c => ?_⟩
      · replace hp := hp.1 c
        try simp only [if_pos c] at k
        refine c_X12_buys  hp.1 ?_
        replace hp := hp.2
        refine ⟨fun c => ?_, fun c => ?_⟩
        · replace hp := hp.1 c
          try simp only [if_pos c] at k
          exact ih _ _ _ hp k
        · replace hp := hp.2 c
          try simp only [if_neg c] at k
          exact ih _ _ _ hp k
      · replace hp := hp.2 c
        try simp only [if_neg (oa_nn c)] at k
        refine ⟨fun c => ?_, fun c => ?_⟩
        · replace hp := hp.1 c
          try simp only [if_pos c] at k
          exact ih _ _ _ hp k
        · replace hp := hp.2 c
          try simp only [if_neg c] at k
          exact ih _ _ _ hp k
def p_X12_scarcestPart (h : Hp)  : Prop := pw_X12_scarcestPart_9 oa_N (hp_i h 12 0 0 0) (-1) 0
def f_X12_scarcestPart (h : Hp)  : Int32 := fw_X12_scarcestPart_9 oa_N (hp_i h 12 0 0 0) (-1) 0
def g_X12_scarcestPart (h : Hp)  : Hp := gw_X12_scarcestPart_9 oa_N (hp_i h 12 0 0 0) (-1) 0
set_option maxHeartbeats 4000000 in
theorem c_X12_scarcestPart {d : Nat} {h : Hp} {P : Int32 → Hp → Prop} {Qx : String → Hp → Prop}   (hp : p_X12_scarcestPart h ) (k : P (f_X12_scarcestPart h ) (g_X12_scarcestPart h )) : CL 0 (d + 4) mX12_scarcestPart [vR 12 0] h (oI P) Qx := by
  replace k : oI P (some (vI (f_X12_scarcestPart h ))) (g_X12_scarcestPart h ) := k
  unfold p_X12_scarcestPart at hp
  unfold f_X12_scarcestPart at k
  unfold g_X12_scarcestPart at k
  refine CL.ofF (plainFor_of_name rfl) rfl (Nat.le_of_ble_eq_true rfl) (vc_X12_scarcestPart_0 (d := d + 3)  ?_)
  exact lw_X12_scarcestPart_9  _ _ _ _ hp k
def pw_X12_dayOf_40 : Nat → Hp → Int32 → Int32 → Int32 → Int32 → Int32 → Prop
  | 0, _, _, _, _, _, _ => False
  | n + 1, h, x1, x2, x3, x4, x5 => (((h.1 58 0 2) ≤ x5) → True) ∧ ((¬ (h.1 58 0 2) ≤ x5) → ((vp_in ((33 + (3 * x5)) + 2) 301) ∧ ((vp_in (33 + (3 * x5)) 301) ∧ (((¬ (h.1 58 0 ((33 + (3 * x5)).toNatClampNeg)) = x1) → (pw_X12_dayOf_40 n h x1 x2 x3 x4 (x5 + 1))) ∧ (((h.1 58 0 ((33 + (3 * x5)).toNatClampNeg)) = x1) → (((x4 ≤ (h.1 58 0 (((33 + (3 * x5)) + 2).toNatClampNeg))) → (pw_X12_dayOf_40 n h x1 x2 x3 x4 (x5 + 1))) ∧ ((¬ x4 ≤ (h.1 58 0 (((33 + (3 * x5)) + 2).toNatClampNeg))) → (p_X12_free h x1 ∧ (p_X12_comesBy h x1 (h.1 58 0 (((33 + (3 * x5)) + 2).toNatClampNeg)) ∧ (((((f_X12_free h x1) + (f_X12_comesBy h x1 (h.1 58 0 (((33 + (3 * x5)) + 2).toNatClampNeg)))) < x2) → (pw_X12_dayOf_40 n h x1 x2 x3 x4 (x5 + 1))) ∧ ((¬ ((f_X12_free h x1) + (f_X12_comesBy h x1 (h.1 58 0 (((33 + (3 * x5)) + 2).toNatClampNeg)))) < x2) → (pw_X12_dayOf_40 n h x1 x2 x3 (h.1 58 0 (((33 + (3 * x5)) + 2).toNatClampNeg)) (x5 + 1)))))))))))))
def fw_X12_dayOf_40 : Nat → Hp → Int32 → Int32 → Int32 → Int32 → Int32 → Int32
  | 0, _, _, _, _, _, _ => 0
  | n + 1, h, x1, x2, x3, x4, x5 => if (h.1 58 0 2) ≤ x5 then x4 else (if ¬ (h.1 58 0 ((33 + (3 * x5)).toNatClampNeg)) = x1 then (fw_X12_dayOf_40 n h x1 x2 x3 x4 (x5 + 1)) else (if x4 ≤ (h.1 58 0 (((33 + (3 * x5)) + 2).toNatClampNeg)) then (fw_X12_dayOf_40 n h x1 x2 x3 x4 (x5 + 1)) else (if ((f_X12_free h x1) + (f_X12_comesBy h x1 (h.1 58 0 (((33 + (3 * x5)) + 2).toNatClampNeg)))) < x2 then (fw_X12_dayOf_40 n h x1 x2 x3 x4 (x5 + 1)) else (fw_X12_dayOf_40 n h x1 x2 x3 (h.1 58 0 (((33 + (3 * x5)) + 2).toNatClampNeg)) (x5 + 1)))))
set_option maxHeartbeats 4000000 in
theorem lw_X12_dayOf_40 {X : WD → State → Prop} {d rb : Nat} {Qr : Option AV → Hp → Prop} {Qx : String → Hp → Prop}   : ∀ (n : Nat) (h : Hp) (x1 : Int32) (x2 : Int32) (x3 : Int32) (x4 : Int32) (x5 : Int32), pw_X12_dayOf_40 n h x1 x2 x3 x4 x5 → Qr (some (vI (fw_X12_dayOf_40 n h x1 x2 x3 x4 x5))) h → AW X (d + 2) rb mX12_dayOf 40 [(0, vR 12 0), (1, vI x1), (2, vI x2), (3, vI x3), (4, vI x4), (5, vI x5)] [] h Qr Qx := by
  intro n
  induction n with
  | zero => intro h x1 x2 x3 x4 x5 hp; exact hp.elim
  | succ n ih =>
    intro h x1 x2 x3 x4 x5 hp k
    rw [pw_X12_dayOf_40] at hp
    rw [fw_X12_dayOf_40] at k
    refine vc_X12_dayOf_40 (d := d + 1)  ?_
    refine ⟨fun c => ?_, fun c => ?_⟩
    · replace hp := hp.1 c
      try simp only [if_pos c] at k
      exact k
    · replace hp := hp.2 c
      try simp only [if_neg c] at k
      refine ⟨hp.1, ?_⟩
      replace hp := hp.2
      refine ⟨hp.1, ?_⟩
      replace hp := hp.2
      refine ⟨fun c => ?_, fun c => ?_⟩
      · replace hp := hp.1 c
        try simp only [if_pos c] at k
        exact ih _ _ _ _ _ _ hp k
      · replace hp := hp.2 c
        try simp only [if_neg (oa_nn c)] at k
        refine ⟨fun c => ?_, fun c => ?_⟩
        · replace hp := hp.1 c
          try simp only [if_pos c] at k
          exact ih _ _ _ _ _ _ hp k
        · replace hp := hp.2 c
          try simp only [if_neg c] at k
          refine c_X12_free  hp.1 ?_
          replace hp := hp.2
          refine c_X12_comesBy  hp.1 ?_
          replace hp := hp.2
          refine ⟨fun c => ?_, fun c => ?_⟩
          · replace hp := hp.1 c
            try simp only [if_pos c] at k
            exact ih _ _ _ _ _ _ hp k
          · replace hp := hp.2 c
            try simp only [if_neg c] at k
            exact ih _ _ _ _ _ _ hp k
def p_X12_dayOf (h : Hp) (a1 : Int32) (a2 : Int32) : Prop := p_X12_free h a1 ∧ ((((f_X12_free h a1) < a2) → ((vp_in (176 + a1) 506) ∧ (pw_X12_dayOf_40 oa_N h a1 a2 ((h.1 58 0 0) + (h.1 56 0 ((176 + a1).toNatClampNeg))) ((h.1 58 0 0) + (h.1 56 0 ((176 + a1).toNatClampNeg))) 0))) ∧ ((¬ (f_X12_free h a1) < a2) → True))
def f_X12_dayOf (h : Hp) (a1 : Int32) (a2 : Int32) : Int32 := if (f_X12_free h a1) < a2 then (fw_X12_dayOf_40 oa_N h a1 a2 ((h.1 58 0 0) + (h.1 56 0 ((176 + a1).toNatClampNeg))) ((h.1 58 0 0) + (h.1 56 0 ((176 + a1).toNatClampNeg))) 0) else (h.1 58 0 0)
set_option maxHeartbeats 4000000 in
theorem c_X12_dayOf {d : Nat} {h : Hp} {P : Int32 → Hp → Prop} {Qx : String → Hp → Prop} {a1 : Int32} {a2 : Int32}  (hp : p_X12_dayOf h a1 a2) (k : P (f_X12_dayOf h a1 a2) h) : CL 0 (d + 2) mX12_dayOf [vR 12 0, vI a1, vI a2] h (oI P) Qx := by
  replace k : oI P (some (vI (f_X12_dayOf h a1 a2))) h := k
  unfold p_X12_dayOf at hp
  unfold f_X12_dayOf at k
  refine CL.ofF (plainFor_of_name rfl) rfl (Nat.le_of_ble_eq_true rfl) (vc_X12_dayOf_0 (d := d + 1)  ?_)
  refine c_X12_free  hp.1 ?_
  replace hp := hp.2
  refine ⟨fun c => ?_, fun c => ?_⟩
  · replace hp := hp.1 c
    try simp only [if_pos c] at k
    refine ⟨hp.1, ?_⟩
    replace hp := hp.2
    exact lw_X12_dayOf_40  _ _ _ _ _ _ _ hp k
  · replace hp := hp.2 c
    try simp only [if_neg c] at k
    exact k
def pw_X12_promises_10 : Nat → Hp → Int32 → Int32 → Int32 → Int32 → Prop
  | 0, _, _, _, _, _ => False
  | n + 1, h, x1, x2, x3, x4 => (((h.1 56 0 0) ≤ x4) → True) ∧ ((¬ (h.1 56 0 0) ≤ x4) → (p_X12_needs h x1 x4 ∧ ((((f_X12_needs h x1 x4) ≤ 0) → (pw_X12_promises_10 n h x1 x2 x3 (x4 + 1))) ∧ ((¬ (f_X12_needs h x1 x4) ≤ 0) → (p_X12_needs h x1 x4 ∧ (p_X12_dayOf h x4 (x2 * (f_X12_needs h x1 x4)) ∧ (pw_X12_promises_10 n h x1 x2 (if x3 < (f_X12_dayOf h x4 (x2 * (f_X12_needs h x1 x4))) then (f_X12_dayOf h x4 (x2 * (f_X12_needs h x1 x4))) else x3) (x4 + 1))))))))
def fw_X12_promises_10 : Nat → Hp → Int32 → Int32 → Int32 → Int32 → Int32
  | 0, _, _, _, _, _ => 0
  | n + 1, h, x1, x2, x3, x4 => if (h.1 56 0 0) ≤ x4 then x3 else (if (f_X12_needs h x1 x4) ≤ 0 then (fw_X12_promises_10 n h x1 x2 x3 (x4 + 1)) else (fw_X12_promises_10 n h x1 x2 (if x3 < (f_X12_dayOf h x4 (x2 * (f_X12_needs h x1 x4))) then (f_X12_dayOf h x4 (x2 * (f_X12_needs h x1 x4))) else x3) (x4 + 1)))
set_option maxHeartbeats 4000000 in
theorem lw_X12_promises_10 {X : WD → State → Prop} {d rb : Nat} {Qr : Option AV → Hp → Prop} {Qx : String → Hp → Prop}   : ∀ (n : Nat) (h : Hp) (x1 : Int32) (x2 : Int32) (x3 : Int32) (x4 : Int32), pw_X12_promises_10 n h x1 x2 x3 x4 → Qr (some (vI (fw_X12_promises_10 n h x1 x2 x3 x4))) h → AW X (d + 3) rb mX12_promises 10 [(0, vR 12 0), (1, vI x1), (2, vI x2), (3, vI x3), (4, vI x4)] [] h Qr Qx := by
  intro n
  induction n with
  | zero => intro h x1 x2 x3 x4 hp; exact hp.elim
  | succ n ih =>
    intro h x1 x2 x3 x4 hp k
    rw [pw_X12_promises_10] at hp
    rw [fw_X12_promises_10] at k
    refine vc_X12_promises_10 (d := d + 2)  ?_
    refine ⟨fun c => ?_, fun c => ?_⟩
    · replace hp := hp.1 c
      try simp only [if_pos c] at k
      exact k
    · replace hp := hp.2 c
      try simp only [if_neg c] at k
      refine c_X12_needs  hp.1 ?_
      replace hp := hp.2
      refine ⟨fun c => ?_, fun c => ?_⟩
      · replace hp := hp.1 c
        try simp only [if_pos c] at k
        exact ih _ _ _ _ _ hp k
      · replace hp := hp.2 c
        try simp only [if_neg c] at k
        refine c_X12_needs  hp.1 ?_
        replace hp := hp.2
        refine c_X12_dayOf  hp.1 ?_
        replace hp := hp.2
        exact ih _ _ _ _ _ hp k
def p_X12_promises (h : Hp) (a1 : Int32) (a2 : Int32) : Prop := pw_X12_promises_10 oa_N h a1 a2 (h.1 58 0 0) 0
def f_X12_promises (h : Hp) (a1 : Int32) (a2 : Int32) : Int32 := fw_X12_promises_10 oa_N h a1 a2 (h.1 58 0 0) 0
set_option maxHeartbeats 4000000 in
theorem c_X12_promises {d : Nat} {h : Hp} {P : Int32 → Hp → Prop} {Qx : String → Hp → Prop} {a1 : Int32} {a2 : Int32}  (hp : p_X12_promises h a1 a2) (k : P (f_X12_promises h a1 a2) h) : CL 0 (d + 3) mX12_promises [vR 12 0, vI a1, vI a2] h (oI P) Qx := by
  replace k : oI P (some (vI (f_X12_promises h a1 a2))) h := k
  unfold p_X12_promises at hp
  unfold f_X12_promises at k
  refine CL.ofF (plainFor_of_name rfl) rfl (Nat.le_of_ble_eq_true rfl) (vc_X12_promises_0 (d := d + 2)  ?_)
  exact lw_X12_promises_10  _ _ _ _ _ _ hp k
def p_X12_promise (h : Hp) (a1 : Int32) (a2 : Int32) : Prop := p_X12_noProduct (hp_i h 12 0 0 0) a1 ∧ (((¬ (f_X12_noProduct (hp_i h 12 0 0 0) a1) = 0) → True) ∧ (((f_X12_noProduct (hp_i h 12 0 0 0) a1) = 0) → (p_X12_in (g_X12_noProduct (hp_i h 12 0 0 0) a1) a2 1 999 ∧ (p_X12_throwsIf (g_X12_noProduct (hp_i h 12 0 0 0) a1) (if ¬ (f_X12_in (g_X12_noProduct (hp_i h 12 0 0 0) a1) a2 1 999) = 0 then (0 : Int32) else 1) 2 ∧ ((((f_X12_throwsIf (g_X12_noProduct (hp_i h 12 0 0 0) a1) (if ¬ (f_X12_in (g_X12_noProduct (hp_i h 12 0 0 0) a1) a2 1 999) = 0 then (0 : Int32) else 1) 2) = 0) → (p_X12_promises (g_X12_throwsIf (g_X12_noProduct (hp_i h 12 0 0 0) a1) (if ¬ (f_X12_in (g_X12_noProduct (hp_i h 12 0 0 0) a1) a2 1 999) = 0 then (0 : Int32) else 1) 2) a1 a2 ∧ True)) ∧ ((¬ (f_X12_throwsIf (g_X12_noProduct (hp_i h 12 0 0 0) a1) (if ¬ (f_X12_in (g_X12_noProduct (hp_i h 12 0 0 0) a1) a2 1 999) = 0 then (0 : Int32) else 1) 2) = 0) → True))))))
def f_X12_promise (h : Hp) (a1 : Int32) (a2 : Int32) : Int32 := if ¬ (f_X12_noProduct (hp_i h 12 0 0 0) a1) = 0 then 0 else (if (f_X12_throwsIf (g_X12_noProduct (hp_i h 12 0 0 0) a1) (if ¬ (f_X12_in (g_X12_noProduct (hp_i h 12 0 0 0) a1) a2 1 999) = 0 then (0 : Int32) else 1) 2) = 0 then (f_X12_promises (g_X12_throwsIf (g_X12_noProduct (hp_i h 12 0 0 0) a1) (if ¬ (f_X12_in (g_X12_noProduct (hp_i h 12 0 0 0) a1) a2 1 999) = 0 then (0 : Int32) else 1) 2) a1 a2) else 0)
def g_X12_promise (h : Hp) (a1 : Int32) (a2 : Int32) : Hp := if ¬ (f_X12_noProduct (hp_i h 12 0 0 0) a1) = 0 then (g_X12_noProduct (hp_i h 12 0 0 0) a1) else (if (f_X12_throwsIf (g_X12_noProduct (hp_i h 12 0 0 0) a1) (if ¬ (f_X12_in (g_X12_noProduct (hp_i h 12 0 0 0) a1) a2 1 999) = 0 then (0 : Int32) else 1) 2) = 0 then (g_X12_throwsIf (g_X12_noProduct (hp_i h 12 0 0 0) a1) (if ¬ (f_X12_in (g_X12_noProduct (hp_i h 12 0 0 0) a1) a2 1 999) = 0 then (0 : Int32) else 1) 2) else (g_X12_throwsIf (g_X12_noProduct (hp_i h 12 0 0 0) a1) (if ¬ (f_X12_in (g_X12_noProduct (hp_i h 12 0 0 0) a1) a2 1 999) = 0 then (0 : Int32) else 1) 2))
set_option maxHeartbeats 4000000 in
theorem c_X12_promise {d : Nat} {h : Hp} {P : Int32 → Hp → Prop} {Qx : String → Hp → Prop} {a1 : Int32} {a2 : Int32}  (hp : p_X12_promise h a1 a2) (k : P (f_X12_promise h a1 a2) (g_X12_promise h a1 a2)) : CL 0 (d + 4) mX12_promise [vR 12 0, vI a1, vI a2] h (oI P) Qx := by
  replace k : oI P (some (vI (f_X12_promise h a1 a2))) (g_X12_promise h a1 a2) := k
  unfold p_X12_promise at hp
  unfold f_X12_promise at k
  unfold g_X12_promise at k
  refine CL.ofF (plainFor_of_name rfl) rfl (Nat.le_of_ble_eq_true rfl) (vc_X12_promise_0 (d := d + 3)  ?_)
  refine c_X12_noProduct  hp.1 ?_
  replace hp := hp.2
  refine ⟨fun c => ?_, fun c => ?_⟩
  · replace hp := hp.1 c
    try simp only [if_pos c] at k
    exact k
  · replace hp := hp.2 c
    try simp only [if_neg (oa_nn c)] at k
    refine c_X12_in  hp.1 ?_
    replace hp := hp.2
    refine c_X12_throwsIf  hp.1 ?_
    replace hp := hp.2
    refine ⟨fun c => ?_, fun c => ?_⟩
    · replace hp := hp.1 c
      try simp only [if_pos c] at k
      refine c_X12_promises  hp.1 ?_
      replace hp := hp.2
      exact k
    · replace hp := hp.2 c
      try simp only [if_neg c] at k
      exact k
def p_X12_isOver (h : Hp) (a1 : Int32) : Prop := p_X12_of h a1 7 ∧ ((((f_X12_of h a1 7) = 1) → True) ∧ ((¬ (f_X12_of h a1 7) = 1) → (p_X12_of h a1 5 ∧ (p_X12_of h a1 1 ∧ (((if ¬ (f_X12_of h a1 5) = (f_X12_of h a1 1) then (0 : Int32) else 1) = 0 ∨ (if ¬ (f_X12_of h a1 5) = (f_X12_of h a1 1) then (0 : Int32) else 1) = 1) ∧ True)))))
def f_X12_isOver (h : Hp) (a1 : Int32) : Int32 := if (f_X12_of h a1 7) = 1 then 1 else (if ¬ (f_X12_of h a1 5) = (f_X12_of h a1 1) then (0 : Int32) else 1)
set_option maxHeartbeats 4000000 in
theorem c_X12_isOver {d : Nat} {h : Hp} {P : Int32 → Hp → Prop} {Qx : String → Hp → Prop} {a1 : Int32}  (hp : p_X12_isOver h a1) (k : P (f_X12_isOver h a1) h) : CL 0 (d + 2) mX12_isOver [vR 12 0, vI a1] h (oI P) Qx := by
  replace k : oI P (some (vI (f_X12_isOver h a1))) h := k
  unfold p_X12_isOver at hp
  unfold f_X12_isOver at k
  refine CL.ofF (plainFor_of_name rfl) rfl (Nat.le_of_ble_eq_true rfl) (vc_X12_isOver_0 (d := d + 1)  ?_)
  refine c_X12_of  hp.1 ?_
  replace hp := hp.2
  refine ⟨fun c => ?_, fun c => ?_⟩
  · replace hp := hp.1 c
    try simp only [if_pos c] at k
    exact k
  · replace hp := hp.2 c
    try simp only [if_neg c] at k
    refine c_X12_of  hp.1 ?_
    replace hp := hp.2
    refine c_X12_of  hp.1 ?_
    replace hp := hp.2
    refine ⟨hp.1, ?_⟩
    replace hp := hp.2
    exact k
def p_X12_promiseOf (h : Hp) (a1 : Int32) : Prop := p_X12_noOrder (hp_i h 12 0 0 0) a1 ∧ ((((f_X12_noOrder (hp_i h 12 0 0 0) a1) = 0) → (p_X12_isOver (g_X12_noOrder (hp_i h 12 0 0 0) a1) a1 ∧ ((((f_X12_isOver (g_X12_noOrder (hp_i h 12 0 0 0) a1) a1) = 0) → (p_X12_of (g_X12_noOrder (hp_i h 12 0 0 0) a1) a1 0 ∧ (p_X12_open (g_X12_noOrder (hp_i h 12 0 0 0) a1) a1 ∧ (p_X12_promises (g_X12_noOrder (hp_i h 12 0 0 0) a1) (f_X12_of (g_X12_noOrder (hp_i h 12 0 0 0) a1) a1 0) (f_X12_open (g_X12_noOrder (hp_i h 12 0 0 0) a1) a1) ∧ True)))) ∧ ((¬ (f_X12_isOver (g_X12_noOrder (hp_i h 12 0 0 0) a1) a1) = 0) → True)))) ∧ ((¬ (f_X12_noOrder (hp_i h 12 0 0 0) a1) = 0) → True))
def f_X12_promiseOf (h : Hp) (a1 : Int32) : Int32 := if (f_X12_noOrder (hp_i h 12 0 0 0) a1) = 0 then (if (f_X12_isOver (g_X12_noOrder (hp_i h 12 0 0 0) a1) a1) = 0 then (f_X12_promises (g_X12_noOrder (hp_i h 12 0 0 0) a1) (f_X12_of (g_X12_noOrder (hp_i h 12 0 0 0) a1) a1 0) (f_X12_open (g_X12_noOrder (hp_i h 12 0 0 0) a1) a1)) else (-1)) else 0
def g_X12_promiseOf (h : Hp) (a1 : Int32) : Hp := if (f_X12_noOrder (hp_i h 12 0 0 0) a1) = 0 then (if (f_X12_isOver (g_X12_noOrder (hp_i h 12 0 0 0) a1) a1) = 0 then (g_X12_noOrder (hp_i h 12 0 0 0) a1) else (g_X12_noOrder (hp_i h 12 0 0 0) a1)) else (g_X12_noOrder (hp_i h 12 0 0 0) a1)
set_option maxHeartbeats 4000000 in
theorem c_X12_promiseOf {d : Nat} {h : Hp} {P : Int32 → Hp → Prop} {Qx : String → Hp → Prop} {a1 : Int32}  (hp : p_X12_promiseOf h a1) (k : P (f_X12_promiseOf h a1) (g_X12_promiseOf h a1)) : CL 0 (d + 4) mX12_promiseOf [vR 12 0, vI a1] h (oI P) Qx := by
  replace k : oI P (some (vI (f_X12_promiseOf h a1))) (g_X12_promiseOf h a1) := k
  unfold p_X12_promiseOf at hp
  unfold f_X12_promiseOf at k
  unfold g_X12_promiseOf at k
  refine CL.ofF (plainFor_of_name rfl) rfl (Nat.le_of_ble_eq_true rfl) (vc_X12_promiseOf_0 (d := d + 3)  ?_)
  refine c_X12_noOrder  hp.1 ?_
  replace hp := hp.2
  refine ⟨fun c => ?_, fun c => ?_⟩
  · replace hp := hp.1 c
    try simp only [if_pos c] at k
    refine c_X12_isOver  hp.1 ?_
    replace hp := hp.2
    refine ⟨fun c => ?_, fun c => ?_⟩
    · replace hp := hp.1 c
      try simp only [if_pos c] at k
      refine c_X12_of  hp.1 ?_
      replace hp := hp.2
      refine c_X12_open  hp.1 ?_
      replace hp := hp.2
      refine c_X12_promises  hp.1 ?_
      replace hp := hp.2
      exact k
    · replace hp := hp.2 c
      try simp only [if_neg c] at k
      exact k
  · replace hp := hp.2 c
    try simp only [if_neg c] at k
    exact k
def pw_X12_delayingPart_34 : Nat → Hp → Int32 → Int32 → Int32 → Int32 → Int32 → Prop
  | 0, _, _, _, _, _, _ => False
  | n + 1, h, x1, x2, x3, x4, x5 => (((h.1 56 0 0) ≤ x5) → True) ∧ ((¬ (h.1 56 0 0) ≤ x5) → (((x3 ≤ 0) → True) ∧ ((¬ x3 ≤ 0) → (p_X12_needs h x2 x5 ∧ ((((f_X12_needs h x2 x5) ≤ 0) → (pw_X12_delayingPart_34 n h x1 x2 x3 x4 (x5 + 1))) ∧ ((¬ (f_X12_needs h x2 x5) ≤ 0) → (((x4 = (-1)) → (pw_X12_delayingPart_34 n h x1 x2 x3 x5 (x5 + 1))) ∧ ((¬ x4 = (-1)) → (p_X12_needs h x2 x5 ∧ (p_X12_dayOf h x5 (x3 * (f_X12_needs h x2 x5)) ∧ (p_X12_needs h x2 x4 ∧ (p_X12_dayOf h x4 (x3 * (f_X12_needs h x2 x4)) ∧ ((((f_X12_dayOf h x5 (x3 * (f_X12_needs h x2 x5))) ≤ (f_X12_dayOf h x4 (x3 * (f_X12_needs h x2 x4)))) → (pw_X12_delayingPart_34 n h x1 x2 x3 x4 (x5 + 1))) ∧ ((¬ (f_X12_dayOf h x5 (x3 * (f_X12_needs h x2 x5))) ≤ (f_X12_dayOf h x4 (x3 * (f_X12_needs h x2 x4)))) → (pw_X12_delayingPart_34 n h x1 x2 x3 x5 (x5 + 1))))))))))))))))
def fw_X12_delayingPart_34 : Nat → Hp → Int32 → Int32 → Int32 → Int32 → Int32 → Int32
  | 0, _, _, _, _, _, _ => 0
  | n + 1, h, x1, x2, x3, x4, x5 => if (h.1 56 0 0) ≤ x5 then x4 else (if x3 ≤ 0 then x4 else (if (f_X12_needs h x2 x5) ≤ 0 then (fw_X12_delayingPart_34 n h x1 x2 x3 x4 (x5 + 1)) else (if x4 = (-1) then (fw_X12_delayingPart_34 n h x1 x2 x3 x5 (x5 + 1)) else (if (f_X12_dayOf h x5 (x3 * (f_X12_needs h x2 x5))) ≤ (f_X12_dayOf h x4 (x3 * (f_X12_needs h x2 x4))) then (fw_X12_delayingPart_34 n h x1 x2 x3 x4 (x5 + 1)) else (fw_X12_delayingPart_34 n h x1 x2 x3 x5 (x5 + 1))))))
def gw_X12_delayingPart_34 : Nat → Hp → Int32 → Int32 → Int32 → Int32 → Int32 → Hp
  | 0, h, _, _, _, _, _ => h
  | n + 1, h, x1, x2, x3, x4, x5 => if (h.1 56 0 0) ≤ x5 then h else (if x3 ≤ 0 then h else (if (f_X12_needs h x2 x5) ≤ 0 then (gw_X12_delayingPart_34 n h x1 x2 x3 x4 (x5 + 1)) else (if x4 = (-1) then (gw_X12_delayingPart_34 n h x1 x2 x3 x5 (x5 + 1)) else (if (f_X12_dayOf h x5 (x3 * (f_X12_needs h x2 x5))) ≤ (f_X12_dayOf h x4 (x3 * (f_X12_needs h x2 x4))) then (gw_X12_delayingPart_34 n h x1 x2 x3 x4 (x5 + 1)) else (gw_X12_delayingPart_34 n h x1 x2 x3 x5 (x5 + 1))))))
set_option maxHeartbeats 4000000 in
theorem lw_X12_delayingPart_34 {X : WD → State → Prop} {d rb : Nat} {Qr : Option AV → Hp → Prop} {Qx : String → Hp → Prop}   : ∀ (n : Nat) (h : Hp) (x1 : Int32) (x2 : Int32) (x3 : Int32) (x4 : Int32) (x5 : Int32), pw_X12_delayingPart_34 n h x1 x2 x3 x4 x5 → Qr (some (vI (fw_X12_delayingPart_34 n h x1 x2 x3 x4 x5))) (gw_X12_delayingPart_34 n h x1 x2 x3 x4 x5) → AW X (d + 3) rb mX12_delayingPart 34 [(0, vR 12 0), (1, vI x1), (2, vI x2), (3, vI x3), (4, vI x4), (5, vI x5)] [] h Qr Qx := by
  intro n
  induction n with
  | zero => intro h x1 x2 x3 x4 x5 hp; exact hp.elim
  | succ n ih =>
    intro h x1 x2 x3 x4 x5 hp k
    rw [pw_X12_delayingPart_34] at hp
    rw [fw_X12_delayingPart_34] at k
    rw [gw_X12_delayingPart_34] at k
    refine vc_X12_delayingPart_34 (d := d + 2)  ?_
    refine ⟨fun c => ?_, fun c => ?_⟩
    · replace hp := hp.1 c
      try simp only [if_pos c] at k
      exact k
    · replace hp := hp.2 c
      try simp only [if_neg c] at k
      refine ⟨fun c => ?_, fun c => ?_⟩
      · replace hp := hp.1 c
        try simp only [if_pos c] at k
        exact k
      · replace hp := hp.2 c
        try simp only [if_neg c] at k
        refine c_X12_needs  hp.1 ?_
        replace hp := hp.2
        refine ⟨fun c => ?_, fun c => ?_⟩
        · replace hp := hp.1 c
          try simp only [if_pos c] at k
          exact ih _ _ _ _ _ _ hp k
        · replace hp := hp.2 c
          try simp only [if_neg c] at k
          refine ⟨fun c => ?_, fun c => ?_⟩
          · replace hp := hp.1 c
            try simp only [if_pos c] at k
            exact ih _ _ _ _ _ _ hp k
          · replace hp := hp.2 c
            try simp only [if_neg c] at k
            refine c_X12_needs  hp.1 ?_
            replace hp := hp.2
            refine c_X12_dayOf  hp.1 ?_
            replace hp := hp.2
            refine c_X12_needs  hp.1 ?_
            replace hp := hp.2
            refine c_X12_dayOf  hp.1 ?_
            replace hp := hp.2
            refine ⟨fun c => ?_, fun c => ?_⟩
            · replace hp := hp.1 c
              try simp only [if_pos c] at k
              exact ih _ _ _ _ _ _ hp k
            · replace hp := hp.2 c
              try simp only [if_neg c] at k
              exact ih _ _ _ _ _ _ hp k
def p_X12_delayingPart (h : Hp) (a1 : Int32) : Prop := p_X12_noOrder (hp_i h 12 0 0 0) a1 ∧ ((((f_X12_noOrder (hp_i h 12 0 0 0) a1) = 0) → (p_X12_of (g_X12_noOrder (hp_i h 12 0 0 0) a1) a1 0 ∧ (p_X12_open (g_X12_noOrder (hp_i h 12 0 0 0) a1) a1 ∧ (pw_X12_delayingPart_34 oa_N (g_X12_noOrder (hp_i h 12 0 0 0) a1) a1 (f_X12_of (g_X12_noOrder (hp_i h 12 0 0 0) a1) a1 0) (f_X12_open (g_X12_noOrder (hp_i h 12 0 0 0) a1) a1) (-1) 0)))) ∧ ((¬ (f_X12_noOrder (hp_i h 12 0 0 0) a1) = 0) → True))
def f_X12_delayingPart (h : Hp) (a1 : Int32) : Int32 := if (f_X12_noOrder (hp_i h 12 0 0 0) a1) = 0 then (fw_X12_delayingPart_34 oa_N (g_X12_noOrder (hp_i h 12 0 0 0) a1) a1 (f_X12_of (g_X12_noOrder (hp_i h 12 0 0 0) a1) a1 0) (f_X12_open (g_X12_noOrder (hp_i h 12 0 0 0) a1) a1) (-1) 0) else 0
def g_X12_delayingPart (h : Hp) (a1 : Int32) : Hp := if (f_X12_noOrder (hp_i h 12 0 0 0) a1) = 0 then (gw_X12_delayingPart_34 oa_N (g_X12_noOrder (hp_i h 12 0 0 0) a1) a1 (f_X12_of (g_X12_noOrder (hp_i h 12 0 0 0) a1) a1 0) (f_X12_open (g_X12_noOrder (hp_i h 12 0 0 0) a1) a1) (-1) 0) else (g_X12_noOrder (hp_i h 12 0 0 0) a1)
set_option maxHeartbeats 4000000 in
theorem c_X12_delayingPart {d : Nat} {h : Hp} {P : Int32 → Hp → Prop} {Qx : String → Hp → Prop} {a1 : Int32}  (hp : p_X12_delayingPart h a1) (k : P (f_X12_delayingPart h a1) (g_X12_delayingPart h a1)) : CL 0 (d + 3) mX12_delayingPart [vR 12 0, vI a1] h (oI P) Qx := by
  replace k : oI P (some (vI (f_X12_delayingPart h a1))) (g_X12_delayingPart h a1) := k
  unfold p_X12_delayingPart at hp
  unfold f_X12_delayingPart at k
  unfold g_X12_delayingPart at k
  refine CL.ofF (plainFor_of_name rfl) rfl (Nat.le_of_ble_eq_true rfl) (vc_X12_delayingPart_0 (d := d + 2)  ?_)
  refine c_X12_noOrder  hp.1 ?_
  replace hp := hp.2
  refine ⟨fun c => ?_, fun c => ?_⟩
  · replace hp := hp.1 c
    try simp only [if_pos c] at k
    refine c_X12_of  hp.1 ?_
    replace hp := hp.2
    refine c_X12_open  hp.1 ?_
    replace hp := hp.2
    exact lw_X12_delayingPart_34  _ _ _ _ _ _ _ hp k
  · replace hp := hp.2 c
    try simp only [if_neg c] at k
    exact k
def pw_X12_lateOrders_9 : Nat → Hp → Int32 → Int32 → Prop
  | 0, _, _, _ => False
  | n + 1, h, x1, x2 => (((h.1 58 0 1) ≤ x2) → True) ∧ ((¬ (h.1 58 0 1) ≤ x2) → (p_X12_open h x2 ∧ ((((f_X12_open h x2) ≤ 0) → (pw_X12_lateOrders_9 n h (x1 ||| 0) (x2 + 1))) ∧ ((¬ (f_X12_open h x2) ≤ 0) → (p_X12_of h x2 0 ∧ (p_X12_open h x2 ∧ (p_X12_promises h (f_X12_of h x2 0) (f_X12_open h x2) ∧ (p_X12_of h x2 3 ∧ ((((f_X12_promises h (f_X12_of h x2 0) (f_X12_open h x2)) ≤ (f_X12_of h x2 3)) → (pw_X12_lateOrders_9 n h (x1 ||| 0) (x2 + 1))) ∧ ((¬ (f_X12_promises h (f_X12_of h x2 0) (f_X12_open h x2)) ≤ (f_X12_of h x2 3)) → (pw_X12_lateOrders_9 n h (x1 ||| (1 <<< (x2 &&& 31))) (x2 + 1))))))))))))
def fw_X12_lateOrders_9 : Nat → Hp → Int32 → Int32 → Int32
  | 0, _, _, _ => 0
  | n + 1, h, x1, x2 => if (h.1 58 0 1) ≤ x2 then x1 else (if (f_X12_open h x2) ≤ 0 then (fw_X12_lateOrders_9 n h (x1 ||| 0) (x2 + 1)) else (if (f_X12_promises h (f_X12_of h x2 0) (f_X12_open h x2)) ≤ (f_X12_of h x2 3) then (fw_X12_lateOrders_9 n h (x1 ||| 0) (x2 + 1)) else (fw_X12_lateOrders_9 n h (x1 ||| (1 <<< (x2 &&& 31))) (x2 + 1))))
def gw_X12_lateOrders_9 : Nat → Hp → Int32 → Int32 → Hp
  | 0, h, _, _ => h
  | n + 1, h, x1, x2 => if (h.1 58 0 1) ≤ x2 then h else (if (f_X12_open h x2) ≤ 0 then (gw_X12_lateOrders_9 n h (x1 ||| 0) (x2 + 1)) else (if (f_X12_promises h (f_X12_of h x2 0) (f_X12_open h x2)) ≤ (f_X12_of h x2 3) then (gw_X12_lateOrders_9 n h (x1 ||| 0) (x2 + 1)) else (gw_X12_lateOrders_9 n h (x1 ||| (1 <<< (x2 &&& 31))) (x2 + 1))))
set_option maxHeartbeats 4000000 in
theorem lw_X12_lateOrders_9 {X : WD → State → Prop} {d rb : Nat} {Qr : Option AV → Hp → Prop} {Qx : String → Hp → Prop}   : ∀ (n : Nat) (h : Hp) (x1 : Int32) (x2 : Int32), pw_X12_lateOrders_9 n h x1 x2 → Qr (some (vI (fw_X12_lateOrders_9 n h x1 x2))) (gw_X12_lateOrders_9 n h x1 x2) → AW X (d + 4) rb mX12_lateOrders 9 [(0, vR 12 0), (1, vI x1), (2, vI x2)] [] h Qr Qx := by
  intro n
  induction n with
  | zero => intro h x1 x2 hp; exact hp.elim
  | succ n ih =>
    intro h x1 x2 hp k
    rw [pw_X12_lateOrders_9] at hp
    rw [fw_X12_lateOrders_9] at k
    rw [gw_X12_lateOrders_9] at k
    refine vc_X12_lateOrders_9 (d := d + 3)  ?_
    refine ⟨fun c => ?_, fun c => ?_⟩
    · replace hp := hp.1 c
      try simp only [if_pos c] at k
      exact k
    · replace hp := hp.2 c
      try simp only [if_neg c] at k
      refine c_X12_open  hp.1 ?_
      replace hp := hp.2
      refine ⟨fun c => ?_, fun c => ?_⟩
      · replace hp := hp.1 c
        try simp only [if_pos c] at k
        exact ih _ _ _ hp k
      · replace hp := hp.2 c
        try simp only [if_neg c] at k
        refine c_X12_of  hp.1 ?_
        replace hp := hp.2
        refine c_X12_open  hp.1 ?_
        replace hp := hp.2
        refine c_X12_promises  hp.1 ?_
        replace hp := hp.2
        refine c_X12_of  hp.1 ?_
        replace hp := hp.2
        refine ⟨fun c => ?_, fun c => ?_⟩
        · replace hp := hp.1 c
          try simp only [if_pos c] at k
          exact ih _ _ _ hp k
        · replace hp := hp.2 c
          try simp only [if_neg c] at k
          exact ih _ _ _ hp k
def p_X12_lateOrders (h : Hp)  : Prop := pw_X12_lateOrders_9 oa_N (hp_i h 12 0 0 0) 0 0
def f_X12_lateOrders (h : Hp)  : Int32 := fw_X12_lateOrders_9 oa_N (hp_i h 12 0 0 0) 0 0
def g_X12_lateOrders (h : Hp)  : Hp := gw_X12_lateOrders_9 oa_N (hp_i h 12 0 0 0) 0 0
set_option maxHeartbeats 4000000 in
theorem c_X12_lateOrders {d : Nat} {h : Hp} {P : Int32 → Hp → Prop} {Qx : String → Hp → Prop}   (hp : p_X12_lateOrders h ) (k : P (f_X12_lateOrders h ) (g_X12_lateOrders h )) : CL 0 (d + 4) mX12_lateOrders [vR 12 0] h (oI P) Qx := by
  replace k : oI P (some (vI (f_X12_lateOrders h ))) (g_X12_lateOrders h ) := k
  unfold p_X12_lateOrders at hp
  unfold f_X12_lateOrders at k
  unfold g_X12_lateOrders at k
  refine CL.ofF (plainFor_of_name rfl) rfl (Nat.le_of_ble_eq_true rfl) (vc_X12_lateOrders_0 (d := d + 3)  ?_)
  exact lw_X12_lateOrders_9  _ _ _ _ hp k
def p_X12_isAhead (h : Hp) (a1 : Int32) (a2 : Int32) : Prop := p_X12_of h a1 3 ∧ (p_X12_of h a2 3 ∧ ((((f_X12_of h a1 3) = (f_X12_of h a2 3)) → (p_X12_of h a1 2 ∧ (p_X12_of h a2 2 ∧ ((((f_X12_of h a1 2) = (f_X12_of h a2 2)) → (((if a2 ≤ a1 then (0 : Int32) else 1) = 0 ∨ (if a2 ≤ a1 then (0 : Int32) else 1) = 1) ∧ True)) ∧ ((¬ (f_X12_of h a1 2) = (f_X12_of h a2 2)) → (p_X12_of h a1 2 ∧ (p_X12_of h a2 2 ∧ (((if (f_X12_of h a1 2) ≤ (f_X12_of h a2 2) then (0 : Int32) else 1) = 0 ∨ (if (f_X12_of h a1 2) ≤ (f_X12_of h a2 2) then (0 : Int32) else 1) = 1) ∧ True)))))))) ∧ ((¬ (f_X12_of h a1 3) = (f_X12_of h a2 3)) → (p_X12_of h a1 3 ∧ (p_X12_of h a2 3 ∧ (((if (f_X12_of h a2 3) ≤ (f_X12_of h a1 3) then (0 : Int32) else 1) = 0 ∨ (if (f_X12_of h a2 3) ≤ (f_X12_of h a1 3) then (0 : Int32) else 1) = 1) ∧ True))))))
def f_X12_isAhead (h : Hp) (a1 : Int32) (a2 : Int32) : Int32 := if (f_X12_of h a1 3) = (f_X12_of h a2 3) then (if (f_X12_of h a1 2) = (f_X12_of h a2 2) then (if a2 ≤ a1 then (0 : Int32) else 1) else (if (f_X12_of h a1 2) ≤ (f_X12_of h a2 2) then (0 : Int32) else 1)) else (if (f_X12_of h a2 3) ≤ (f_X12_of h a1 3) then (0 : Int32) else 1)
set_option maxHeartbeats 4000000 in
theorem c_X12_isAhead {d : Nat} {h : Hp} {P : Int32 → Hp → Prop} {Qx : String → Hp → Prop} {a1 : Int32} {a2 : Int32}  (hp : p_X12_isAhead h a1 a2) (k : P (f_X12_isAhead h a1 a2) h) : CL 0 (d + 2) mX12_isAhead [vR 12 0, vI a1, vI a2] h (oI P) Qx := by
  replace k : oI P (some (vI (f_X12_isAhead h a1 a2))) h := k
  unfold p_X12_isAhead at hp
  unfold f_X12_isAhead at k
  refine CL.ofF (plainFor_of_name rfl) rfl (Nat.le_of_ble_eq_true rfl) (vc_X12_isAhead_0 (d := d + 1)  ?_)
  refine c_X12_of  hp.1 ?_
  replace hp := hp.2
  refine c_X12_of  hp.1 ?_
  replace hp := hp.2
  refine ⟨fun c => ?_, fun c => ?_⟩
  · replace hp := hp.1 c
    try simp only [if_pos c] at k
    refine c_X12_of  hp.1 ?_
    replace hp := hp.2
    refine c_X12_of  hp.1 ?_
    replace hp := hp.2
    refine ⟨fun c => ?_, fun c => ?_⟩
    · replace hp := hp.1 c
      try simp only [if_pos c] at k
      refine ⟨hp.1, ?_⟩
      replace hp := hp.2
      exact k
    · replace hp := hp.2 c
      try simp only [if_neg c] at k
      refine c_X12_of  hp.1 ?_
      replace hp := hp.2
      refine c_X12_of  hp.1 ?_
      replace hp := hp.2
      refine ⟨hp.1, ?_⟩
      replace hp := hp.2
      exact k
  · replace hp := hp.2 c
    try simp only [if_neg c] at k
    refine c_X12_of  hp.1 ?_
    replace hp := hp.2
    refine c_X12_of  hp.1 ?_
    replace hp := hp.2
    refine ⟨hp.1, ?_⟩
    replace hp := hp.2
    exact k
def pw_X12_nextIn_4 : Nat → Hp → Int32 → Int32 → Int32 → Prop
  | 0, _, _, _, _ => False
  | n + 1, h, x1, x2, x3 => (((h.1 58 0 1) ≤ x3) → True) ∧ ((¬ (h.1 58 0 1) ≤ x3) → (((¬ (((h.1 12 0 22) >>> (x3 &&& 31)) &&& 1) = 0) → (pw_X12_nextIn_4 n h x1 x2 (x3 + 1))) ∧ (((((h.1 12 0 22) >>> (x3 &&& 31)) &&& 1) = 0) → (p_X12_open h x3 ∧ ((vp_in x3 20) ∧ ((((f_X12_open h x3) ≤ (h.1 62 0 x3.toNatClampNeg)) → (pw_X12_nextIn_4 n h x1 x2 (x3 + 1))) ∧ ((¬ (f_X12_open h x3) ≤ (h.1 62 0 x3.toNatClampNeg)) → (p_X12_of h x3 2 ∧ ((vp_in (388 + (3 * x1)) 506) ∧ ((vp_in ((388 + (3 * x1)) + 1) 506) ∧ (p_X12_in h (f_X12_of h x3 2) (h.1 56 0 ((388 + (3 * x1)).toNatClampNeg)) (h.1 56 0 (((388 + (3 * x1)) + 1).toNatClampNeg)) ∧ ((((if (f_X12_in h (f_X12_of h x3 2) (h.1 56 0 ((388 + (3 * x1)).toNatClampNeg)) (h.1 56 0 (((388 + (3 * x1)) + 1).toNatClampNeg))) = 0 then (0 : Int32) else 1) = 0) → (pw_X12_nextIn_4 n h x1 x2 (x3 + 1))) ∧ ((¬ (if (f_X12_in h (f_X12_of h x3 2) (h.1 56 0 ((388 + (3 * x1)).toNatClampNeg)) (h.1 56 0 (((388 + (3 * x1)) + 1).toNatClampNeg))) = 0 then (0 : Int32) else 1) = 0) → (((x2 = (-1)) → (pw_X12_nextIn_4 n h x1 x3 (x3 + 1))) ∧ ((¬ x2 = (-1)) → (p_X12_isAhead h x3 x2 ∧ ((((f_X12_isAhead h x3 x2) = 0) → (pw_X12_nextIn_4 n h x1 x2 (x3 + 1))) ∧ ((¬ (f_X12_isAhead h x3 x2) = 0) → (pw_X12_nextIn_4 n h x1 x3 (x3 + 1))))))))))))))))))))
def fw_X12_nextIn_4 : Nat → Hp → Int32 → Int32 → Int32 → Int32
  | 0, _, _, _, _ => 0
  | n + 1, h, x1, x2, x3 => if (h.1 58 0 1) ≤ x3 then x2 else (if ¬ (((h.1 12 0 22) >>> (x3 &&& 31)) &&& 1) = 0 then (fw_X12_nextIn_4 n h x1 x2 (x3 + 1)) else (if (f_X12_open h x3) ≤ (h.1 62 0 x3.toNatClampNeg) then (fw_X12_nextIn_4 n h x1 x2 (x3 + 1)) else (if (if (f_X12_in h (f_X12_of h x3 2) (h.1 56 0 ((388 + (3 * x1)).toNatClampNeg)) (h.1 56 0 (((388 + (3 * x1)) + 1).toNatClampNeg))) = 0 then (0 : Int32) else 1) = 0 then (fw_X12_nextIn_4 n h x1 x2 (x3 + 1)) else (if x2 = (-1) then (fw_X12_nextIn_4 n h x1 x3 (x3 + 1)) else (if (f_X12_isAhead h x3 x2) = 0 then (fw_X12_nextIn_4 n h x1 x2 (x3 + 1)) else (fw_X12_nextIn_4 n h x1 x3 (x3 + 1)))))))
set_option maxHeartbeats 4000000 in
theorem lw_X12_nextIn_4 {X : WD → State → Prop} {d rb : Nat} {Qr : Option AV → Hp → Prop} {Qx : String → Hp → Prop}   : ∀ (n : Nat) (h : Hp) (x1 : Int32) (x2 : Int32) (x3 : Int32), pw_X12_nextIn_4 n h x1 x2 x3 → Qr (some (vI (fw_X12_nextIn_4 n h x1 x2 x3))) h → AW X (d + 3) rb mX12_nextIn 4 [(0, vR 12 0), (1, vI x1), (2, vI x2), (3, vI x3)] [] h Qr Qx := by
  intro n
  induction n with
  | zero => intro h x1 x2 x3 hp; exact hp.elim
  | succ n ih =>
    intro h x1 x2 x3 hp k
    rw [pw_X12_nextIn_4] at hp
    rw [fw_X12_nextIn_4] at k
    refine vc_X12_nextIn_4 (d := d + 2)  ?_
    refine ⟨fun c => ?_, fun c => ?_⟩
    · replace hp := hp.1 c
      try simp only [if_pos c] at k
      exact k
    · replace hp := hp.2 c
      try simp only [if_neg c] at k
      refine ⟨fun c => ?_, fun c => ?_⟩
      · replace hp := hp.1 c
        try simp only [if_pos c] at k
        exact ih _ _ _ _ hp k
      · replace hp := hp.2 c
        try simp only [if_neg (oa_nn c)] at k
        refine c_X12_open  hp.1 ?_
        replace hp := hp.2
        refine ⟨hp.1, ?_⟩
        replace hp := hp.2
        refine ⟨fun c => ?_, fun c => ?_⟩
        · replace hp := hp.1 c
          try simp only [if_pos c] at k
          exact ih _ _ _ _ hp k
        · replace hp := hp.2 c
          try simp only [if_neg c] at k
          refine c_X12_of  hp.1 ?_
          replace hp := hp.2
          refine ⟨hp.1, ?_⟩
          replace hp := hp.2
          refine ⟨hp.1, ?_⟩
          replace hp := hp.2
          refine c_X12_in  hp.1 ?_
          replace hp := hp.2
          refine ⟨fun c => ?_, fun c => ?_⟩
          · replace hp := hp.1 c
            try simp only [if_pos c] at k
            exact ih _ _ _ _ hp k
          · replace hp := hp.2 c
            try simp only [if_neg c] at k
            refine ⟨fun c => ?_, fun c => ?_⟩
            · replace hp := hp.1 c
              try simp only [if_pos c] at k
              exact ih _ _ _ _ hp k
            · replace hp := hp.2 c
              try simp only [if_neg c] at k
              refine c_X12_isAhead  hp.1 ?_
              replace hp := hp.2
              refine ⟨fun c => ?_, fun c => ?_⟩
              · replace hp := hp.1 c
                try simp only [if_pos c] at k
                exact ih _ _ _ _ hp k
              · replace hp := hp.2 c
                try simp only [if_neg c] at k
                exact ih _ _ _ _ hp k
def p_X12_nextIn (h : Hp) (a1 : Int32) : Prop := pw_X12_nextIn_4 oa_N h a1 (-1) 0
def f_X12_nextIn (h : Hp) (a1 : Int32) : Int32 := fw_X12_nextIn_4 oa_N h a1 (-1) 0
set_option maxHeartbeats 4000000 in
theorem c_X12_nextIn {d : Nat} {h : Hp} {P : Int32 → Hp → Prop} {Qx : String → Hp → Prop} {a1 : Int32}  (hp : p_X12_nextIn h a1) (k : P (f_X12_nextIn h a1) h) : CL 0 (d + 3) mX12_nextIn [vR 12 0, vI a1] h (oI P) Qx := by
  replace k : oI P (some (vI (f_X12_nextIn h a1))) h := k
  unfold p_X12_nextIn at hp
  unfold f_X12_nextIn at k
  refine CL.ofF (plainFor_of_name rfl) rfl (Nat.le_of_ble_eq_true rfl) (vc_X12_nextIn_0 (d := d + 2)  ?_)
  exact lw_X12_nextIn_4  _ _ _ _ _ hp k
def pw_X12_can_18 : Nat → Hp → Int32 → Int32 → Int32 → Int32 → Prop
  | 0, _, _, _, _, _ => False
  | n + 1, h, x1, x2, x3, x4 => (((h.1 56 0 0) ≤ x4) → (p_X12_of h x1 4 ∧ True)) ∧ ((¬ (h.1 56 0 0) ≤ x4) → (p_X12_of h x1 0 ∧ (p_X12_needs h (f_X12_of h x1 0) x4 ∧ ((((f_X12_needs h (f_X12_of h x1 0) x4) ≤ 0) → (pw_X12_can_18 n h x1 x2 x3 (x4 + 1))) ∧ ((¬ (f_X12_needs h (f_X12_of h x1 0) x4) ≤ 0) → ((vp_in x4 12) ∧ (p_X12_of h x1 0 ∧ (p_X12_needs h (f_X12_of h x1 0) x4 ∧ ((¬ (f_X12_needs h (f_X12_of h x1 0) x4) = 0) ∧ (pw_X12_can_18 n h x1 x2 (if ((h.1 61 0 x4.toNatClampNeg) / (f_X12_needs h (f_X12_of h x1 0) x4)) < x3 then ((h.1 61 0 x4.toNatClampNeg) / (f_X12_needs h (f_X12_of h x1 0) x4)) else x3) (x4 + 1)))))))))))
def fw_X12_can_18 : Nat → Hp → Int32 → Int32 → Int32 → Int32 → Int32
  | 0, _, _, _, _, _ => 0
  | n + 1, h, x1, x2, x3, x4 => if (h.1 56 0 0) ≤ x4 then (if ¬ (f_X12_of h x1 4) = 1 then (x3 : Int32) else (if x2 ≤ x3 then (x3 : Int32) else 0)) else (if (f_X12_needs h (f_X12_of h x1 0) x4) ≤ 0 then (fw_X12_can_18 n h x1 x2 x3 (x4 + 1)) else (fw_X12_can_18 n h x1 x2 (if ((h.1 61 0 x4.toNatClampNeg) / (f_X12_needs h (f_X12_of h x1 0) x4)) < x3 then ((h.1 61 0 x4.toNatClampNeg) / (f_X12_needs h (f_X12_of h x1 0) x4)) else x3) (x4 + 1)))
set_option maxHeartbeats 4000000 in
theorem lw_X12_can_18 {X : WD → State → Prop} {d rb : Nat} {Qr : Option AV → Hp → Prop} {Qx : String → Hp → Prop}   : ∀ (n : Nat) (h : Hp) (x1 : Int32) (x2 : Int32) (x3 : Int32) (x4 : Int32), pw_X12_can_18 n h x1 x2 x3 x4 → Qr (some (vI (fw_X12_can_18 n h x1 x2 x3 x4))) h → AW X (d + 3) rb mX12_can 18 [(0, vR 12 0), (1, vI x1), (2, vI x2), (3, vI x3), (4, vI x4)] [] h Qr Qx := by
  intro n
  induction n with
  | zero => intro h x1 x2 x3 x4 hp; exact hp.elim
  | succ n ih =>
    intro h x1 x2 x3 x4 hp k
    rw [pw_X12_can_18] at hp
    rw [fw_X12_can_18] at k
    refine vc_X12_can_18 (d := d + 2)  ?_
    refine ⟨fun c => ?_, fun c => ?_⟩
    · replace hp := hp.1 c
      try simp only [if_pos c] at k
      refine c_X12_of  hp.1 ?_
      replace hp := hp.2
      exact k
    · replace hp := hp.2 c
      try simp only [if_neg c] at k
      refine c_X12_of  hp.1 ?_
      replace hp := hp.2
      refine c_X12_needs  hp.1 ?_
      replace hp := hp.2
      refine ⟨fun c => ?_, fun c => ?_⟩
      · replace hp := hp.1 c
        try simp only [if_pos c] at k
        exact ih _ _ _ _ _ hp k
      · replace hp := hp.2 c
        try simp only [if_neg c] at k
        refine ⟨hp.1, ?_⟩
        replace hp := hp.2
        refine c_X12_of  hp.1 ?_
        replace hp := hp.2
        refine c_X12_needs  hp.1 ?_
        replace hp := hp.2
        refine ⟨hp.1, ?_⟩
        replace hp := hp.2
        exact ih _ _ _ _ _ hp k
def p_X12_can (h : Hp) (a1 : Int32) : Prop := p_X12_open h a1 ∧ ((vp_in a1 20) ∧ (pw_X12_can_18 oa_N h a1 ((f_X12_open h a1) - (h.1 62 0 a1.toNatClampNeg)) ((f_X12_open h a1) - (h.1 62 0 a1.toNatClampNeg)) 0))
def f_X12_can (h : Hp) (a1 : Int32) : Int32 := fw_X12_can_18 oa_N h a1 ((f_X12_open h a1) - (h.1 62 0 a1.toNatClampNeg)) ((f_X12_open h a1) - (h.1 62 0 a1.toNatClampNeg)) 0
set_option maxHeartbeats 4000000 in
theorem c_X12_can {d : Nat} {h : Hp} {P : Int32 → Hp → Prop} {Qx : String → Hp → Prop} {a1 : Int32}  (hp : p_X12_can h a1) (k : P (f_X12_can h a1) h) : CL 0 (d + 3) mX12_can [vR 12 0, vI a1] h (oI P) Qx := by
  replace k : oI P (some (vI (f_X12_can h a1))) h := k
  unfold p_X12_can at hp
  unfold f_X12_can at k
  refine CL.ofF (plainFor_of_name rfl) rfl (Nat.le_of_ble_eq_true rfl) (vc_X12_can_0 (d := d + 2)  ?_)
  refine c_X12_open  hp.1 ?_
  replace hp := hp.2
  refine ⟨hp.1, ?_⟩
  replace hp := hp.2
  exact lw_X12_can_18  _ _ _ _ _ _ hp k
def pw_X12_takes0_12 : Nat → Hp → Int32 → Int32 → Int32 → Prop
  | 0, _, _, _, _ => False
  | n + 1, h, x1, x2, x3 => (((h.1 56 0 0) ≤ x3) → True) ∧ ((¬ (h.1 56 0 0) ≤ x3) → ((vp_in x3 12) ∧ (p_X12_of h x1 0 ∧ (p_X12_needs h (f_X12_of h x1 0) x3 ∧ ((vp_in x3 12) ∧ ((vp_in x3 12) ∧ (p_X12_of (hp_i h 61 0 x3.toNatClampNeg ((h.1 61 0 x3.toNatClampNeg) - (x2 * (f_X12_needs h (f_X12_of h x1 0) x3)))) x1 0 ∧ (p_X12_needs (hp_i h 61 0 x3.toNatClampNeg ((h.1 61 0 x3.toNatClampNeg) - (x2 * (f_X12_needs h (f_X12_of h x1 0) x3)))) (f_X12_of (hp_i h 61 0 x3.toNatClampNeg ((h.1 61 0 x3.toNatClampNeg) - (x2 * (f_X12_needs h (f_X12_of h x1 0) x3)))) x1 0) x3 ∧ ((vp_in x3 12) ∧ (pw_X12_takes0_12 n (hp_i (hp_i h 61 0 x3.toNatClampNeg ((h.1 61 0 x3.toNatClampNeg) - (x2 * (f_X12_needs h (f_X12_of h x1 0) x3)))) 60 0 x3.toNatClampNeg ((h.1 60 0 x3.toNatClampNeg) - (x2 * (f_X12_needs (hp_i h 61 0 x3.toNatClampNeg ((h.1 61 0 x3.toNatClampNeg) - (x2 * (f_X12_needs h (f_X12_of h x1 0) x3)))) (f_X12_of (hp_i h 61 0 x3.toNatClampNeg ((h.1 61 0 x3.toNatClampNeg) - (x2 * (f_X12_needs h (f_X12_of h x1 0) x3)))) x1 0) x3)))) x1 x2 (x3 + 1)))))))))))
def gw_X12_takes0_12 : Nat → Hp → Int32 → Int32 → Int32 → Hp
  | 0, h, _, _, _ => h
  | n + 1, h, x1, x2, x3 => if (h.1 56 0 0) ≤ x3 then h else (gw_X12_takes0_12 n (hp_i (hp_i h 61 0 x3.toNatClampNeg ((h.1 61 0 x3.toNatClampNeg) - (x2 * (f_X12_needs h (f_X12_of h x1 0) x3)))) 60 0 x3.toNatClampNeg ((h.1 60 0 x3.toNatClampNeg) - (x2 * (f_X12_needs (hp_i h 61 0 x3.toNatClampNeg ((h.1 61 0 x3.toNatClampNeg) - (x2 * (f_X12_needs h (f_X12_of h x1 0) x3)))) (f_X12_of (hp_i h 61 0 x3.toNatClampNeg ((h.1 61 0 x3.toNatClampNeg) - (x2 * (f_X12_needs h (f_X12_of h x1 0) x3)))) x1 0) x3)))) x1 x2 (x3 + 1))
set_option maxHeartbeats 4000000 in
theorem lw_X12_takes0_12 {X : WD → State → Prop} {d rb : Nat} {Qr : Option AV → Hp → Prop} {Qx : String → Hp → Prop}   : ∀ (n : Nat) (h : Hp) (x1 : Int32) (x2 : Int32) (x3 : Int32), pw_X12_takes0_12 n h x1 x2 x3 → Qr none (gw_X12_takes0_12 n h x1 x2 x3) → AW X (d + 2) rb mX12_takes0 12 [(0, vR 12 0), (1, vI x1), (2, vI x2), (3, vI x3)] [] h Qr Qx := by
  intro n
  induction n with
  | zero => intro h x1 x2 x3 hp; exact hp.elim
  | succ n ih =>
    intro h x1 x2 x3 hp k
    rw [pw_X12_takes0_12] at hp
    rw [gw_X12_takes0_12] at k
    refine vc_X12_takes0_12 (d := d + 1)  ?_
    refine ⟨fun c => ?_, fun c => ?_⟩
    · replace hp := hp.1 c
      try simp only [if_pos c] at k
      exact k
    · replace hp := hp.2 c
      try simp only [if_neg c] at k
      refine ⟨hp.1, ?_⟩
      replace hp := hp.2
      refine c_X12_of  hp.1 ?_
      replace hp := hp.2
      refine c_X12_needs  hp.1 ?_
      replace hp := hp.2
      refine ⟨hp.1, ?_⟩
      replace hp := hp.2
      refine ⟨hp.1, ?_⟩
      replace hp := hp.2
      refine c_X12_of  hp.1 ?_
      replace hp := hp.2
      refine c_X12_needs  hp.1 ?_
      replace hp := hp.2
      refine ⟨hp.1, ?_⟩
      replace hp := hp.2
      exact ih _ _ _ _ hp k
def p_X12_takes0 (h : Hp) (a1 : Int32) (a2 : Int32) : Prop := (vp_in a1 20) ∧ ((vp_in a1 20) ∧ (pw_X12_takes0_12 oa_N (hp_i h 62 0 a1.toNatClampNeg ((h.1 62 0 a1.toNatClampNeg) + a2)) a1 a2 0))
def g_X12_takes0 (h : Hp) (a1 : Int32) (a2 : Int32) : Hp := gw_X12_takes0_12 oa_N (hp_i h 62 0 a1.toNatClampNeg ((h.1 62 0 a1.toNatClampNeg) + a2)) a1 a2 0
set_option maxHeartbeats 4000000 in
theorem c_X12_takes0 {d : Nat} {h : Hp} {P : Hp → Prop} {Qx : String → Hp → Prop} {a1 : Int32} {a2 : Int32}  (hp : p_X12_takes0 h a1 a2) (k : P  (g_X12_takes0 h a1 a2)) : CL 0 (d + 2) mX12_takes0 [vR 12 0, vI a1, vI a2] h (oV P) Qx := by
  replace k : oV P none (g_X12_takes0 h a1 a2) := k
  unfold p_X12_takes0 at hp
  unfold g_X12_takes0 at k
  refine CL.ofF (plainFor_of_name rfl) rfl (Nat.le_of_ble_eq_true rfl) (vc_X12_takes0_0 (d := d + 1)  ?_)
  refine ⟨hp.1, ?_⟩
  replace hp := hp.2
  refine ⟨hp.1, ?_⟩
  replace hp := hp.2
  exact lw_X12_takes0_12  _ _ _ _ _ hp k
def pw_X12_missingPieces_19 : Nat → Hp → Int32 → Int32 → Int32 → Prop
  | 0, _, _, _, _ => False
  | n + 1, h, x1, x2, x3 => (((h.1 56 0 0) ≤ x3) → True) ∧ ((¬ (h.1 56 0 0) ≤ x3) → (p_X12_open h x1 ∧ (p_X12_of h x1 0 ∧ (p_X12_needs h (f_X12_of h x1 0) x3 ∧ (p_X12_free h x3 ∧ (pw_X12_missingPieces_19 n h x1 (x2 + (if 0 < (((f_X12_open h x1) * (f_X12_needs h (f_X12_of h x1 0) x3)) - (f_X12_free h x3)) then (((f_X12_open h x1) * (f_X12_needs h (f_X12_of h x1 0) x3)) - (f_X12_free h x3)) else 0)) (x3 + 1)))))))
def fw_X12_missingPieces_19 : Nat → Hp → Int32 → Int32 → Int32 → Int32
  | 0, _, _, _, _ => 0
  | n + 1, h, x1, x2, x3 => if (h.1 56 0 0) ≤ x3 then x2 else (fw_X12_missingPieces_19 n h x1 (x2 + (if 0 < (((f_X12_open h x1) * (f_X12_needs h (f_X12_of h x1 0) x3)) - (f_X12_free h x3)) then (((f_X12_open h x1) * (f_X12_needs h (f_X12_of h x1 0) x3)) - (f_X12_free h x3)) else 0)) (x3 + 1))
def gw_X12_missingPieces_19 : Nat → Hp → Int32 → Int32 → Int32 → Hp
  | 0, h, _, _, _ => h
  | n + 1, h, x1, x2, x3 => if (h.1 56 0 0) ≤ x3 then h else (gw_X12_missingPieces_19 n h x1 (x2 + (if 0 < (((f_X12_open h x1) * (f_X12_needs h (f_X12_of h x1 0) x3)) - (f_X12_free h x3)) then (((f_X12_open h x1) * (f_X12_needs h (f_X12_of h x1 0) x3)) - (f_X12_free h x3)) else 0)) (x3 + 1))
set_option maxHeartbeats 4000000 in
theorem lw_X12_missingPieces_19 {X : WD → State → Prop} {d rb : Nat} {Qr : Option AV → Hp → Prop} {Qx : String → Hp → Prop}   : ∀ (n : Nat) (h : Hp) (x1 : Int32) (x2 : Int32) (x3 : Int32), pw_X12_missingPieces_19 n h x1 x2 x3 → Qr (some (vI (fw_X12_missingPieces_19 n h x1 x2 x3))) (gw_X12_missingPieces_19 n h x1 x2 x3) → AW X (d + 3) rb mX12_missingPieces 19 [(0, vR 12 0), (1, vI x1), (2, vI x2), (3, vI x3)] [] h Qr Qx := by
  intro n
  induction n with
  | zero => intro h x1 x2 x3 hp; exact hp.elim
  | succ n ih =>
    intro h x1 x2 x3 hp k
    rw [pw_X12_missingPieces_19] at hp
    rw [fw_X12_missingPieces_19] at k
    rw [gw_X12_missingPieces_19] at k
    refine vc_X12_missingPieces_19 (d := d + 2)  ?_
    refine ⟨fun c => ?_, fun c => ?_⟩
    · replace hp := hp.1 c
      try simp only [if_pos c] at k
      exact k
    · replace hp := hp.2 c
      try simp only [if_neg c] at k
      refine c_X12_open  hp.1 ?_
      replace hp := hp.2
      refine c_X12_of  hp.1 ?_
      replace hp := hp.2
      refine c_X12_needs  hp.1 ?_
      replace hp := hp.2
      refine c_X12_free  hp.1 ?_
      replace hp := hp.2
      exact ih _ _ _ _ hp k
def p_X12_missingPieces (h : Hp) (a1 : Int32) : Prop := p_X12_noOrder (hp_i h 12 0 0 0) a1 ∧ ((((f_X12_noOrder (hp_i h 12 0 0 0) a1) = 0) → (pw_X12_missingPieces_19 oa_N (g_X12_noOrder (hp_i h 12 0 0 0) a1) a1 0 0)) ∧ ((¬ (f_X12_noOrder (hp_i h 12 0 0 0) a1) = 0) → True))
def f_X12_missingPieces (h : Hp) (a1 : Int32) : Int32 := if (f_X12_noOrder (hp_i h 12 0 0 0) a1) = 0 then (fw_X12_missingPieces_19 oa_N (g_X12_noOrder (hp_i h 12 0 0 0) a1) a1 0 0) else 0
def g_X12_missingPieces (h : Hp) (a1 : Int32) : Hp := if (f_X12_noOrder (hp_i h 12 0 0 0) a1) = 0 then (gw_X12_missingPieces_19 oa_N (g_X12_noOrder (hp_i h 12 0 0 0) a1) a1 0 0) else (g_X12_noOrder (hp_i h 12 0 0 0) a1)
set_option maxHeartbeats 4000000 in
theorem c_X12_missingPieces {d : Nat} {h : Hp} {P : Int32 → Hp → Prop} {Qx : String → Hp → Prop} {a1 : Int32}  (hp : p_X12_missingPieces h a1) (k : P (f_X12_missingPieces h a1) (g_X12_missingPieces h a1)) : CL 0 (d + 3) mX12_missingPieces [vR 12 0, vI a1] h (oI P) Qx := by
  replace k : oI P (some (vI (f_X12_missingPieces h a1))) (g_X12_missingPieces h a1) := k
  unfold p_X12_missingPieces at hp
  unfold f_X12_missingPieces at k
  unfold g_X12_missingPieces at k
  refine CL.ofF (plainFor_of_name rfl) rfl (Nat.le_of_ble_eq_true rfl) (vc_X12_missingPieces_0 (d := d + 2)  ?_)
  refine c_X12_noOrder  hp.1 ?_
  replace hp := hp.2
  refine ⟨fun c => ?_, fun c => ?_⟩
  · replace hp := hp.1 c
    try simp only [if_pos c] at k
    exact lw_X12_missingPieces_19  _ _ _ _ _ hp k
  · replace hp := hp.2 c
    try simp only [if_neg c] at k
    exact k
def pw_X12_buildableAfter_62 : Nat → Hp → Int32 → Int32 → Int32 → Int32 → Int32 → Prop
  | 0, _, _, _, _, _, _ => False
  | n + 1, h, x1, x2, x3, x4, x5 => (((h.1 56 0 0) ≤ x5) → True) ∧ ((¬ (h.1 56 0 0) ≤ x5) → (p_X12_free h x5 ∧ (p_X12_needs h x2 x5 ∧ (p_X12_needs h x2 x5 ∧ ((((f_X12_needs h x2 x5) ≤ 0) → (p_X12_needs h x1 x5 ∧ ((((f_X12_needs h x1 x5) ≤ 0) → (pw_X12_buildableAfter_62 n h x1 x2 x3 x4 (x5 + 1))) ∧ ((¬ (f_X12_needs h x1 x5) ≤ 0) → (p_X12_needs h x1 x5 ∧ ((¬ (f_X12_needs h x1 x5) = 0) ∧ (pw_X12_buildableAfter_62 n h x1 x2 x3 (if (((f_X12_free h x5) - (x3 * (f_X12_needs h x2 x5))) / (f_X12_needs h x1 x5)) < x4 then (((f_X12_free h x5) - (x3 * (f_X12_needs h x2 x5))) / (f_X12_needs h x1 x5)) else x4) (x5 + 1)))))))) ∧ ((¬ (f_X12_needs h x2 x5) ≤ 0) → (((0 ≤ ((f_X12_free h x5) - (x3 * (f_X12_needs h x2 x5)))) → (p_X12_needs h x1 x5 ∧ ((((f_X12_needs h x1 x5) ≤ 0) → (pw_X12_buildableAfter_62 n h x1 x2 x3 x4 (x5 + 1))) ∧ ((¬ (f_X12_needs h x1 x5) ≤ 0) → (p_X12_needs h x1 x5 ∧ ((¬ (f_X12_needs h x1 x5) = 0) ∧ (pw_X12_buildableAfter_62 n h x1 x2 x3 (if (((f_X12_free h x5) - (x3 * (f_X12_needs h x2 x5))) / (f_X12_needs h x1 x5)) < x4 then (((f_X12_free h x5) - (x3 * (f_X12_needs h x2 x5))) / (f_X12_needs h x1 x5)) else x4) (x5 + 1)))))))) ∧ ((¬ 0 ≤ ((f_X12_free h x5) - (x3 * (f_X12_needs h x2 x5)))) → True))))))))
def fw_X12_buildableAfter_62 : Nat → Hp → Int32 → Int32 → Int32 → Int32 → Int32 → Int32
  | 0, _, _, _, _, _, _ => 0
  | n + 1, h, x1, x2, x3, x4, x5 => if (h.1 56 0 0) ≤ x5 then x4 else (if (f_X12_needs h x2 x5) ≤ 0 then (if (f_X12_needs h x1 x5) ≤ 0 then (fw_X12_buildableAfter_62 n h x1 x2 x3 x4 (x5 + 1)) else (fw_X12_buildableAfter_62 n h x1 x2 x3 (if (((f_X12_free h x5) - (x3 * (f_X12_needs h x2 x5))) / (f_X12_needs h x1 x5)) < x4 then (((f_X12_free h x5) - (x3 * (f_X12_needs h x2 x5))) / (f_X12_needs h x1 x5)) else x4) (x5 + 1))) else (if 0 ≤ ((f_X12_free h x5) - (x3 * (f_X12_needs h x2 x5))) then (if (f_X12_needs h x1 x5) ≤ 0 then (fw_X12_buildableAfter_62 n h x1 x2 x3 x4 (x5 + 1)) else (fw_X12_buildableAfter_62 n h x1 x2 x3 (if (((f_X12_free h x5) - (x3 * (f_X12_needs h x2 x5))) / (f_X12_needs h x1 x5)) < x4 then (((f_X12_free h x5) - (x3 * (f_X12_needs h x2 x5))) / (f_X12_needs h x1 x5)) else x4) (x5 + 1))) else (-1)))
def gw_X12_buildableAfter_62 : Nat → Hp → Int32 → Int32 → Int32 → Int32 → Int32 → Hp
  | 0, h, _, _, _, _, _ => h
  | n + 1, h, x1, x2, x3, x4, x5 => if (h.1 56 0 0) ≤ x5 then h else (if (f_X12_needs h x2 x5) ≤ 0 then (if (f_X12_needs h x1 x5) ≤ 0 then (gw_X12_buildableAfter_62 n h x1 x2 x3 x4 (x5 + 1)) else (gw_X12_buildableAfter_62 n h x1 x2 x3 (if (((f_X12_free h x5) - (x3 * (f_X12_needs h x2 x5))) / (f_X12_needs h x1 x5)) < x4 then (((f_X12_free h x5) - (x3 * (f_X12_needs h x2 x5))) / (f_X12_needs h x1 x5)) else x4) (x5 + 1))) else (if 0 ≤ ((f_X12_free h x5) - (x3 * (f_X12_needs h x2 x5))) then (if (f_X12_needs h x1 x5) ≤ 0 then (gw_X12_buildableAfter_62 n h x1 x2 x3 x4 (x5 + 1)) else (gw_X12_buildableAfter_62 n h x1 x2 x3 (if (((f_X12_free h x5) - (x3 * (f_X12_needs h x2 x5))) / (f_X12_needs h x1 x5)) < x4 then (((f_X12_free h x5) - (x3 * (f_X12_needs h x2 x5))) / (f_X12_needs h x1 x5)) else x4) (x5 + 1))) else h))
set_option maxHeartbeats 4000000 in
theorem lw_X12_buildableAfter_62 {X : WD → State → Prop} {d rb : Nat} {Qr : Option AV → Hp → Prop} {Qx : String → Hp → Prop}   : ∀ (n : Nat) (h : Hp) (x1 : Int32) (x2 : Int32) (x3 : Int32) (x4 : Int32) (x5 : Int32), pw_X12_buildableAfter_62 n h x1 x2 x3 x4 x5 → Qr (some (vI (fw_X12_buildableAfter_62 n h x1 x2 x3 x4 x5))) (gw_X12_buildableAfter_62 n h x1 x2 x3 x4 x5) → AW X (d + 4) rb mX12_buildableAfter 62 [(0, vR 12 0), (1, vI x1), (2, vI x2), (3, vI x3), (4, vI x4), (5, vI x5)] [] h Qr Qx := by
  intro n
  induction n with
  | zero => intro h x1 x2 x3 x4 x5 hp; exact hp.elim
  | succ n ih =>
    intro h x1 x2 x3 x4 x5 hp k
    rw [pw_X12_buildableAfter_62] at hp
    rw [fw_X12_buildableAfter_62] at k
    rw [gw_X12_buildableAfter_62] at k
    refine vc_X12_buildableAfter_62 (d := d + 3)  ?_
    refine ⟨fun c => ?_, fun c => ?_⟩
    · replace hp := hp.1 c
      try simp only [if_pos c] at k
      exact k
    · replace hp := hp.2 c
      try simp only [if_neg c] at k
      refine c_X12_free  hp.1 ?_
      replace hp := hp.2
      refine c_X12_needs  hp.1 ?_
      replace hp := hp.2
      refine c_X12_needs  hp.1 ?_
      replace hp := hp.2
      refine ⟨fun c => ?_, fun c => ?_⟩
      · replace hp := hp.1 c
        try simp only [if_pos c] at k
        refine c_X12_needs  hp.1 ?_
        replace hp := hp.2
        refine ⟨fun c => ?_, fun c => ?_⟩
        · replace hp := hp.1 c
          try simp only [if_pos c] at k
          exact ih _ _ _ _ _ _ hp k
        · replace hp := hp.2 c
          try simp only [if_neg c] at k
          refine c_X12_needs  hp.1 ?_
          replace hp := hp.2
          refine ⟨hp.1, ?_⟩
          replace hp := hp.2
          exact ih _ _ _ _ _ _ hp k
      · replace hp := hp.2 c
        try simp only [if_neg c] at k
        refine ⟨fun c => ?_, fun c => ?_⟩
        · replace hp := hp.1 c
          try simp only [if_pos c] at k
          refine c_X12_needs  hp.1 ?_
          replace hp := hp.2
          refine ⟨fun c => ?_, fun c => ?_⟩
          · replace hp := hp.1 c
            try simp only [if_pos c] at k
            exact ih _ _ _ _ _ _ hp k
          · replace hp := hp.2 c
            try simp only [if_neg c] at k
            refine c_X12_needs  hp.1 ?_
            replace hp := hp.2
            refine ⟨hp.1, ?_⟩
            replace hp := hp.2
            exact ih _ _ _ _ _ _ hp k
        · replace hp := hp.2 c
          try simp only [if_neg c] at k
          exact k
def p_X12_buildableAfter (h : Hp) (a1 : Int32) (a2 : Int32) (a3 : Int32) : Prop := p_X12_noProduct (hp_i h 12 0 0 0) a1 ∧ (((¬ (f_X12_noProduct (hp_i h 12 0 0 0) a1) = 0) → True) ∧ (((f_X12_noProduct (hp_i h 12 0 0 0) a1) = 0) → (p_X12_noProduct (g_X12_noProduct (hp_i h 12 0 0 0) a1) a2 ∧ (((¬ (f_X12_noProduct (g_X12_noProduct (hp_i h 12 0 0 0) a1) a2) = 0) → True) ∧ (((f_X12_noProduct (g_X12_noProduct (hp_i h 12 0 0 0) a1) a2) = 0) → (((a1 = a2) → (p_X12_throwsIf (g_X12_noProduct (g_X12_noProduct (hp_i h 12 0 0 0) a1) a2) 1 2 ∧ ((((f_X12_throwsIf (g_X12_noProduct (g_X12_noProduct (hp_i h 12 0 0 0) a1) a2) 1 2) = 0) → (p_X12_builds (g_X12_throwsIf (g_X12_noProduct (g_X12_noProduct (hp_i h 12 0 0 0) a1) a2) 1 2) a1 ∧ (pw_X12_buildableAfter_62 oa_N (g_X12_throwsIf (g_X12_noProduct (g_X12_noProduct (hp_i h 12 0 0 0) a1) a2) 1 2) a1 a2 a3 (f_X12_builds (g_X12_throwsIf (g_X12_noProduct (g_X12_noProduct (hp_i h 12 0 0 0) a1) a2) 1 2) a1) 0))) ∧ ((¬ (f_X12_throwsIf (g_X12_noProduct (g_X12_noProduct (hp_i h 12 0 0 0) a1) a2) 1 2) = 0) → True)))) ∧ ((¬ a1 = a2) → (p_X12_in (g_X12_noProduct (g_X12_noProduct (hp_i h 12 0 0 0) a1) a2) a3 0 999 ∧ (p_X12_throwsIf (g_X12_noProduct (g_X12_noProduct (hp_i h 12 0 0 0) a1) a2) (if ¬ (f_X12_in (g_X12_noProduct (g_X12_noProduct (hp_i h 12 0 0 0) a1) a2) a3 0 999) = 0 then (0 : Int32) else 1) 2 ∧ ((((f_X12_throwsIf (g_X12_noProduct (g_X12_noProduct (hp_i h 12 0 0 0) a1) a2) (if ¬ (f_X12_in (g_X12_noProduct (g_X12_noProduct (hp_i h 12 0 0 0) a1) a2) a3 0 999) = 0 then (0 : Int32) else 1) 2) = 0) → (p_X12_builds (g_X12_throwsIf (g_X12_noProduct (g_X12_noProduct (hp_i h 12 0 0 0) a1) a2) (if ¬ (f_X12_in (g_X12_noProduct (g_X12_noProduct (hp_i h 12 0 0 0) a1) a2) a3 0 999) = 0 then (0 : Int32) else 1) 2) a1 ∧ (pw_X12_buildableAfter_62 oa_N (g_X12_throwsIf (g_X12_noProduct (g_X12_noProduct (hp_i h 12 0 0 0) a1) a2) (if ¬ (f_X12_in (g_X12_noProduct (g_X12_noProduct (hp_i h 12 0 0 0) a1) a2) a3 0 999) = 0 then (0 : Int32) else 1) 2) a1 a2 a3 (f_X12_builds (g_X12_throwsIf (g_X12_noProduct (g_X12_noProduct (hp_i h 12 0 0 0) a1) a2) (if ¬ (f_X12_in (g_X12_noProduct (g_X12_noProduct (hp_i h 12 0 0 0) a1) a2) a3 0 999) = 0 then (0 : Int32) else 1) 2) a1) 0))) ∧ ((¬ (f_X12_throwsIf (g_X12_noProduct (g_X12_noProduct (hp_i h 12 0 0 0) a1) a2) (if ¬ (f_X12_in (g_X12_noProduct (g_X12_noProduct (hp_i h 12 0 0 0) a1) a2) a3 0 999) = 0 then (0 : Int32) else 1) 2) = 0) → True)))))))))))
def f_X12_buildableAfter (h : Hp) (a1 : Int32) (a2 : Int32) (a3 : Int32) : Int32 := if ¬ (f_X12_noProduct (hp_i h 12 0 0 0) a1) = 0 then 0 else (if ¬ (f_X12_noProduct (g_X12_noProduct (hp_i h 12 0 0 0) a1) a2) = 0 then 0 else (if a1 = a2 then (if (f_X12_throwsIf (g_X12_noProduct (g_X12_noProduct (hp_i h 12 0 0 0) a1) a2) 1 2) = 0 then (fw_X12_buildableAfter_62 oa_N (g_X12_throwsIf (g_X12_noProduct (g_X12_noProduct (hp_i h 12 0 0 0) a1) a2) 1 2) a1 a2 a3 (f_X12_builds (g_X12_throwsIf (g_X12_noProduct (g_X12_noProduct (hp_i h 12 0 0 0) a1) a2) 1 2) a1) 0) else 0) else (if (f_X12_throwsIf (g_X12_noProduct (g_X12_noProduct (hp_i h 12 0 0 0) a1) a2) (if ¬ (f_X12_in (g_X12_noProduct (g_X12_noProduct (hp_i h 12 0 0 0) a1) a2) a3 0 999) = 0 then (0 : Int32) else 1) 2) = 0 then (fw_X12_buildableAfter_62 oa_N (g_X12_throwsIf (g_X12_noProduct (g_X12_noProduct (hp_i h 12 0 0 0) a1) a2) (if ¬ (f_X12_in (g_X12_noProduct (g_X12_noProduct (hp_i h 12 0 0 0) a1) a2) a3 0 999) = 0 then (0 : Int32) else 1) 2) a1 a2 a3 (f_X12_builds (g_X12_throwsIf (g_X12_noProduct (g_X12_noProduct (hp_i h 12 0 0 0) a1) a2) (if ¬ (f_X12_in (g_X12_noProduct (g_X12_noProduct (hp_i h 12 0 0 0) a1) a2) a3 0 999) = 0 then (0 : Int32) else 1) 2) a1) 0) else 0)))
def g_X12_buildableAfter (h : Hp) (a1 : Int32) (a2 : Int32) (a3 : Int32) : Hp := if ¬ (f_X12_noProduct (hp_i h 12 0 0 0) a1) = 0 then (g_X12_noProduct (hp_i h 12 0 0 0) a1) else (if ¬ (f_X12_noProduct (g_X12_noProduct (hp_i h 12 0 0 0) a1) a2) = 0 then (g_X12_noProduct (g_X12_noProduct (hp_i h 12 0 0 0) a1) a2) else (if a1 = a2 then (if (f_X12_throwsIf (g_X12_noProduct (g_X12_noProduct (hp_i h 12 0 0 0) a1) a2) 1 2) = 0 then (gw_X12_buildableAfter_62 oa_N (g_X12_throwsIf (g_X12_noProduct (g_X12_noProduct (hp_i h 12 0 0 0) a1) a2) 1 2) a1 a2 a3 (f_X12_builds (g_X12_throwsIf (g_X12_noProduct (g_X12_noProduct (hp_i h 12 0 0 0) a1) a2) 1 2) a1) 0) else (g_X12_throwsIf (g_X12_noProduct (g_X12_noProduct (hp_i h 12 0 0 0) a1) a2) 1 2)) else (if (f_X12_throwsIf (g_X12_noProduct (g_X12_noProduct (hp_i h 12 0 0 0) a1) a2) (if ¬ (f_X12_in (g_X12_noProduct (g_X12_noProduct (hp_i h 12 0 0 0) a1) a2) a3 0 999) = 0 then (0 : Int32) else 1) 2) = 0 then (gw_X12_buildableAfter_62 oa_N (g_X12_throwsIf (g_X12_noProduct (g_X12_noProduct (hp_i h 12 0 0 0) a1) a2) (if ¬ (f_X12_in (g_X12_noProduct (g_X12_noProduct (hp_i h 12 0 0 0) a1) a2) a3 0 999) = 0 then (0 : Int32) else 1) 2) a1 a2 a3 (f_X12_builds (g_X12_throwsIf (g_X12_noProduct (g_X12_noProduct (hp_i h 12 0 0 0) a1) a2) (if ¬ (f_X12_in (g_X12_noProduct (g_X12_noProduct (hp_i h 12 0 0 0) a1) a2) a3 0 999) = 0 then (0 : Int32) else 1) 2) a1) 0) else (g_X12_throwsIf (g_X12_noProduct (g_X12_noProduct (hp_i h 12 0 0 0) a1) a2) (if ¬ (f_X12_in (g_X12_noProduct (g_X12_noProduct (hp_i h 12 0 0 0) a1) a2) a3 0 999) = 0 then (0 : Int32) else 1) 2))))
set_option maxHeartbeats 4000000 in
theorem c_X12_buildableAfter {d : Nat} {h : Hp} {P : Int32 → Hp → Prop} {Qx : String → Hp → Prop} {a1 : Int32} {a2 : Int32} {a3 : Int32}  (hp : p_X12_buildableAfter h a1 a2 a3) (k : P (f_X12_buildableAfter h a1 a2 a3) (g_X12_buildableAfter h a1 a2 a3)) : CL 0 (d + 4) mX12_buildableAfter [vR 12 0, vI a1, vI a2, vI a3] h (oI P) Qx := by
  replace k : oI P (some (vI (f_X12_buildableAfter h a1 a2 a3))) (g_X12_buildableAfter h a1 a2 a3) := k
  unfold p_X12_buildableAfter at hp
  unfold f_X12_buildableAfter at k
  unfold g_X12_buildableAfter at k
  refine CL.ofF (plainFor_of_name rfl) rfl (Nat.le_of_ble_eq_true rfl) (vc_X12_buildableAfter_0 (d := d + 3)  ?_)
  refine c_X12_noProduct  hp.1 ?_
  replace hp := hp.2
  refine ⟨fun c => ?_, fun c => ?_⟩
  · replace hp := hp.1 c
    try simp only [if_pos c] at k
    exact k
  · replace hp := hp.2 c
    try simp only [if_neg (oa_nn c)] at k
    refine c_X12_noProduct  hp.1 ?_
    replace hp := hp.2
    refine ⟨fun c => ?_, fun c => ?_⟩
    · replace hp := hp.1 c
      try simp only [if_pos c] at k
      exact k
    · replace hp := hp.2 c
      try simp only [if_neg (oa_nn c)] at k
      refine ⟨fun c => ?_, fun c => ?_⟩
      · replace hp := hp.1 c
        try simp only [if_pos c] at k
        refine c_X12_throwsIf  hp.1 ?_
        replace hp := hp.2
        refine ⟨fun c => ?_, fun c => ?_⟩
        · replace hp := hp.1 c
          try simp only [if_pos c] at k
          refine c_X12_builds  hp.1 ?_
          replace hp := hp.2
          exact lw_X12_buildableAfter_62  _ _ _ _ _ _ _ hp k
        · replace hp := hp.2 c
          try simp only [if_neg c] at k
          exact k
      · replace hp := hp.2 c
        try simp only [if_neg c] at k
        refine c_X12_in  hp.1 ?_
        replace hp := hp.2
        refine c_X12_throwsIf  hp.1 ?_
        replace hp := hp.2
        refine ⟨fun c => ?_, fun c => ?_⟩
        · replace hp := hp.1 c
          try simp only [if_pos c] at k
          refine c_X12_builds  hp.1 ?_
          replace hp := hp.2
          exact lw_X12_buildableAfter_62  _ _ _ _ _ _ _ hp k
        · replace hp := hp.2 c
          try simp only [if_neg c] at k
          exact k
def pw_X12_nextOpen_4 : Nat → Hp → Int32 → Int32 → Int32 → Prop
  | 0, _, _, _, _ => False
  | n + 1, h, x1, x2, x3 => (((h.1 58 0 1) ≤ x3) → True) ∧ ((¬ (h.1 58 0 1) ≤ x3) → (((¬ ((x1 >>> (x3 &&& 31)) &&& 1) = 0) → (pw_X12_nextOpen_4 n h x1 x2 (x3 + 1))) ∧ ((((x1 >>> (x3 &&& 31)) &&& 1) = 0) → (p_X12_open h x3 ∧ ((((f_X12_open h x3) ≤ 0) → (pw_X12_nextOpen_4 n h x1 x2 (x3 + 1))) ∧ ((¬ (f_X12_open h x3) ≤ 0) → (((x2 = (-1)) → (pw_X12_nextOpen_4 n h x1 x3 (x3 + 1))) ∧ ((¬ x2 = (-1)) → (p_X12_isAhead h x3 x2 ∧ ((((f_X12_isAhead h x3 x2) = 0) → (pw_X12_nextOpen_4 n h x1 x2 (x3 + 1))) ∧ ((¬ (f_X12_isAhead h x3 x2) = 0) → (pw_X12_nextOpen_4 n h x1 x3 (x3 + 1)))))))))))))
def fw_X12_nextOpen_4 : Nat → Hp → Int32 → Int32 → Int32 → Int32
  | 0, _, _, _, _ => 0
  | n + 1, h, x1, x2, x3 => if (h.1 58 0 1) ≤ x3 then x2 else (if ¬ ((x1 >>> (x3 &&& 31)) &&& 1) = 0 then (fw_X12_nextOpen_4 n h x1 x2 (x3 + 1)) else (if (f_X12_open h x3) ≤ 0 then (fw_X12_nextOpen_4 n h x1 x2 (x3 + 1)) else (if x2 = (-1) then (fw_X12_nextOpen_4 n h x1 x3 (x3 + 1)) else (if (f_X12_isAhead h x3 x2) = 0 then (fw_X12_nextOpen_4 n h x1 x2 (x3 + 1)) else (fw_X12_nextOpen_4 n h x1 x3 (x3 + 1))))))
set_option maxHeartbeats 4000000 in
theorem lw_X12_nextOpen_4 {X : WD → State → Prop} {d rb : Nat} {Qr : Option AV → Hp → Prop} {Qx : String → Hp → Prop}   : ∀ (n : Nat) (h : Hp) (x1 : Int32) (x2 : Int32) (x3 : Int32), pw_X12_nextOpen_4 n h x1 x2 x3 → Qr (some (vI (fw_X12_nextOpen_4 n h x1 x2 x3))) h → AW X (d + 3) rb mX12_nextOpen 4 [(0, vR 12 0), (1, vI x1), (2, vI x2), (3, vI x3)] [] h Qr Qx := by
  intro n
  induction n with
  | zero => intro h x1 x2 x3 hp; exact hp.elim
  | succ n ih =>
    intro h x1 x2 x3 hp k
    rw [pw_X12_nextOpen_4] at hp
    rw [fw_X12_nextOpen_4] at k
    refine vc_X12_nextOpen_4 (d := d + 2)  ?_
    refine ⟨fun c => ?_, fun c => ?_⟩
    · replace hp := hp.1 c
      try simp only [if_pos c] at k
      exact k
    · replace hp := hp.2 c
      try simp only [if_neg c] at k
      refine ⟨fun c => ?_, fun c => ?_⟩
      · replace hp := hp.1 c
        try simp only [if_pos c] at k
        exact ih _ _ _ _ hp k
      · replace hp := hp.2 c
        try simp only [if_neg (oa_nn c)] at k
        refine c_X12_open  hp.1 ?_
        replace hp := hp.2
        refine ⟨fun c => ?_, fun c => ?_⟩
        · replace hp := hp.1 c
          try simp only [if_pos c] at k
          exact ih _ _ _ _ hp k
        · replace hp := hp.2 c
          try simp only [if_neg c] at k
          refine ⟨fun c => ?_, fun c => ?_⟩
          · replace hp := hp.1 c
            try simp only [if_pos c] at k
            exact ih _ _ _ _ hp k
          · replace hp := hp.2 c
            try simp only [if_neg c] at k
            refine c_X12_isAhead  hp.1 ?_
            replace hp := hp.2
            refine ⟨fun c => ?_, fun c => ?_⟩
            · replace hp := hp.1 c
              try simp only [if_pos c] at k
              exact ih _ _ _ _ hp k
            · replace hp := hp.2 c
              try simp only [if_neg c] at k
              exact ih _ _ _ _ hp k
def p_X12_nextOpen (h : Hp) (a1 : Int32) : Prop := pw_X12_nextOpen_4 oa_N h a1 (-1) 0
def f_X12_nextOpen (h : Hp) (a1 : Int32) : Int32 := fw_X12_nextOpen_4 oa_N h a1 (-1) 0
set_option maxHeartbeats 4000000 in
theorem c_X12_nextOpen {d : Nat} {h : Hp} {P : Int32 → Hp → Prop} {Qx : String → Hp → Prop} {a1 : Int32}  (hp : p_X12_nextOpen h a1) (k : P (f_X12_nextOpen h a1) h) : CL 0 (d + 3) mX12_nextOpen [vR 12 0, vI a1] h (oI P) Qx := by
  replace k : oI P (some (vI (f_X12_nextOpen h a1))) h := k
  unfold p_X12_nextOpen at hp
  unfold f_X12_nextOpen at k
  refine CL.ofF (plainFor_of_name rfl) rfl (Nat.le_of_ble_eq_true rfl) (vc_X12_nextOpen_0 (d := d + 2)  ?_)
  exact lw_X12_nextOpen_4  _ _ _ _ _ hp k
def pw_X12_isCovered_48 : Nat → Hp → Int32 → Int32 → Prop
  | 0, _, _, _ => False
  | n + 1, h, x1, x2 => (((h.1 56 0 0) ≤ x2) → True) ∧ ((¬ (h.1 56 0 0) ≤ x2) → ((vp_in x2 12) ∧ (p_X12_open h x1 ∧ (p_X12_of h x1 0 ∧ (p_X12_needs h (f_X12_of h x1 0) x2 ∧ ((vp_in x2 12) ∧ (pw_X12_isCovered_48 n (hp_i h 60 0 x2.toNatClampNeg ((h.1 60 0 x2.toNatClampNeg) - ((f_X12_open h x1) * (f_X12_needs h (f_X12_of h x1 0) x2)))) x1 (x2 + 1))))))))
def fw_X12_isCovered_48 : Nat → Hp → Int32 → Int32 → Int32
  | 0, _, _, _ => 0
  | n + 1, h, x1, x2 => if (h.1 56 0 0) ≤ x2 then 1 else (fw_X12_isCovered_48 n (hp_i h 60 0 x2.toNatClampNeg ((h.1 60 0 x2.toNatClampNeg) - ((f_X12_open h x1) * (f_X12_needs h (f_X12_of h x1 0) x2)))) x1 (x2 + 1))
def gw_X12_isCovered_48 : Nat → Hp → Int32 → Int32 → Hp
  | 0, h, _, _ => h
  | n + 1, h, x1, x2 => if (h.1 56 0 0) ≤ x2 then h else (gw_X12_isCovered_48 n (hp_i h 60 0 x2.toNatClampNeg ((h.1 60 0 x2.toNatClampNeg) - ((f_X12_open h x1) * (f_X12_needs h (f_X12_of h x1 0) x2)))) x1 (x2 + 1))
set_option maxHeartbeats 4000000 in
theorem lw_X12_isCovered_48 {X : WD → State → Prop} {d rb : Nat} {Qr : Option AV → Hp → Prop} {Qx : String → Hp → Prop}   : ∀ (n : Nat) (h : Hp) (x1 : Int32) (x2 : Int32), pw_X12_isCovered_48 n h x1 x2 → Qr (some (vI (fw_X12_isCovered_48 n h x1 x2))) (gw_X12_isCovered_48 n h x1 x2) → AW X (d + 3) rb mX12_isCovered 48 [(0, vR 12 0), (1, vI x1), (2, vI x2)] [] h Qr Qx := by
  intro n
  induction n with
  | zero => intro h x1 x2 hp; exact hp.elim
  | succ n ih =>
    intro h x1 x2 hp k
    rw [pw_X12_isCovered_48] at hp
    rw [fw_X12_isCovered_48] at k
    rw [gw_X12_isCovered_48] at k
    refine vc_X12_isCovered_48 (d := d + 2)  ?_
    refine ⟨fun c => ?_, fun c => ?_⟩
    · replace hp := hp.1 c
      try simp only [if_pos c] at k
      exact k
    · replace hp := hp.2 c
      try simp only [if_neg c] at k
      refine ⟨hp.1, ?_⟩
      replace hp := hp.2
      refine c_X12_open  hp.1 ?_
      replace hp := hp.2
      refine c_X12_of  hp.1 ?_
      replace hp := hp.2
      refine c_X12_needs  hp.1 ?_
      replace hp := hp.2
      refine ⟨hp.1, ?_⟩
      replace hp := hp.2
      exact ih _ _ _ hp k
def pw_X12_isCovered_2 : Nat → Hp → Int32 → Int32 → Prop
  | 0, _, _, _ => False
  | n + 1, h, x1, x2 => (((h.1 56 0 0) ≤ x2) → (pw_X12_isCovered_48 oa_N h x1 0)) ∧ ((¬ (h.1 56 0 0) ≤ x2) → (p_X12_open h x1 ∧ (p_X12_of h x1 0 ∧ (p_X12_needs h (f_X12_of h x1 0) x2 ∧ ((vp_in x2 12) ∧ (((((f_X12_open h x1) * (f_X12_needs h (f_X12_of h x1 0) x2)) ≤ (h.1 60 0 x2.toNatClampNeg)) → (pw_X12_isCovered_2 n h x1 (x2 + 1))) ∧ ((¬ ((f_X12_open h x1) * (f_X12_needs h (f_X12_of h x1 0) x2)) ≤ (h.1 60 0 x2.toNatClampNeg)) → True)))))))
def fw_X12_isCovered_2 : Nat → Hp → Int32 → Int32 → Int32
  | 0, _, _, _ => 0
  | n + 1, h, x1, x2 => if (h.1 56 0 0) ≤ x2 then (fw_X12_isCovered_48 oa_N h x1 0) else (if ((f_X12_open h x1) * (f_X12_needs h (f_X12_of h x1 0) x2)) ≤ (h.1 60 0 x2.toNatClampNeg) then (fw_X12_isCovered_2 n h x1 (x2 + 1)) else 0)
def gw_X12_isCovered_2 : Nat → Hp → Int32 → Int32 → Hp
  | 0, h, _, _ => h
  | n + 1, h, x1, x2 => if (h.1 56 0 0) ≤ x2 then (gw_X12_isCovered_48 oa_N h x1 0) else (if ((f_X12_open h x1) * (f_X12_needs h (f_X12_of h x1 0) x2)) ≤ (h.1 60 0 x2.toNatClampNeg) then (gw_X12_isCovered_2 n h x1 (x2 + 1)) else h)
set_option maxHeartbeats 4000000 in
theorem lw_X12_isCovered_2 {X : WD → State → Prop} {d rb : Nat} {Qr : Option AV → Hp → Prop} {Qx : String → Hp → Prop}   : ∀ (n : Nat) (h : Hp) (x1 : Int32) (x2 : Int32), pw_X12_isCovered_2 n h x1 x2 → Qr (some (vI (fw_X12_isCovered_2 n h x1 x2))) (gw_X12_isCovered_2 n h x1 x2) → AW X (d + 3) rb mX12_isCovered 2 [(0, vR 12 0), (1, vI x1), (2, vI x2)] [] h Qr Qx := by
  intro n
  induction n with
  | zero => intro h x1 x2 hp; exact hp.elim
  | succ n ih =>
    intro h x1 x2 hp k
    rw [pw_X12_isCovered_2] at hp
    rw [fw_X12_isCovered_2] at k
    rw [gw_X12_isCovered_2] at k
    refine vc_X12_isCovered_2 (d := d + 2)  ?_
    refine ⟨fun c => ?_, fun c => ?_⟩
    · replace hp := hp.1 c
      try simp only [if_pos c] at k
      exact lw_X12_isCovered_48  _ _ _ _ hp k
    · replace hp := hp.2 c
      try simp only [if_neg c] at k
      refine c_X12_open  hp.1 ?_
      replace hp := hp.2
      refine c_X12_of  hp.1 ?_
      replace hp := hp.2
      refine c_X12_needs  hp.1 ?_
      replace hp := hp.2
      refine ⟨hp.1, ?_⟩
      replace hp := hp.2
      refine ⟨fun c => ?_, fun c => ?_⟩
      · replace hp := hp.1 c
        try simp only [if_pos c] at k
        exact ih _ _ _ hp k
      · replace hp := hp.2 c
        try simp only [if_neg c] at k
        exact k
def p_X12_isCovered (h : Hp) (a1 : Int32) : Prop := pw_X12_isCovered_2 oa_N h a1 0
def f_X12_isCovered (h : Hp) (a1 : Int32) : Int32 := fw_X12_isCovered_2 oa_N h a1 0
def g_X12_isCovered (h : Hp) (a1 : Int32) : Hp := gw_X12_isCovered_2 oa_N h a1 0
set_option maxHeartbeats 4000000 in
theorem c_X12_isCovered {d : Nat} {h : Hp} {P : Int32 → Hp → Prop} {Qx : String → Hp → Prop} {a1 : Int32}  (hp : p_X12_isCovered h a1) (k : P (f_X12_isCovered h a1) (g_X12_isCovered h a1)) : CL 0 (d + 3) mX12_isCovered [vR 12 0, vI a1] h (oI P) Qx := by
  replace k : oI P (some (vI (f_X12_isCovered h a1))) (g_X12_isCovered h a1) := k
  unfold p_X12_isCovered at hp
  unfold f_X12_isCovered at k
  unfold g_X12_isCovered at k
  refine CL.ofF (plainFor_of_name rfl) rfl (Nat.le_of_ble_eq_true rfl) (vc_X12_isCovered_0 (d := d + 2)  ?_)
  exact lw_X12_isCovered_2  _ _ _ _ hp k
def pi_X12_promiseOfAll_29 : Nat → Hp → Int32 → Int32 → Int32 → Int32 → Prop
  | 0, _, _, _, _, _ => False
  | n + 1, h, x1, x2, x3, x4 => (((h.1 58 0 1) ≤ x4) → True) ∧ ((¬ (h.1 58 0 1) ≤ x4) → (p_X12_open h x4 ∧ (p_X12_of h x4 0 ∧ (p_X12_needs h (f_X12_of h x4 0) x2 ∧ (pi_X12_promiseOfAll_29 n h x1 x2 (x3 + ((f_X12_open h x4) * (f_X12_needs h (f_X12_of h x4 0) x2))) (x4 + 1))))))
def iw_x3_X12_promiseOfAll_29 : Nat → Hp → Int32 → Int32 → Int32 → Int32 → Int32
  | 0, _, _, _, x3, _ => x3
  | n + 1, h, x1, x2, x3, x4 => if (h.1 58 0 1) ≤ x4 then x3 else (iw_x3_X12_promiseOfAll_29 n h x1 x2 (x3 + ((f_X12_open h x4) * (f_X12_needs h (f_X12_of h x4 0) x2))) (x4 + 1))
def iw_x4_X12_promiseOfAll_29 : Nat → Hp → Int32 → Int32 → Int32 → Int32 → Int32
  | 0, _, _, _, _, x4 => x4
  | n + 1, h, x1, x2, x3, x4 => if (h.1 58 0 1) ≤ x4 then x4 else (iw_x4_X12_promiseOfAll_29 n h x1 x2 (x3 + ((f_X12_open h x4) * (f_X12_needs h (f_X12_of h x4 0) x2))) (x4 + 1))
set_option maxHeartbeats 4000000 in
theorem li_X12_promiseOfAll_29 {X : WD → State → Prop} {d rb : Nat} {Qr : Option AV → Hp → Prop} {Qx : String → Hp → Prop}   : ∀ (n : Nat) (h : Hp) (x1 : Int32) (x2 : Int32) (x3 : Int32) (x4 : Int32), pi_X12_promiseOfAll_29 n h x1 x2 x3 x4 → AW X (d + 3) rb mX12_promiseOfAll 68 [(0, vR 12 0), (1, vI x1), (2, vI x2), (3, vI (iw_x3_X12_promiseOfAll_29 n h x1 x2 x3 x4)), (4, vI (iw_x4_X12_promiseOfAll_29 n h x1 x2 x3 x4))] [] h Qr Qx → AW X (d + 3) rb mX12_promiseOfAll 29 [(0, vR 12 0), (1, vI x1), (2, vI x2), (3, vI x3), (4, vI x4)] [] h Qr Qx := by
  intro n
  induction n with
  | zero => intro h x1 x2 x3 x4 hp; exact hp.elim
  | succ n ih =>
    intro h x1 x2 x3 x4 hp k
    rw [pi_X12_promiseOfAll_29] at hp
    simp only [iw_x3_X12_promiseOfAll_29, iw_x4_X12_promiseOfAll_29] at k
    refine vc_X12_promiseOfAll_29 (d := d + 2)  ?_
    refine ⟨fun c => ?_, fun c => ?_⟩
    · replace hp := hp.1 c
      try simp only [if_pos c] at k
      exact k
    · replace hp := hp.2 c
      try simp only [if_neg c] at k
      refine c_X12_open  hp.1 ?_
      replace hp := hp.2
      refine c_X12_of  hp.1 ?_
      replace hp := hp.2
      refine c_X12_needs  hp.1 ?_
      replace hp := hp.2
      exact ih _ _ _ _ _ hp k
def pw_X12_promiseOfAll_14 : Nat → Hp → Int32 → Int32 → Prop
  | 0, _, _, _ => False
  | n + 1, h, x1, x2 => (((h.1 56 0 0) ≤ x2) → True) ∧ ((¬ (h.1 56 0 0) ≤ x2) → (pi_X12_promiseOfAll_29 oa_N h x1 x2 0 0 ∧ ((((iw_x3_X12_promiseOfAll_29 oa_N h x1 x2 0 0) ≤ 0) → (pw_X12_promiseOfAll_14 n h x1 (x2 + 1))) ∧ ((¬ (iw_x3_X12_promiseOfAll_29 oa_N h x1 x2 0 0) ≤ 0) → (p_X12_dayOf h x2 (iw_x3_X12_promiseOfAll_29 oa_N h x1 x2 0 0) ∧ (pw_X12_promiseOfAll_14 n h (if x1 < (f_X12_dayOf h x2 (iw_x3_X12_promiseOfAll_29 oa_N h x1 x2 0 0)) then (f_X12_dayOf h x2 (iw_x3_X12_promiseOfAll_29 oa_N h x1 x2 0 0)) else x1) (x2 + 1)))))))
def fw_X12_promiseOfAll_14 : Nat → Hp → Int32 → Int32 → Int32
  | 0, _, _, _ => 0
  | n + 1, h, x1, x2 => if (h.1 56 0 0) ≤ x2 then x1 else (if (iw_x3_X12_promiseOfAll_29 oa_N h x1 x2 0 0) ≤ 0 then (fw_X12_promiseOfAll_14 n h x1 (x2 + 1)) else (fw_X12_promiseOfAll_14 n h (if x1 < (f_X12_dayOf h x2 (iw_x3_X12_promiseOfAll_29 oa_N h x1 x2 0 0)) then (f_X12_dayOf h x2 (iw_x3_X12_promiseOfAll_29 oa_N h x1 x2 0 0)) else x1) (x2 + 1)))
def gw_X12_promiseOfAll_14 : Nat → Hp → Int32 → Int32 → Hp
  | 0, h, _, _ => h
  | n + 1, h, x1, x2 => if (h.1 56 0 0) ≤ x2 then h else (if (iw_x3_X12_promiseOfAll_29 oa_N h x1 x2 0 0) ≤ 0 then (gw_X12_promiseOfAll_14 n h x1 (x2 + 1)) else (gw_X12_promiseOfAll_14 n h (if x1 < (f_X12_dayOf h x2 (iw_x3_X12_promiseOfAll_29 oa_N h x1 x2 0 0)) then (f_X12_dayOf h x2 (iw_x3_X12_promiseOfAll_29 oa_N h x1 x2 0 0)) else x1) (x2 + 1)))
set_option maxHeartbeats 4000000 in
theorem lw_X12_promiseOfAll_14 {X : WD → State → Prop} {d rb : Nat} {Qr : Option AV → Hp → Prop} {Qx : String → Hp → Prop}   : ∀ (n : Nat) (h : Hp) (x1 : Int32) (x2 : Int32), pw_X12_promiseOfAll_14 n h x1 x2 → Qr (some (vI (fw_X12_promiseOfAll_14 n h x1 x2))) (gw_X12_promiseOfAll_14 n h x1 x2) → AW X (d + 3) rb mX12_promiseOfAll 14 [(0, vR 12 0), (1, vI x1), (2, vI x2)] [] h Qr Qx := by
  intro n
  induction n with
  | zero => intro h x1 x2 hp; exact hp.elim
  | succ n ih =>
    intro h x1 x2 hp k
    rw [pw_X12_promiseOfAll_14] at hp
    rw [fw_X12_promiseOfAll_14] at k
    rw [gw_X12_promiseOfAll_14] at k
    refine vc_X12_promiseOfAll_14 (d := d + 2)  ?_
    refine ⟨fun c => ?_, fun c => ?_⟩
    · replace hp := hp.1 c
      try simp only [if_pos c] at k
      exact k
    · replace hp := hp.2 c
      try simp only [if_neg c] at k
      refine li_X12_promiseOfAll_29  _ _ _ _ _ _ hp.1 ?_
      replace hp := hp.2
      refine vc_X12_promiseOfAll_68 (d := d + 2)  ?_
      refine ⟨fun c => ?_, fun c => ?_⟩
      · replace hp := hp.1 c
        try simp only [if_pos c] at k
        exact ih _ _ _ hp k
      · replace hp := hp.2 c
        try simp only [if_neg c] at k
        refine c_X12_dayOf  hp.1 ?_
        replace hp := hp.2
        exact ih _ _ _ hp k
def p_X12_promiseOfAll (h : Hp)  : Prop := pw_X12_promiseOfAll_14 oa_N (hp_i h 12 0 0 0) (h.1 58 0 0) 0
def f_X12_promiseOfAll (h : Hp)  : Int32 := fw_X12_promiseOfAll_14 oa_N (hp_i h 12 0 0 0) (h.1 58 0 0) 0
def g_X12_promiseOfAll (h : Hp)  : Hp := gw_X12_promiseOfAll_14 oa_N (hp_i h 12 0 0 0) (h.1 58 0 0) 0
set_option maxHeartbeats 4000000 in
theorem c_X12_promiseOfAll {d : Nat} {h : Hp} {P : Int32 → Hp → Prop} {Qx : String → Hp → Prop}   (hp : p_X12_promiseOfAll h ) (k : P (f_X12_promiseOfAll h ) (g_X12_promiseOfAll h )) : CL 0 (d + 3) mX12_promiseOfAll [vR 12 0] h (oI P) Qx := by
  replace k : oI P (some (vI (f_X12_promiseOfAll h ))) (g_X12_promiseOfAll h ) := k
  unfold p_X12_promiseOfAll at hp
  unfold f_X12_promiseOfAll at k
  unfold g_X12_promiseOfAll at k
  refine CL.ofF (plainFor_of_name rfl) rfl (Nat.le_of_ble_eq_true rfl) (vc_X12_promiseOfAll_0 (d := d + 2)  ?_)
  exact lw_X12_promiseOfAll_14  _ _ _ _ hp k
def pw_X12_addOrder_109 : Nat → Hp → Int32 → Int32 → Int32 → Int32 → Int32 → Int32 → Int32 → Int32 → Prop
  | 0, _, _, _, _, _, _, _, _, _ => False
  | n + 1, h, x1, x2, x3, x4, x5, x6, x7, x8 => ((8 ≤ x8) → ((vp_in (x7 + 0) 301) ∧ ((vp_in (x7 + 1) 301) ∧ ((vp_in (x7 + 2) 301) ∧ ((vp_in (x7 + 3) 301) ∧ ((vp_in (x7 + 4) 301) ∧ True)))))) ∧ ((¬ 8 ≤ x8) → ((vp_in (x7 + x8) 301) ∧ (pw_X12_addOrder_109 n (hp_i h 58 0 ((x7 + x8).toNatClampNeg) 0) x1 x2 x3 x4 x5 x6 x7 (x8 + 1))))
def fw_X12_addOrder_109 : Nat → Hp → Int32 → Int32 → Int32 → Int32 → Int32 → Int32 → Int32 → Int32 → Int32
  | 0, _, _, _, _, _, _, _, _, _ => 0
  | n + 1, h, x1, x2, x3, x4, x5, x6, x7, x8 => if 8 ≤ x8 then (((hp_i (hp_i (hp_i (hp_i (hp_i (hp_i h 58 0 ((x7 + 0).toNatClampNeg) x1) 58 0 ((x7 + 1).toNatClampNeg) x2) 58 0 ((x7 + 2).toNatClampNeg) x3) 58 0 ((x7 + 3).toNatClampNeg) x4) 58 0 ((x7 + 4).toNatClampNeg) (if x5 = 0 then (0 : Int32) else 1)) 58 0 1 (((hp_i (hp_i (hp_i (hp_i (hp_i h 58 0 ((x7 + 0).toNatClampNeg) x1) 58 0 ((x7 + 1).toNatClampNeg) x2) 58 0 ((x7 + 2).toNatClampNeg) x3) 58 0 ((x7 + 3).toNatClampNeg) x4) 58 0 ((x7 + 4).toNatClampNeg) (if x5 = 0 then (0 : Int32) else 1)).1 58 0 1) + 1)).1 58 0 1) - 1) else (fw_X12_addOrder_109 n (hp_i h 58 0 ((x7 + x8).toNatClampNeg) 0) x1 x2 x3 x4 x5 x6 x7 (x8 + 1))
def gw_X12_addOrder_109 : Nat → Hp → Int32 → Int32 → Int32 → Int32 → Int32 → Int32 → Int32 → Int32 → Hp
  | 0, h, _, _, _, _, _, _, _, _ => h
  | n + 1, h, x1, x2, x3, x4, x5, x6, x7, x8 => if 8 ≤ x8 then (hp_i (hp_i (hp_i (hp_i (hp_i (hp_i h 58 0 ((x7 + 0).toNatClampNeg) x1) 58 0 ((x7 + 1).toNatClampNeg) x2) 58 0 ((x7 + 2).toNatClampNeg) x3) 58 0 ((x7 + 3).toNatClampNeg) x4) 58 0 ((x7 + 4).toNatClampNeg) (if x5 = 0 then (0 : Int32) else 1)) 58 0 1 (((hp_i (hp_i (hp_i (hp_i (hp_i h 58 0 ((x7 + 0).toNatClampNeg) x1) 58 0 ((x7 + 1).toNatClampNeg) x2) 58 0 ((x7 + 2).toNatClampNeg) x3) 58 0 ((x7 + 3).toNatClampNeg) x4) 58 0 ((x7 + 4).toNatClampNeg) (if x5 = 0 then (0 : Int32) else 1)).1 58 0 1) + 1)) else (gw_X12_addOrder_109 n (hp_i h 58 0 ((x7 + x8).toNatClampNeg) 0) x1 x2 x3 x4 x5 x6 x7 (x8 + 1))
set_option maxHeartbeats 4000000 in
theorem lw_X12_addOrder_109 {X : WD → State → Prop} {d rb : Nat} {Qr : Option AV → Hp → Prop} {Qx : String → Hp → Prop}   : ∀ (n : Nat) (h : Hp) (x1 : Int32) (x2 : Int32) (x3 : Int32) (x4 : Int32) (x5 : Int32) (x6 : Int32) (x7 : Int32) (x8 : Int32), pw_X12_addOrder_109 n h x1 x2 x3 x4 x5 x6 x7 x8 → Qr (some (vI (fw_X12_addOrder_109 n h x1 x2 x3 x4 x5 x6 x7 x8))) (gw_X12_addOrder_109 n h x1 x2 x3 x4 x5 x6 x7 x8) → AW X (d + 3) rb mX12_addOrder 109 [(0, vR 12 0), (1, vI x1), (2, vI x2), (3, vI x3), (4, vI x4), (5, vI x5), (6, vI x6), (7, vI x7), (8, vI x8)] [] h Qr Qx := by
  intro n
  induction n with
  | zero => intro h x1 x2 x3 x4 x5 x6 x7 x8 hp; exact hp.elim
  | succ n ih =>
    intro h x1 x2 x3 x4 x5 x6 x7 x8 hp k
    rw [pw_X12_addOrder_109] at hp
    rw [fw_X12_addOrder_109] at k
    rw [gw_X12_addOrder_109] at k
    refine vc_X12_addOrder_109 (d := d + 2)  ?_
    refine ⟨fun c => ?_, fun c => ?_⟩
    · replace hp := hp.1 c
      try simp only [if_pos c] at k
      refine ⟨hp.1, ?_⟩
      replace hp := hp.2
      refine ⟨hp.1, ?_⟩
      replace hp := hp.2
      refine ⟨hp.1, ?_⟩
      replace hp := hp.2
      refine ⟨hp.1, ?_⟩
      replace hp := hp.2
      refine ⟨hp.1, ?_⟩
      replace hp := hp.2
      exact k
    · replace hp := hp.2 c
      try simp only [if_neg c] at k
      refine ⟨hp.1, ?_⟩
      replace hp := hp.2
      exact ih _ _ _ _ _ _ _ _ _ hp k
def p_X12_addOrder (h : Hp) (a1 : Int32) (a2 : Int32) (a3 : Int32) (a4 : Int32) (a5 : Int32) : Prop := p_X12_in (hp_i h 12 0 0 0) a2 1 99 ∧ ((((f_X12_in (hp_i h 12 0 0 0) a2 1 99) = 0) → (p_X12_noProduct (hp_i h 12 0 0 0) a1 ∧ (((¬ (f_X12_noProduct (hp_i h 12 0 0 0) a1) = 0) → True) ∧ (((f_X12_noProduct (hp_i h 12 0 0 0) a1) = 0) → (p_X12_throwsIf (g_X12_noProduct (hp_i h 12 0 0 0) a1) 1 2 ∧ (((¬ (f_X12_throwsIf (g_X12_noProduct (hp_i h 12 0 0 0) a1) 1 2) = 0) → True) ∧ (((f_X12_throwsIf (g_X12_noProduct (hp_i h 12 0 0 0) a1) 1 2) = 0) → (p_X12_throwsIf (g_X12_throwsIf (g_X12_noProduct (hp_i h 12 0 0 0) a1) 1 2) (if ¬ ((g_X12_throwsIf (g_X12_noProduct (hp_i h 12 0 0 0) a1) 1 2).1 58 0 1) = 20 then (0 : Int32) else 1) 3 ∧ ((((f_X12_throwsIf (g_X12_throwsIf (g_X12_noProduct (hp_i h 12 0 0 0) a1) 1 2) (if ¬ ((g_X12_throwsIf (g_X12_noProduct (hp_i h 12 0 0 0) a1) 1 2).1 58 0 1) = 20 then (0 : Int32) else 1) 3) = 0) → (p_X12_keeps (g_X12_throwsIf (g_X12_throwsIf (g_X12_noProduct (hp_i h 12 0 0 0) a1) 1 2) (if ¬ ((g_X12_throwsIf (g_X12_noProduct (hp_i h 12 0 0 0) a1) 1 2).1 58 0 1) = 20 then (0 : Int32) else 1) 3) ∧ (pw_X12_addOrder_109 oa_N (g_X12_keeps (g_X12_throwsIf (g_X12_throwsIf (g_X12_noProduct (hp_i h 12 0 0 0) a1) 1 2) (if ¬ ((g_X12_throwsIf (g_X12_noProduct (hp_i h 12 0 0 0) a1) 1 2).1 58 0 1) = 20 then (0 : Int32) else 1) 3)) a1 a2 a3 a4 a5 1 (93 + (8 * ((g_X12_keeps (g_X12_throwsIf (g_X12_throwsIf (g_X12_noProduct (hp_i h 12 0 0 0) a1) 1 2) (if ¬ ((g_X12_throwsIf (g_X12_noProduct (hp_i h 12 0 0 0) a1) 1 2).1 58 0 1) = 20 then (0 : Int32) else 1) 3)).1 58 0 1))) 0))) ∧ ((¬ (f_X12_throwsIf (g_X12_throwsIf (g_X12_noProduct (hp_i h 12 0 0 0) a1) 1 2) (if ¬ ((g_X12_throwsIf (g_X12_noProduct (hp_i h 12 0 0 0) a1) 1 2).1 58 0 1) = 20 then (0 : Int32) else 1) 3) = 0) → True)))))))))) ∧ ((¬ (f_X12_in (hp_i h 12 0 0 0) a2 1 99) = 0) → (p_X12_in (hp_i h 12 0 0 0) a3 0 9 ∧ ((((f_X12_in (hp_i h 12 0 0 0) a3 0 9) = 0) → (p_X12_noProduct (hp_i h 12 0 0 0) a1 ∧ (((¬ (f_X12_noProduct (hp_i h 12 0 0 0) a1) = 0) → True) ∧ (((f_X12_noProduct (hp_i h 12 0 0 0) a1) = 0) → (p_X12_throwsIf (g_X12_noProduct (hp_i h 12 0 0 0) a1) 1 2 ∧ (((¬ (f_X12_throwsIf (g_X12_noProduct (hp_i h 12 0 0 0) a1) 1 2) = 0) → True) ∧ (((f_X12_throwsIf (g_X12_noProduct (hp_i h 12 0 0 0) a1) 1 2) = 0) → (p_X12_throwsIf (g_X12_throwsIf (g_X12_noProduct (hp_i h 12 0 0 0) a1) 1 2) (if ¬ ((g_X12_throwsIf (g_X12_noProduct (hp_i h 12 0 0 0) a1) 1 2).1 58 0 1) = 20 then (0 : Int32) else 1) 3 ∧ ((((f_X12_throwsIf (g_X12_throwsIf (g_X12_noProduct (hp_i h 12 0 0 0) a1) 1 2) (if ¬ ((g_X12_throwsIf (g_X12_noProduct (hp_i h 12 0 0 0) a1) 1 2).1 58 0 1) = 20 then (0 : Int32) else 1) 3) = 0) → (p_X12_keeps (g_X12_throwsIf (g_X12_throwsIf (g_X12_noProduct (hp_i h 12 0 0 0) a1) 1 2) (if ¬ ((g_X12_throwsIf (g_X12_noProduct (hp_i h 12 0 0 0) a1) 1 2).1 58 0 1) = 20 then (0 : Int32) else 1) 3) ∧ (pw_X12_addOrder_109 oa_N (g_X12_keeps (g_X12_throwsIf (g_X12_throwsIf (g_X12_noProduct (hp_i h 12 0 0 0) a1) 1 2) (if ¬ ((g_X12_throwsIf (g_X12_noProduct (hp_i h 12 0 0 0) a1) 1 2).1 58 0 1) = 20 then (0 : Int32) else 1) 3)) a1 a2 a3 a4 a5 1 (93 + (8 * ((g_X12_keeps (g_X12_throwsIf (g_X12_throwsIf (g_X12_noProduct (hp_i h 12 0 0 0) a1) 1 2) (if ¬ ((g_X12_throwsIf (g_X12_noProduct (hp_i h 12 0 0 0) a1) 1 2).1 58 0 1) = 20 then (0 : Int32) else 1) 3)).1 58 0 1))) 0))) ∧ ((¬ (f_X12_throwsIf (g_X12_throwsIf (g_X12_noProduct (hp_i h 12 0 0 0) a1) 1 2) (if ¬ ((g_X12_throwsIf (g_X12_noProduct (hp_i h 12 0 0 0) a1) 1 2).1 58 0 1) = 20 then (0 : Int32) else 1) 3) = 0) → True)))))))))) ∧ ((¬ (f_X12_in (hp_i h 12 0 0 0) a3 0 9) = 0) → (p_X12_in (hp_i h 12 0 0 0) a4 0 999 ∧ (p_X12_noProduct (hp_i h 12 0 0 0) a1 ∧ (((¬ (f_X12_noProduct (hp_i h 12 0 0 0) a1) = 0) → True) ∧ (((f_X12_noProduct (hp_i h 12 0 0 0) a1) = 0) → (p_X12_throwsIf (g_X12_noProduct (hp_i h 12 0 0 0) a1) (if ¬ (f_X12_in (hp_i h 12 0 0 0) a4 0 999) = 0 then (0 : Int32) else 1) 2 ∧ (((¬ (f_X12_throwsIf (g_X12_noProduct (hp_i h 12 0 0 0) a1) (if ¬ (f_X12_in (hp_i h 12 0 0 0) a4 0 999) = 0 then (0 : Int32) else 1) 2) = 0) → True) ∧ (((f_X12_throwsIf (g_X12_noProduct (hp_i h 12 0 0 0) a1) (if ¬ (f_X12_in (hp_i h 12 0 0 0) a4 0 999) = 0 then (0 : Int32) else 1) 2) = 0) → (p_X12_throwsIf (g_X12_throwsIf (g_X12_noProduct (hp_i h 12 0 0 0) a1) (if ¬ (f_X12_in (hp_i h 12 0 0 0) a4 0 999) = 0 then (0 : Int32) else 1) 2) (if ¬ ((g_X12_throwsIf (g_X12_noProduct (hp_i h 12 0 0 0) a1) (if ¬ (f_X12_in (hp_i h 12 0 0 0) a4 0 999) = 0 then (0 : Int32) else 1) 2).1 58 0 1) = 20 then (0 : Int32) else 1) 3 ∧ ((((f_X12_throwsIf (g_X12_throwsIf (g_X12_noProduct (hp_i h 12 0 0 0) a1) (if ¬ (f_X12_in (hp_i h 12 0 0 0) a4 0 999) = 0 then (0 : Int32) else 1) 2) (if ¬ ((g_X12_throwsIf (g_X12_noProduct (hp_i h 12 0 0 0) a1) (if ¬ (f_X12_in (hp_i h 12 0 0 0) a4 0 999) = 0 then (0 : Int32) else 1) 2).1 58 0 1) = 20 then (0 : Int32) else 1) 3) = 0) → (p_X12_keeps (g_X12_throwsIf (g_X12_throwsIf (g_X12_noProduct (hp_i h 12 0 0 0) a1) (if ¬ (f_X12_in (hp_i h 12 0 0 0) a4 0 999) = 0 then (0 : Int32) else 1) 2) (if ¬ ((g_X12_throwsIf (g_X12_noProduct (hp_i h 12 0 0 0) a1) (if ¬ (f_X12_in (hp_i h 12 0 0 0) a4 0 999) = 0 then (0 : Int32) else 1) 2).1 58 0 1) = 20 then (0 : Int32) else 1) 3) ∧ (pw_X12_addOrder_109 oa_N (g_X12_keeps (g_X12_throwsIf (g_X12_throwsIf (g_X12_noProduct (hp_i h 12 0 0 0) a1) (if ¬ (f_X12_in (hp_i h 12 0 0 0) a4 0 999) = 0 then (0 : Int32) else 1) 2) (if ¬ ((g_X12_throwsIf (g_X12_noProduct (hp_i h 12 0 0 0) a1) (if ¬ (f_X12_in (hp_i h 12 0 0 0) a4 0 999) = 0 then (0 : Int32) else 1) 2).1 58 0 1) = 20 then (0 : Int32) else 1) 3)) a1 a2 a3 a4 a5 (if ¬ (f_X12_in (hp_i h 12 0 0 0) a4 0 999) = 0 then (0 : Int32) else 1) (93 + (8 * ((g_X12_keeps (g_X12_throwsIf (g_X12_throwsIf (g_X12_noProduct (hp_i h 12 0 0 0) a1) (if ¬ (f_X12_in (hp_i h 12 0 0 0) a4 0 999) = 0 then (0 : Int32) else 1) 2) (if ¬ ((g_X12_throwsIf (g_X12_noProduct (hp_i h 12 0 0 0) a1) (if ¬ (f_X12_in (hp_i h 12 0 0 0) a4 0 999) = 0 then (0 : Int32) else 1) 2).1 58 0 1) = 20 then (0 : Int32) else 1) 3)).1 58 0 1))) 0))) ∧ ((¬ (f_X12_throwsIf (g_X12_throwsIf (g_X12_noProduct (hp_i h 12 0 0 0) a1) (if ¬ (f_X12_in (hp_i h 12 0 0 0) a4 0 999) = 0 then (0 : Int32) else 1) 2) (if ¬ ((g_X12_throwsIf (g_X12_noProduct (hp_i h 12 0 0 0) a1) (if ¬ (f_X12_in (hp_i h 12 0 0 0) a4 0 999) = 0 then (0 : Int32) else 1) 2).1 58 0 1) = 20 then (0 : Int32) else 1) 3) = 0) → True)))))))))))))))
def f_X12_addOrder (h : Hp) (a1 : Int32) (a2 : Int32) (a3 : Int32) (a4 : Int32) (a5 : Int32) : Int32 := if (f_X12_in (hp_i h 12 0 0 0) a2 1 99) = 0 then (if ¬ (f_X12_noProduct (hp_i h 12 0 0 0) a1) = 0 then 0 else (if ¬ (f_X12_throwsIf (g_X12_noProduct (hp_i h 12 0 0 0) a1) 1 2) = 0 then 0 else (if (f_X12_throwsIf (g_X12_throwsIf (g_X12_noProduct (hp_i h 12 0 0 0) a1) 1 2) (if ¬ ((g_X12_throwsIf (g_X12_noProduct (hp_i h 12 0 0 0) a1) 1 2).1 58 0 1) = 20 then (0 : Int32) else 1) 3) = 0 then (fw_X12_addOrder_109 oa_N (g_X12_keeps (g_X12_throwsIf (g_X12_throwsIf (g_X12_noProduct (hp_i h 12 0 0 0) a1) 1 2) (if ¬ ((g_X12_throwsIf (g_X12_noProduct (hp_i h 12 0 0 0) a1) 1 2).1 58 0 1) = 20 then (0 : Int32) else 1) 3)) a1 a2 a3 a4 a5 1 (93 + (8 * ((g_X12_keeps (g_X12_throwsIf (g_X12_throwsIf (g_X12_noProduct (hp_i h 12 0 0 0) a1) 1 2) (if ¬ ((g_X12_throwsIf (g_X12_noProduct (hp_i h 12 0 0 0) a1) 1 2).1 58 0 1) = 20 then (0 : Int32) else 1) 3)).1 58 0 1))) 0) else 0))) else (if (f_X12_in (hp_i h 12 0 0 0) a3 0 9) = 0 then (if ¬ (f_X12_noProduct (hp_i h 12 0 0 0) a1) = 0 then 0 else (if ¬ (f_X12_throwsIf (g_X12_noProduct (hp_i h 12 0 0 0) a1) 1 2) = 0 then 0 else (if (f_X12_throwsIf (g_X12_throwsIf (g_X12_noProduct (hp_i h 12 0 0 0) a1) 1 2) (if ¬ ((g_X12_throwsIf (g_X12_noProduct (hp_i h 12 0 0 0) a1) 1 2).1 58 0 1) = 20 then (0 : Int32) else 1) 3) = 0 then (fw_X12_addOrder_109 oa_N (g_X12_keeps (g_X12_throwsIf (g_X12_throwsIf (g_X12_noProduct (hp_i h 12 0 0 0) a1) 1 2) (if ¬ ((g_X12_throwsIf (g_X12_noProduct (hp_i h 12 0 0 0) a1) 1 2).1 58 0 1) = 20 then (0 : Int32) else 1) 3)) a1 a2 a3 a4 a5 1 (93 + (8 * ((g_X12_keeps (g_X12_throwsIf (g_X12_throwsIf (g_X12_noProduct (hp_i h 12 0 0 0) a1) 1 2) (if ¬ ((g_X12_throwsIf (g_X12_noProduct (hp_i h 12 0 0 0) a1) 1 2).1 58 0 1) = 20 then (0 : Int32) else 1) 3)).1 58 0 1))) 0) else 0))) else (if ¬ (f_X12_noProduct (hp_i h 12 0 0 0) a1) = 0 then 0 else (if ¬ (f_X12_throwsIf (g_X12_noProduct (hp_i h 12 0 0 0) a1) (if ¬ (f_X12_in (hp_i h 12 0 0 0) a4 0 999) = 0 then (0 : Int32) else 1) 2) = 0 then 0 else (if (f_X12_throwsIf (g_X12_throwsIf (g_X12_noProduct (hp_i h 12 0 0 0) a1) (if ¬ (f_X12_in (hp_i h 12 0 0 0) a4 0 999) = 0 then (0 : Int32) else 1) 2) (if ¬ ((g_X12_throwsIf (g_X12_noProduct (hp_i h 12 0 0 0) a1) (if ¬ (f_X12_in (hp_i h 12 0 0 0) a4 0 999) = 0 then (0 : Int32) else 1) 2).1 58 0 1) = 20 then (0 : Int32) else 1) 3) = 0 then (fw_X12_addOrder_109 oa_N (g_X12_keeps (g_X12_throwsIf (g_X12_throwsIf (g_X12_noProduct (hp_i h 12 0 0 0) a1) (if ¬ (f_X12_in (hp_i h 12 0 0 0) a4 0 999) = 0 then (0 : Int32) else 1) 2) (if ¬ ((g_X12_throwsIf (g_X12_noProduct (hp_i h 12 0 0 0) a1) (if ¬ (f_X12_in (hp_i h 12 0 0 0) a4 0 999) = 0 then (0 : Int32) else 1) 2).1 58 0 1) = 20 then (0 : Int32) else 1) 3)) a1 a2 a3 a4 a5 (if ¬ (f_X12_in (hp_i h 12 0 0 0) a4 0 999) = 0 then (0 : Int32) else 1) (93 + (8 * ((g_X12_keeps (g_X12_throwsIf (g_X12_throwsIf (g_X12_noProduct (hp_i h 12 0 0 0) a1) (if ¬ (f_X12_in (hp_i h 12 0 0 0) a4 0 999) = 0 then (0 : Int32) else 1) 2) (if ¬ ((g_X12_throwsIf (g_X12_noProduct (hp_i h 12 0 0 0) a1) (if ¬ (f_X12_in (hp_i h 12 0 0 0) a4 0 999) = 0 then (0 : Int32) else 1) 2).1 58 0 1) = 20 then (0 : Int32) else 1) 3)).1 58 0 1))) 0) else 0))))
def g_X12_addOrder (h : Hp) (a1 : Int32) (a2 : Int32) (a3 : Int32) (a4 : Int32) (a5 : Int32) : Hp := if (f_X12_in (hp_i h 12 0 0 0) a2 1 99) = 0 then (if ¬ (f_X12_noProduct (hp_i h 12 0 0 0) a1) = 0 then (g_X12_noProduct (hp_i h 12 0 0 0) a1) else (if ¬ (f_X12_throwsIf (g_X12_noProduct (hp_i h 12 0 0 0) a1) 1 2) = 0 then (g_X12_throwsIf (g_X12_noProduct (hp_i h 12 0 0 0) a1) 1 2) else (if (f_X12_throwsIf (g_X12_throwsIf (g_X12_noProduct (hp_i h 12 0 0 0) a1) 1 2) (if ¬ ((g_X12_throwsIf (g_X12_noProduct (hp_i h 12 0 0 0) a1) 1 2).1 58 0 1) = 20 then (0 : Int32) else 1) 3) = 0 then (gw_X12_addOrder_109 oa_N (g_X12_keeps (g_X12_throwsIf (g_X12_throwsIf (g_X12_noProduct (hp_i h 12 0 0 0) a1) 1 2) (if ¬ ((g_X12_throwsIf (g_X12_noProduct (hp_i h 12 0 0 0) a1) 1 2).1 58 0 1) = 20 then (0 : Int32) else 1) 3)) a1 a2 a3 a4 a5 1 (93 + (8 * ((g_X12_keeps (g_X12_throwsIf (g_X12_throwsIf (g_X12_noProduct (hp_i h 12 0 0 0) a1) 1 2) (if ¬ ((g_X12_throwsIf (g_X12_noProduct (hp_i h 12 0 0 0) a1) 1 2).1 58 0 1) = 20 then (0 : Int32) else 1) 3)).1 58 0 1))) 0) else (g_X12_throwsIf (g_X12_throwsIf (g_X12_noProduct (hp_i h 12 0 0 0) a1) 1 2) (if ¬ ((g_X12_throwsIf (g_X12_noProduct (hp_i h 12 0 0 0) a1) 1 2).1 58 0 1) = 20 then (0 : Int32) else 1) 3)))) else (if (f_X12_in (hp_i h 12 0 0 0) a3 0 9) = 0 then (if ¬ (f_X12_noProduct (hp_i h 12 0 0 0) a1) = 0 then (g_X12_noProduct (hp_i h 12 0 0 0) a1) else (if ¬ (f_X12_throwsIf (g_X12_noProduct (hp_i h 12 0 0 0) a1) 1 2) = 0 then (g_X12_throwsIf (g_X12_noProduct (hp_i h 12 0 0 0) a1) 1 2) else (if (f_X12_throwsIf (g_X12_throwsIf (g_X12_noProduct (hp_i h 12 0 0 0) a1) 1 2) (if ¬ ((g_X12_throwsIf (g_X12_noProduct (hp_i h 12 0 0 0) a1) 1 2).1 58 0 1) = 20 then (0 : Int32) else 1) 3) = 0 then (gw_X12_addOrder_109 oa_N (g_X12_keeps (g_X12_throwsIf (g_X12_throwsIf (g_X12_noProduct (hp_i h 12 0 0 0) a1) 1 2) (if ¬ ((g_X12_throwsIf (g_X12_noProduct (hp_i h 12 0 0 0) a1) 1 2).1 58 0 1) = 20 then (0 : Int32) else 1) 3)) a1 a2 a3 a4 a5 1 (93 + (8 * ((g_X12_keeps (g_X12_throwsIf (g_X12_throwsIf (g_X12_noProduct (hp_i h 12 0 0 0) a1) 1 2) (if ¬ ((g_X12_throwsIf (g_X12_noProduct (hp_i h 12 0 0 0) a1) 1 2).1 58 0 1) = 20 then (0 : Int32) else 1) 3)).1 58 0 1))) 0) else (g_X12_throwsIf (g_X12_throwsIf (g_X12_noProduct (hp_i h 12 0 0 0) a1) 1 2) (if ¬ ((g_X12_throwsIf (g_X12_noProduct (hp_i h 12 0 0 0) a1) 1 2).1 58 0 1) = 20 then (0 : Int32) else 1) 3)))) else (if ¬ (f_X12_noProduct (hp_i h 12 0 0 0) a1) = 0 then (g_X12_noProduct (hp_i h 12 0 0 0) a1) else (if ¬ (f_X12_throwsIf (g_X12_noProduct (hp_i h 12 0 0 0) a1) (if ¬ (f_X12_in (hp_i h 12 0 0 0) a4 0 999) = 0 then (0 : Int32) else 1) 2) = 0 then (g_X12_throwsIf (g_X12_noProduct (hp_i h 12 0 0 0) a1) (if ¬ (f_X12_in (hp_i h 12 0 0 0) a4 0 999) = 0 then (0 : Int32) else 1) 2) else (if (f_X12_throwsIf (g_X12_throwsIf (g_X12_noProduct (hp_i h 12 0 0 0) a1) (if ¬ (f_X12_in (hp_i h 12 0 0 0) a4 0 999) = 0 then (0 : Int32) else 1) 2) (if ¬ ((g_X12_throwsIf (g_X12_noProduct (hp_i h 12 0 0 0) a1) (if ¬ (f_X12_in (hp_i h 12 0 0 0) a4 0 999) = 0 then (0 : Int32) else 1) 2).1 58 0 1) = 20 then (0 : Int32) else 1) 3) = 0 then (gw_X12_addOrder_109 oa_N (g_X12_keeps (g_X12_throwsIf (g_X12_throwsIf (g_X12_noProduct (hp_i h 12 0 0 0) a1) (if ¬ (f_X12_in (hp_i h 12 0 0 0) a4 0 999) = 0 then (0 : Int32) else 1) 2) (if ¬ ((g_X12_throwsIf (g_X12_noProduct (hp_i h 12 0 0 0) a1) (if ¬ (f_X12_in (hp_i h 12 0 0 0) a4 0 999) = 0 then (0 : Int32) else 1) 2).1 58 0 1) = 20 then (0 : Int32) else 1) 3)) a1 a2 a3 a4 a5 (if ¬ (f_X12_in (hp_i h 12 0 0 0) a4 0 999) = 0 then (0 : Int32) else 1) (93 + (8 * ((g_X12_keeps (g_X12_throwsIf (g_X12_throwsIf (g_X12_noProduct (hp_i h 12 0 0 0) a1) (if ¬ (f_X12_in (hp_i h 12 0 0 0) a4 0 999) = 0 then (0 : Int32) else 1) 2) (if ¬ ((g_X12_throwsIf (g_X12_noProduct (hp_i h 12 0 0 0) a1) (if ¬ (f_X12_in (hp_i h 12 0 0 0) a4 0 999) = 0 then (0 : Int32) else 1) 2).1 58 0 1) = 20 then (0 : Int32) else 1) 3)).1 58 0 1))) 0) else (g_X12_throwsIf (g_X12_throwsIf (g_X12_noProduct (hp_i h 12 0 0 0) a1) (if ¬ (f_X12_in (hp_i h 12 0 0 0) a4 0 999) = 0 then (0 : Int32) else 1) 2) (if ¬ ((g_X12_throwsIf (g_X12_noProduct (hp_i h 12 0 0 0) a1) (if ¬ (f_X12_in (hp_i h 12 0 0 0) a4 0 999) = 0 then (0 : Int32) else 1) 2).1 58 0 1) = 20 then (0 : Int32) else 1) 3)))))
set_option maxHeartbeats 4000000 in
theorem c_X12_addOrder {d : Nat} {h : Hp} {P : Int32 → Hp → Prop} {Qx : String → Hp → Prop} {a1 : Int32} {a2 : Int32} {a3 : Int32} {a4 : Int32} {a5 : Int32}  (hp : p_X12_addOrder h a1 a2 a3 a4 a5) (k : P (f_X12_addOrder h a1 a2 a3 a4 a5) (g_X12_addOrder h a1 a2 a3 a4 a5)) : CL 0 (d + 3) mX12_addOrder [vR 12 0, vI a1, vI a2, vI a3, vI a4, vI a5] h (oI P) Qx := by
  replace k : oI P (some (vI (f_X12_addOrder h a1 a2 a3 a4 a5))) (g_X12_addOrder h a1 a2 a3 a4 a5) := k
  unfold p_X12_addOrder at hp
  unfold f_X12_addOrder at k
  unfold g_X12_addOrder at k
  refine CL.ofF (plainFor_of_name rfl) rfl (Nat.le_of_ble_eq_true rfl) (vc_X12_addOrder_0 (d := d + 2)  ?_)
  refine c_X12_in  hp.1 ?_
  replace hp := hp.2
  refine ⟨fun c => ?_, fun c => ?_⟩
  · replace hp := hp.1 c
    try simp only [if_pos c] at k
    refine c_X12_noProduct  hp.1 ?_
    replace hp := hp.2
    refine ⟨fun c => ?_, fun c => ?_⟩
    · replace hp := hp.1 c
      try simp only [if_pos c] at k
      exact k
    · replace hp := hp.2 c
      try simp only [if_neg (oa_nn c)] at k
      refine c_X12_throwsIf  hp.1 ?_
      replace hp := hp.2
      refine ⟨fun c => ?_, fun c => ?_⟩
      · replace hp := hp.1 c
        try simp only [if_pos c] at k
        exact k
      · replace hp := hp.2 c
        try simp only [if_neg (oa_nn c)] at k
        refine c_X12_throwsIf  hp.1 ?_
        replace hp := hp.2
        refine ⟨fun c => ?_, fun c => ?_⟩
        · replace hp := hp.1 c
          try simp only [if_pos c] at k
          refine c_X12_keeps  hp.1 ?_
          replace hp := hp.2
          exact lw_X12_addOrder_109  _ _ _ _ _ _ _ _ _ _ hp k
        · replace hp := hp.2 c
          try simp only [if_neg c] at k
          exact k
  · replace hp := hp.2 c
    try simp only [if_neg c] at k
    refine c_X12_in  hp.1 ?_
    replace hp := hp.2
    refine ⟨fun c => ?_, fun c => ?_⟩
    · replace hp := hp.1 c
      try simp only [if_pos c] at k
      refine c_X12_noProduct  hp.1 ?_
      replace hp := hp.2
      refine ⟨fun c => ?_, fun c => ?_⟩
      · replace hp := hp.1 c
        try simp only [if_pos c] at k
        exact k
      · replace hp := hp.2 c
        try simp only [if_neg (oa_nn c)] at k
        refine c_X12_throwsIf  hp.1 ?_
        replace hp := hp.2
        refine ⟨fun c => ?_, fun c => ?_⟩
        · replace hp := hp.1 c
          try simp only [if_pos c] at k
          exact k
        · replace hp := hp.2 c
          try simp only [if_neg (oa_nn c)] at k
          refine c_X12_throwsIf  hp.1 ?_
          replace hp := hp.2
          refine ⟨fun c => ?_, fun c => ?_⟩
          · replace hp := hp.1 c
            try simp only [if_pos c] at k
            refine c_X12_keeps  hp.1 ?_
            replace hp := hp.2
            exact lw_X12_addOrder_109  _ _ _ _ _ _ _ _ _ _ hp k
          · replace hp := hp.2 c
            try simp only [if_neg c] at k
            exact k
    · replace hp := hp.2 c
      try simp only [if_neg c] at k
      refine c_X12_in  hp.1 ?_
      replace hp := hp.2
      refine c_X12_noProduct  hp.1 ?_
      replace hp := hp.2
      refine ⟨fun c => ?_, fun c => ?_⟩
      · replace hp := hp.1 c
        try simp only [if_pos c] at k
        exact k
      · replace hp := hp.2 c
        try simp only [if_neg (oa_nn c)] at k
        refine c_X12_throwsIf  hp.1 ?_
        replace hp := hp.2
        refine ⟨fun c => ?_, fun c => ?_⟩
        · replace hp := hp.1 c
          try simp only [if_pos c] at k
          exact k
        · replace hp := hp.2 c
          try simp only [if_neg (oa_nn c)] at k
          refine c_X12_throwsIf  hp.1 ?_
          replace hp := hp.2
          refine ⟨fun c => ?_, fun c => ?_⟩
          · replace hp := hp.1 c
            try simp only [if_pos c] at k
            refine c_X12_keeps  hp.1 ?_
            replace hp := hp.2
            exact lw_X12_addOrder_109  _ _ _ _ _ _ _ _ _ _ hp k
          · replace hp := hp.2 c
            try simp only [if_neg c] at k
            exact k
def pw_X12_holds_10 : Nat → Hp → Int32 → Int32 → Int32 → Prop
  | 0, _, _, _, _ => False
  | n + 1, h, x1, x2, x3 => (((h.1 56 0 0) ≤ x3) → True) ∧ ((¬ (h.1 56 0 0) ≤ x3) → ((vp_in (21 + x3) 301) ∧ (p_X12_of h x1 0 ∧ (p_X12_needs h (f_X12_of h x1 0) x3 ∧ ((vp_in (21 + x3) 301) ∧ (pw_X12_holds_10 n (hp_i h 58 0 ((21 + x3).toNatClampNeg) ((h.1 58 0 ((21 + x3).toNatClampNeg)) + (x2 * (f_X12_needs h (f_X12_of h x1 0) x3)))) x1 x2 (x3 + 1)))))))
def gw_X12_holds_10 : Nat → Hp → Int32 → Int32 → Int32 → Hp
  | 0, h, _, _, _ => h
  | n + 1, h, x1, x2, x3 => if (h.1 56 0 0) ≤ x3 then h else (gw_X12_holds_10 n (hp_i h 58 0 ((21 + x3).toNatClampNeg) ((h.1 58 0 ((21 + x3).toNatClampNeg)) + (x2 * (f_X12_needs h (f_X12_of h x1 0) x3)))) x1 x2 (x3 + 1))
set_option maxHeartbeats 4000000 in
theorem lw_X12_holds_10 {X : WD → State → Prop} {d rb : Nat} {Qr : Option AV → Hp → Prop} {Qx : String → Hp → Prop}   : ∀ (n : Nat) (h : Hp) (x1 : Int32) (x2 : Int32) (x3 : Int32), pw_X12_holds_10 n h x1 x2 x3 → Qr none (gw_X12_holds_10 n h x1 x2 x3) → AW X (d + 2) rb mX12_holds 10 [(0, vR 12 0), (1, vI x1), (2, vI x2), (3, vI x3)] [] h Qr Qx := by
  intro n
  induction n with
  | zero => intro h x1 x2 x3 hp; exact hp.elim
  | succ n ih =>
    intro h x1 x2 x3 hp k
    rw [pw_X12_holds_10] at hp
    rw [gw_X12_holds_10] at k
    refine vc_X12_holds_10 (d := d + 1)  ?_
    refine ⟨fun c => ?_, fun c => ?_⟩
    · replace hp := hp.1 c
      try simp only [if_pos c] at k
      exact k
    · replace hp := hp.2 c
      try simp only [if_neg c] at k
      refine ⟨hp.1, ?_⟩
      replace hp := hp.2
      refine c_X12_of  hp.1 ?_
      replace hp := hp.2
      refine c_X12_needs  hp.1 ?_
      replace hp := hp.2
      refine ⟨hp.1, ?_⟩
      replace hp := hp.2
      exact ih _ _ _ _ hp k
def p_X12_holds (h : Hp) (a1 : Int32) (a2 : Int32) : Prop := p_X12_grows h a1 6 a2 ∧ (pw_X12_holds_10 oa_N (g_X12_grows h a1 6 a2) a1 a2 0)
def g_X12_holds (h : Hp) (a1 : Int32) (a2 : Int32) : Hp := gw_X12_holds_10 oa_N (g_X12_grows h a1 6 a2) a1 a2 0
set_option maxHeartbeats 4000000 in
theorem c_X12_holds {d : Nat} {h : Hp} {P : Hp → Prop} {Qx : String → Hp → Prop} {a1 : Int32} {a2 : Int32}  (hp : p_X12_holds h a1 a2) (k : P  (g_X12_holds h a1 a2)) : CL 0 (d + 2) mX12_holds [vR 12 0, vI a1, vI a2] h (oV P) Qx := by
  replace k : oV P none (g_X12_holds h a1 a2) := k
  unfold p_X12_holds at hp
  unfold g_X12_holds at k
  refine CL.ofF (plainFor_of_name rfl) rfl (Nat.le_of_ble_eq_true rfl) (vc_X12_holds_0 (d := d + 1)  ?_)
  refine c_X12_grows  hp.1 ?_
  replace hp := hp.2
  exact lw_X12_holds_10  _ _ _ _ _ hp k
def p_X12_cancel (h : Hp) (a1 : Int32) : Prop := p_X12_noOrder (hp_i h 12 0 0 0) a1 ∧ (((¬ (f_X12_noOrder (hp_i h 12 0 0 0) a1) = 0) → True) ∧ (((f_X12_noOrder (hp_i h 12 0 0 0) a1) = 0) → (p_X12_isOver (g_X12_noOrder (hp_i h 12 0 0 0) a1) a1 ∧ (p_X12_throwsIf (g_X12_noOrder (hp_i h 12 0 0 0) a1) (f_X12_isOver (g_X12_noOrder (hp_i h 12 0 0 0) a1) a1) 2 ∧ ((((f_X12_throwsIf (g_X12_noOrder (hp_i h 12 0 0 0) a1) (f_X12_isOver (g_X12_noOrder (hp_i h 12 0 0 0) a1) a1) 2) = 0) → (p_X12_keeps (g_X12_throwsIf (g_X12_noOrder (hp_i h 12 0 0 0) a1) (f_X12_isOver (g_X12_noOrder (hp_i h 12 0 0 0) a1) a1) 2) ∧ (p_X12_of (g_X12_keeps (g_X12_throwsIf (g_X12_noOrder (hp_i h 12 0 0 0) a1) (f_X12_isOver (g_X12_noOrder (hp_i h 12 0 0 0) a1) a1) 2)) a1 6 ∧ (p_X12_holds (g_X12_keeps (g_X12_throwsIf (g_X12_noOrder (hp_i h 12 0 0 0) a1) (f_X12_isOver (g_X12_noOrder (hp_i h 12 0 0 0) a1) a1) 2)) a1 (-(f_X12_of (g_X12_keeps (g_X12_throwsIf (g_X12_noOrder (hp_i h 12 0 0 0) a1) (f_X12_isOver (g_X12_noOrder (hp_i h 12 0 0 0) a1) a1) 2)) a1 6)) ∧ (p_X12_grows (g_X12_holds (g_X12_keeps (g_X12_throwsIf (g_X12_noOrder (hp_i h 12 0 0 0) a1) (f_X12_isOver (g_X12_noOrder (hp_i h 12 0 0 0) a1) a1) 2)) a1 (-(f_X12_of (g_X12_keeps (g_X12_throwsIf (g_X12_noOrder (hp_i h 12 0 0 0) a1) (f_X12_isOver (g_X12_noOrder (hp_i h 12 0 0 0) a1) a1) 2)) a1 6))) a1 7 1 ∧ True))))) ∧ ((¬ (f_X12_throwsIf (g_X12_noOrder (hp_i h 12 0 0 0) a1) (f_X12_isOver (g_X12_noOrder (hp_i h 12 0 0 0) a1) a1) 2) = 0) → True))))))
def f_X12_cancel (h : Hp) (a1 : Int32) : Int32 := if ¬ (f_X12_noOrder (hp_i h 12 0 0 0) a1) = 0 then 0 else (if (f_X12_throwsIf (g_X12_noOrder (hp_i h 12 0 0 0) a1) (f_X12_isOver (g_X12_noOrder (hp_i h 12 0 0 0) a1) a1) 2) = 0 then (f_X12_of (g_X12_keeps (g_X12_throwsIf (g_X12_noOrder (hp_i h 12 0 0 0) a1) (f_X12_isOver (g_X12_noOrder (hp_i h 12 0 0 0) a1) a1) 2)) a1 6) else 0)
def g_X12_cancel (h : Hp) (a1 : Int32) : Hp := if ¬ (f_X12_noOrder (hp_i h 12 0 0 0) a1) = 0 then (g_X12_noOrder (hp_i h 12 0 0 0) a1) else (if (f_X12_throwsIf (g_X12_noOrder (hp_i h 12 0 0 0) a1) (f_X12_isOver (g_X12_noOrder (hp_i h 12 0 0 0) a1) a1) 2) = 0 then (g_X12_grows (g_X12_holds (g_X12_keeps (g_X12_throwsIf (g_X12_noOrder (hp_i h 12 0 0 0) a1) (f_X12_isOver (g_X12_noOrder (hp_i h 12 0 0 0) a1) a1) 2)) a1 (-(f_X12_of (g_X12_keeps (g_X12_throwsIf (g_X12_noOrder (hp_i h 12 0 0 0) a1) (f_X12_isOver (g_X12_noOrder (hp_i h 12 0 0 0) a1) a1) 2)) a1 6))) a1 7 1) else (g_X12_throwsIf (g_X12_noOrder (hp_i h 12 0 0 0) a1) (f_X12_isOver (g_X12_noOrder (hp_i h 12 0 0 0) a1) a1) 2))
set_option maxHeartbeats 4000000 in
theorem c_X12_cancel {d : Nat} {h : Hp} {P : Int32 → Hp → Prop} {Qx : String → Hp → Prop} {a1 : Int32}  (hp : p_X12_cancel h a1) (k : P (f_X12_cancel h a1) (g_X12_cancel h a1)) : CL 0 (d + 3) mX12_cancel [vR 12 0, vI a1] h (oI P) Qx := by
  replace k : oI P (some (vI (f_X12_cancel h a1))) (g_X12_cancel h a1) := k
  unfold p_X12_cancel at hp
  unfold f_X12_cancel at k
  unfold g_X12_cancel at k
  refine CL.ofF (plainFor_of_name rfl) rfl (Nat.le_of_ble_eq_true rfl) (vc_X12_cancel_0 (d := d + 2)  ?_)
  refine c_X12_noOrder  hp.1 ?_
  replace hp := hp.2
  refine ⟨fun c => ?_, fun c => ?_⟩
  · replace hp := hp.1 c
    try simp only [if_pos c] at k
    exact k
  · replace hp := hp.2 c
    try simp only [if_neg (oa_nn c)] at k
    refine c_X12_isOver  hp.1 ?_
    replace hp := hp.2
    refine c_X12_throwsIf  hp.1 ?_
    replace hp := hp.2
    refine ⟨fun c => ?_, fun c => ?_⟩
    · replace hp := hp.1 c
      try simp only [if_pos c] at k
      refine c_X12_keeps  hp.1 ?_
      replace hp := hp.2
      refine c_X12_of  hp.1 ?_
      replace hp := hp.2
      refine c_X12_holds  hp.1 ?_
      replace hp := hp.2
      refine c_X12_grows  hp.1 ?_
      replace hp := hp.2
      exact k
    · replace hp := hp.2 c
      try simp only [if_neg c] at k
      exact k
def pw_X12_hasFor_2 : Nat → Hp → Int32 → Int32 → Int32 → Prop
  | 0, _, _, _, _ => False
  | n + 1, h, x1, x2, x3 => (((h.1 56 0 0) ≤ x3) → True) ∧ ((¬ (h.1 56 0 0) ≤ x3) → (p_X12_of h x1 0 ∧ (p_X12_needs h (f_X12_of h x1 0) x3 ∧ (p_X12_free h x3 ∧ ((((lg_cmp (x2.toInt64 * (f_X12_needs h (f_X12_of h x1 0) x3).toInt64) (f_X12_free h x3).toInt64) ≤ 0) → (pw_X12_hasFor_2 n h x1 x2 (x3 + 1))) ∧ ((¬ (lg_cmp (x2.toInt64 * (f_X12_needs h (f_X12_of h x1 0) x3).toInt64) (f_X12_free h x3).toInt64) ≤ 0) → True))))))
def fw_X12_hasFor_2 : Nat → Hp → Int32 → Int32 → Int32 → Int32
  | 0, _, _, _, _ => 0
  | n + 1, h, x1, x2, x3 => if (h.1 56 0 0) ≤ x3 then 1 else (if (lg_cmp (x2.toInt64 * (f_X12_needs h (f_X12_of h x1 0) x3).toInt64) (f_X12_free h x3).toInt64) ≤ 0 then (fw_X12_hasFor_2 n h x1 x2 (x3 + 1)) else 0)
set_option maxHeartbeats 4000000 in
theorem lw_X12_hasFor_2 {X : WD → State → Prop} {d rb : Nat} {Qr : Option AV → Hp → Prop} {Qx : String → Hp → Prop}   : ∀ (n : Nat) (h : Hp) (x1 : Int32) (x2 : Int32) (x3 : Int32), pw_X12_hasFor_2 n h x1 x2 x3 → Qr (some (vI (fw_X12_hasFor_2 n h x1 x2 x3))) h → AW X (d + 2) rb mX12_hasFor 2 [(0, vR 12 0), (1, vI x1), (2, vI x2), (3, vI x3)] [] h Qr Qx := by
  intro n
  induction n with
  | zero => intro h x1 x2 x3 hp; exact hp.elim
  | succ n ih =>
    intro h x1 x2 x3 hp k
    rw [pw_X12_hasFor_2] at hp
    rw [fw_X12_hasFor_2] at k
    refine vc_X12_hasFor_2 (d := d + 1)  ?_
    refine ⟨fun c => ?_, fun c => ?_⟩
    · replace hp := hp.1 c
      try simp only [if_pos c] at k
      exact k
    · replace hp := hp.2 c
      try simp only [if_neg c] at k
      refine c_X12_of  hp.1 ?_
      replace hp := hp.2
      refine c_X12_needs  hp.1 ?_
      replace hp := hp.2
      refine c_X12_free  hp.1 ?_
      replace hp := hp.2
      refine ⟨fun c => ?_, fun c => ?_⟩
      · replace hp := hp.1 c
        try simp only [if_pos c] at k
        exact ih _ _ _ _ hp k
      · replace hp := hp.2 c
        try simp only [if_neg c] at k
        exact k
def p_X12_hasFor (h : Hp) (a1 : Int32) (a2 : Int32) : Prop := pw_X12_hasFor_2 oa_N h a1 a2 0
def f_X12_hasFor (h : Hp) (a1 : Int32) (a2 : Int32) : Int32 := fw_X12_hasFor_2 oa_N h a1 a2 0
set_option maxHeartbeats 4000000 in
theorem c_X12_hasFor {d : Nat} {h : Hp} {P : Int32 → Hp → Prop} {Qx : String → Hp → Prop} {a1 : Int32} {a2 : Int32}  (hp : p_X12_hasFor h a1 a2) (k : P (f_X12_hasFor h a1 a2) h) : CL 0 (d + 2) mX12_hasFor [vR 12 0, vI a1, vI a2] h (oI P) Qx := by
  replace k : oI P (some (vI (f_X12_hasFor h a1 a2))) h := k
  unfold p_X12_hasFor at hp
  unfold f_X12_hasFor at k
  refine CL.ofF (plainFor_of_name rfl) rfl (Nat.le_of_ble_eq_true rfl) (vc_X12_hasFor_0 (d := d + 1)  ?_)
  exact lw_X12_hasFor_2  _ _ _ _ _ hp k
def p_X12_isOff (h : Hp) (a1 : Int32) (a2 : Int32) : Prop := p_X12_of h a1 4 ∧ (((¬ (f_X12_of h a1 4) = 1) → True) ∧ (((f_X12_of h a1 4) = 1) → (p_X12_of h a1 1 ∧ (((if a2 = (f_X12_of h a1 1) then (0 : Int32) else 1) = 0 ∨ (if a2 = (f_X12_of h a1 1) then (0 : Int32) else 1) = 1) ∧ True))))
def f_X12_isOff (h : Hp) (a1 : Int32) (a2 : Int32) : Int32 := if ¬ (f_X12_of h a1 4) = 1 then 0 else (if a2 = (f_X12_of h a1 1) then (0 : Int32) else 1)
set_option maxHeartbeats 4000000 in
theorem c_X12_isOff {d : Nat} {h : Hp} {P : Int32 → Hp → Prop} {Qx : String → Hp → Prop} {a1 : Int32} {a2 : Int32}  (hp : p_X12_isOff h a1 a2) (k : P (f_X12_isOff h a1 a2) h) : CL 0 (d + 2) mX12_isOff [vR 12 0, vI a1, vI a2] h (oI P) Qx := by
  replace k : oI P (some (vI (f_X12_isOff h a1 a2))) h := k
  unfold p_X12_isOff at hp
  unfold f_X12_isOff at k
  refine CL.ofF (plainFor_of_name rfl) rfl (Nat.le_of_ble_eq_true rfl) (vc_X12_isOff_0 (d := d + 1)  ?_)
  refine c_X12_of  hp.1 ?_
  replace hp := hp.2
  refine ⟨fun c => ?_, fun c => ?_⟩
  · replace hp := hp.1 c
    try simp only [if_pos c] at k
    exact k
  · replace hp := hp.2 c
    try simp only [if_neg (oa_nn c)] at k
    refine c_X12_of  hp.1 ?_
    replace hp := hp.2
    refine ⟨hp.1, ?_⟩
    replace hp := hp.2
    exact k
def p_X12_reserve (h : Hp) (a1 : Int32) (a2 : Int32) : Prop := p_X12_noOrder (hp_i h 12 0 0 0) a1 ∧ (((¬ (f_X12_noOrder (hp_i h 12 0 0 0) a1) = 0) → True) ∧ (((f_X12_noOrder (hp_i h 12 0 0 0) a1) = 0) → (p_X12_throwsIf (g_X12_noOrder (hp_i h 12 0 0 0) a1) (if 1 ≤ a2 then (0 : Int32) else 1) 2 ∧ (((¬ (f_X12_throwsIf (g_X12_noOrder (hp_i h 12 0 0 0) a1) (if 1 ≤ a2 then (0 : Int32) else 1) 2) = 0) → True) ∧ (((f_X12_throwsIf (g_X12_noOrder (hp_i h 12 0 0 0) a1) (if 1 ≤ a2 then (0 : Int32) else 1) 2) = 0) → (p_X12_open (g_X12_throwsIf (g_X12_noOrder (hp_i h 12 0 0 0) a1) (if 1 ≤ a2 then (0 : Int32) else 1) 2) a1 ∧ ((((f_X12_open (g_X12_throwsIf (g_X12_noOrder (hp_i h 12 0 0 0) a1) (if 1 ≤ a2 then (0 : Int32) else 1) 2) a1) < a2) → (p_X12_throwsIf (g_X12_throwsIf (g_X12_noOrder (hp_i h 12 0 0 0) a1) (if 1 ≤ a2 then (0 : Int32) else 1) 2) 1 3 ∧ ((((f_X12_throwsIf (g_X12_throwsIf (g_X12_noOrder (hp_i h 12 0 0 0) a1) (if 1 ≤ a2 then (0 : Int32) else 1) 2) 1 3) = 0) → (p_X12_keeps (g_X12_throwsIf (g_X12_throwsIf (g_X12_noOrder (hp_i h 12 0 0 0) a1) (if 1 ≤ a2 then (0 : Int32) else 1) 2) 1 3) ∧ (p_X12_holds (g_X12_keeps (g_X12_throwsIf (g_X12_throwsIf (g_X12_noOrder (hp_i h 12 0 0 0) a1) (if 1 ≤ a2 then (0 : Int32) else 1) 2) 1 3)) a1 a2 ∧ (p_X12_open (g_X12_holds (g_X12_keeps (g_X12_throwsIf (g_X12_throwsIf (g_X12_noOrder (hp_i h 12 0 0 0) a1) (if 1 ≤ a2 then (0 : Int32) else 1) 2) 1 3)) a1 a2) a1 ∧ True)))) ∧ ((¬ (f_X12_throwsIf (g_X12_throwsIf (g_X12_noOrder (hp_i h 12 0 0 0) a1) (if 1 ≤ a2 then (0 : Int32) else 1) 2) 1 3) = 0) → True)))) ∧ ((¬ (f_X12_open (g_X12_throwsIf (g_X12_noOrder (hp_i h 12 0 0 0) a1) (if 1 ≤ a2 then (0 : Int32) else 1) 2) a1) < a2) → (p_X12_isOff (g_X12_throwsIf (g_X12_noOrder (hp_i h 12 0 0 0) a1) (if 1 ≤ a2 then (0 : Int32) else 1) 2) a1 a2 ∧ (((¬ (f_X12_isOff (g_X12_throwsIf (g_X12_noOrder (hp_i h 12 0 0 0) a1) (if 1 ≤ a2 then (0 : Int32) else 1) 2) a1 a2) = 0) → (p_X12_throwsIf (g_X12_throwsIf (g_X12_noOrder (hp_i h 12 0 0 0) a1) (if 1 ≤ a2 then (0 : Int32) else 1) 2) 1 3 ∧ ((((f_X12_throwsIf (g_X12_throwsIf (g_X12_noOrder (hp_i h 12 0 0 0) a1) (if 1 ≤ a2 then (0 : Int32) else 1) 2) 1 3) = 0) → (p_X12_keeps (g_X12_throwsIf (g_X12_throwsIf (g_X12_noOrder (hp_i h 12 0 0 0) a1) (if 1 ≤ a2 then (0 : Int32) else 1) 2) 1 3) ∧ (p_X12_holds (g_X12_keeps (g_X12_throwsIf (g_X12_throwsIf (g_X12_noOrder (hp_i h 12 0 0 0) a1) (if 1 ≤ a2 then (0 : Int32) else 1) 2) 1 3)) a1 a2 ∧ (p_X12_open (g_X12_holds (g_X12_keeps (g_X12_throwsIf (g_X12_throwsIf (g_X12_noOrder (hp_i h 12 0 0 0) a1) (if 1 ≤ a2 then (0 : Int32) else 1) 2) 1 3)) a1 a2) a1 ∧ True)))) ∧ ((¬ (f_X12_throwsIf (g_X12_throwsIf (g_X12_noOrder (hp_i h 12 0 0 0) a1) (if 1 ≤ a2 then (0 : Int32) else 1) 2) 1 3) = 0) → True)))) ∧ (((f_X12_isOff (g_X12_throwsIf (g_X12_noOrder (hp_i h 12 0 0 0) a1) (if 1 ≤ a2 then (0 : Int32) else 1) 2) a1 a2) = 0) → (p_X12_hasFor (g_X12_throwsIf (g_X12_noOrder (hp_i h 12 0 0 0) a1) (if 1 ≤ a2 then (0 : Int32) else 1) 2) a1 a2 ∧ (p_X12_throwsIf (g_X12_throwsIf (g_X12_noOrder (hp_i h 12 0 0 0) a1) (if 1 ≤ a2 then (0 : Int32) else 1) 2) (if ¬ (f_X12_hasFor (g_X12_throwsIf (g_X12_noOrder (hp_i h 12 0 0 0) a1) (if 1 ≤ a2 then (0 : Int32) else 1) 2) a1 a2) = 0 then (0 : Int32) else 1) 3 ∧ ((((f_X12_throwsIf (g_X12_throwsIf (g_X12_noOrder (hp_i h 12 0 0 0) a1) (if 1 ≤ a2 then (0 : Int32) else 1) 2) (if ¬ (f_X12_hasFor (g_X12_throwsIf (g_X12_noOrder (hp_i h 12 0 0 0) a1) (if 1 ≤ a2 then (0 : Int32) else 1) 2) a1 a2) = 0 then (0 : Int32) else 1) 3) = 0) → (p_X12_keeps (g_X12_throwsIf (g_X12_throwsIf (g_X12_noOrder (hp_i h 12 0 0 0) a1) (if 1 ≤ a2 then (0 : Int32) else 1) 2) (if ¬ (f_X12_hasFor (g_X12_throwsIf (g_X12_noOrder (hp_i h 12 0 0 0) a1) (if 1 ≤ a2 then (0 : Int32) else 1) 2) a1 a2) = 0 then (0 : Int32) else 1) 3) ∧ (p_X12_holds (g_X12_keeps (g_X12_throwsIf (g_X12_throwsIf (g_X12_noOrder (hp_i h 12 0 0 0) a1) (if 1 ≤ a2 then (0 : Int32) else 1) 2) (if ¬ (f_X12_hasFor (g_X12_throwsIf (g_X12_noOrder (hp_i h 12 0 0 0) a1) (if 1 ≤ a2 then (0 : Int32) else 1) 2) a1 a2) = 0 then (0 : Int32) else 1) 3)) a1 a2 ∧ (p_X12_open (g_X12_holds (g_X12_keeps (g_X12_throwsIf (g_X12_throwsIf (g_X12_noOrder (hp_i h 12 0 0 0) a1) (if 1 ≤ a2 then (0 : Int32) else 1) 2) (if ¬ (f_X12_hasFor (g_X12_throwsIf (g_X12_noOrder (hp_i h 12 0 0 0) a1) (if 1 ≤ a2 then (0 : Int32) else 1) 2) a1 a2) = 0 then (0 : Int32) else 1) 3)) a1 a2) a1 ∧ True)))) ∧ ((¬ (f_X12_throwsIf (g_X12_throwsIf (g_X12_noOrder (hp_i h 12 0 0 0) a1) (if 1 ≤ a2 then (0 : Int32) else 1) 2) (if ¬ (f_X12_hasFor (g_X12_throwsIf (g_X12_noOrder (hp_i h 12 0 0 0) a1) (if 1 ≤ a2 then (0 : Int32) else 1) 2) a1 a2) = 0 then (0 : Int32) else 1) 3) = 0) → True)))))))))))))))
def f_X12_reserve (h : Hp) (a1 : Int32) (a2 : Int32) : Int32 := if ¬ (f_X12_noOrder (hp_i h 12 0 0 0) a1) = 0 then 0 else (if ¬ (f_X12_throwsIf (g_X12_noOrder (hp_i h 12 0 0 0) a1) (if 1 ≤ a2 then (0 : Int32) else 1) 2) = 0 then 0 else (if (f_X12_open (g_X12_throwsIf (g_X12_noOrder (hp_i h 12 0 0 0) a1) (if 1 ≤ a2 then (0 : Int32) else 1) 2) a1) < a2 then (if (f_X12_throwsIf (g_X12_throwsIf (g_X12_noOrder (hp_i h 12 0 0 0) a1) (if 1 ≤ a2 then (0 : Int32) else 1) 2) 1 3) = 0 then (f_X12_open (g_X12_holds (g_X12_keeps (g_X12_throwsIf (g_X12_throwsIf (g_X12_noOrder (hp_i h 12 0 0 0) a1) (if 1 ≤ a2 then (0 : Int32) else 1) 2) 1 3)) a1 a2) a1) else 0) else (if ¬ (f_X12_isOff (g_X12_throwsIf (g_X12_noOrder (hp_i h 12 0 0 0) a1) (if 1 ≤ a2 then (0 : Int32) else 1) 2) a1 a2) = 0 then (if (f_X12_throwsIf (g_X12_throwsIf (g_X12_noOrder (hp_i h 12 0 0 0) a1) (if 1 ≤ a2 then (0 : Int32) else 1) 2) 1 3) = 0 then (f_X12_open (g_X12_holds (g_X12_keeps (g_X12_throwsIf (g_X12_throwsIf (g_X12_noOrder (hp_i h 12 0 0 0) a1) (if 1 ≤ a2 then (0 : Int32) else 1) 2) 1 3)) a1 a2) a1) else 0) else (if (f_X12_throwsIf (g_X12_throwsIf (g_X12_noOrder (hp_i h 12 0 0 0) a1) (if 1 ≤ a2 then (0 : Int32) else 1) 2) (if ¬ (f_X12_hasFor (g_X12_throwsIf (g_X12_noOrder (hp_i h 12 0 0 0) a1) (if 1 ≤ a2 then (0 : Int32) else 1) 2) a1 a2) = 0 then (0 : Int32) else 1) 3) = 0 then (f_X12_open (g_X12_holds (g_X12_keeps (g_X12_throwsIf (g_X12_throwsIf (g_X12_noOrder (hp_i h 12 0 0 0) a1) (if 1 ≤ a2 then (0 : Int32) else 1) 2) (if ¬ (f_X12_hasFor (g_X12_throwsIf (g_X12_noOrder (hp_i h 12 0 0 0) a1) (if 1 ≤ a2 then (0 : Int32) else 1) 2) a1 a2) = 0 then (0 : Int32) else 1) 3)) a1 a2) a1) else 0))))
def g_X12_reserve (h : Hp) (a1 : Int32) (a2 : Int32) : Hp := if ¬ (f_X12_noOrder (hp_i h 12 0 0 0) a1) = 0 then (g_X12_noOrder (hp_i h 12 0 0 0) a1) else (if ¬ (f_X12_throwsIf (g_X12_noOrder (hp_i h 12 0 0 0) a1) (if 1 ≤ a2 then (0 : Int32) else 1) 2) = 0 then (g_X12_throwsIf (g_X12_noOrder (hp_i h 12 0 0 0) a1) (if 1 ≤ a2 then (0 : Int32) else 1) 2) else (if (f_X12_open (g_X12_throwsIf (g_X12_noOrder (hp_i h 12 0 0 0) a1) (if 1 ≤ a2 then (0 : Int32) else 1) 2) a1) < a2 then (if (f_X12_throwsIf (g_X12_throwsIf (g_X12_noOrder (hp_i h 12 0 0 0) a1) (if 1 ≤ a2 then (0 : Int32) else 1) 2) 1 3) = 0 then (g_X12_holds (g_X12_keeps (g_X12_throwsIf (g_X12_throwsIf (g_X12_noOrder (hp_i h 12 0 0 0) a1) (if 1 ≤ a2 then (0 : Int32) else 1) 2) 1 3)) a1 a2) else (g_X12_throwsIf (g_X12_throwsIf (g_X12_noOrder (hp_i h 12 0 0 0) a1) (if 1 ≤ a2 then (0 : Int32) else 1) 2) 1 3)) else (if ¬ (f_X12_isOff (g_X12_throwsIf (g_X12_noOrder (hp_i h 12 0 0 0) a1) (if 1 ≤ a2 then (0 : Int32) else 1) 2) a1 a2) = 0 then (if (f_X12_throwsIf (g_X12_throwsIf (g_X12_noOrder (hp_i h 12 0 0 0) a1) (if 1 ≤ a2 then (0 : Int32) else 1) 2) 1 3) = 0 then (g_X12_holds (g_X12_keeps (g_X12_throwsIf (g_X12_throwsIf (g_X12_noOrder (hp_i h 12 0 0 0) a1) (if 1 ≤ a2 then (0 : Int32) else 1) 2) 1 3)) a1 a2) else (g_X12_throwsIf (g_X12_throwsIf (g_X12_noOrder (hp_i h 12 0 0 0) a1) (if 1 ≤ a2 then (0 : Int32) else 1) 2) 1 3)) else (if (f_X12_throwsIf (g_X12_throwsIf (g_X12_noOrder (hp_i h 12 0 0 0) a1) (if 1 ≤ a2 then (0 : Int32) else 1) 2) (if ¬ (f_X12_hasFor (g_X12_throwsIf (g_X12_noOrder (hp_i h 12 0 0 0) a1) (if 1 ≤ a2 then (0 : Int32) else 1) 2) a1 a2) = 0 then (0 : Int32) else 1) 3) = 0 then (g_X12_holds (g_X12_keeps (g_X12_throwsIf (g_X12_throwsIf (g_X12_noOrder (hp_i h 12 0 0 0) a1) (if 1 ≤ a2 then (0 : Int32) else 1) 2) (if ¬ (f_X12_hasFor (g_X12_throwsIf (g_X12_noOrder (hp_i h 12 0 0 0) a1) (if 1 ≤ a2 then (0 : Int32) else 1) 2) a1 a2) = 0 then (0 : Int32) else 1) 3)) a1 a2) else (g_X12_throwsIf (g_X12_throwsIf (g_X12_noOrder (hp_i h 12 0 0 0) a1) (if 1 ≤ a2 then (0 : Int32) else 1) 2) (if ¬ (f_X12_hasFor (g_X12_throwsIf (g_X12_noOrder (hp_i h 12 0 0 0) a1) (if 1 ≤ a2 then (0 : Int32) else 1) 2) a1 a2) = 0 then (0 : Int32) else 1) 3)))))
set_option maxHeartbeats 4000000 in
theorem c_X12_reserve {d : Nat} {h : Hp} {P : Int32 → Hp → Prop} {Qx : String → Hp → Prop} {a1 : Int32} {a2 : Int32}  (hp : p_X12_reserve h a1 a2) (k : P (f_X12_reserve h a1 a2) (g_X12_reserve h a1 a2)) : CL 0 (d + 3) mX12_reserve [vR 12 0, vI a1, vI a2] h (oI P) Qx := by
  replace k : oI P (some (vI (f_X12_reserve h a1 a2))) (g_X12_reserve h a1 a2) := k
  unfold p_X12_reserve at hp
  unfold f_X12_reserve at k
  unfold g_X12_reserve at k
  refine CL.ofF (plainFor_of_name rfl) rfl (Nat.le_of_ble_eq_true rfl) (vc_X12_reserve_0 (d := d + 2)  ?_)
  refine c_X12_noOrder  hp.1 ?_
  replace hp := hp.2
  refine ⟨fun c => ?_, fun c => ?_⟩
  · replace hp := hp.1 c
    try simp only [if_pos c] at k
    exact k
  · replace hp := hp.2 c
    try simp only [if_neg (oa_nn c)] at k
    refine c_X12_throwsIf  hp.1 ?_
    replace hp := hp.2
    refine ⟨fun c => ?_, fun c => ?_⟩
    · replace hp := hp.1 c
      try simp only [if_pos c] at k
      exact k
    · replace hp := hp.2 c
      try simp only [if_neg (oa_nn c)] at k
      refine c_X12_open  hp.1 ?_
      replace hp := hp.2
      refine ⟨fun c => ?_, fun c => ?_⟩
      · replace hp := hp.1 c
        try simp only [if_pos c] at k
        refine c_X12_throwsIf  hp.1 ?_
        replace hp := hp.2
        refine ⟨fun c => ?_, fun c => ?_⟩
        · replace hp := hp.1 c
          try simp only [if_pos c] at k
          refine c_X12_keeps  hp.1 ?_
          replace hp := hp.2
          refine c_X12_holds  hp.1 ?_
          replace hp := hp.2
          refine c_X12_open  hp.1 ?_
          replace hp := hp.2
          exact k
        · replace hp := hp.2 c
          try simp only [if_neg c] at k
          exact k
      · replace hp := hp.2 c
        try simp only [if_neg c] at k
        refine c_X12_isOff  hp.1 ?_
        replace hp := hp.2
        refine ⟨fun c => ?_, fun c => ?_⟩
        · replace hp := hp.1 c
          try simp only [if_pos c] at k
          refine c_X12_throwsIf  hp.1 ?_
          replace hp := hp.2
          refine ⟨fun c => ?_, fun c => ?_⟩
          · replace hp := hp.1 c
            try simp only [if_pos c] at k
            refine c_X12_keeps  hp.1 ?_
            replace hp := hp.2
            refine c_X12_holds  hp.1 ?_
            replace hp := hp.2
            refine c_X12_open  hp.1 ?_
            replace hp := hp.2
            exact k
          · replace hp := hp.2 c
            try simp only [if_neg c] at k
            exact k
        · replace hp := hp.2 c
          try simp only [if_neg (oa_nn c)] at k
          refine c_X12_hasFor  hp.1 ?_
          replace hp := hp.2
          refine c_X12_throwsIf  hp.1 ?_
          replace hp := hp.2
          refine ⟨fun c => ?_, fun c => ?_⟩
          · replace hp := hp.1 c
            try simp only [if_pos c] at k
            refine c_X12_keeps  hp.1 ?_
            replace hp := hp.2
            refine c_X12_holds  hp.1 ?_
            replace hp := hp.2
            refine c_X12_open  hp.1 ?_
            replace hp := hp.2
            exact k
          · replace hp := hp.2 c
            try simp only [if_neg c] at k
            exact k
def p_X12_release (h : Hp) (a1 : Int32) (a2 : Int32) : Prop := p_X12_noOrder (hp_i h 12 0 0 0) a1 ∧ (((¬ (f_X12_noOrder (hp_i h 12 0 0 0) a1) = 0) → True) ∧ (((f_X12_noOrder (hp_i h 12 0 0 0) a1) = 0) → (p_X12_throwsIf (g_X12_noOrder (hp_i h 12 0 0 0) a1) (if 1 ≤ a2 then (0 : Int32) else 1) 2 ∧ (((¬ (f_X12_throwsIf (g_X12_noOrder (hp_i h 12 0 0 0) a1) (if 1 ≤ a2 then (0 : Int32) else 1) 2) = 0) → True) ∧ (((f_X12_throwsIf (g_X12_noOrder (hp_i h 12 0 0 0) a1) (if 1 ≤ a2 then (0 : Int32) else 1) 2) = 0) → (p_X12_of (g_X12_throwsIf (g_X12_noOrder (hp_i h 12 0 0 0) a1) (if 1 ≤ a2 then (0 : Int32) else 1) 2) a1 6 ∧ ((((f_X12_of (g_X12_throwsIf (g_X12_noOrder (hp_i h 12 0 0 0) a1) (if 1 ≤ a2 then (0 : Int32) else 1) 2) a1 6) < a2) → (p_X12_throwsIf (g_X12_throwsIf (g_X12_noOrder (hp_i h 12 0 0 0) a1) (if 1 ≤ a2 then (0 : Int32) else 1) 2) 1 3 ∧ ((((f_X12_throwsIf (g_X12_throwsIf (g_X12_noOrder (hp_i h 12 0 0 0) a1) (if 1 ≤ a2 then (0 : Int32) else 1) 2) 1 3) = 0) → (p_X12_keeps (g_X12_throwsIf (g_X12_throwsIf (g_X12_noOrder (hp_i h 12 0 0 0) a1) (if 1 ≤ a2 then (0 : Int32) else 1) 2) 1 3) ∧ (p_X12_holds (g_X12_keeps (g_X12_throwsIf (g_X12_throwsIf (g_X12_noOrder (hp_i h 12 0 0 0) a1) (if 1 ≤ a2 then (0 : Int32) else 1) 2) 1 3)) a1 (-a2) ∧ (p_X12_of (g_X12_holds (g_X12_keeps (g_X12_throwsIf (g_X12_throwsIf (g_X12_noOrder (hp_i h 12 0 0 0) a1) (if 1 ≤ a2 then (0 : Int32) else 1) 2) 1 3)) a1 (-a2)) a1 6 ∧ True)))) ∧ ((¬ (f_X12_throwsIf (g_X12_throwsIf (g_X12_noOrder (hp_i h 12 0 0 0) a1) (if 1 ≤ a2 then (0 : Int32) else 1) 2) 1 3) = 0) → True)))) ∧ ((¬ (f_X12_of (g_X12_throwsIf (g_X12_noOrder (hp_i h 12 0 0 0) a1) (if 1 ≤ a2 then (0 : Int32) else 1) 2) a1 6) < a2) → (p_X12_isOff (g_X12_throwsIf (g_X12_noOrder (hp_i h 12 0 0 0) a1) (if 1 ≤ a2 then (0 : Int32) else 1) 2) a1 a2 ∧ (p_X12_throwsIf (g_X12_throwsIf (g_X12_noOrder (hp_i h 12 0 0 0) a1) (if 1 ≤ a2 then (0 : Int32) else 1) 2) (if (f_X12_isOff (g_X12_throwsIf (g_X12_noOrder (hp_i h 12 0 0 0) a1) (if 1 ≤ a2 then (0 : Int32) else 1) 2) a1 a2) = 0 then (0 : Int32) else 1) 3 ∧ ((((f_X12_throwsIf (g_X12_throwsIf (g_X12_noOrder (hp_i h 12 0 0 0) a1) (if 1 ≤ a2 then (0 : Int32) else 1) 2) (if (f_X12_isOff (g_X12_throwsIf (g_X12_noOrder (hp_i h 12 0 0 0) a1) (if 1 ≤ a2 then (0 : Int32) else 1) 2) a1 a2) = 0 then (0 : Int32) else 1) 3) = 0) → (p_X12_keeps (g_X12_throwsIf (g_X12_throwsIf (g_X12_noOrder (hp_i h 12 0 0 0) a1) (if 1 ≤ a2 then (0 : Int32) else 1) 2) (if (f_X12_isOff (g_X12_throwsIf (g_X12_noOrder (hp_i h 12 0 0 0) a1) (if 1 ≤ a2 then (0 : Int32) else 1) 2) a1 a2) = 0 then (0 : Int32) else 1) 3) ∧ (p_X12_holds (g_X12_keeps (g_X12_throwsIf (g_X12_throwsIf (g_X12_noOrder (hp_i h 12 0 0 0) a1) (if 1 ≤ a2 then (0 : Int32) else 1) 2) (if (f_X12_isOff (g_X12_throwsIf (g_X12_noOrder (hp_i h 12 0 0 0) a1) (if 1 ≤ a2 then (0 : Int32) else 1) 2) a1 a2) = 0 then (0 : Int32) else 1) 3)) a1 (-a2) ∧ (p_X12_of (g_X12_holds (g_X12_keeps (g_X12_throwsIf (g_X12_throwsIf (g_X12_noOrder (hp_i h 12 0 0 0) a1) (if 1 ≤ a2 then (0 : Int32) else 1) 2) (if (f_X12_isOff (g_X12_throwsIf (g_X12_noOrder (hp_i h 12 0 0 0) a1) (if 1 ≤ a2 then (0 : Int32) else 1) 2) a1 a2) = 0 then (0 : Int32) else 1) 3)) a1 (-a2)) a1 6 ∧ True)))) ∧ ((¬ (f_X12_throwsIf (g_X12_throwsIf (g_X12_noOrder (hp_i h 12 0 0 0) a1) (if 1 ≤ a2 then (0 : Int32) else 1) 2) (if (f_X12_isOff (g_X12_throwsIf (g_X12_noOrder (hp_i h 12 0 0 0) a1) (if 1 ≤ a2 then (0 : Int32) else 1) 2) a1 a2) = 0 then (0 : Int32) else 1) 3) = 0) → True))))))))))))
def f_X12_release (h : Hp) (a1 : Int32) (a2 : Int32) : Int32 := if ¬ (f_X12_noOrder (hp_i h 12 0 0 0) a1) = 0 then 0 else (if ¬ (f_X12_throwsIf (g_X12_noOrder (hp_i h 12 0 0 0) a1) (if 1 ≤ a2 then (0 : Int32) else 1) 2) = 0 then 0 else (if (f_X12_of (g_X12_throwsIf (g_X12_noOrder (hp_i h 12 0 0 0) a1) (if 1 ≤ a2 then (0 : Int32) else 1) 2) a1 6) < a2 then (if (f_X12_throwsIf (g_X12_throwsIf (g_X12_noOrder (hp_i h 12 0 0 0) a1) (if 1 ≤ a2 then (0 : Int32) else 1) 2) 1 3) = 0 then (f_X12_of (g_X12_holds (g_X12_keeps (g_X12_throwsIf (g_X12_throwsIf (g_X12_noOrder (hp_i h 12 0 0 0) a1) (if 1 ≤ a2 then (0 : Int32) else 1) 2) 1 3)) a1 (-a2)) a1 6) else 0) else (if (f_X12_throwsIf (g_X12_throwsIf (g_X12_noOrder (hp_i h 12 0 0 0) a1) (if 1 ≤ a2 then (0 : Int32) else 1) 2) (if (f_X12_isOff (g_X12_throwsIf (g_X12_noOrder (hp_i h 12 0 0 0) a1) (if 1 ≤ a2 then (0 : Int32) else 1) 2) a1 a2) = 0 then (0 : Int32) else 1) 3) = 0 then (f_X12_of (g_X12_holds (g_X12_keeps (g_X12_throwsIf (g_X12_throwsIf (g_X12_noOrder (hp_i h 12 0 0 0) a1) (if 1 ≤ a2 then (0 : Int32) else 1) 2) (if (f_X12_isOff (g_X12_throwsIf (g_X12_noOrder (hp_i h 12 0 0 0) a1) (if 1 ≤ a2 then (0 : Int32) else 1) 2) a1 a2) = 0 then (0 : Int32) else 1) 3)) a1 (-a2)) a1 6) else 0)))
def g_X12_release (h : Hp) (a1 : Int32) (a2 : Int32) : Hp := if ¬ (f_X12_noOrder (hp_i h 12 0 0 0) a1) = 0 then (g_X12_noOrder (hp_i h 12 0 0 0) a1) else (if ¬ (f_X12_throwsIf (g_X12_noOrder (hp_i h 12 0 0 0) a1) (if 1 ≤ a2 then (0 : Int32) else 1) 2) = 0 then (g_X12_throwsIf (g_X12_noOrder (hp_i h 12 0 0 0) a1) (if 1 ≤ a2 then (0 : Int32) else 1) 2) else (if (f_X12_of (g_X12_throwsIf (g_X12_noOrder (hp_i h 12 0 0 0) a1) (if 1 ≤ a2 then (0 : Int32) else 1) 2) a1 6) < a2 then (if (f_X12_throwsIf (g_X12_throwsIf (g_X12_noOrder (hp_i h 12 0 0 0) a1) (if 1 ≤ a2 then (0 : Int32) else 1) 2) 1 3) = 0 then (g_X12_holds (g_X12_keeps (g_X12_throwsIf (g_X12_throwsIf (g_X12_noOrder (hp_i h 12 0 0 0) a1) (if 1 ≤ a2 then (0 : Int32) else 1) 2) 1 3)) a1 (-a2)) else (g_X12_throwsIf (g_X12_throwsIf (g_X12_noOrder (hp_i h 12 0 0 0) a1) (if 1 ≤ a2 then (0 : Int32) else 1) 2) 1 3)) else (if (f_X12_throwsIf (g_X12_throwsIf (g_X12_noOrder (hp_i h 12 0 0 0) a1) (if 1 ≤ a2 then (0 : Int32) else 1) 2) (if (f_X12_isOff (g_X12_throwsIf (g_X12_noOrder (hp_i h 12 0 0 0) a1) (if 1 ≤ a2 then (0 : Int32) else 1) 2) a1 a2) = 0 then (0 : Int32) else 1) 3) = 0 then (g_X12_holds (g_X12_keeps (g_X12_throwsIf (g_X12_throwsIf (g_X12_noOrder (hp_i h 12 0 0 0) a1) (if 1 ≤ a2 then (0 : Int32) else 1) 2) (if (f_X12_isOff (g_X12_throwsIf (g_X12_noOrder (hp_i h 12 0 0 0) a1) (if 1 ≤ a2 then (0 : Int32) else 1) 2) a1 a2) = 0 then (0 : Int32) else 1) 3)) a1 (-a2)) else (g_X12_throwsIf (g_X12_throwsIf (g_X12_noOrder (hp_i h 12 0 0 0) a1) (if 1 ≤ a2 then (0 : Int32) else 1) 2) (if (f_X12_isOff (g_X12_throwsIf (g_X12_noOrder (hp_i h 12 0 0 0) a1) (if 1 ≤ a2 then (0 : Int32) else 1) 2) a1 a2) = 0 then (0 : Int32) else 1) 3))))
set_option maxHeartbeats 4000000 in
theorem c_X12_release {d : Nat} {h : Hp} {P : Int32 → Hp → Prop} {Qx : String → Hp → Prop} {a1 : Int32} {a2 : Int32}  (hp : p_X12_release h a1 a2) (k : P (f_X12_release h a1 a2) (g_X12_release h a1 a2)) : CL 0 (d + 3) mX12_release [vR 12 0, vI a1, vI a2] h (oI P) Qx := by
  replace k : oI P (some (vI (f_X12_release h a1 a2))) (g_X12_release h a1 a2) := k
  unfold p_X12_release at hp
  unfold f_X12_release at k
  unfold g_X12_release at k
  refine CL.ofF (plainFor_of_name rfl) rfl (Nat.le_of_ble_eq_true rfl) (vc_X12_release_0 (d := d + 2)  ?_)
  refine c_X12_noOrder  hp.1 ?_
  replace hp := hp.2
  refine ⟨fun c => ?_, fun c => ?_⟩
  · replace hp := hp.1 c
    try simp only [if_pos c] at k
    exact k
  · replace hp := hp.2 c
    try simp only [if_neg (oa_nn c)] at k
    refine c_X12_throwsIf  hp.1 ?_
    replace hp := hp.2
    refine ⟨fun c => ?_, fun c => ?_⟩
    · replace hp := hp.1 c
      try simp only [if_pos c] at k
      exact k
    · replace hp := hp.2 c
      try simp only [if_neg (oa_nn c)] at k
      refine c_X12_of  hp.1 ?_
      replace hp := hp.2
      refine ⟨fun c => ?_, fun c => ?_⟩
      · replace hp := hp.1 c
        try simp only [if_pos c] at k
        refine c_X12_throwsIf  hp.1 ?_
        replace hp := hp.2
        refine ⟨fun c => ?_, fun c => ?_⟩
        · replace hp := hp.1 c
          try simp only [if_pos c] at k
          refine c_X12_keeps  hp.1 ?_
          replace hp := hp.2
          refine c_X12_holds  hp.1 ?_
          replace hp := hp.2
          refine c_X12_of  hp.1 ?_
          replace hp := hp.2
          exact k
        · replace hp := hp.2 c
          try simp only [if_neg c] at k
          exact k
      · replace hp := hp.2 c
        try simp only [if_neg c] at k
        refine c_X12_isOff  hp.1 ?_
        replace hp := hp.2
        refine c_X12_throwsIf  hp.1 ?_
        replace hp := hp.2
        refine ⟨fun c => ?_, fun c => ?_⟩
        · replace hp := hp.1 c
          try simp only [if_pos c] at k
          refine c_X12_keeps  hp.1 ?_
          replace hp := hp.2
          refine c_X12_holds  hp.1 ?_
          replace hp := hp.2
          refine c_X12_of  hp.1 ?_
          replace hp := hp.2
          exact k
        · replace hp := hp.2 c
          try simp only [if_neg c] at k
          exact k
def pw_X12_logs_13 : Nat → Hp → Int32 → Int32 → Int32 → Prop
  | 0, _, _, _, _ => False
  | n + 1, h, x1, x2, x3 => ((48 ≤ x3) → ((vp_in (253 + (3 * ((hp_i h 58 0 3 ((h.1 58 0 3) - 1)).1 58 0 3))) 301) ∧ ((vp_in ((253 + (3 * ((hp_i h 58 0 3 ((h.1 58 0 3) - 1)).1 58 0 3))) + 1) 301) ∧ ((vp_in ((253 + (3 * ((hp_i h 58 0 3 ((h.1 58 0 3) - 1)).1 58 0 3))) + 2) 301) ∧ True)))) ∧ ((¬ 48 ≤ x3) → ((vp_in (253 + x3) 301) ∧ ((vp_in ((253 + x3) - 3) 301) ∧ (pw_X12_logs_13 n (hp_i h 58 0 (((253 + x3) - 3).toNatClampNeg) (h.1 58 0 ((253 + x3).toNatClampNeg))) x1 x2 (x3 + 1)))))
def gw_X12_logs_13 : Nat → Hp → Int32 → Int32 → Int32 → Hp
  | 0, h, _, _, _ => h
  | n + 1, h, x1, x2, x3 => if 48 ≤ x3 then (hp_i (hp_i (hp_i (hp_i (hp_i h 58 0 3 ((h.1 58 0 3) - 1)) 58 0 ((253 + (3 * ((hp_i h 58 0 3 ((h.1 58 0 3) - 1)).1 58 0 3))).toNatClampNeg) x1) 58 0 (((253 + (3 * ((hp_i h 58 0 3 ((h.1 58 0 3) - 1)).1 58 0 3))) + 1).toNatClampNeg) x2) 58 0 (((253 + (3 * ((hp_i h 58 0 3 ((h.1 58 0 3) - 1)).1 58 0 3))) + 2).toNatClampNeg) ((hp_i (hp_i (hp_i h 58 0 3 ((h.1 58 0 3) - 1)) 58 0 ((253 + (3 * ((hp_i h 58 0 3 ((h.1 58 0 3) - 1)).1 58 0 3))).toNatClampNeg) x1) 58 0 (((253 + (3 * ((hp_i h 58 0 3 ((h.1 58 0 3) - 1)).1 58 0 3))) + 1).toNatClampNeg) x2).1 58 0 0)) 58 0 3 (((hp_i (hp_i (hp_i (hp_i h 58 0 3 ((h.1 58 0 3) - 1)) 58 0 ((253 + (3 * ((hp_i h 58 0 3 ((h.1 58 0 3) - 1)).1 58 0 3))).toNatClampNeg) x1) 58 0 (((253 + (3 * ((hp_i h 58 0 3 ((h.1 58 0 3) - 1)).1 58 0 3))) + 1).toNatClampNeg) x2) 58 0 (((253 + (3 * ((hp_i h 58 0 3 ((h.1 58 0 3) - 1)).1 58 0 3))) + 2).toNatClampNeg) ((hp_i (hp_i (hp_i h 58 0 3 ((h.1 58 0 3) - 1)) 58 0 ((253 + (3 * ((hp_i h 58 0 3 ((h.1 58 0 3) - 1)).1 58 0 3))).toNatClampNeg) x1) 58 0 (((253 + (3 * ((hp_i h 58 0 3 ((h.1 58 0 3) - 1)).1 58 0 3))) + 1).toNatClampNeg) x2).1 58 0 0)).1 58 0 3) + 1)) else (gw_X12_logs_13 n (hp_i h 58 0 (((253 + x3) - 3).toNatClampNeg) (h.1 58 0 ((253 + x3).toNatClampNeg))) x1 x2 (x3 + 1))
set_option maxHeartbeats 4000000 in
theorem lw_X12_logs_13 {X : WD → State → Prop} {d rb : Nat} {Qr : Option AV → Hp → Prop} {Qx : String → Hp → Prop}   : ∀ (n : Nat) (h : Hp) (x1 : Int32) (x2 : Int32) (x3 : Int32), pw_X12_logs_13 n h x1 x2 x3 → Qr none (gw_X12_logs_13 n h x1 x2 x3) → AW X (d + 1) rb mX12_logs 13 [(0, vR 12 0), (1, vI x1), (2, vI x2), (3, vI x3)] [] h Qr Qx := by
  intro n
  induction n with
  | zero => intro h x1 x2 x3 hp; exact hp.elim
  | succ n ih =>
    intro h x1 x2 x3 hp k
    rw [pw_X12_logs_13] at hp
    rw [gw_X12_logs_13] at k
    refine vc_X12_logs_13 (d := d + 0)  ?_
    refine ⟨fun c => ?_, fun c => ?_⟩
    · replace hp := hp.1 c
      try simp only [if_pos c] at k
      refine ⟨hp.1, ?_⟩
      replace hp := hp.2
      refine ⟨hp.1, ?_⟩
      replace hp := hp.2
      refine ⟨hp.1, ?_⟩
      replace hp := hp.2
      exact k
    · replace hp := hp.2 c
      try simp only [if_neg c] at k
      refine ⟨hp.1, ?_⟩
      replace hp := hp.2
      refine ⟨hp.1, ?_⟩
      replace hp := hp.2
      exact ih _ _ _ _ hp k
def p_X12_logs (h : Hp) (a1 : Int32) (a2 : Int32) : Prop := ((¬ (h.1 58 0 3) = 16) → ((vp_in (253 + (3 * (h.1 58 0 3))) 301) ∧ ((vp_in ((253 + (3 * (h.1 58 0 3))) + 1) 301) ∧ ((vp_in ((253 + (3 * (h.1 58 0 3))) + 2) 301) ∧ True)))) ∧ (((h.1 58 0 3) = 16) → (pw_X12_logs_13 oa_N h a1 a2 3))
def g_X12_logs (h : Hp) (a1 : Int32) (a2 : Int32) : Hp := if ¬ (h.1 58 0 3) = 16 then (hp_i (hp_i (hp_i (hp_i h 58 0 ((253 + (3 * (h.1 58 0 3))).toNatClampNeg) a1) 58 0 (((253 + (3 * (h.1 58 0 3))) + 1).toNatClampNeg) a2) 58 0 (((253 + (3 * (h.1 58 0 3))) + 2).toNatClampNeg) ((hp_i (hp_i h 58 0 ((253 + (3 * (h.1 58 0 3))).toNatClampNeg) a1) 58 0 (((253 + (3 * (h.1 58 0 3))) + 1).toNatClampNeg) a2).1 58 0 0)) 58 0 3 (((hp_i (hp_i (hp_i h 58 0 ((253 + (3 * (h.1 58 0 3))).toNatClampNeg) a1) 58 0 (((253 + (3 * (h.1 58 0 3))) + 1).toNatClampNeg) a2) 58 0 (((253 + (3 * (h.1 58 0 3))) + 2).toNatClampNeg) ((hp_i (hp_i h 58 0 ((253 + (3 * (h.1 58 0 3))).toNatClampNeg) a1) 58 0 (((253 + (3 * (h.1 58 0 3))) + 1).toNatClampNeg) a2).1 58 0 0)).1 58 0 3) + 1)) else (gw_X12_logs_13 oa_N h a1 a2 3)
set_option maxHeartbeats 4000000 in
theorem c_X12_logs {d : Nat} {h : Hp} {P : Hp → Prop} {Qx : String → Hp → Prop} {a1 : Int32} {a2 : Int32}  (hp : p_X12_logs h a1 a2) (k : P  (g_X12_logs h a1 a2)) : CL 0 (d + 1) mX12_logs [vR 12 0, vI a1, vI a2] h (oV P) Qx := by
  replace k : oV P none (g_X12_logs h a1 a2) := k
  unfold p_X12_logs at hp
  unfold g_X12_logs at k
  refine CL.ofF (plainFor_of_name rfl) rfl (Nat.le_of_ble_eq_true rfl) (vc_X12_logs_0 (d := d + 0)  ?_)
  refine ⟨fun c => ?_, fun c => ?_⟩
  · replace hp := hp.1 c
    try simp only [if_pos c] at k
    refine ⟨hp.1, ?_⟩
    replace hp := hp.2
    refine ⟨hp.1, ?_⟩
    replace hp := hp.2
    refine ⟨hp.1, ?_⟩
    replace hp := hp.2
    exact k
  · replace hp := hp.2 c
    try simp only [if_neg (oa_nn c)] at k
    exact lw_X12_logs_13  _ _ _ _ _ hp k
def p_X12_buy (h : Hp) (a1 : Int32) (a2 : Int32) : Prop := p_X12_noPart (hp_i h 12 0 0 0) a1 ∧ (((¬ (f_X12_noPart (hp_i h 12 0 0 0) a1) = 0) → True) ∧ (((f_X12_noPart (hp_i h 12 0 0 0) a1) = 0) → (p_X12_in (g_X12_noPart (hp_i h 12 0 0 0) a1) a2 1 999 ∧ (p_X12_throwsIf (g_X12_noPart (hp_i h 12 0 0 0) a1) (if ¬ (f_X12_in (g_X12_noPart (hp_i h 12 0 0 0) a1) a2 1 999) = 0 then (0 : Int32) else 1) 2 ∧ (((¬ (f_X12_throwsIf (g_X12_noPart (hp_i h 12 0 0 0) a1) (if ¬ (f_X12_in (g_X12_noPart (hp_i h 12 0 0 0) a1) a2 1 999) = 0 then (0 : Int32) else 1) 2) = 0) → True) ∧ (((f_X12_throwsIf (g_X12_noPart (hp_i h 12 0 0 0) a1) (if ¬ (f_X12_in (g_X12_noPart (hp_i h 12 0 0 0) a1) a2 1 999) = 0 then (0 : Int32) else 1) 2) = 0) → (p_X12_throwsIf (g_X12_throwsIf (g_X12_noPart (hp_i h 12 0 0 0) a1) (if ¬ (f_X12_in (g_X12_noPart (hp_i h 12 0 0 0) a1) a2 1 999) = 0 then (0 : Int32) else 1) 2) (if ¬ ((g_X12_throwsIf (g_X12_noPart (hp_i h 12 0 0 0) a1) (if ¬ (f_X12_in (g_X12_noPart (hp_i h 12 0 0 0) a1) a2 1 999) = 0 then (0 : Int32) else 1) 2).1 58 0 2) = 20 then (0 : Int32) else 1) 3 ∧ ((((f_X12_throwsIf (g_X12_throwsIf (g_X12_noPart (hp_i h 12 0 0 0) a1) (if ¬ (f_X12_in (g_X12_noPart (hp_i h 12 0 0 0) a1) a2 1 999) = 0 then (0 : Int32) else 1) 2) (if ¬ ((g_X12_throwsIf (g_X12_noPart (hp_i h 12 0 0 0) a1) (if ¬ (f_X12_in (g_X12_noPart (hp_i h 12 0 0 0) a1) a2 1 999) = 0 then (0 : Int32) else 1) 2).1 58 0 2) = 20 then (0 : Int32) else 1) 3) = 0) → (p_X12_keeps (g_X12_throwsIf (g_X12_throwsIf (g_X12_noPart (hp_i h 12 0 0 0) a1) (if ¬ (f_X12_in (g_X12_noPart (hp_i h 12 0 0 0) a1) a2 1 999) = 0 then (0 : Int32) else 1) 2) (if ¬ ((g_X12_throwsIf (g_X12_noPart (hp_i h 12 0 0 0) a1) (if ¬ (f_X12_in (g_X12_noPart (hp_i h 12 0 0 0) a1) a2 1 999) = 0 then (0 : Int32) else 1) 2).1 58 0 2) = 20 then (0 : Int32) else 1) 3) ∧ ((vp_in (33 + (3 * ((g_X12_keeps (g_X12_throwsIf (g_X12_throwsIf (g_X12_noPart (hp_i h 12 0 0 0) a1) (if ¬ (f_X12_in (g_X12_noPart (hp_i h 12 0 0 0) a1) a2 1 999) = 0 then (0 : Int32) else 1) 2) (if ¬ ((g_X12_throwsIf (g_X12_noPart (hp_i h 12 0 0 0) a1) (if ¬ (f_X12_in (g_X12_noPart (hp_i h 12 0 0 0) a1) a2 1 999) = 0 then (0 : Int32) else 1) 2).1 58 0 2) = 20 then (0 : Int32) else 1) 3)).1 58 0 2))) 301) ∧ ((vp_in ((33 + (3 * ((g_X12_keeps (g_X12_throwsIf (g_X12_throwsIf (g_X12_noPart (hp_i h 12 0 0 0) a1) (if ¬ (f_X12_in (g_X12_noPart (hp_i h 12 0 0 0) a1) a2 1 999) = 0 then (0 : Int32) else 1) 2) (if ¬ ((g_X12_throwsIf (g_X12_noPart (hp_i h 12 0 0 0) a1) (if ¬ (f_X12_in (g_X12_noPart (hp_i h 12 0 0 0) a1) a2 1 999) = 0 then (0 : Int32) else 1) 2).1 58 0 2) = 20 then (0 : Int32) else 1) 3)).1 58 0 2))) + 1) 301) ∧ ((vp_in (176 + a1) 506) ∧ ((vp_in ((33 + (3 * ((g_X12_keeps (g_X12_throwsIf (g_X12_throwsIf (g_X12_noPart (hp_i h 12 0 0 0) a1) (if ¬ (f_X12_in (g_X12_noPart (hp_i h 12 0 0 0) a1) a2 1 999) = 0 then (0 : Int32) else 1) 2) (if ¬ ((g_X12_throwsIf (g_X12_noPart (hp_i h 12 0 0 0) a1) (if ¬ (f_X12_in (g_X12_noPart (hp_i h 12 0 0 0) a1) a2 1 999) = 0 then (0 : Int32) else 1) 2).1 58 0 2) = 20 then (0 : Int32) else 1) 3)).1 58 0 2))) + 2) 301) ∧ ((vp_in ((33 + (3 * ((g_X12_keeps (g_X12_throwsIf (g_X12_throwsIf (g_X12_noPart (hp_i h 12 0 0 0) a1) (if ¬ (f_X12_in (g_X12_noPart (hp_i h 12 0 0 0) a1) a2 1 999) = 0 then (0 : Int32) else 1) 2) (if ¬ ((g_X12_throwsIf (g_X12_noPart (hp_i h 12 0 0 0) a1) (if ¬ (f_X12_in (g_X12_noPart (hp_i h 12 0 0 0) a1) a2 1 999) = 0 then (0 : Int32) else 1) 2).1 58 0 2) = 20 then (0 : Int32) else 1) 3)).1 58 0 2))) + 2) 301) ∧ True))))))) ∧ ((¬ (f_X12_throwsIf (g_X12_throwsIf (g_X12_noPart (hp_i h 12 0 0 0) a1) (if ¬ (f_X12_in (g_X12_noPart (hp_i h 12 0 0 0) a1) a2 1 999) = 0 then (0 : Int32) else 1) 2) (if ¬ ((g_X12_throwsIf (g_X12_noPart (hp_i h 12 0 0 0) a1) (if ¬ (f_X12_in (g_X12_noPart (hp_i h 12 0 0 0) a1) a2 1 999) = 0 then (0 : Int32) else 1) 2).1 58 0 2) = 20 then (0 : Int32) else 1) 3) = 0) → True)))))))))
def f_X12_buy (h : Hp) (a1 : Int32) (a2 : Int32) : Int32 := if ¬ (f_X12_noPart (hp_i h 12 0 0 0) a1) = 0 then 0 else (if ¬ (f_X12_throwsIf (g_X12_noPart (hp_i h 12 0 0 0) a1) (if ¬ (f_X12_in (g_X12_noPart (hp_i h 12 0 0 0) a1) a2 1 999) = 0 then (0 : Int32) else 1) 2) = 0 then 0 else (if (f_X12_throwsIf (g_X12_throwsIf (g_X12_noPart (hp_i h 12 0 0 0) a1) (if ¬ (f_X12_in (g_X12_noPart (hp_i h 12 0 0 0) a1) a2 1 999) = 0 then (0 : Int32) else 1) 2) (if ¬ ((g_X12_throwsIf (g_X12_noPart (hp_i h 12 0 0 0) a1) (if ¬ (f_X12_in (g_X12_noPart (hp_i h 12 0 0 0) a1) a2 1 999) = 0 then (0 : Int32) else 1) 2).1 58 0 2) = 20 then (0 : Int32) else 1) 3) = 0 then ((hp_i (hp_i (hp_i (hp_i (hp_i (g_X12_keeps (g_X12_throwsIf (g_X12_throwsIf (g_X12_noPart (hp_i h 12 0 0 0) a1) (if ¬ (f_X12_in (g_X12_noPart (hp_i h 12 0 0 0) a1) a2 1 999) = 0 then (0 : Int32) else 1) 2) (if ¬ ((g_X12_throwsIf (g_X12_noPart (hp_i h 12 0 0 0) a1) (if ¬ (f_X12_in (g_X12_noPart (hp_i h 12 0 0 0) a1) a2 1 999) = 0 then (0 : Int32) else 1) 2).1 58 0 2) = 20 then (0 : Int32) else 1) 3)) 58 0 ((33 + (3 * ((g_X12_keeps (g_X12_throwsIf (g_X12_throwsIf (g_X12_noPart (hp_i h 12 0 0 0) a1) (if ¬ (f_X12_in (g_X12_noPart (hp_i h 12 0 0 0) a1) a2 1 999) = 0 then (0 : Int32) else 1) 2) (if ¬ ((g_X12_throwsIf (g_X12_noPart (hp_i h 12 0 0 0) a1) (if ¬ (f_X12_in (g_X12_noPart (hp_i h 12 0 0 0) a1) a2 1 999) = 0 then (0 : Int32) else 1) 2).1 58 0 2) = 20 then (0 : Int32) else 1) 3)).1 58 0 2))).toNatClampNeg) a1) 58 0 (((33 + (3 * ((g_X12_keeps (g_X12_throwsIf (g_X12_throwsIf (g_X12_noPart (hp_i h 12 0 0 0) a1) (if ¬ (f_X12_in (g_X12_noPart (hp_i h 12 0 0 0) a1) a2 1 999) = 0 then (0 : Int32) else 1) 2) (if ¬ ((g_X12_throwsIf (g_X12_noPart (hp_i h 12 0 0 0) a1) (if ¬ (f_X12_in (g_X12_noPart (hp_i h 12 0 0 0) a1) a2 1 999) = 0 then (0 : Int32) else 1) 2).1 58 0 2) = 20 then (0 : Int32) else 1) 3)).1 58 0 2))) + 1).toNatClampNeg) a2) 58 0 (((33 + (3 * ((g_X12_keeps (g_X12_throwsIf (g_X12_throwsIf (g_X12_noPart (hp_i h 12 0 0 0) a1) (if ¬ (f_X12_in (g_X12_noPart (hp_i h 12 0 0 0) a1) a2 1 999) = 0 then (0 : Int32) else 1) 2) (if ¬ ((g_X12_throwsIf (g_X12_noPart (hp_i h 12 0 0 0) a1) (if ¬ (f_X12_in (g_X12_noPart (hp_i h 12 0 0 0) a1) a2 1 999) = 0 then (0 : Int32) else 1) 2).1 58 0 2) = 20 then (0 : Int32) else 1) 3)).1 58 0 2))) + 2).toNatClampNeg) (((hp_i (hp_i (g_X12_keeps (g_X12_throwsIf (g_X12_throwsIf (g_X12_noPart (hp_i h 12 0 0 0) a1) (if ¬ (f_X12_in (g_X12_noPart (hp_i h 12 0 0 0) a1) a2 1 999) = 0 then (0 : Int32) else 1) 2) (if ¬ ((g_X12_throwsIf (g_X12_noPart (hp_i h 12 0 0 0) a1) (if ¬ (f_X12_in (g_X12_noPart (hp_i h 12 0 0 0) a1) a2 1 999) = 0 then (0 : Int32) else 1) 2).1 58 0 2) = 20 then (0 : Int32) else 1) 3)) 58 0 ((33 + (3 * ((g_X12_keeps (g_X12_throwsIf (g_X12_throwsIf (g_X12_noPart (hp_i h 12 0 0 0) a1) (if ¬ (f_X12_in (g_X12_noPart (hp_i h 12 0 0 0) a1) a2 1 999) = 0 then (0 : Int32) else 1) 2) (if ¬ ((g_X12_throwsIf (g_X12_noPart (hp_i h 12 0 0 0) a1) (if ¬ (f_X12_in (g_X12_noPart (hp_i h 12 0 0 0) a1) a2 1 999) = 0 then (0 : Int32) else 1) 2).1 58 0 2) = 20 then (0 : Int32) else 1) 3)).1 58 0 2))).toNatClampNeg) a1) 58 0 (((33 + (3 * ((g_X12_keeps (g_X12_throwsIf (g_X12_throwsIf (g_X12_noPart (hp_i h 12 0 0 0) a1) (if ¬ (f_X12_in (g_X12_noPart (hp_i h 12 0 0 0) a1) a2 1 999) = 0 then (0 : Int32) else 1) 2) (if ¬ ((g_X12_throwsIf (g_X12_noPart (hp_i h 12 0 0 0) a1) (if ¬ (f_X12_in (g_X12_noPart (hp_i h 12 0 0 0) a1) a2 1 999) = 0 then (0 : Int32) else 1) 2).1 58 0 2) = 20 then (0 : Int32) else 1) 3)).1 58 0 2))) + 1).toNatClampNeg) a2).1 58 0 0) + ((g_X12_keeps (g_X12_throwsIf (g_X12_throwsIf (g_X12_noPart (hp_i h 12 0 0 0) a1) (if ¬ (f_X12_in (g_X12_noPart (hp_i h 12 0 0 0) a1) a2 1 999) = 0 then (0 : Int32) else 1) 2) (if ¬ ((g_X12_throwsIf (g_X12_noPart (hp_i h 12 0 0 0) a1) (if ¬ (f_X12_in (g_X12_noPart (hp_i h 12 0 0 0) a1) a2 1 999) = 0 then (0 : Int32) else 1) 2).1 58 0 2) = 20 then (0 : Int32) else 1) 3)).1 56 0 ((176 + a1).toNatClampNeg)))) 58 0 2 (((hp_i (hp_i (hp_i (g_X12_keeps (g_X12_throwsIf (g_X12_throwsIf (g_X12_noPart (hp_i h 12 0 0 0) a1) (if ¬ (f_X12_in (g_X12_noPart (hp_i h 12 0 0 0) a1) a2 1 999) = 0 then (0 : Int32) else 1) 2) (if ¬ ((g_X12_throwsIf (g_X12_noPart (hp_i h 12 0 0 0) a1) (if ¬ (f_X12_in (g_X12_noPart (hp_i h 12 0 0 0) a1) a2 1 999) = 0 then (0 : Int32) else 1) 2).1 58 0 2) = 20 then (0 : Int32) else 1) 3)) 58 0 ((33 + (3 * ((g_X12_keeps (g_X12_throwsIf (g_X12_throwsIf (g_X12_noPart (hp_i h 12 0 0 0) a1) (if ¬ (f_X12_in (g_X12_noPart (hp_i h 12 0 0 0) a1) a2 1 999) = 0 then (0 : Int32) else 1) 2) (if ¬ ((g_X12_throwsIf (g_X12_noPart (hp_i h 12 0 0 0) a1) (if ¬ (f_X12_in (g_X12_noPart (hp_i h 12 0 0 0) a1) a2 1 999) = 0 then (0 : Int32) else 1) 2).1 58 0 2) = 20 then (0 : Int32) else 1) 3)).1 58 0 2))).toNatClampNeg) a1) 58 0 (((33 + (3 * ((g_X12_keeps (g_X12_throwsIf (g_X12_throwsIf (g_X12_noPart (hp_i h 12 0 0 0) a1) (if ¬ (f_X12_in (g_X12_noPart (hp_i h 12 0 0 0) a1) a2 1 999) = 0 then (0 : Int32) else 1) 2) (if ¬ ((g_X12_throwsIf (g_X12_noPart (hp_i h 12 0 0 0) a1) (if ¬ (f_X12_in (g_X12_noPart (hp_i h 12 0 0 0) a1) a2 1 999) = 0 then (0 : Int32) else 1) 2).1 58 0 2) = 20 then (0 : Int32) else 1) 3)).1 58 0 2))) + 1).toNatClampNeg) a2) 58 0 (((33 + (3 * ((g_X12_keeps (g_X12_throwsIf (g_X12_throwsIf (g_X12_noPart (hp_i h 12 0 0 0) a1) (if ¬ (f_X12_in (g_X12_noPart (hp_i h 12 0 0 0) a1) a2 1 999) = 0 then (0 : Int32) else 1) 2) (if ¬ ((g_X12_throwsIf (g_X12_noPart (hp_i h 12 0 0 0) a1) (if ¬ (f_X12_in (g_X12_noPart (hp_i h 12 0 0 0) a1) a2 1 999) = 0 then (0 : Int32) else 1) 2).1 58 0 2) = 20 then (0 : Int32) else 1) 3)).1 58 0 2))) + 2).toNatClampNeg) (((hp_i (hp_i (g_X12_keeps (g_X12_throwsIf (g_X12_throwsIf (g_X12_noPart (hp_i h 12 0 0 0) a1) (if ¬ (f_X12_in (g_X12_noPart (hp_i h 12 0 0 0) a1) a2 1 999) = 0 then (0 : Int32) else 1) 2) (if ¬ ((g_X12_throwsIf (g_X12_noPart (hp_i h 12 0 0 0) a1) (if ¬ (f_X12_in (g_X12_noPart (hp_i h 12 0 0 0) a1) a2 1 999) = 0 then (0 : Int32) else 1) 2).1 58 0 2) = 20 then (0 : Int32) else 1) 3)) 58 0 ((33 + (3 * ((g_X12_keeps (g_X12_throwsIf (g_X12_throwsIf (g_X12_noPart (hp_i h 12 0 0 0) a1) (if ¬ (f_X12_in (g_X12_noPart (hp_i h 12 0 0 0) a1) a2 1 999) = 0 then (0 : Int32) else 1) 2) (if ¬ ((g_X12_throwsIf (g_X12_noPart (hp_i h 12 0 0 0) a1) (if ¬ (f_X12_in (g_X12_noPart (hp_i h 12 0 0 0) a1) a2 1 999) = 0 then (0 : Int32) else 1) 2).1 58 0 2) = 20 then (0 : Int32) else 1) 3)).1 58 0 2))).toNatClampNeg) a1) 58 0 (((33 + (3 * ((g_X12_keeps (g_X12_throwsIf (g_X12_throwsIf (g_X12_noPart (hp_i h 12 0 0 0) a1) (if ¬ (f_X12_in (g_X12_noPart (hp_i h 12 0 0 0) a1) a2 1 999) = 0 then (0 : Int32) else 1) 2) (if ¬ ((g_X12_throwsIf (g_X12_noPart (hp_i h 12 0 0 0) a1) (if ¬ (f_X12_in (g_X12_noPart (hp_i h 12 0 0 0) a1) a2 1 999) = 0 then (0 : Int32) else 1) 2).1 58 0 2) = 20 then (0 : Int32) else 1) 3)).1 58 0 2))) + 1).toNatClampNeg) a2).1 58 0 0) + ((g_X12_keeps (g_X12_throwsIf (g_X12_throwsIf (g_X12_noPart (hp_i h 12 0 0 0) a1) (if ¬ (f_X12_in (g_X12_noPart (hp_i h 12 0 0 0) a1) a2 1 999) = 0 then (0 : Int32) else 1) 2) (if ¬ ((g_X12_throwsIf (g_X12_noPart (hp_i h 12 0 0 0) a1) (if ¬ (f_X12_in (g_X12_noPart (hp_i h 12 0 0 0) a1) a2 1 999) = 0 then (0 : Int32) else 1) 2).1 58 0 2) = 20 then (0 : Int32) else 1) 3)).1 56 0 ((176 + a1).toNatClampNeg)))).1 58 0 2) + 1)) 58 0 8 (((hp_i (hp_i (hp_i (hp_i (g_X12_keeps (g_X12_throwsIf (g_X12_throwsIf (g_X12_noPart (hp_i h 12 0 0 0) a1) (if ¬ (f_X12_in (g_X12_noPart (hp_i h 12 0 0 0) a1) a2 1 999) = 0 then (0 : Int32) else 1) 2) (if ¬ ((g_X12_throwsIf (g_X12_noPart (hp_i h 12 0 0 0) a1) (if ¬ (f_X12_in (g_X12_noPart (hp_i h 12 0 0 0) a1) a2 1 999) = 0 then (0 : Int32) else 1) 2).1 58 0 2) = 20 then (0 : Int32) else 1) 3)) 58 0 ((33 + (3 * ((g_X12_keeps (g_X12_throwsIf (g_X12_throwsIf (g_X12_noPart (hp_i h 12 0 0 0) a1) (if ¬ (f_X12_in (g_X12_noPart (hp_i h 12 0 0 0) a1) a2 1 999) = 0 then (0 : Int32) else 1) 2) (if ¬ ((g_X12_throwsIf (g_X12_noPart (hp_i h 12 0 0 0) a1) (if ¬ (f_X12_in (g_X12_noPart (hp_i h 12 0 0 0) a1) a2 1 999) = 0 then (0 : Int32) else 1) 2).1 58 0 2) = 20 then (0 : Int32) else 1) 3)).1 58 0 2))).toNatClampNeg) a1) 58 0 (((33 + (3 * ((g_X12_keeps (g_X12_throwsIf (g_X12_throwsIf (g_X12_noPart (hp_i h 12 0 0 0) a1) (if ¬ (f_X12_in (g_X12_noPart (hp_i h 12 0 0 0) a1) a2 1 999) = 0 then (0 : Int32) else 1) 2) (if ¬ ((g_X12_throwsIf (g_X12_noPart (hp_i h 12 0 0 0) a1) (if ¬ (f_X12_in (g_X12_noPart (hp_i h 12 0 0 0) a1) a2 1 999) = 0 then (0 : Int32) else 1) 2).1 58 0 2) = 20 then (0 : Int32) else 1) 3)).1 58 0 2))) + 1).toNatClampNeg) a2) 58 0 (((33 + (3 * ((g_X12_keeps (g_X12_throwsIf (g_X12_throwsIf (g_X12_noPart (hp_i h 12 0 0 0) a1) (if ¬ (f_X12_in (g_X12_noPart (hp_i h 12 0 0 0) a1) a2 1 999) = 0 then (0 : Int32) else 1) 2) (if ¬ ((g_X12_throwsIf (g_X12_noPart (hp_i h 12 0 0 0) a1) (if ¬ (f_X12_in (g_X12_noPart (hp_i h 12 0 0 0) a1) a2 1 999) = 0 then (0 : Int32) else 1) 2).1 58 0 2) = 20 then (0 : Int32) else 1) 3)).1 58 0 2))) + 2).toNatClampNeg) (((hp_i (hp_i (g_X12_keeps (g_X12_throwsIf (g_X12_throwsIf (g_X12_noPart (hp_i h 12 0 0 0) a1) (if ¬ (f_X12_in (g_X12_noPart (hp_i h 12 0 0 0) a1) a2 1 999) = 0 then (0 : Int32) else 1) 2) (if ¬ ((g_X12_throwsIf (g_X12_noPart (hp_i h 12 0 0 0) a1) (if ¬ (f_X12_in (g_X12_noPart (hp_i h 12 0 0 0) a1) a2 1 999) = 0 then (0 : Int32) else 1) 2).1 58 0 2) = 20 then (0 : Int32) else 1) 3)) 58 0 ((33 + (3 * ((g_X12_keeps (g_X12_throwsIf (g_X12_throwsIf (g_X12_noPart (hp_i h 12 0 0 0) a1) (if ¬ (f_X12_in (g_X12_noPart (hp_i h 12 0 0 0) a1) a2 1 999) = 0 then (0 : Int32) else 1) 2) (if ¬ ((g_X12_throwsIf (g_X12_noPart (hp_i h 12 0 0 0) a1) (if ¬ (f_X12_in (g_X12_noPart (hp_i h 12 0 0 0) a1) a2 1 999) = 0 then (0 : Int32) else 1) 2).1 58 0 2) = 20 then (0 : Int32) else 1) 3)).1 58 0 2))).toNatClampNeg) a1) 58 0 (((33 + (3 * ((g_X12_keeps (g_X12_throwsIf (g_X12_throwsIf (g_X12_noPart (hp_i h 12 0 0 0) a1) (if ¬ (f_X12_in (g_X12_noPart (hp_i h 12 0 0 0) a1) a2 1 999) = 0 then (0 : Int32) else 1) 2) (if ¬ ((g_X12_throwsIf (g_X12_noPart (hp_i h 12 0 0 0) a1) (if ¬ (f_X12_in (g_X12_noPart (hp_i h 12 0 0 0) a1) a2 1 999) = 0 then (0 : Int32) else 1) 2).1 58 0 2) = 20 then (0 : Int32) else 1) 3)).1 58 0 2))) + 1).toNatClampNeg) a2).1 58 0 0) + ((g_X12_keeps (g_X12_throwsIf (g_X12_throwsIf (g_X12_noPart (hp_i h 12 0 0 0) a1) (if ¬ (f_X12_in (g_X12_noPart (hp_i h 12 0 0 0) a1) a2 1 999) = 0 then (0 : Int32) else 1) 2) (if ¬ ((g_X12_throwsIf (g_X12_noPart (hp_i h 12 0 0 0) a1) (if ¬ (f_X12_in (g_X12_noPart (hp_i h 12 0 0 0) a1) a2 1 999) = 0 then (0 : Int32) else 1) 2).1 58 0 2) = 20 then (0 : Int32) else 1) 3)).1 56 0 ((176 + a1).toNatClampNeg)))) 58 0 2 (((hp_i (hp_i (hp_i (g_X12_keeps (g_X12_throwsIf (g_X12_throwsIf (g_X12_noPart (hp_i h 12 0 0 0) a1) (if ¬ (f_X12_in (g_X12_noPart (hp_i h 12 0 0 0) a1) a2 1 999) = 0 then (0 : Int32) else 1) 2) (if ¬ ((g_X12_throwsIf (g_X12_noPart (hp_i h 12 0 0 0) a1) (if ¬ (f_X12_in (g_X12_noPart (hp_i h 12 0 0 0) a1) a2 1 999) = 0 then (0 : Int32) else 1) 2).1 58 0 2) = 20 then (0 : Int32) else 1) 3)) 58 0 ((33 + (3 * ((g_X12_keeps (g_X12_throwsIf (g_X12_throwsIf (g_X12_noPart (hp_i h 12 0 0 0) a1) (if ¬ (f_X12_in (g_X12_noPart (hp_i h 12 0 0 0) a1) a2 1 999) = 0 then (0 : Int32) else 1) 2) (if ¬ ((g_X12_throwsIf (g_X12_noPart (hp_i h 12 0 0 0) a1) (if ¬ (f_X12_in (g_X12_noPart (hp_i h 12 0 0 0) a1) a2 1 999) = 0 then (0 : Int32) else 1) 2).1 58 0 2) = 20 then (0 : Int32) else 1) 3)).1 58 0 2))).toNatClampNeg) a1) 58 0 (((33 + (3 * ((g_X12_keeps (g_X12_throwsIf (g_X12_throwsIf (g_X12_noPart (hp_i h 12 0 0 0) a1) (if ¬ (f_X12_in (g_X12_noPart (hp_i h 12 0 0 0) a1) a2 1 999) = 0 then (0 : Int32) else 1) 2) (if ¬ ((g_X12_throwsIf (g_X12_noPart (hp_i h 12 0 0 0) a1) (if ¬ (f_X12_in (g_X12_noPart (hp_i h 12 0 0 0) a1) a2 1 999) = 0 then (0 : Int32) else 1) 2).1 58 0 2) = 20 then (0 : Int32) else 1) 3)).1 58 0 2))) + 1).toNatClampNeg) a2) 58 0 (((33 + (3 * ((g_X12_keeps (g_X12_throwsIf (g_X12_throwsIf (g_X12_noPart (hp_i h 12 0 0 0) a1) (if ¬ (f_X12_in (g_X12_noPart (hp_i h 12 0 0 0) a1) a2 1 999) = 0 then (0 : Int32) else 1) 2) (if ¬ ((g_X12_throwsIf (g_X12_noPart (hp_i h 12 0 0 0) a1) (if ¬ (f_X12_in (g_X12_noPart (hp_i h 12 0 0 0) a1) a2 1 999) = 0 then (0 : Int32) else 1) 2).1 58 0 2) = 20 then (0 : Int32) else 1) 3)).1 58 0 2))) + 2).toNatClampNeg) (((hp_i (hp_i (g_X12_keeps (g_X12_throwsIf (g_X12_throwsIf (g_X12_noPart (hp_i h 12 0 0 0) a1) (if ¬ (f_X12_in (g_X12_noPart (hp_i h 12 0 0 0) a1) a2 1 999) = 0 then (0 : Int32) else 1) 2) (if ¬ ((g_X12_throwsIf (g_X12_noPart (hp_i h 12 0 0 0) a1) (if ¬ (f_X12_in (g_X12_noPart (hp_i h 12 0 0 0) a1) a2 1 999) = 0 then (0 : Int32) else 1) 2).1 58 0 2) = 20 then (0 : Int32) else 1) 3)) 58 0 ((33 + (3 * ((g_X12_keeps (g_X12_throwsIf (g_X12_throwsIf (g_X12_noPart (hp_i h 12 0 0 0) a1) (if ¬ (f_X12_in (g_X12_noPart (hp_i h 12 0 0 0) a1) a2 1 999) = 0 then (0 : Int32) else 1) 2) (if ¬ ((g_X12_throwsIf (g_X12_noPart (hp_i h 12 0 0 0) a1) (if ¬ (f_X12_in (g_X12_noPart (hp_i h 12 0 0 0) a1) a2 1 999) = 0 then (0 : Int32) else 1) 2).1 58 0 2) = 20 then (0 : Int32) else 1) 3)).1 58 0 2))).toNatClampNeg) a1) 58 0 (((33 + (3 * ((g_X12_keeps (g_X12_throwsIf (g_X12_throwsIf (g_X12_noPart (hp_i h 12 0 0 0) a1) (if ¬ (f_X12_in (g_X12_noPart (hp_i h 12 0 0 0) a1) a2 1 999) = 0 then (0 : Int32) else 1) 2) (if ¬ ((g_X12_throwsIf (g_X12_noPart (hp_i h 12 0 0 0) a1) (if ¬ (f_X12_in (g_X12_noPart (hp_i h 12 0 0 0) a1) a2 1 999) = 0 then (0 : Int32) else 1) 2).1 58 0 2) = 20 then (0 : Int32) else 1) 3)).1 58 0 2))) + 1).toNatClampNeg) a2).1 58 0 0) + ((g_X12_keeps (g_X12_throwsIf (g_X12_throwsIf (g_X12_noPart (hp_i h 12 0 0 0) a1) (if ¬ (f_X12_in (g_X12_noPart (hp_i h 12 0 0 0) a1) a2 1 999) = 0 then (0 : Int32) else 1) 2) (if ¬ ((g_X12_throwsIf (g_X12_noPart (hp_i h 12 0 0 0) a1) (if ¬ (f_X12_in (g_X12_noPart (hp_i h 12 0 0 0) a1) a2 1 999) = 0 then (0 : Int32) else 1) 2).1 58 0 2) = 20 then (0 : Int32) else 1) 3)).1 56 0 ((176 + a1).toNatClampNeg)))).1 58 0 2) + 1)).1 58 0 8) + a2)).1 58 0 (((33 + (3 * ((g_X12_keeps (g_X12_throwsIf (g_X12_throwsIf (g_X12_noPart (hp_i h 12 0 0 0) a1) (if ¬ (f_X12_in (g_X12_noPart (hp_i h 12 0 0 0) a1) a2 1 999) = 0 then (0 : Int32) else 1) 2) (if ¬ ((g_X12_throwsIf (g_X12_noPart (hp_i h 12 0 0 0) a1) (if ¬ (f_X12_in (g_X12_noPart (hp_i h 12 0 0 0) a1) a2 1 999) = 0 then (0 : Int32) else 1) 2).1 58 0 2) = 20 then (0 : Int32) else 1) 3)).1 58 0 2))) + 2).toNatClampNeg)) else 0))
def g_X12_buy (h : Hp) (a1 : Int32) (a2 : Int32) : Hp := if ¬ (f_X12_noPart (hp_i h 12 0 0 0) a1) = 0 then (g_X12_noPart (hp_i h 12 0 0 0) a1) else (if ¬ (f_X12_throwsIf (g_X12_noPart (hp_i h 12 0 0 0) a1) (if ¬ (f_X12_in (g_X12_noPart (hp_i h 12 0 0 0) a1) a2 1 999) = 0 then (0 : Int32) else 1) 2) = 0 then (g_X12_throwsIf (g_X12_noPart (hp_i h 12 0 0 0) a1) (if ¬ (f_X12_in (g_X12_noPart (hp_i h 12 0 0 0) a1) a2 1 999) = 0 then (0 : Int32) else 1) 2) else (if (f_X12_throwsIf (g_X12_throwsIf (g_X12_noPart (hp_i h 12 0 0 0) a1) (if ¬ (f_X12_in (g_X12_noPart (hp_i h 12 0 0 0) a1) a2 1 999) = 0 then (0 : Int32) else 1) 2) (if ¬ ((g_X12_throwsIf (g_X12_noPart (hp_i h 12 0 0 0) a1) (if ¬ (f_X12_in (g_X12_noPart (hp_i h 12 0 0 0) a1) a2 1 999) = 0 then (0 : Int32) else 1) 2).1 58 0 2) = 20 then (0 : Int32) else 1) 3) = 0 then (hp_i (hp_i (hp_i (hp_i (hp_i (g_X12_keeps (g_X12_throwsIf (g_X12_throwsIf (g_X12_noPart (hp_i h 12 0 0 0) a1) (if ¬ (f_X12_in (g_X12_noPart (hp_i h 12 0 0 0) a1) a2 1 999) = 0 then (0 : Int32) else 1) 2) (if ¬ ((g_X12_throwsIf (g_X12_noPart (hp_i h 12 0 0 0) a1) (if ¬ (f_X12_in (g_X12_noPart (hp_i h 12 0 0 0) a1) a2 1 999) = 0 then (0 : Int32) else 1) 2).1 58 0 2) = 20 then (0 : Int32) else 1) 3)) 58 0 ((33 + (3 * ((g_X12_keeps (g_X12_throwsIf (g_X12_throwsIf (g_X12_noPart (hp_i h 12 0 0 0) a1) (if ¬ (f_X12_in (g_X12_noPart (hp_i h 12 0 0 0) a1) a2 1 999) = 0 then (0 : Int32) else 1) 2) (if ¬ ((g_X12_throwsIf (g_X12_noPart (hp_i h 12 0 0 0) a1) (if ¬ (f_X12_in (g_X12_noPart (hp_i h 12 0 0 0) a1) a2 1 999) = 0 then (0 : Int32) else 1) 2).1 58 0 2) = 20 then (0 : Int32) else 1) 3)).1 58 0 2))).toNatClampNeg) a1) 58 0 (((33 + (3 * ((g_X12_keeps (g_X12_throwsIf (g_X12_throwsIf (g_X12_noPart (hp_i h 12 0 0 0) a1) (if ¬ (f_X12_in (g_X12_noPart (hp_i h 12 0 0 0) a1) a2 1 999) = 0 then (0 : Int32) else 1) 2) (if ¬ ((g_X12_throwsIf (g_X12_noPart (hp_i h 12 0 0 0) a1) (if ¬ (f_X12_in (g_X12_noPart (hp_i h 12 0 0 0) a1) a2 1 999) = 0 then (0 : Int32) else 1) 2).1 58 0 2) = 20 then (0 : Int32) else 1) 3)).1 58 0 2))) + 1).toNatClampNeg) a2) 58 0 (((33 + (3 * ((g_X12_keeps (g_X12_throwsIf (g_X12_throwsIf (g_X12_noPart (hp_i h 12 0 0 0) a1) (if ¬ (f_X12_in (g_X12_noPart (hp_i h 12 0 0 0) a1) a2 1 999) = 0 then (0 : Int32) else 1) 2) (if ¬ ((g_X12_throwsIf (g_X12_noPart (hp_i h 12 0 0 0) a1) (if ¬ (f_X12_in (g_X12_noPart (hp_i h 12 0 0 0) a1) a2 1 999) = 0 then (0 : Int32) else 1) 2).1 58 0 2) = 20 then (0 : Int32) else 1) 3)).1 58 0 2))) + 2).toNatClampNeg) (((hp_i (hp_i (g_X12_keeps (g_X12_throwsIf (g_X12_throwsIf (g_X12_noPart (hp_i h 12 0 0 0) a1) (if ¬ (f_X12_in (g_X12_noPart (hp_i h 12 0 0 0) a1) a2 1 999) = 0 then (0 : Int32) else 1) 2) (if ¬ ((g_X12_throwsIf (g_X12_noPart (hp_i h 12 0 0 0) a1) (if ¬ (f_X12_in (g_X12_noPart (hp_i h 12 0 0 0) a1) a2 1 999) = 0 then (0 : Int32) else 1) 2).1 58 0 2) = 20 then (0 : Int32) else 1) 3)) 58 0 ((33 + (3 * ((g_X12_keeps (g_X12_throwsIf (g_X12_throwsIf (g_X12_noPart (hp_i h 12 0 0 0) a1) (if ¬ (f_X12_in (g_X12_noPart (hp_i h 12 0 0 0) a1) a2 1 999) = 0 then (0 : Int32) else 1) 2) (if ¬ ((g_X12_throwsIf (g_X12_noPart (hp_i h 12 0 0 0) a1) (if ¬ (f_X12_in (g_X12_noPart (hp_i h 12 0 0 0) a1) a2 1 999) = 0 then (0 : Int32) else 1) 2).1 58 0 2) = 20 then (0 : Int32) else 1) 3)).1 58 0 2))).toNatClampNeg) a1) 58 0 (((33 + (3 * ((g_X12_keeps (g_X12_throwsIf (g_X12_throwsIf (g_X12_noPart (hp_i h 12 0 0 0) a1) (if ¬ (f_X12_in (g_X12_noPart (hp_i h 12 0 0 0) a1) a2 1 999) = 0 then (0 : Int32) else 1) 2) (if ¬ ((g_X12_throwsIf (g_X12_noPart (hp_i h 12 0 0 0) a1) (if ¬ (f_X12_in (g_X12_noPart (hp_i h 12 0 0 0) a1) a2 1 999) = 0 then (0 : Int32) else 1) 2).1 58 0 2) = 20 then (0 : Int32) else 1) 3)).1 58 0 2))) + 1).toNatClampNeg) a2).1 58 0 0) + ((g_X12_keeps (g_X12_throwsIf (g_X12_throwsIf (g_X12_noPart (hp_i h 12 0 0 0) a1) (if ¬ (f_X12_in (g_X12_noPart (hp_i h 12 0 0 0) a1) a2 1 999) = 0 then (0 : Int32) else 1) 2) (if ¬ ((g_X12_throwsIf (g_X12_noPart (hp_i h 12 0 0 0) a1) (if ¬ (f_X12_in (g_X12_noPart (hp_i h 12 0 0 0) a1) a2 1 999) = 0 then (0 : Int32) else 1) 2).1 58 0 2) = 20 then (0 : Int32) else 1) 3)).1 56 0 ((176 + a1).toNatClampNeg)))) 58 0 2 (((hp_i (hp_i (hp_i (g_X12_keeps (g_X12_throwsIf (g_X12_throwsIf (g_X12_noPart (hp_i h 12 0 0 0) a1) (if ¬ (f_X12_in (g_X12_noPart (hp_i h 12 0 0 0) a1) a2 1 999) = 0 then (0 : Int32) else 1) 2) (if ¬ ((g_X12_throwsIf (g_X12_noPart (hp_i h 12 0 0 0) a1) (if ¬ (f_X12_in (g_X12_noPart (hp_i h 12 0 0 0) a1) a2 1 999) = 0 then (0 : Int32) else 1) 2).1 58 0 2) = 20 then (0 : Int32) else 1) 3)) 58 0 ((33 + (3 * ((g_X12_keeps (g_X12_throwsIf (g_X12_throwsIf (g_X12_noPart (hp_i h 12 0 0 0) a1) (if ¬ (f_X12_in (g_X12_noPart (hp_i h 12 0 0 0) a1) a2 1 999) = 0 then (0 : Int32) else 1) 2) (if ¬ ((g_X12_throwsIf (g_X12_noPart (hp_i h 12 0 0 0) a1) (if ¬ (f_X12_in (g_X12_noPart (hp_i h 12 0 0 0) a1) a2 1 999) = 0 then (0 : Int32) else 1) 2).1 58 0 2) = 20 then (0 : Int32) else 1) 3)).1 58 0 2))).toNatClampNeg) a1) 58 0 (((33 + (3 * ((g_X12_keeps (g_X12_throwsIf (g_X12_throwsIf (g_X12_noPart (hp_i h 12 0 0 0) a1) (if ¬ (f_X12_in (g_X12_noPart (hp_i h 12 0 0 0) a1) a2 1 999) = 0 then (0 : Int32) else 1) 2) (if ¬ ((g_X12_throwsIf (g_X12_noPart (hp_i h 12 0 0 0) a1) (if ¬ (f_X12_in (g_X12_noPart (hp_i h 12 0 0 0) a1) a2 1 999) = 0 then (0 : Int32) else 1) 2).1 58 0 2) = 20 then (0 : Int32) else 1) 3)).1 58 0 2))) + 1).toNatClampNeg) a2) 58 0 (((33 + (3 * ((g_X12_keeps (g_X12_throwsIf (g_X12_throwsIf (g_X12_noPart (hp_i h 12 0 0 0) a1) (if ¬ (f_X12_in (g_X12_noPart (hp_i h 12 0 0 0) a1) a2 1 999) = 0 then (0 : Int32) else 1) 2) (if ¬ ((g_X12_throwsIf (g_X12_noPart (hp_i h 12 0 0 0) a1) (if ¬ (f_X12_in (g_X12_noPart (hp_i h 12 0 0 0) a1) a2 1 999) = 0 then (0 : Int32) else 1) 2).1 58 0 2) = 20 then (0 : Int32) else 1) 3)).1 58 0 2))) + 2).toNatClampNeg) (((hp_i (hp_i (g_X12_keeps (g_X12_throwsIf (g_X12_throwsIf (g_X12_noPart (hp_i h 12 0 0 0) a1) (if ¬ (f_X12_in (g_X12_noPart (hp_i h 12 0 0 0) a1) a2 1 999) = 0 then (0 : Int32) else 1) 2) (if ¬ ((g_X12_throwsIf (g_X12_noPart (hp_i h 12 0 0 0) a1) (if ¬ (f_X12_in (g_X12_noPart (hp_i h 12 0 0 0) a1) a2 1 999) = 0 then (0 : Int32) else 1) 2).1 58 0 2) = 20 then (0 : Int32) else 1) 3)) 58 0 ((33 + (3 * ((g_X12_keeps (g_X12_throwsIf (g_X12_throwsIf (g_X12_noPart (hp_i h 12 0 0 0) a1) (if ¬ (f_X12_in (g_X12_noPart (hp_i h 12 0 0 0) a1) a2 1 999) = 0 then (0 : Int32) else 1) 2) (if ¬ ((g_X12_throwsIf (g_X12_noPart (hp_i h 12 0 0 0) a1) (if ¬ (f_X12_in (g_X12_noPart (hp_i h 12 0 0 0) a1) a2 1 999) = 0 then (0 : Int32) else 1) 2).1 58 0 2) = 20 then (0 : Int32) else 1) 3)).1 58 0 2))).toNatClampNeg) a1) 58 0 (((33 + (3 * ((g_X12_keeps (g_X12_throwsIf (g_X12_throwsIf (g_X12_noPart (hp_i h 12 0 0 0) a1) (if ¬ (f_X12_in (g_X12_noPart (hp_i h 12 0 0 0) a1) a2 1 999) = 0 then (0 : Int32) else 1) 2) (if ¬ ((g_X12_throwsIf (g_X12_noPart (hp_i h 12 0 0 0) a1) (if ¬ (f_X12_in (g_X12_noPart (hp_i h 12 0 0 0) a1) a2 1 999) = 0 then (0 : Int32) else 1) 2).1 58 0 2) = 20 then (0 : Int32) else 1) 3)).1 58 0 2))) + 1).toNatClampNeg) a2).1 58 0 0) + ((g_X12_keeps (g_X12_throwsIf (g_X12_throwsIf (g_X12_noPart (hp_i h 12 0 0 0) a1) (if ¬ (f_X12_in (g_X12_noPart (hp_i h 12 0 0 0) a1) a2 1 999) = 0 then (0 : Int32) else 1) 2) (if ¬ ((g_X12_throwsIf (g_X12_noPart (hp_i h 12 0 0 0) a1) (if ¬ (f_X12_in (g_X12_noPart (hp_i h 12 0 0 0) a1) a2 1 999) = 0 then (0 : Int32) else 1) 2).1 58 0 2) = 20 then (0 : Int32) else 1) 3)).1 56 0 ((176 + a1).toNatClampNeg)))).1 58 0 2) + 1)) 58 0 8 (((hp_i (hp_i (hp_i (hp_i (g_X12_keeps (g_X12_throwsIf (g_X12_throwsIf (g_X12_noPart (hp_i h 12 0 0 0) a1) (if ¬ (f_X12_in (g_X12_noPart (hp_i h 12 0 0 0) a1) a2 1 999) = 0 then (0 : Int32) else 1) 2) (if ¬ ((g_X12_throwsIf (g_X12_noPart (hp_i h 12 0 0 0) a1) (if ¬ (f_X12_in (g_X12_noPart (hp_i h 12 0 0 0) a1) a2 1 999) = 0 then (0 : Int32) else 1) 2).1 58 0 2) = 20 then (0 : Int32) else 1) 3)) 58 0 ((33 + (3 * ((g_X12_keeps (g_X12_throwsIf (g_X12_throwsIf (g_X12_noPart (hp_i h 12 0 0 0) a1) (if ¬ (f_X12_in (g_X12_noPart (hp_i h 12 0 0 0) a1) a2 1 999) = 0 then (0 : Int32) else 1) 2) (if ¬ ((g_X12_throwsIf (g_X12_noPart (hp_i h 12 0 0 0) a1) (if ¬ (f_X12_in (g_X12_noPart (hp_i h 12 0 0 0) a1) a2 1 999) = 0 then (0 : Int32) else 1) 2).1 58 0 2) = 20 then (0 : Int32) else 1) 3)).1 58 0 2))).toNatClampNeg) a1) 58 0 (((33 + (3 * ((g_X12_keeps (g_X12_throwsIf (g_X12_throwsIf (g_X12_noPart (hp_i h 12 0 0 0) a1) (if ¬ (f_X12_in (g_X12_noPart (hp_i h 12 0 0 0) a1) a2 1 999) = 0 then (0 : Int32) else 1) 2) (if ¬ ((g_X12_throwsIf (g_X12_noPart (hp_i h 12 0 0 0) a1) (if ¬ (f_X12_in (g_X12_noPart (hp_i h 12 0 0 0) a1) a2 1 999) = 0 then (0 : Int32) else 1) 2).1 58 0 2) = 20 then (0 : Int32) else 1) 3)).1 58 0 2))) + 1).toNatClampNeg) a2) 58 0 (((33 + (3 * ((g_X12_keeps (g_X12_throwsIf (g_X12_throwsIf (g_X12_noPart (hp_i h 12 0 0 0) a1) (if ¬ (f_X12_in (g_X12_noPart (hp_i h 12 0 0 0) a1) a2 1 999) = 0 then (0 : Int32) else 1) 2) (if ¬ ((g_X12_throwsIf (g_X12_noPart (hp_i h 12 0 0 0) a1) (if ¬ (f_X12_in (g_X12_noPart (hp_i h 12 0 0 0) a1) a2 1 999) = 0 then (0 : Int32) else 1) 2).1 58 0 2) = 20 then (0 : Int32) else 1) 3)).1 58 0 2))) + 2).toNatClampNeg) (((hp_i (hp_i (g_X12_keeps (g_X12_throwsIf (g_X12_throwsIf (g_X12_noPart (hp_i h 12 0 0 0) a1) (if ¬ (f_X12_in (g_X12_noPart (hp_i h 12 0 0 0) a1) a2 1 999) = 0 then (0 : Int32) else 1) 2) (if ¬ ((g_X12_throwsIf (g_X12_noPart (hp_i h 12 0 0 0) a1) (if ¬ (f_X12_in (g_X12_noPart (hp_i h 12 0 0 0) a1) a2 1 999) = 0 then (0 : Int32) else 1) 2).1 58 0 2) = 20 then (0 : Int32) else 1) 3)) 58 0 ((33 + (3 * ((g_X12_keeps (g_X12_throwsIf (g_X12_throwsIf (g_X12_noPart (hp_i h 12 0 0 0) a1) (if ¬ (f_X12_in (g_X12_noPart (hp_i h 12 0 0 0) a1) a2 1 999) = 0 then (0 : Int32) else 1) 2) (if ¬ ((g_X12_throwsIf (g_X12_noPart (hp_i h 12 0 0 0) a1) (if ¬ (f_X12_in (g_X12_noPart (hp_i h 12 0 0 0) a1) a2 1 999) = 0 then (0 : Int32) else 1) 2).1 58 0 2) = 20 then (0 : Int32) else 1) 3)).1 58 0 2))).toNatClampNeg) a1) 58 0 (((33 + (3 * ((g_X12_keeps (g_X12_throwsIf (g_X12_throwsIf (g_X12_noPart (hp_i h 12 0 0 0) a1) (if ¬ (f_X12_in (g_X12_noPart (hp_i h 12 0 0 0) a1) a2 1 999) = 0 then (0 : Int32) else 1) 2) (if ¬ ((g_X12_throwsIf (g_X12_noPart (hp_i h 12 0 0 0) a1) (if ¬ (f_X12_in (g_X12_noPart (hp_i h 12 0 0 0) a1) a2 1 999) = 0 then (0 : Int32) else 1) 2).1 58 0 2) = 20 then (0 : Int32) else 1) 3)).1 58 0 2))) + 1).toNatClampNeg) a2).1 58 0 0) + ((g_X12_keeps (g_X12_throwsIf (g_X12_throwsIf (g_X12_noPart (hp_i h 12 0 0 0) a1) (if ¬ (f_X12_in (g_X12_noPart (hp_i h 12 0 0 0) a1) a2 1 999) = 0 then (0 : Int32) else 1) 2) (if ¬ ((g_X12_throwsIf (g_X12_noPart (hp_i h 12 0 0 0) a1) (if ¬ (f_X12_in (g_X12_noPart (hp_i h 12 0 0 0) a1) a2 1 999) = 0 then (0 : Int32) else 1) 2).1 58 0 2) = 20 then (0 : Int32) else 1) 3)).1 56 0 ((176 + a1).toNatClampNeg)))) 58 0 2 (((hp_i (hp_i (hp_i (g_X12_keeps (g_X12_throwsIf (g_X12_throwsIf (g_X12_noPart (hp_i h 12 0 0 0) a1) (if ¬ (f_X12_in (g_X12_noPart (hp_i h 12 0 0 0) a1) a2 1 999) = 0 then (0 : Int32) else 1) 2) (if ¬ ((g_X12_throwsIf (g_X12_noPart (hp_i h 12 0 0 0) a1) (if ¬ (f_X12_in (g_X12_noPart (hp_i h 12 0 0 0) a1) a2 1 999) = 0 then (0 : Int32) else 1) 2).1 58 0 2) = 20 then (0 : Int32) else 1) 3)) 58 0 ((33 + (3 * ((g_X12_keeps (g_X12_throwsIf (g_X12_throwsIf (g_X12_noPart (hp_i h 12 0 0 0) a1) (if ¬ (f_X12_in (g_X12_noPart (hp_i h 12 0 0 0) a1) a2 1 999) = 0 then (0 : Int32) else 1) 2) (if ¬ ((g_X12_throwsIf (g_X12_noPart (hp_i h 12 0 0 0) a1) (if ¬ (f_X12_in (g_X12_noPart (hp_i h 12 0 0 0) a1) a2 1 999) = 0 then (0 : Int32) else 1) 2).1 58 0 2) = 20 then (0 : Int32) else 1) 3)).1 58 0 2))).toNatClampNeg) a1) 58 0 (((33 + (3 * ((g_X12_keeps (g_X12_throwsIf (g_X12_throwsIf (g_X12_noPart (hp_i h 12 0 0 0) a1) (if ¬ (f_X12_in (g_X12_noPart (hp_i h 12 0 0 0) a1) a2 1 999) = 0 then (0 : Int32) else 1) 2) (if ¬ ((g_X12_throwsIf (g_X12_noPart (hp_i h 12 0 0 0) a1) (if ¬ (f_X12_in (g_X12_noPart (hp_i h 12 0 0 0) a1) a2 1 999) = 0 then (0 : Int32) else 1) 2).1 58 0 2) = 20 then (0 : Int32) else 1) 3)).1 58 0 2))) + 1).toNatClampNeg) a2) 58 0 (((33 + (3 * ((g_X12_keeps (g_X12_throwsIf (g_X12_throwsIf (g_X12_noPart (hp_i h 12 0 0 0) a1) (if ¬ (f_X12_in (g_X12_noPart (hp_i h 12 0 0 0) a1) a2 1 999) = 0 then (0 : Int32) else 1) 2) (if ¬ ((g_X12_throwsIf (g_X12_noPart (hp_i h 12 0 0 0) a1) (if ¬ (f_X12_in (g_X12_noPart (hp_i h 12 0 0 0) a1) a2 1 999) = 0 then (0 : Int32) else 1) 2).1 58 0 2) = 20 then (0 : Int32) else 1) 3)).1 58 0 2))) + 2).toNatClampNeg) (((hp_i (hp_i (g_X12_keeps (g_X12_throwsIf (g_X12_throwsIf (g_X12_noPart (hp_i h 12 0 0 0) a1) (if ¬ (f_X12_in (g_X12_noPart (hp_i h 12 0 0 0) a1) a2 1 999) = 0 then (0 : Int32) else 1) 2) (if ¬ ((g_X12_throwsIf (g_X12_noPart (hp_i h 12 0 0 0) a1) (if ¬ (f_X12_in (g_X12_noPart (hp_i h 12 0 0 0) a1) a2 1 999) = 0 then (0 : Int32) else 1) 2).1 58 0 2) = 20 then (0 : Int32) else 1) 3)) 58 0 ((33 + (3 * ((g_X12_keeps (g_X12_throwsIf (g_X12_throwsIf (g_X12_noPart (hp_i h 12 0 0 0) a1) (if ¬ (f_X12_in (g_X12_noPart (hp_i h 12 0 0 0) a1) a2 1 999) = 0 then (0 : Int32) else 1) 2) (if ¬ ((g_X12_throwsIf (g_X12_noPart (hp_i h 12 0 0 0) a1) (if ¬ (f_X12_in (g_X12_noPart (hp_i h 12 0 0 0) a1) a2 1 999) = 0 then (0 : Int32) else 1) 2).1 58 0 2) = 20 then (0 : Int32) else 1) 3)).1 58 0 2))).toNatClampNeg) a1) 58 0 (((33 + (3 * ((g_X12_keeps (g_X12_throwsIf (g_X12_throwsIf (g_X12_noPart (hp_i h 12 0 0 0) a1) (if ¬ (f_X12_in (g_X12_noPart (hp_i h 12 0 0 0) a1) a2 1 999) = 0 then (0 : Int32) else 1) 2) (if ¬ ((g_X12_throwsIf (g_X12_noPart (hp_i h 12 0 0 0) a1) (if ¬ (f_X12_in (g_X12_noPart (hp_i h 12 0 0 0) a1) a2 1 999) = 0 then (0 : Int32) else 1) 2).1 58 0 2) = 20 then (0 : Int32) else 1) 3)).1 58 0 2))) + 1).toNatClampNeg) a2).1 58 0 0) + ((g_X12_keeps (g_X12_throwsIf (g_X12_throwsIf (g_X12_noPart (hp_i h 12 0 0 0) a1) (if ¬ (f_X12_in (g_X12_noPart (hp_i h 12 0 0 0) a1) a2 1 999) = 0 then (0 : Int32) else 1) 2) (if ¬ ((g_X12_throwsIf (g_X12_noPart (hp_i h 12 0 0 0) a1) (if ¬ (f_X12_in (g_X12_noPart (hp_i h 12 0 0 0) a1) a2 1 999) = 0 then (0 : Int32) else 1) 2).1 58 0 2) = 20 then (0 : Int32) else 1) 3)).1 56 0 ((176 + a1).toNatClampNeg)))).1 58 0 2) + 1)).1 58 0 8) + a2)) else (g_X12_throwsIf (g_X12_throwsIf (g_X12_noPart (hp_i h 12 0 0 0) a1) (if ¬ (f_X12_in (g_X12_noPart (hp_i h 12 0 0 0) a1) a2 1 999) = 0 then (0 : Int32) else 1) 2) (if ¬ ((g_X12_throwsIf (g_X12_noPart (hp_i h 12 0 0 0) a1) (if ¬ (f_X12_in (g_X12_noPart (hp_i h 12 0 0 0) a1) a2 1 999) = 0 then (0 : Int32) else 1) 2).1 58 0 2) = 20 then (0 : Int32) else 1) 3)))
set_option maxHeartbeats 4000000 in
theorem c_X12_buy {d : Nat} {h : Hp} {P : Int32 → Hp → Prop} {Qx : String → Hp → Prop} {a1 : Int32} {a2 : Int32}  (hp : p_X12_buy h a1 a2) (k : P (f_X12_buy h a1 a2) (g_X12_buy h a1 a2)) : CL 0 (d + 3) mX12_buy [vR 12 0, vI a1, vI a2] h (oI P) Qx := by
  replace k : oI P (some (vI (f_X12_buy h a1 a2))) (g_X12_buy h a1 a2) := k
  unfold p_X12_buy at hp
  unfold f_X12_buy at k
  unfold g_X12_buy at k
  refine CL.ofF (plainFor_of_name rfl) rfl (Nat.le_of_ble_eq_true rfl) (vc_X12_buy_0 (d := d + 2)  ?_)
  refine c_X12_noPart  hp.1 ?_
  replace hp := hp.2
  refine ⟨fun c => ?_, fun c => ?_⟩
  · replace hp := hp.1 c
    try simp only [if_pos c] at k
    exact k
  · replace hp := hp.2 c
    try simp only [if_neg (oa_nn c)] at k
    refine c_X12_in  hp.1 ?_
    replace hp := hp.2
    refine c_X12_throwsIf  hp.1 ?_
    replace hp := hp.2
    refine ⟨fun c => ?_, fun c => ?_⟩
    · replace hp := hp.1 c
      try simp only [if_pos c] at k
      exact k
    · replace hp := hp.2 c
      try simp only [if_neg (oa_nn c)] at k
      refine c_X12_throwsIf  hp.1 ?_
      replace hp := hp.2
      refine ⟨fun c => ?_, fun c => ?_⟩
      · replace hp := hp.1 c
        try simp only [if_pos c] at k
        refine c_X12_keeps  hp.1 ?_
        replace hp := hp.2
        refine ⟨hp.1, ?_⟩
        replace hp := hp.2
        refine ⟨hp.1, ?_⟩
        replace hp := hp.2
        refine ⟨hp.1, ?_⟩
        replace hp := hp.2
        refine ⟨hp.1, ?_⟩
        replace hp := hp.2
        refine ⟨hp.1, ?_⟩
        replace hp := hp.2
        exact k
      · replace hp := hp.2 c
        try simp only [if_neg c] at k
        exact k
def pw_X12_loser_4 : Nat → Hp → Int32 → Int32 → Int32 → Prop
  | 0, _, _, _, _ => False
  | n + 1, h, x1, x2, x3 => (((h.1 58 0 1) ≤ x3) → True) ∧ ((¬ (h.1 58 0 1) ≤ x3) → (p_X12_of h x3 6 ∧ ((((f_X12_of h x3 6) = 0) → (pw_X12_loser_4 n h x1 x2 (x3 + 1))) ∧ ((¬ (f_X12_of h x3 6) = 0) → (p_X12_of h x3 0 ∧ (p_X12_needs h (f_X12_of h x3 0) x1 ∧ (((¬ (f_X12_needs h (f_X12_of h x3 0) x1) = 0) → (((x2 = (-1)) → (pw_X12_loser_4 n h x1 x3 (x3 + 1))) ∧ ((¬ x2 = (-1)) → (p_X12_of h x3 2 ∧ (p_X12_of h x2 2 ∧ ((((f_X12_of h x3 2) < (f_X12_of h x2 2)) → (pw_X12_loser_4 n h x1 x3 (x3 + 1))) ∧ ((¬ (f_X12_of h x3 2) < (f_X12_of h x2 2)) → (p_X12_of h x3 2 ∧ (p_X12_of h x2 2 ∧ (((¬ (f_X12_of h x3 2) = (f_X12_of h x2 2)) → (pw_X12_loser_4 n h x1 x2 (x3 + 1))) ∧ (((f_X12_of h x3 2) = (f_X12_of h x2 2)) → (p_X12_of h x3 3 ∧ (p_X12_of h x2 3 ∧ (pw_X12_loser_4 n h x1 (if (if (f_X12_of h x3 3) < (f_X12_of h x2 3) then (0 : Int32) else 1) = 0 then (x2 : Int32) else x3) (x3 + 1))))))))))))))) ∧ (((f_X12_needs h (f_X12_of h x3 0) x1) = 0) → (pw_X12_loser_4 n h x1 x2 (x3 + 1))))))))))
def fw_X12_loser_4 : Nat → Hp → Int32 → Int32 → Int32 → Int32
  | 0, _, _, _, _ => 0
  | n + 1, h, x1, x2, x3 => if (h.1 58 0 1) ≤ x3 then x2 else (if (f_X12_of h x3 6) = 0 then (fw_X12_loser_4 n h x1 x2 (x3 + 1)) else (if ¬ (f_X12_needs h (f_X12_of h x3 0) x1) = 0 then (if x2 = (-1) then (fw_X12_loser_4 n h x1 x3 (x3 + 1)) else (if (f_X12_of h x3 2) < (f_X12_of h x2 2) then (fw_X12_loser_4 n h x1 x3 (x3 + 1)) else (if ¬ (f_X12_of h x3 2) = (f_X12_of h x2 2) then (fw_X12_loser_4 n h x1 x2 (x3 + 1)) else (fw_X12_loser_4 n h x1 (if (if (f_X12_of h x3 3) < (f_X12_of h x2 3) then (0 : Int32) else 1) = 0 then (x2 : Int32) else x3) (x3 + 1))))) else (fw_X12_loser_4 n h x1 x2 (x3 + 1))))
set_option maxHeartbeats 4000000 in
theorem lw_X12_loser_4 {X : WD → State → Prop} {d rb : Nat} {Qr : Option AV → Hp → Prop} {Qx : String → Hp → Prop}   : ∀ (n : Nat) (h : Hp) (x1 : Int32) (x2 : Int32) (x3 : Int32), pw_X12_loser_4 n h x1 x2 x3 → Qr (some (vI (fw_X12_loser_4 n h x1 x2 x3))) h → AW X (d + 2) rb mX12_loser 4 [(0, vR 12 0), (1, vI x1), (2, vI x2), (3, vI x3)] [] h Qr Qx := by
  intro n
  induction n with
  | zero => intro h x1 x2 x3 hp; exact hp.elim
  | succ n ih =>
    intro h x1 x2 x3 hp k
    rw [pw_X12_loser_4] at hp
    rw [fw_X12_loser_4] at k
    refine vc_X12_loser_4 (d := d + 1)  ?_
    refine ⟨fun c => ?_, fun c => ?_⟩
    · replace hp := hp.1 c
      try simp only [if_pos c] at k
      exact k
    · replace hp := hp.2 c
      try simp only [if_neg c] at k
      refine c_X12_of  hp.1 ?_
      replace hp := hp.2
      refine ⟨fun c => ?_, fun c => ?_⟩
      · replace hp := hp.1 c
        try simp only [if_pos c] at k
        exact ih _ _ _ _ hp k
      · replace hp := hp.2 c
        try simp only [if_neg c] at k
        refine c_X12_of  hp.1 ?_
        replace hp := hp.2
        refine c_X12_needs  hp.1 ?_
        replace hp := hp.2
        refine ⟨fun c => ?_, fun c => ?_⟩
        · replace hp := hp.1 c
          try simp only [if_pos c] at k
          refine ⟨fun c => ?_, fun c => ?_⟩
          · replace hp := hp.1 c
            try simp only [if_pos c] at k
            exact ih _ _ _ _ hp k
          · replace hp := hp.2 c
            try simp only [if_neg c] at k
            refine c_X12_of  hp.1 ?_
            replace hp := hp.2
            refine c_X12_of  hp.1 ?_
            replace hp := hp.2
            refine ⟨fun c => ?_, fun c => ?_⟩
            · replace hp := hp.1 c
              try simp only [if_pos c] at k
              exact ih _ _ _ _ hp k
            · replace hp := hp.2 c
              try simp only [if_neg c] at k
              refine c_X12_of  hp.1 ?_
              replace hp := hp.2
              refine c_X12_of  hp.1 ?_
              replace hp := hp.2
              refine ⟨fun c => ?_, fun c => ?_⟩
              · replace hp := hp.1 c
                try simp only [if_pos c] at k
                exact ih _ _ _ _ hp k
              · replace hp := hp.2 c
                try simp only [if_neg (oa_nn c)] at k
                refine c_X12_of  hp.1 ?_
                replace hp := hp.2
                refine c_X12_of  hp.1 ?_
                replace hp := hp.2
                exact ih _ _ _ _ hp k
        · replace hp := hp.2 c
          try simp only [if_neg (oa_nn c)] at k
          exact ih _ _ _ _ hp k
def p_X12_loser (h : Hp) (a1 : Int32) : Prop := pw_X12_loser_4 oa_N h a1 (-1) 0
def f_X12_loser (h : Hp) (a1 : Int32) : Int32 := fw_X12_loser_4 oa_N h a1 (-1) 0
set_option maxHeartbeats 4000000 in
theorem c_X12_loser {d : Nat} {h : Hp} {P : Int32 → Hp → Prop} {Qx : String → Hp → Prop} {a1 : Int32}  (hp : p_X12_loser h a1) (k : P (f_X12_loser h a1) h) : CL 0 (d + 2) mX12_loser [vR 12 0, vI a1] h (oI P) Qx := by
  replace k : oI P (some (vI (f_X12_loser h a1))) h := k
  unfold p_X12_loser at hp
  unfold f_X12_loser at k
  refine CL.ofF (plainFor_of_name rfl) rfl (Nat.le_of_ble_eq_true rfl) (vc_X12_loser_0 (d := d + 1)  ?_)
  exact lw_X12_loser_4  _ _ _ _ _ hp k
def pw_X12_adjust_55 : Nat → Hp → Int32 → Int32 → Int32 → Prop
  | 0, _, _, _, _ => False
  | n + 1, h, x1, x2, x3 => (vp_in (21 + x1) 301) ∧ ((vp_in (9 + x1) 301) ∧ ((((h.1 58 0 ((21 + x1).toNatClampNeg)) ≤ (h.1 58 0 ((9 + x1).toNatClampNeg))) → True) ∧ ((¬ (h.1 58 0 ((21 + x1).toNatClampNeg)) ≤ (h.1 58 0 ((9 + x1).toNatClampNeg))) → (p_X12_loser h x1 ∧ (p_X12_of h (f_X12_loser h x1) 4 ∧ (((¬ (f_X12_of h (f_X12_loser h x1) 4) = 1) → (p_X12_holds h (f_X12_loser h x1) (-1) ∧ (pw_X12_adjust_55 n (g_X12_holds h (f_X12_loser h x1) (-1)) x1 x2 (x3 + 1)))) ∧ (((f_X12_of h (f_X12_loser h x1) 4) = 1) → (p_X12_of h (f_X12_loser h x1) 6 ∧ (p_X12_holds h (f_X12_loser h x1) (-(f_X12_of h (f_X12_loser h x1) 6)) ∧ (pw_X12_adjust_55 n (g_X12_holds h (f_X12_loser h x1) (-(f_X12_of h (f_X12_loser h x1) 6))) x1 x2 (x3 + (f_X12_of h (f_X12_loser h x1) 6))))))))))))
def fw_X12_adjust_55 : Nat → Hp → Int32 → Int32 → Int32 → Int32
  | 0, _, _, _, _ => 0
  | n + 1, h, x1, x2, x3 => if (h.1 58 0 ((21 + x1).toNatClampNeg)) ≤ (h.1 58 0 ((9 + x1).toNatClampNeg)) then x3 else (if ¬ (f_X12_of h (f_X12_loser h x1) 4) = 1 then (fw_X12_adjust_55 n (g_X12_holds h (f_X12_loser h x1) (-1)) x1 x2 (x3 + 1)) else (fw_X12_adjust_55 n (g_X12_holds h (f_X12_loser h x1) (-(f_X12_of h (f_X12_loser h x1) 6))) x1 x2 (x3 + (f_X12_of h (f_X12_loser h x1) 6))))
def gw_X12_adjust_55 : Nat → Hp → Int32 → Int32 → Int32 → Hp
  | 0, h, _, _, _ => h
  | n + 1, h, x1, x2, x3 => if (h.1 58 0 ((21 + x1).toNatClampNeg)) ≤ (h.1 58 0 ((9 + x1).toNatClampNeg)) then h else (if ¬ (f_X12_of h (f_X12_loser h x1) 4) = 1 then (gw_X12_adjust_55 n (g_X12_holds h (f_X12_loser h x1) (-1)) x1 x2 (x3 + 1)) else (gw_X12_adjust_55 n (g_X12_holds h (f_X12_loser h x1) (-(f_X12_of h (f_X12_loser h x1) 6))) x1 x2 (x3 + (f_X12_of h (f_X12_loser h x1) 6))))
set_option maxHeartbeats 4000000 in
theorem lw_X12_adjust_55 {X : WD → State → Prop} {d rb : Nat} {Qr : Option AV → Hp → Prop} {Qx : String → Hp → Prop}   : ∀ (n : Nat) (h : Hp) (x1 : Int32) (x2 : Int32) (x3 : Int32), pw_X12_adjust_55 n h x1 x2 x3 → Qr (some (vI (fw_X12_adjust_55 n h x1 x2 x3))) (gw_X12_adjust_55 n h x1 x2 x3) → AW X (d + 3) rb mX12_adjust 55 [(0, vR 12 0), (1, vI x1), (2, vI x2), (3, vI x3)] [] h Qr Qx := by
  intro n
  induction n with
  | zero => intro h x1 x2 x3 hp; exact hp.elim
  | succ n ih =>
    intro h x1 x2 x3 hp k
    rw [pw_X12_adjust_55] at hp
    rw [fw_X12_adjust_55] at k
    rw [gw_X12_adjust_55] at k
    refine vc_X12_adjust_55 (d := d + 2)  ?_
    refine ⟨hp.1, ?_⟩
    replace hp := hp.2
    refine ⟨hp.1, ?_⟩
    replace hp := hp.2
    refine ⟨fun c => ?_, fun c => ?_⟩
    · replace hp := hp.1 c
      try simp only [if_pos c] at k
      exact k
    · replace hp := hp.2 c
      try simp only [if_neg c] at k
      refine c_X12_loser  hp.1 ?_
      replace hp := hp.2
      refine c_X12_of  hp.1 ?_
      replace hp := hp.2
      refine ⟨fun c => ?_, fun c => ?_⟩
      · replace hp := hp.1 c
        try simp only [if_pos c] at k
        refine c_X12_holds  hp.1 ?_
        replace hp := hp.2
        exact ih _ _ _ _ hp k
      · replace hp := hp.2 c
        try simp only [if_neg (oa_nn c)] at k
        refine c_X12_of  hp.1 ?_
        replace hp := hp.2
        refine c_X12_holds  hp.1 ?_
        replace hp := hp.2
        exact ih _ _ _ _ hp k
def p_X12_adjust (h : Hp) (a1 : Int32) (a2 : Int32) : Prop := p_X12_noPart (hp_i h 12 0 0 0) a1 ∧ (((¬ (f_X12_noPart (hp_i h 12 0 0 0) a1) = 0) → True) ∧ (((f_X12_noPart (hp_i h 12 0 0 0) a1) = 0) → (p_X12_in (g_X12_noPart (hp_i h 12 0 0 0) a1) a2 0 9999 ∧ (p_X12_throwsIf (g_X12_noPart (hp_i h 12 0 0 0) a1) (if ¬ (f_X12_in (g_X12_noPart (hp_i h 12 0 0 0) a1) a2 0 9999) = 0 then (0 : Int32) else 1) 2 ∧ ((((f_X12_throwsIf (g_X12_noPart (hp_i h 12 0 0 0) a1) (if ¬ (f_X12_in (g_X12_noPart (hp_i h 12 0 0 0) a1) a2 0 9999) = 0 then (0 : Int32) else 1) 2) = 0) → (p_X12_keeps (g_X12_throwsIf (g_X12_noPart (hp_i h 12 0 0 0) a1) (if ¬ (f_X12_in (g_X12_noPart (hp_i h 12 0 0 0) a1) a2 0 9999) = 0 then (0 : Int32) else 1) 2) ∧ ((vp_in (9 + a1) 301) ∧ (pw_X12_adjust_55 oa_N (hp_i (g_X12_keeps (g_X12_throwsIf (g_X12_noPart (hp_i h 12 0 0 0) a1) (if ¬ (f_X12_in (g_X12_noPart (hp_i h 12 0 0 0) a1) a2 0 9999) = 0 then (0 : Int32) else 1) 2)) 58 0 ((9 + a1).toNatClampNeg) a2) a1 a2 0)))) ∧ ((¬ (f_X12_throwsIf (g_X12_noPart (hp_i h 12 0 0 0) a1) (if ¬ (f_X12_in (g_X12_noPart (hp_i h 12 0 0 0) a1) a2 0 9999) = 0 then (0 : Int32) else 1) 2) = 0) → True))))))
def f_X12_adjust (h : Hp) (a1 : Int32) (a2 : Int32) : Int32 := if ¬ (f_X12_noPart (hp_i h 12 0 0 0) a1) = 0 then 0 else (if (f_X12_throwsIf (g_X12_noPart (hp_i h 12 0 0 0) a1) (if ¬ (f_X12_in (g_X12_noPart (hp_i h 12 0 0 0) a1) a2 0 9999) = 0 then (0 : Int32) else 1) 2) = 0 then (fw_X12_adjust_55 oa_N (hp_i (g_X12_keeps (g_X12_throwsIf (g_X12_noPart (hp_i h 12 0 0 0) a1) (if ¬ (f_X12_in (g_X12_noPart (hp_i h 12 0 0 0) a1) a2 0 9999) = 0 then (0 : Int32) else 1) 2)) 58 0 ((9 + a1).toNatClampNeg) a2) a1 a2 0) else 0)
def g_X12_adjust (h : Hp) (a1 : Int32) (a2 : Int32) : Hp := if ¬ (f_X12_noPart (hp_i h 12 0 0 0) a1) = 0 then (g_X12_noPart (hp_i h 12 0 0 0) a1) else (if (f_X12_throwsIf (g_X12_noPart (hp_i h 12 0 0 0) a1) (if ¬ (f_X12_in (g_X12_noPart (hp_i h 12 0 0 0) a1) a2 0 9999) = 0 then (0 : Int32) else 1) 2) = 0 then (gw_X12_adjust_55 oa_N (hp_i (g_X12_keeps (g_X12_throwsIf (g_X12_noPart (hp_i h 12 0 0 0) a1) (if ¬ (f_X12_in (g_X12_noPart (hp_i h 12 0 0 0) a1) a2 0 9999) = 0 then (0 : Int32) else 1) 2)) 58 0 ((9 + a1).toNatClampNeg) a2) a1 a2 0) else (g_X12_throwsIf (g_X12_noPart (hp_i h 12 0 0 0) a1) (if ¬ (f_X12_in (g_X12_noPart (hp_i h 12 0 0 0) a1) a2 0 9999) = 0 then (0 : Int32) else 1) 2))
set_option maxHeartbeats 4000000 in
theorem c_X12_adjust {d : Nat} {h : Hp} {P : Int32 → Hp → Prop} {Qx : String → Hp → Prop} {a1 : Int32} {a2 : Int32}  (hp : p_X12_adjust h a1 a2) (k : P (f_X12_adjust h a1 a2) (g_X12_adjust h a1 a2)) : CL 0 (d + 3) mX12_adjust [vR 12 0, vI a1, vI a2] h (oI P) Qx := by
  replace k : oI P (some (vI (f_X12_adjust h a1 a2))) (g_X12_adjust h a1 a2) := k
  unfold p_X12_adjust at hp
  unfold f_X12_adjust at k
  unfold g_X12_adjust at k
  refine CL.ofF (plainFor_of_name rfl) rfl (Nat.le_of_ble_eq_true rfl) (vc_X12_adjust_0 (d := d + 2)  ?_)
  refine c_X12_noPart  hp.1 ?_
  replace hp := hp.2
  refine ⟨fun c => ?_, fun c => ?_⟩
  · replace hp := hp.1 c
    try simp only [if_pos c] at k
    exact k
  · replace hp := hp.2 c
    try simp only [if_neg (oa_nn c)] at k
    refine c_X12_in  hp.1 ?_
    replace hp := hp.2
    refine c_X12_throwsIf  hp.1 ?_
    replace hp := hp.2
    refine ⟨fun c => ?_, fun c => ?_⟩
    · replace hp := hp.1 c
      try simp only [if_pos c] at k
      refine c_X12_keeps  hp.1 ?_
      replace hp := hp.2
      refine ⟨hp.1, ?_⟩
      replace hp := hp.2
      exact lw_X12_adjust_55  _ _ _ _ _ hp k
    · replace hp := hp.2 c
      try simp only [if_neg c] at k
      exact k
def pi_X12_comesNow_78 : Nat → Hp → Int32 → Int32 → Int32 → Int32 → Int32 → Prop
  | 0, _, _, _, _, _, _ => False
  | n + 1, h, x1, x2, x3, x4, x5 => ((3 ≤ x5) → True) ∧ ((¬ 3 ≤ x5) → ((vp_in (x4 + x5) 301) ∧ ((vp_in ((33 + (3 * x2)) + x5) 301) ∧ (pi_X12_comesNow_78 n (hp_i h 58 0 (((33 + (3 * x2)) + x5).toNatClampNeg) (h.1 58 0 ((x4 + x5).toNatClampNeg))) x1 x2 x3 x4 (x5 + 1)))))
def iw_x5_X12_comesNow_78 : Nat → Hp → Int32 → Int32 → Int32 → Int32 → Int32 → Int32
  | 0, _, _, _, _, _, x5 => x5
  | n + 1, h, x1, x2, x3, x4, x5 => if 3 ≤ x5 then x5 else (iw_x5_X12_comesNow_78 n (hp_i h 58 0 (((33 + (3 * x2)) + x5).toNatClampNeg) (h.1 58 0 ((x4 + x5).toNatClampNeg))) x1 x2 x3 x4 (x5 + 1))
def iw_h_X12_comesNow_78 : Nat → Hp → Int32 → Int32 → Int32 → Int32 → Int32 → Hp
  | 0, h, _, _, _, _, _ => h
  | n + 1, h, x1, x2, x3, x4, x5 => if 3 ≤ x5 then h else (iw_h_X12_comesNow_78 n (hp_i h 58 0 (((33 + (3 * x2)) + x5).toNatClampNeg) (h.1 58 0 ((x4 + x5).toNatClampNeg))) x1 x2 x3 x4 (x5 + 1))
set_option maxHeartbeats 4000000 in
theorem li_X12_comesNow_78 {X : WD → State → Prop} {d rb : Nat} {Qr : Option AV → Hp → Prop} {Qx : String → Hp → Prop}   : ∀ (n : Nat) (h : Hp) (x1 : Int32) (x2 : Int32) (x3 : Int32) (x4 : Int32) (x5 : Int32), pi_X12_comesNow_78 n h x1 x2 x3 x4 x5 → AW X (d + 1) rb mX12_comesNow 114 [(0, vR 12 0), (1, vI x1), (2, vI x2), (3, vI x3), (4, vI x4), (5, vI (iw_x5_X12_comesNow_78 n h x1 x2 x3 x4 x5))] [] (iw_h_X12_comesNow_78 n h x1 x2 x3 x4 x5) Qr Qx → AW X (d + 1) rb mX12_comesNow 78 [(0, vR 12 0), (1, vI x1), (2, vI x2), (3, vI x3), (4, vI x4), (5, vI x5)] [] h Qr Qx := by
  intro n
  induction n with
  | zero => intro h x1 x2 x3 x4 x5 hp; exact hp.elim
  | succ n ih =>
    intro h x1 x2 x3 x4 x5 hp k
    rw [pi_X12_comesNow_78] at hp
    simp only [iw_x5_X12_comesNow_78, iw_h_X12_comesNow_78] at k
    refine vc_X12_comesNow_78 (d := d + 0)  ?_
    refine ⟨fun c => ?_, fun c => ?_⟩
    · replace hp := hp.1 c
      try simp only [if_pos c] at k
      exact k
    · replace hp := hp.2 c
      try simp only [if_neg c] at k
      refine ⟨hp.1, ?_⟩
      replace hp := hp.2
      refine ⟨hp.1, ?_⟩
      replace hp := hp.2
      exact ih _ _ _ _ _ _ hp k
def pw_X12_comesNow_6 : Nat → Hp → Int32 → Int32 → Int32 → Prop
  | 0, _, _, _, _ => False
  | n + 1, h, x1, x2, x3 => (((h.1 58 0 2) ≤ x3) → True) ∧ ((¬ (h.1 58 0 2) ≤ x3) → ((vp_in ((33 + (3 * x3)) + 2) 301) ∧ (((¬ (h.1 58 0 (((33 + (3 * x3)) + 2).toNatClampNeg)) = (h.1 58 0 0)) → (pi_X12_comesNow_78 oa_N h x1 x2 x3 (33 + (3 * x3)) 0 ∧ (pw_X12_comesNow_6 n (iw_h_X12_comesNow_78 oa_N h x1 x2 x3 (33 + (3 * x3)) 0) x1 (x2 + 1) (x3 + 1)))) ∧ (((h.1 58 0 (((33 + (3 * x3)) + 2).toNatClampNeg)) = (h.1 58 0 0)) → ((vp_in (33 + (3 * x3)) 301) ∧ ((vp_in (9 + (h.1 58 0 ((33 + (3 * x3)).toNatClampNeg))) 301) ∧ ((vp_in ((33 + (3 * x3)) + 1) 301) ∧ ((vp_in (9 + (h.1 58 0 ((33 + (3 * x3)).toNatClampNeg))) 301) ∧ (pw_X12_comesNow_6 n (hp_i h 58 0 ((9 + (h.1 58 0 ((33 + (3 * x3)).toNatClampNeg))).toNatClampNeg) ((h.1 58 0 ((9 + (h.1 58 0 ((33 + (3 * x3)).toNatClampNeg))).toNatClampNeg)) + (h.1 58 0 (((33 + (3 * x3)) + 1).toNatClampNeg)))) (x1 + 1) x2 (x3 + 1))))))))))
def fw_X12_comesNow_6 : Nat → Hp → Int32 → Int32 → Int32 → Int32
  | 0, _, _, _, _ => 0
  | n + 1, h, x1, x2, x3 => if (h.1 58 0 2) ≤ x3 then x1 else (if ¬ (h.1 58 0 (((33 + (3 * x3)) + 2).toNatClampNeg)) = (h.1 58 0 0) then (fw_X12_comesNow_6 n (iw_h_X12_comesNow_78 oa_N h x1 x2 x3 (33 + (3 * x3)) 0) x1 (x2 + 1) (x3 + 1)) else (fw_X12_comesNow_6 n (hp_i h 58 0 ((9 + (h.1 58 0 ((33 + (3 * x3)).toNatClampNeg))).toNatClampNeg) ((h.1 58 0 ((9 + (h.1 58 0 ((33 + (3 * x3)).toNatClampNeg))).toNatClampNeg)) + (h.1 58 0 (((33 + (3 * x3)) + 1).toNatClampNeg)))) (x1 + 1) x2 (x3 + 1)))
def gw_X12_comesNow_6 : Nat → Hp → Int32 → Int32 → Int32 → Hp
  | 0, h, _, _, _ => h
  | n + 1, h, x1, x2, x3 => if (h.1 58 0 2) ≤ x3 then (hp_i h 58 0 2 x2) else (if ¬ (h.1 58 0 (((33 + (3 * x3)) + 2).toNatClampNeg)) = (h.1 58 0 0) then (gw_X12_comesNow_6 n (iw_h_X12_comesNow_78 oa_N h x1 x2 x3 (33 + (3 * x3)) 0) x1 (x2 + 1) (x3 + 1)) else (gw_X12_comesNow_6 n (hp_i h 58 0 ((9 + (h.1 58 0 ((33 + (3 * x3)).toNatClampNeg))).toNatClampNeg) ((h.1 58 0 ((9 + (h.1 58 0 ((33 + (3 * x3)).toNatClampNeg))).toNatClampNeg)) + (h.1 58 0 (((33 + (3 * x3)) + 1).toNatClampNeg)))) (x1 + 1) x2 (x3 + 1)))
set_option maxHeartbeats 4000000 in
theorem lw_X12_comesNow_6 {X : WD → State → Prop} {d rb : Nat} {Qr : Option AV → Hp → Prop} {Qx : String → Hp → Prop}   : ∀ (n : Nat) (h : Hp) (x1 : Int32) (x2 : Int32) (x3 : Int32), pw_X12_comesNow_6 n h x1 x2 x3 → Qr (some (vI (fw_X12_comesNow_6 n h x1 x2 x3))) (gw_X12_comesNow_6 n h x1 x2 x3) → AW X (d + 1) rb mX12_comesNow 6 [(0, vR 12 0), (1, vI x1), (2, vI x2), (3, vI x3)] [] h Qr Qx := by
  intro n
  induction n with
  | zero => intro h x1 x2 x3 hp; exact hp.elim
  | succ n ih =>
    intro h x1 x2 x3 hp k
    rw [pw_X12_comesNow_6] at hp
    rw [fw_X12_comesNow_6] at k
    rw [gw_X12_comesNow_6] at k
    refine vc_X12_comesNow_6 (d := d + 0)  ?_
    refine ⟨fun c => ?_, fun c => ?_⟩
    · replace hp := hp.1 c
      try simp only [if_pos c] at k
      exact k
    · replace hp := hp.2 c
      try simp only [if_neg c] at k
      refine ⟨hp.1, ?_⟩
      replace hp := hp.2
      refine ⟨fun c => ?_, fun c => ?_⟩
      · replace hp := hp.1 c
        try simp only [if_pos c] at k
        refine li_X12_comesNow_78  _ _ _ _ _ _ _ hp.1 ?_
        replace hp := hp.2
        refine vc_X12_comesNow_114 (d := d + 0)  ?_
        exact ih _ _ _ _ hp k
      · replace hp := hp.2 c
        try simp only [if_neg (oa_nn c)] at k
        refine ⟨hp.1, ?_⟩
        replace hp := hp.2
        refine ⟨hp.1, ?_⟩
        replace hp := hp.2
        refine ⟨hp.1, ?_⟩
        replace hp := hp.2
        refine ⟨hp.1, ?_⟩
        replace hp := hp.2
        exact ih _ _ _ _ hp k
def p_X12_comesNow (h : Hp)  : Prop := pw_X12_comesNow_6 oa_N h 0 0 0
def f_X12_comesNow (h : Hp)  : Int32 := fw_X12_comesNow_6 oa_N h 0 0 0
def g_X12_comesNow (h : Hp)  : Hp := gw_X12_comesNow_6 oa_N h 0 0 0
set_option maxHeartbeats 4000000 in
theorem c_X12_comesNow {d : Nat} {h : Hp} {P : Int32 → Hp → Prop} {Qx : String → Hp → Prop}   (hp : p_X12_comesNow h ) (k : P (f_X12_comesNow h ) (g_X12_comesNow h )) : CL 0 (d + 1) mX12_comesNow [vR 12 0] h (oI P) Qx := by
  replace k : oI P (some (vI (f_X12_comesNow h ))) (g_X12_comesNow h ) := k
  unfold p_X12_comesNow at hp
  unfold f_X12_comesNow at k
  unfold g_X12_comesNow at k
  refine CL.ofF (plainFor_of_name rfl) rfl (Nat.le_of_ble_eq_true rfl) (vc_X12_comesNow_0 (d := d + 0)  ?_)
  exact lw_X12_comesNow_6  _ _ _ _ _ hp k
def pw_X12_advance_38 : Nat → Hp → Int32 → Int32 → Int32 → Prop
  | 0, _, _, _, _ => False
  | n + 1, h, x1, x2, x3 => ((x1 ≤ x3) → True) ∧ ((¬ x1 ≤ x3) → (p_X12_comesNow (hp_i h 58 0 0 ((h.1 58 0 0) + 1)) ∧ (pw_X12_advance_38 n (g_X12_comesNow (hp_i h 58 0 0 ((h.1 58 0 0) + 1))) x1 (x2 + (f_X12_comesNow (hp_i h 58 0 0 ((h.1 58 0 0) + 1)))) (x3 + 1))))
def fw_X12_advance_38 : Nat → Hp → Int32 → Int32 → Int32 → Int32
  | 0, _, _, _, _ => 0
  | n + 1, h, x1, x2, x3 => if x1 ≤ x3 then x2 else (fw_X12_advance_38 n (g_X12_comesNow (hp_i h 58 0 0 ((h.1 58 0 0) + 1))) x1 (x2 + (f_X12_comesNow (hp_i h 58 0 0 ((h.1 58 0 0) + 1)))) (x3 + 1))
def gw_X12_advance_38 : Nat → Hp → Int32 → Int32 → Int32 → Hp
  | 0, h, _, _, _ => h
  | n + 1, h, x1, x2, x3 => if x1 ≤ x3 then h else (gw_X12_advance_38 n (g_X12_comesNow (hp_i h 58 0 0 ((h.1 58 0 0) + 1))) x1 (x2 + (f_X12_comesNow (hp_i h 58 0 0 ((h.1 58 0 0) + 1)))) (x3 + 1))
set_option maxHeartbeats 4000000 in
theorem lw_X12_advance_38 {X : WD → State → Prop} {d rb : Nat} {Qr : Option AV → Hp → Prop} {Qx : String → Hp → Prop}   : ∀ (n : Nat) (h : Hp) (x1 : Int32) (x2 : Int32) (x3 : Int32), pw_X12_advance_38 n h x1 x2 x3 → Qr (some (vI (fw_X12_advance_38 n h x1 x2 x3))) (gw_X12_advance_38 n h x1 x2 x3) → AW X (d + 2) rb mX12_advance 38 [(0, vR 12 0), (1, vI x1), (2, vI x2), (3, vI x3)] [] h Qr Qx := by
  intro n
  induction n with
  | zero => intro h x1 x2 x3 hp; exact hp.elim
  | succ n ih =>
    intro h x1 x2 x3 hp k
    rw [pw_X12_advance_38] at hp
    rw [fw_X12_advance_38] at k
    rw [gw_X12_advance_38] at k
    refine vc_X12_advance_38 (d := d + 1)  ?_
    refine ⟨fun c => ?_, fun c => ?_⟩
    · replace hp := hp.1 c
      try simp only [if_pos c] at k
      exact k
    · replace hp := hp.2 c
      try simp only [if_neg c] at k
      refine c_X12_comesNow  hp.1 ?_
      replace hp := hp.2
      exact ih _ _ _ _ hp k
def p_X12_advance (h : Hp) (a1 : Int32) : Prop := p_X12_in (hp_i h 12 0 0 0) a1 1 100 ∧ (p_X12_throwsIf (hp_i h 12 0 0 0) (if ¬ (f_X12_in (hp_i h 12 0 0 0) a1 1 100) = 0 then (0 : Int32) else 1) 1 ∧ ((((f_X12_throwsIf (hp_i h 12 0 0 0) (if ¬ (f_X12_in (hp_i h 12 0 0 0) a1 1 100) = 0 then (0 : Int32) else 1) 1) = 0) → (p_X12_keeps (g_X12_throwsIf (hp_i h 12 0 0 0) (if ¬ (f_X12_in (hp_i h 12 0 0 0) a1 1 100) = 0 then (0 : Int32) else 1) 1) ∧ (pw_X12_advance_38 oa_N (g_X12_keeps (g_X12_throwsIf (hp_i h 12 0 0 0) (if ¬ (f_X12_in (hp_i h 12 0 0 0) a1 1 100) = 0 then (0 : Int32) else 1) 1)) a1 0 0))) ∧ ((¬ (f_X12_throwsIf (hp_i h 12 0 0 0) (if ¬ (f_X12_in (hp_i h 12 0 0 0) a1 1 100) = 0 then (0 : Int32) else 1) 1) = 0) → True)))
def f_X12_advance (h : Hp) (a1 : Int32) : Int32 := if (f_X12_throwsIf (hp_i h 12 0 0 0) (if ¬ (f_X12_in (hp_i h 12 0 0 0) a1 1 100) = 0 then (0 : Int32) else 1) 1) = 0 then (fw_X12_advance_38 oa_N (g_X12_keeps (g_X12_throwsIf (hp_i h 12 0 0 0) (if ¬ (f_X12_in (hp_i h 12 0 0 0) a1 1 100) = 0 then (0 : Int32) else 1) 1)) a1 0 0) else 0
def g_X12_advance (h : Hp) (a1 : Int32) : Hp := if (f_X12_throwsIf (hp_i h 12 0 0 0) (if ¬ (f_X12_in (hp_i h 12 0 0 0) a1 1 100) = 0 then (0 : Int32) else 1) 1) = 0 then (gw_X12_advance_38 oa_N (g_X12_keeps (g_X12_throwsIf (hp_i h 12 0 0 0) (if ¬ (f_X12_in (hp_i h 12 0 0 0) a1 1 100) = 0 then (0 : Int32) else 1) 1)) a1 0 0) else (g_X12_throwsIf (hp_i h 12 0 0 0) (if ¬ (f_X12_in (hp_i h 12 0 0 0) a1 1 100) = 0 then (0 : Int32) else 1) 1)
set_option maxHeartbeats 4000000 in
theorem c_X12_advance {d : Nat} {h : Hp} {P : Int32 → Hp → Prop} {Qx : String → Hp → Prop} {a1 : Int32}  (hp : p_X12_advance h a1) (k : P (f_X12_advance h a1) (g_X12_advance h a1)) : CL 0 (d + 2) mX12_advance [vR 12 0, vI a1] h (oI P) Qx := by
  replace k : oI P (some (vI (f_X12_advance h a1))) (g_X12_advance h a1) := k
  unfold p_X12_advance at hp
  unfold f_X12_advance at k
  unfold g_X12_advance at k
  refine CL.ofF (plainFor_of_name rfl) rfl (Nat.le_of_ble_eq_true rfl) (vc_X12_advance_0 (d := d + 1)  ?_)
  refine c_X12_in  hp.1 ?_
  replace hp := hp.2
  refine c_X12_throwsIf  hp.1 ?_
  replace hp := hp.2
  refine ⟨fun c => ?_, fun c => ?_⟩
  · replace hp := hp.1 c
    try simp only [if_pos c] at k
    refine c_X12_keeps  hp.1 ?_
    replace hp := hp.2
    exact lw_X12_advance_38  _ _ _ _ _ hp k
  · replace hp := hp.2 c
    try simp only [if_neg c] at k
    exact k
def p_X12_total (h : Hp) (a1 : Int32) : Prop := p_X12_in (hp_i h 12 0 0 0) a1 0 4 ∧ ((((f_X12_in (hp_i h 12 0 0 0) a1 0 4) = 0) → True) ∧ ((¬ (f_X12_in (hp_i h 12 0 0 0) a1 0 4) = 0) → ((vp_in (4 + a1) 301) ∧ True)))
def f_X12_total (h : Hp) (a1 : Int32) : Int32 := if (f_X12_in (hp_i h 12 0 0 0) a1 0 4) = 0 then (-1) else ((hp_i h 12 0 0 0).1 58 0 ((4 + a1).toNatClampNeg))
def g_X12_total (h : Hp) (a1 : Int32) : Hp := if (f_X12_in (hp_i h 12 0 0 0) a1 0 4) = 0 then (hp_i h 12 0 0 0) else (hp_i h 12 0 0 0)
set_option maxHeartbeats 4000000 in
theorem c_X12_total {d : Nat} {h : Hp} {P : Int32 → Hp → Prop} {Qx : String → Hp → Prop} {a1 : Int32}  (hp : p_X12_total h a1) (k : P (f_X12_total h a1) (g_X12_total h a1)) : CL 0 (d + 2) mX12_total [vR 12 0, vI a1] h (oI P) Qx := by
  replace k : oI P (some (vI (f_X12_total h a1))) (g_X12_total h a1) := k
  unfold p_X12_total at hp
  unfold f_X12_total at k
  unfold g_X12_total at k
  refine CL.ofF (plainFor_of_name rfl) rfl (Nat.le_of_ble_eq_true rfl) (vc_X12_total_0 (d := d + 1)  ?_)
  refine c_X12_in  hp.1 ?_
  replace hp := hp.2
  refine ⟨fun c => ?_, fun c => ?_⟩
  · replace hp := hp.1 c
    try simp only [if_pos c] at k
    exact k
  · replace hp := hp.2 c
    try simp only [if_neg c] at k
    refine ⟨hp.1, ?_⟩
    replace hp := hp.2
    exact k
def p_X12_shipment (h : Hp) (a1 : Int32) (a2 : Int32) : Prop := p_X12_in (hp_i h 12 0 0 0) a2 0 2 ∧ ((((f_X12_in (hp_i h 12 0 0 0) a2 0 2) = 0) → True) ∧ ((¬ (f_X12_in (hp_i h 12 0 0 0) a2 0 2) = 0) → (p_X12_in (hp_i h 12 0 0 0) a1 0 (((hp_i h 12 0 0 0).1 58 0 3) - 1) ∧ ((((f_X12_in (hp_i h 12 0 0 0) a1 0 (((hp_i h 12 0 0 0).1 58 0 3) - 1)) = 0) → True) ∧ ((¬ (f_X12_in (hp_i h 12 0 0 0) a1 0 (((hp_i h 12 0 0 0).1 58 0 3) - 1)) = 0) → ((vp_in ((253 + (3 * ((((hp_i h 12 0 0 0).1 58 0 3) - 1) - a1))) + a2) 301) ∧ True))))))
def f_X12_shipment (h : Hp) (a1 : Int32) (a2 : Int32) : Int32 := if (f_X12_in (hp_i h 12 0 0 0) a2 0 2) = 0 then (-1) else (if (f_X12_in (hp_i h 12 0 0 0) a1 0 (((hp_i h 12 0 0 0).1 58 0 3) - 1)) = 0 then (-1) else ((hp_i h 12 0 0 0).1 58 0 (((253 + (3 * ((((hp_i h 12 0 0 0).1 58 0 3) - 1) - a1))) + a2).toNatClampNeg)))
def g_X12_shipment (h : Hp) (a1 : Int32) (a2 : Int32) : Hp := if (f_X12_in (hp_i h 12 0 0 0) a2 0 2) = 0 then (hp_i h 12 0 0 0) else (if (f_X12_in (hp_i h 12 0 0 0) a1 0 (((hp_i h 12 0 0 0).1 58 0 3) - 1)) = 0 then (hp_i h 12 0 0 0) else (hp_i h 12 0 0 0))
set_option maxHeartbeats 4000000 in
theorem c_X12_shipment {d : Nat} {h : Hp} {P : Int32 → Hp → Prop} {Qx : String → Hp → Prop} {a1 : Int32} {a2 : Int32}  (hp : p_X12_shipment h a1 a2) (k : P (f_X12_shipment h a1 a2) (g_X12_shipment h a1 a2)) : CL 0 (d + 2) mX12_shipment [vR 12 0, vI a1, vI a2] h (oI P) Qx := by
  replace k : oI P (some (vI (f_X12_shipment h a1 a2))) (g_X12_shipment h a1 a2) := k
  unfold p_X12_shipment at hp
  unfold f_X12_shipment at k
  unfold g_X12_shipment at k
  refine CL.ofF (plainFor_of_name rfl) rfl (Nat.le_of_ble_eq_true rfl) (vc_X12_shipment_0 (d := d + 1)  ?_)
  refine c_X12_in  hp.1 ?_
  replace hp := hp.2
  refine ⟨fun c => ?_, fun c => ?_⟩
  · replace hp := hp.1 c
    try simp only [if_pos c] at k
    exact k
  · replace hp := hp.2 c
    try simp only [if_neg c] at k
    refine c_X12_in  hp.1 ?_
    replace hp := hp.2
    refine ⟨fun c => ?_, fun c => ?_⟩
    · replace hp := hp.1 c
      try simp only [if_pos c] at k
      exact k
    · replace hp := hp.2 c
      try simp only [if_neg c] at k
      refine ⟨hp.1, ?_⟩
      replace hp := hp.2
      exact k
def p_X12_says (h : Hp) (a1 : Int32) : Prop := (vp_in (h.1 12 0 24) 320) ∧ True
def g_X12_says (h : Hp) (a1 : Int32) : Hp := hp_i (hp_i h 65 0 ((h.1 12 0 24).toNatClampNeg) (vp_nar .byte a1.toInt8.toInt32)) 12 0 24 ((h.1 12 0 24) + 1)
set_option maxHeartbeats 4000000 in
theorem c_X12_says {d : Nat} {h : Hp} {P : Hp → Prop} {Qx : String → Hp → Prop} {a1 : Int32}  (hp : p_X12_says h a1) (k : P  (g_X12_says h a1)) : CL 0 (d + 1) mX12_says [vR 12 0, vI a1] h (oV P) Qx := by
  replace k : oV P none (g_X12_says h a1) := k
  unfold p_X12_says at hp
  unfold g_X12_says at k
  refine CL.ofF (plainFor_of_name rfl) rfl (Nat.le_of_ble_eq_true rfl) (vc_X12_says_0 (d := d + 0)  ?_)
  refine ⟨hp.1, ?_⟩
  replace hp := hp.2
  exact k
def pw_X12_saysWord_2 : Nat → Hp → Nat → Int32 → Prop
  | 0, _, _, _ => False
  | n + 1, h, j1, x2 => p_J0_length_8abf5 h j1 ∧ ((((f_J0_length_8abf5 h j1) ≤ x2) → True) ∧ ((¬ (f_J0_length_8abf5 h j1) ≤ x2) → (p_J0_charAt_5068e h j1 x2 ∧ (p_X12_says h (f_J0_charAt_5068e h j1 x2) ∧ (pw_X12_saysWord_2 n (g_X12_says h (f_J0_charAt_5068e h j1 x2)) j1 (x2 + 1))))))
def gw_X12_saysWord_2 : Nat → Hp → Nat → Int32 → Hp
  | 0, h, _, _ => h
  | n + 1, h, j1, x2 => if (f_J0_length_8abf5 h j1) ≤ x2 then h else (gw_X12_saysWord_2 n (g_X12_says h (f_J0_charAt_5068e h j1 x2)) j1 (x2 + 1))
set_option maxHeartbeats 4000000 in
theorem lw_X12_saysWord_2 {X : WD → State → Prop} {d rb : Nat} {Qr : Option AV → Hp → Prop} {Qx : String → Hp → Prop} {j1 : Nat} (hj1 : j1 < 36) : ∀ (n : Nat) (h : Hp) (x2 : Int32), pw_X12_saysWord_2 n h j1 x2 → Qr none (gw_X12_saysWord_2 n h j1 x2) → AW X (d + 6) rb mX12_saysWord 2 [(0, vR 12 0), (1, vR (1000 + j1) 0), (2, vI x2)] [] h Qr Qx := by
  intro n
  induction n with
  | zero => intro h x2 hp; exact hp.elim
  | succ n ih =>
    intro h x2 hp k
    rw [pw_X12_saysWord_2] at hp
    rw [gw_X12_saysWord_2] at k
    refine vc_X12_saysWord_2 (d := d + 5) hj1 ?_
    refine c_J0_length_8abf5  hp.1 ?_
    replace hp := hp.2
    refine ⟨fun c => ?_, fun c => ?_⟩
    · replace hp := hp.1 c
      try simp only [if_pos c] at k
      exact k
    · replace hp := hp.2 c
      try simp only [if_neg c] at k
      refine c_J0_charAt_5068e  hp.1 ?_
      replace hp := hp.2
      refine c_X12_says  hp.1 ?_
      replace hp := hp.2
      exact ih _ _ hp k
def p_X12_saysWord (h : Hp) (j1 : Nat) : Prop := pw_X12_saysWord_2 oa_N h j1 0
def g_X12_saysWord (h : Hp) (j1 : Nat) : Hp := gw_X12_saysWord_2 oa_N h j1 0
set_option maxHeartbeats 4000000 in
theorem c_X12_saysWord {d : Nat} {h : Hp} {P : Hp → Prop} {Qx : String → Hp → Prop} {j1 : Nat} (hj1 : j1 < 36) (hp : p_X12_saysWord h j1) (k : P  (g_X12_saysWord h j1)) : CL 0 (d + 6) mX12_saysWord [vR 12 0, vR (1000 + j1) 0] h (oV P) Qx := by
  replace k : oV P none (g_X12_saysWord h j1) := k
  unfold p_X12_saysWord at hp
  unfold g_X12_saysWord at k
  refine CL.ofF (plainFor_of_name rfl) rfl (Nat.le_of_ble_eq_true rfl) (vc_X12_saysWord_0 (d := d + 5) hj1 ?_)
  exact lw_X12_saysWord_2 hj1 _ _ _ hp k
def pw_X12_saysName_2 : Nat → Hp → Int32 → Int32 → Prop
  | 0, _, _, _ => False
  | n + 1, h, x1, x2 => ((8 ≤ x2) → True) ∧ ((¬ 8 ≤ x2) → ((vp_in ((4 + (8 * x1)) + x2) 506) ∧ ((((h.1 56 0 (((4 + (8 * x1)) + x2).toNatClampNeg)) = 0) → (pw_X12_saysName_2 n h x1 (x2 + 1))) ∧ ((¬ (h.1 56 0 (((4 + (8 * x1)) + x2).toNatClampNeg)) = 0) → ((vp_in ((4 + (8 * x1)) + x2) 506) ∧ (p_X12_says h (h.1 56 0 (((4 + (8 * x1)) + x2).toNatClampNeg)) ∧ (pw_X12_saysName_2 n (g_X12_says h (h.1 56 0 (((4 + (8 * x1)) + x2).toNatClampNeg))) x1 (x2 + 1))))))))
def gw_X12_saysName_2 : Nat → Hp → Int32 → Int32 → Hp
  | 0, h, _, _ => h
  | n + 1, h, x1, x2 => if 8 ≤ x2 then h else (if (h.1 56 0 (((4 + (8 * x1)) + x2).toNatClampNeg)) = 0 then (gw_X12_saysName_2 n h x1 (x2 + 1)) else (gw_X12_saysName_2 n (g_X12_says h (h.1 56 0 (((4 + (8 * x1)) + x2).toNatClampNeg))) x1 (x2 + 1)))
set_option maxHeartbeats 4000000 in
theorem lw_X12_saysName_2 {X : WD → State → Prop} {d rb : Nat} {Qr : Option AV → Hp → Prop} {Qx : String → Hp → Prop}   : ∀ (n : Nat) (h : Hp) (x1 : Int32) (x2 : Int32), pw_X12_saysName_2 n h x1 x2 → Qr none (gw_X12_saysName_2 n h x1 x2) → AW X (d + 2) rb mX12_saysName 2 [(0, vR 12 0), (1, vI x1), (2, vI x2)] [] h Qr Qx := by
  intro n
  induction n with
  | zero => intro h x1 x2 hp; exact hp.elim
  | succ n ih =>
    intro h x1 x2 hp k
    rw [pw_X12_saysName_2] at hp
    rw [gw_X12_saysName_2] at k
    refine vc_X12_saysName_2 (d := d + 1)  ?_
    refine ⟨fun c => ?_, fun c => ?_⟩
    · replace hp := hp.1 c
      try simp only [if_pos c] at k
      exact k
    · replace hp := hp.2 c
      try simp only [if_neg c] at k
      refine ⟨hp.1, ?_⟩
      replace hp := hp.2
      refine ⟨fun c => ?_, fun c => ?_⟩
      · replace hp := hp.1 c
        try simp only [if_pos c] at k
        exact ih _ _ _ hp k
      · replace hp := hp.2 c
        try simp only [if_neg c] at k
        refine ⟨hp.1, ?_⟩
        replace hp := hp.2
        refine c_X12_says  hp.1 ?_
        replace hp := hp.2
        exact ih _ _ _ hp k
def p_X12_saysName (h : Hp) (a1 : Int32) : Prop := pw_X12_saysName_2 oa_N h a1 0
def g_X12_saysName (h : Hp) (a1 : Int32) : Hp := gw_X12_saysName_2 oa_N h a1 0
set_option maxHeartbeats 4000000 in
theorem c_X12_saysName {d : Nat} {h : Hp} {P : Hp → Prop} {Qx : String → Hp → Prop} {a1 : Int32}  (hp : p_X12_saysName h a1) (k : P  (g_X12_saysName h a1)) : CL 0 (d + 2) mX12_saysName [vR 12 0, vI a1] h (oV P) Qx := by
  replace k : oV P none (g_X12_saysName h a1) := k
  unfold p_X12_saysName at hp
  unfold g_X12_saysName at k
  refine CL.ofF (plainFor_of_name rfl) rfl (Nat.le_of_ble_eq_true rfl) (vc_X12_saysName_0 (d := d + 1)  ?_)
  exact lw_X12_saysName_2  _ _ _ _ hp k
def p_X12_formattedByte (h : Hp) (a1 : Int32) : Prop := p_X12_in (hp_i h 12 0 0 0) a1 0 (((hp_i h 12 0 0 0).1 12 0 24) - 1) ∧ ((((f_X12_in (hp_i h 12 0 0 0) a1 0 (((hp_i h 12 0 0 0).1 12 0 24) - 1)) = 0) → True) ∧ ((¬ (f_X12_in (hp_i h 12 0 0 0) a1 0 (((hp_i h 12 0 0 0).1 12 0 24) - 1)) = 0) → ((vp_in a1 320) ∧ True)))
def f_X12_formattedByte (h : Hp) (a1 : Int32) : Int32 := if (f_X12_in (hp_i h 12 0 0 0) a1 0 (((hp_i h 12 0 0 0).1 12 0 24) - 1)) = 0 then (-1) else ((hp_i h 12 0 0 0).1 65 0 a1.toNatClampNeg)
def g_X12_formattedByte (h : Hp) (a1 : Int32) : Hp := if (f_X12_in (hp_i h 12 0 0 0) a1 0 (((hp_i h 12 0 0 0).1 12 0 24) - 1)) = 0 then (hp_i h 12 0 0 0) else (hp_i h 12 0 0 0)
set_option maxHeartbeats 4000000 in
theorem c_X12_formattedByte {d : Nat} {h : Hp} {P : Int32 → Hp → Prop} {Qx : String → Hp → Prop} {a1 : Int32}  (hp : p_X12_formattedByte h a1) (k : P (f_X12_formattedByte h a1) (g_X12_formattedByte h a1)) : CL 0 (d + 2) mX12_formattedByte [vR 12 0, vI a1] h (oI P) Qx := by
  replace k : oI P (some (vI (f_X12_formattedByte h a1))) (g_X12_formattedByte h a1) := k
  unfold p_X12_formattedByte at hp
  unfold f_X12_formattedByte at k
  unfold g_X12_formattedByte at k
  refine CL.ofF (plainFor_of_name rfl) rfl (Nat.le_of_ble_eq_true rfl) (vc_X12_formattedByte_0 (d := d + 1)  ?_)
  refine c_X12_in  hp.1 ?_
  replace hp := hp.2
  refine ⟨fun c => ?_, fun c => ?_⟩
  · replace hp := hp.1 c
    try simp only [if_pos c] at k
    exact k
  · replace hp := hp.2 c
    try simp only [if_neg c] at k
    refine ⟨hp.1, ?_⟩
    replace hp := hp.2
    exact k
def p_J9_floorMod_7cf53 (h : Hp) (a0 : Int32) (a1 : Int32) : Prop := (¬ a1 = 0) ∧ True
def f_J9_floorMod_7cf53 (h : Hp) (a0 : Int32) (a1 : Int32) : Int32 := if 0 ≤ (a0 ^^^ a1) then (a0 - a0 / a1 * a1) else (if (a0 - a0 / a1 * a1) = 0 then (a0 - a0 / a1 * a1) else ((a0 - a0 / a1 * a1) + a1))
set_option maxHeartbeats 4000000 in
theorem c_J9_floorMod_7cf53 {d : Nat} {h : Hp} {P : Int32 → Hp → Prop} {Qx : String → Hp → Prop} {a0 : Int32} {a1 : Int32}  (hp : p_J9_floorMod_7cf53 h a0 a1) (k : P (f_J9_floorMod_7cf53 h a0 a1) h) : CL 0 (d + 1) mJ9_floorMod_7cf53 [vI a0, vI a1] h (oI P) Qx := by
  replace k : oI P (some (vI (f_J9_floorMod_7cf53 h a0 a1))) h := k
  unfold p_J9_floorMod_7cf53 at hp
  unfold f_J9_floorMod_7cf53 at k
  refine CL.ofF pf_J9_floorMod_7cf53 rfl (Nat.le_of_ble_eq_true rfl) (vc_J9_floorMod_7cf53_0 (d := d + 0)  ?_)
  refine ⟨hp.1, ?_⟩
  replace hp := hp.2
  refine ⟨fun c => ?_, fun c => ?_⟩
  · skip
    try simp only [if_pos c] at k
    exact k
  · skip
    try simp only [if_neg c] at k
    refine ⟨fun c => ?_, fun c => ?_⟩
    · skip
      try simp only [if_pos c] at k
      exact k
    · skip
      try simp only [if_neg c] at k
      exact k
def pw_J7_fill_53178_5 : Nat → Hp → Nat → Nat → Nat → Int32 → Int32 → Int32 → Prop
  | 0, _, _, _, _, _, _, _ => False
  | n + 1, h, t0, i0, n0, x1, x2, x3 => ((x3 ≤ x2) → True) ∧ ((¬ x3 ≤ x2) → ((vp_in x2 n0) ∧ (pw_J7_fill_53178_5 n (hp_i h t0 i0 x2.toNatClampNeg x1) t0 i0 n0 x1 (x2 + 1) x3)))
def gw_J7_fill_53178_5 : Nat → Hp → Nat → Nat → Nat → Int32 → Int32 → Int32 → Hp
  | 0, h, _, _, _, _, _, _ => h
  | n + 1, h, t0, i0, n0, x1, x2, x3 => if x3 ≤ x2 then h else (gw_J7_fill_53178_5 n (hp_i h t0 i0 x2.toNatClampNeg x1) t0 i0 n0 x1 (x2 + 1) x3)
set_option maxHeartbeats 4000000 in
theorem lw_J7_fill_53178_5 {X : WD → State → Prop} {d rb : Nat} {Qr : Option AV → Hp → Prop} {Qx : String → Hp → Prop} {t0 i0 n0 : Nat} {f0 : List (Nat × Nat)} (ht0 : t0 < oa_nT) (hk0 : oa_kd t0 = (1, n0, f0)) : ∀ (n : Nat) (h : Hp) (x1 : Int32) (x2 : Int32) (x3 : Int32), pw_J7_fill_53178_5 n h t0 i0 n0 x1 x2 x3 → Qr none (gw_J7_fill_53178_5 n h t0 i0 n0 x1 x2 x3) → AW X (d + 1) rb mJ7_fill_53178 5 [(0, vR t0 i0), (1, vI x1), (2, vI x2), (3, vI x3)] [] h Qr Qx := by
  intro n
  induction n with
  | zero => intro h x1 x2 x3 hp; exact hp.elim
  | succ n ih =>
    intro h x1 x2 x3 hp k
    rw [pw_J7_fill_53178_5] at hp
    rw [gw_J7_fill_53178_5] at k
    refine vc_J7_fill_53178_5 (d := d + 0) ht0 hk0 ?_
    refine ⟨fun c => ?_, fun c => ?_⟩
    · replace hp := hp.1 c
      try simp only [if_pos c] at k
      exact k
    · replace hp := hp.2 c
      try simp only [if_neg c] at k
      refine ⟨hp.1, ?_⟩
      replace hp := hp.2
      exact ih _ _ _ _ hp k
def p_J7_fill_53178 (h : Hp) (t0 : Nat) (i0 : Nat) (n0 : Nat) (a1 : Int32) : Prop := pw_J7_fill_53178_5 oa_N h t0 i0 n0 a1 0 (Int32.ofNat n0)
def g_J7_fill_53178 (h : Hp) (t0 : Nat) (i0 : Nat) (n0 : Nat) (a1 : Int32) : Hp := gw_J7_fill_53178_5 oa_N h t0 i0 n0 a1 0 (Int32.ofNat n0)
set_option maxHeartbeats 4000000 in
theorem c_J7_fill_53178 {d : Nat} {h : Hp} {P : Hp → Prop} {Qx : String → Hp → Prop} {t0 i0 n0 : Nat} {f0 : List (Nat × Nat)} {a1 : Int32} (ht0 : t0 < oa_nT) (hk0 : oa_kd t0 = (1, n0, f0)) (hp : p_J7_fill_53178 h t0 i0 n0 a1) (k : P  (g_J7_fill_53178 h t0 i0 n0 a1)) : CL 0 (d + 1) mJ7_fill_53178 [vR t0 i0, vI a1] h (oV P) Qx := by
  replace k : oV P none (g_J7_fill_53178 h t0 i0 n0 a1) := k
  unfold p_J7_fill_53178 at hp
  unfold g_J7_fill_53178 at k
  refine CL.ofF pf_J7_fill_53178 rfl (Nat.le_of_ble_eq_true rfl) (vc_J7_fill_53178_0 (d := d + 0) ht0 hk0 ?_)
  exact lw_J7_fill_53178_5 ht0 hk0 _ _ _ _ _ hp k
def p_X0_grantOf (h : Hp) (a1 : Int32) : Prop := p_X11_isInside h a1 20 ∧ ((((f_X11_isInside h a1 20) = 0) → True) ∧ ((¬ (f_X11_isInside h a1 20) = 0) → ((vp_in a1 20) ∧ True)))
def f_X0_grantOf (h : Hp) (a1 : Int32) : Int32 := if (f_X11_isInside h a1 20) = 0 then 0 else (h.1 16 0 a1.toNatClampNeg)
set_option maxHeartbeats 4000000 in
theorem c_X0_grantOf {d : Nat} {h : Hp} {P : Int32 → Hp → Prop} {Qx : String → Hp → Prop} {a1 : Int32}  (hp : p_X0_grantOf h a1) (k : P (f_X0_grantOf h a1) h) : CL 0 (d + 2) mX0_grantOf [vR 0 0, vI a1] h (oI P) Qx := by
  replace k : oI P (some (vI (f_X0_grantOf h a1))) h := k
  unfold p_X0_grantOf at hp
  unfold f_X0_grantOf at k
  refine CL.ofF (plainFor_of_name rfl) rfl (Nat.le_of_ble_eq_true rfl) (vc_X0_grantOf_0 (d := d + 1)  ?_)
  refine c_X11_isInside  hp.1 ?_
  replace hp := hp.2
  refine ⟨fun c => ?_, fun c => ?_⟩
  · replace hp := hp.1 c
    try simp only [if_pos c] at k
    exact k
  · replace hp := hp.2 c
    try simp only [if_neg c] at k
    refine ⟨hp.1, ?_⟩
    replace hp := hp.2
    exact k
def p_X0_firstRungOf (h : Hp) (a1 : Int32) : Prop := p_X11_isInside h a1 20 ∧ ((((f_X11_isInside h a1 20) = 0) → True) ∧ ((¬ (f_X11_isInside h a1 20) = 0) → ((vp_in a1 20) ∧ True)))
def f_X0_firstRungOf (h : Hp) (a1 : Int32) : Int32 := if (f_X11_isInside h a1 20) = 0 then (-1) else (h.1 17 0 a1.toNatClampNeg)
set_option maxHeartbeats 4000000 in
theorem c_X0_firstRungOf {d : Nat} {h : Hp} {P : Int32 → Hp → Prop} {Qx : String → Hp → Prop} {a1 : Int32}  (hp : p_X0_firstRungOf h a1) (k : P (f_X0_firstRungOf h a1) h) : CL 0 (d + 2) mX0_firstRungOf [vR 0 0, vI a1] h (oI P) Qx := by
  replace k : oI P (some (vI (f_X0_firstRungOf h a1))) h := k
  unfold p_X0_firstRungOf at hp
  unfold f_X0_firstRungOf at k
  refine CL.ofF (plainFor_of_name rfl) rfl (Nat.le_of_ble_eq_true rfl) (vc_X0_firstRungOf_0 (d := d + 1)  ?_)
  refine c_X11_isInside  hp.1 ?_
  replace hp := hp.2
  refine ⟨fun c => ?_, fun c => ?_⟩
  · replace hp := hp.1 c
    try simp only [if_pos c] at k
    exact k
  · replace hp := hp.2 c
    try simp only [if_neg c] at k
    refine ⟨hp.1, ?_⟩
    replace hp := hp.2
    exact k
def p_X0_unitsInRung (h : Hp) (a1 : Int32) : Prop := p_X11_isInside h a1 6 ∧ ((((f_X11_isInside h a1 6) = 0) → True) ∧ ((¬ (f_X11_isInside h a1 6) = 0) → ((vp_in a1 6) ∧ True)))
def f_X0_unitsInRung (h : Hp) (a1 : Int32) : Int32 := if (f_X11_isInside h a1 6) = 0 then 0 else (h.1 18 0 a1.toNatClampNeg)
set_option maxHeartbeats 4000000 in
theorem c_X0_unitsInRung {d : Nat} {h : Hp} {P : Int32 → Hp → Prop} {Qx : String → Hp → Prop} {a1 : Int32}  (hp : p_X0_unitsInRung h a1) (k : P (f_X0_unitsInRung h a1) h) : CL 0 (d + 2) mX0_unitsInRung [vR 0 0, vI a1] h (oI P) Qx := by
  replace k : oI P (some (vI (f_X0_unitsInRung h a1))) h := k
  unfold p_X0_unitsInRung at hp
  unfold f_X0_unitsInRung at k
  refine CL.ofF (plainFor_of_name rfl) rfl (Nat.le_of_ble_eq_true rfl) (vc_X0_unitsInRung_0 (d := d + 1)  ?_)
  refine c_X11_isInside  hp.1 ?_
  replace hp := hp.2
  refine ⟨fun c => ?_, fun c => ?_⟩
  · replace hp := hp.1 c
    try simp only [if_pos c] at k
    exact k
  · replace hp := hp.2 c
    try simp only [if_neg c] at k
    refine ⟨hp.1, ?_⟩
    replace hp := hp.2
    exact k
def p_X1_beginProduct (h : Hp) (i0 : Nat) (a1 : Int64) : Prop := ((8 ≤ (h.1 1 i0 1)) → True) ∧ ((¬ 8 ≤ (h.1 1 i0 1)) → ((vp_in (h.1 1 i0 1) 8) ∧ ((vp_in (h.1 1 i0 1) 8) ∧ ((vp_in (h.1 1 i0 1) 8) ∧ ((vp_in (h.1 1 i0 1) 8) ∧ (p_J7_fill_53178 (hp_i (hp_i (hp_l h 21 i0 ((h.1 1 i0 1).toNatClampNeg) a1) 22 i0 ((h.1 1 i0 1).toNatClampNeg) 1) 23 i0 ((h.1 1 i0 1).toNatClampNeg) 0) 29 (8 * i0 + (h.1 1 i0 1).toNatClampNeg) 12 0 ∧ True))))))
def g_X1_beginProduct (h : Hp) (i0 : Nat) (a1 : Int64) : Hp := if 8 ≤ (h.1 1 i0 1) then h else (g_J7_fill_53178 (hp_i (hp_i (hp_l h 21 i0 ((h.1 1 i0 1).toNatClampNeg) a1) 22 i0 ((h.1 1 i0 1).toNatClampNeg) 1) 23 i0 ((h.1 1 i0 1).toNatClampNeg) 0) 29 (8 * i0 + (h.1 1 i0 1).toNatClampNeg) 12 0)
set_option maxHeartbeats 4000000 in
theorem c_X1_beginProduct {d : Nat} {h : Hp} {P : Hp → Prop} {Qx : String → Hp → Prop} {i0 : Nat} {a1 : Int64}  (hp : p_X1_beginProduct h i0 a1) (k : P  (g_X1_beginProduct h i0 a1)) : CL 0 (d + 2) mX1_beginProduct [vR 1 i0, vJ a1] h (oV P) Qx := by
  replace k : oV P none (g_X1_beginProduct h i0 a1) := k
  unfold p_X1_beginProduct at hp
  unfold g_X1_beginProduct at k
  refine CL.ofF (plainFor_of_name rfl) rfl (Nat.le_of_ble_eq_true rfl) (vc_X1_beginProduct_0 (d := d + 1)  ?_)
  refine ⟨fun c => ?_, fun c => ?_⟩
  · replace hp := hp.1 c
    try simp only [if_pos c] at k
    exact k
  · replace hp := hp.2 c
    try simp only [if_neg c] at k
    refine ⟨hp.1, ?_⟩
    replace hp := hp.2
    refine ⟨hp.1, ?_⟩
    replace hp := hp.2
    refine ⟨hp.1, ?_⟩
    replace hp := hp.2
    refine ⟨hp.1, ?_⟩
    replace hp := hp.2
    refine c_J7_fill_53178 (by decide) rfl hp.1 ?_
    replace hp := hp.2
    exact k
def p_X1_needWith (h : Hp) (i0 : Nat) (a1 : Int32) (a2 : Int32) (a3 : Int32) : Prop := ((8 ≤ (h.1 1 i0 1)) → (((¬ a1 = a3) → (p_X1_needOf h i0 (a1 - 100) a3 ∧ True)) ∧ ((a1 = a3) → True))) ∧ ((¬ 8 ≤ (h.1 1 i0 1)) → ((vp_in (h.1 1 i0 1) 8) ∧ ((vp_in a3 12) ∧ (((¬ a1 = a3) → (p_X1_needOf h i0 (a1 - 100) a3 ∧ True)) ∧ ((a1 = a3) → True)))))
def f_X1_needWith (h : Hp) (i0 : Nat) (a1 : Int32) (a2 : Int32) (a3 : Int32) : Int32 := if 8 ≤ (h.1 1 i0 1) then (if ¬ a1 = a3 then (0 + (a2 * (f_X1_needOf h i0 (a1 - 100) a3))) else (0 + (a2 * 1))) else (if ¬ a1 = a3 then ((h.1 29 (8 * i0 + (h.1 1 i0 1).toNatClampNeg) a3.toNatClampNeg) + (a2 * (f_X1_needOf h i0 (a1 - 100) a3))) else ((h.1 29 (8 * i0 + (h.1 1 i0 1).toNatClampNeg) a3.toNatClampNeg) + (a2 * 1)))
set_option maxHeartbeats 4000000 in
theorem c_X1_needWith {d : Nat} {h : Hp} {P : Int32 → Hp → Prop} {Qx : String → Hp → Prop} {i0 : Nat} {a1 : Int32} {a2 : Int32} {a3 : Int32}  (hp : p_X1_needWith h i0 a1 a2 a3) (k : P (f_X1_needWith h i0 a1 a2 a3) h) : CL 0 (d + 2) mX1_needWith [vR 1 i0, vI a1, vI a2, vI a3] h (oI P) Qx := by
  replace k : oI P (some (vI (f_X1_needWith h i0 a1 a2 a3))) h := k
  unfold p_X1_needWith at hp
  unfold f_X1_needWith at k
  refine CL.ofF (plainFor_of_name rfl) rfl (Nat.le_of_ble_eq_true rfl) (vc_X1_needWith_0 (d := d + 1)  ?_)
  refine ⟨fun c => ?_, fun c => ?_⟩
  · replace hp := hp.1 c
    try simp only [if_pos c] at k
    refine ⟨fun c => ?_, fun c => ?_⟩
    · replace hp := hp.1 c
      try simp only [if_pos c] at k
      refine c_X1_needOf  hp.1 ?_
      replace hp := hp.2
      exact k
    · replace hp := hp.2 c
      try simp only [if_neg (oa_nn c)] at k
      exact k
  · replace hp := hp.2 c
    try simp only [if_neg c] at k
    refine ⟨hp.1, ?_⟩
    replace hp := hp.2
    refine ⟨hp.1, ?_⟩
    replace hp := hp.2
    refine ⟨fun c => ?_, fun c => ?_⟩
    · replace hp := hp.1 c
      try simp only [if_pos c] at k
      refine c_X1_needOf  hp.1 ?_
      replace hp := hp.2
      exact k
    · replace hp := hp.2 c
      try simp only [if_neg (oa_nn c)] at k
      exact k
def p_X1_partName (h : Hp) (i0 : Nat) (a1 : Int32) : Prop := p_X11_isInside h a1 (h.1 1 i0 0) ∧ ((((f_X11_isInside h a1 (h.1 1 i0 0)) = 0) → True) ∧ ((¬ (f_X11_isInside h a1 (h.1 1 i0 0)) = 0) → ((vp_in a1 12) ∧ True)))
def f_X1_partName (h : Hp) (i0 : Nat) (a1 : Int32) : Int64 := if (f_X11_isInside h a1 (h.1 1 i0 0)) = 0 then 0 else (h.2.1 19 i0 a1.toNatClampNeg)
set_option maxHeartbeats 4000000 in
theorem c_X1_partName {d : Nat} {h : Hp} {P : Int64 → Hp → Prop} {Qx : String → Hp → Prop} {i0 : Nat} {a1 : Int32}  (hp : p_X1_partName h i0 a1) (k : P (f_X1_partName h i0 a1) h) : CL 0 (d + 2) mX1_partName [vR 1 i0, vI a1] h (oJ P) Qx := by
  replace k : oJ P (some (vJ (f_X1_partName h i0 a1))) h := k
  unfold p_X1_partName at hp
  unfold f_X1_partName at k
  refine CL.ofF (plainFor_of_name rfl) rfl (Nat.le_of_ble_eq_true rfl) (vc_X1_partName_0 (d := d + 1)  ?_)
  refine c_X11_isInside  hp.1 ?_
  replace hp := hp.2
  refine ⟨fun c => ?_, fun c => ?_⟩
  · replace hp := hp.1 c
    try simp only [if_pos c] at k
    exact k
  · replace hp := hp.2 c
    try simp only [if_neg c] at k
    refine ⟨hp.1, ?_⟩
    replace hp := hp.2
    exact k
def p_X1_productName (h : Hp) (i0 : Nat) (a1 : Int32) : Prop := p_X11_isInside h a1 (h.1 1 i0 1) ∧ ((((f_X11_isInside h a1 (h.1 1 i0 1)) = 0) → True) ∧ ((¬ (f_X11_isInside h a1 (h.1 1 i0 1)) = 0) → ((vp_in a1 8) ∧ True)))
def f_X1_productName (h : Hp) (i0 : Nat) (a1 : Int32) : Int64 := if (f_X11_isInside h a1 (h.1 1 i0 1)) = 0 then 0 else (h.2.1 21 i0 a1.toNatClampNeg)
set_option maxHeartbeats 4000000 in
theorem c_X1_productName {d : Nat} {h : Hp} {P : Int64 → Hp → Prop} {Qx : String → Hp → Prop} {i0 : Nat} {a1 : Int32}  (hp : p_X1_productName h i0 a1) (k : P (f_X1_productName h i0 a1) h) : CL 0 (d + 2) mX1_productName [vR 1 i0, vI a1] h (oJ P) Qx := by
  replace k : oJ P (some (vJ (f_X1_productName h i0 a1))) h := k
  unfold p_X1_productName at hp
  unfold f_X1_productName at k
  refine CL.ofF (plainFor_of_name rfl) rfl (Nat.le_of_ble_eq_true rfl) (vc_X1_productName_0 (d := d + 1)  ?_)
  refine c_X11_isInside  hp.1 ?_
  replace hp := hp.2
  refine ⟨fun c => ?_, fun c => ?_⟩
  · replace hp := hp.1 c
    try simp only [if_pos c] at k
    exact k
  · replace hp := hp.2 c
    try simp only [if_neg c] at k
    refine ⟨hp.1, ?_⟩
    replace hp := hp.2
    exact k
def p_X1_leadTimeOf (h : Hp) (i0 : Nat) (a1 : Int32) : Prop := p_X11_isInside h a1 (h.1 1 i0 0) ∧ ((((f_X11_isInside h a1 (h.1 1 i0 0)) = 0) → True) ∧ ((¬ (f_X11_isInside h a1 (h.1 1 i0 0)) = 0) → ((vp_in a1 12) ∧ True)))
def f_X1_leadTimeOf (h : Hp) (i0 : Nat) (a1 : Int32) : Int32 := if (f_X11_isInside h a1 (h.1 1 i0 0)) = 0 then 0 else (h.1 20 i0 a1.toNatClampNeg)
set_option maxHeartbeats 4000000 in
theorem c_X1_leadTimeOf {d : Nat} {h : Hp} {P : Int32 → Hp → Prop} {Qx : String → Hp → Prop} {i0 : Nat} {a1 : Int32}  (hp : p_X1_leadTimeOf h i0 a1) (k : P (f_X1_leadTimeOf h i0 a1) h) : CL 0 (d + 2) mX1_leadTimeOf [vR 1 i0, vI a1] h (oI P) Qx := by
  replace k : oI P (some (vI (f_X1_leadTimeOf h i0 a1))) h := k
  unfold p_X1_leadTimeOf at hp
  unfold f_X1_leadTimeOf at k
  refine CL.ofF (plainFor_of_name rfl) rfl (Nat.le_of_ble_eq_true rfl) (vc_X1_leadTimeOf_0 (d := d + 1)  ?_)
  refine c_X11_isInside  hp.1 ?_
  replace hp := hp.2
  refine ⟨fun c => ?_, fun c => ?_⟩
  · replace hp := hp.1 c
    try simp only [if_pos c] at k
    exact k
  · replace hp := hp.2 c
    try simp only [if_neg c] at k
    refine ⟨hp.1, ?_⟩
    replace hp := hp.2
    exact k
def p_X1_linesOf (h : Hp) (i0 : Nat) (a1 : Int32) : Prop := p_X11_isInside h a1 (h.1 1 i0 1) ∧ ((((f_X11_isInside h a1 (h.1 1 i0 1)) = 0) → True) ∧ ((¬ (f_X11_isInside h a1 (h.1 1 i0 1)) = 0) → ((vp_in a1 8) ∧ True)))
def f_X1_linesOf (h : Hp) (i0 : Nat) (a1 : Int32) : Int32 := if (f_X11_isInside h a1 (h.1 1 i0 1)) = 0 then 0 else (h.1 23 i0 a1.toNatClampNeg)
set_option maxHeartbeats 4000000 in
theorem c_X1_linesOf {d : Nat} {h : Hp} {P : Int32 → Hp → Prop} {Qx : String → Hp → Prop} {i0 : Nat} {a1 : Int32}  (hp : p_X1_linesOf h i0 a1) (k : P (f_X1_linesOf h i0 a1) h) : CL 0 (d + 2) mX1_linesOf [vR 1 i0, vI a1] h (oI P) Qx := by
  replace k : oI P (some (vI (f_X1_linesOf h i0 a1))) h := k
  unfold p_X1_linesOf at hp
  unfold f_X1_linesOf at k
  refine CL.ofF (plainFor_of_name rfl) rfl (Nat.le_of_ble_eq_true rfl) (vc_X1_linesOf_0 (d := d + 1)  ?_)
  refine c_X11_isInside  hp.1 ?_
  replace hp := hp.2
  refine ⟨fun c => ?_, fun c => ?_⟩
  · replace hp := hp.1 c
    try simp only [if_pos c] at k
    exact k
  · replace hp := hp.2 c
    try simp only [if_neg c] at k
    refine ⟨hp.1, ?_⟩
    replace hp := hp.2
    exact k
def p_X1_itemOf (h : Hp) (i0 : Nat) (a1 : Int32) (a2 : Int32) : Prop := p_X1_linesOf h i0 a1 ∧ (p_X11_isInside h a2 (f_X1_linesOf h i0 a1) ∧ ((((f_X11_isInside h a2 (f_X1_linesOf h i0 a1)) = 0) → True) ∧ ((¬ (f_X11_isInside h a2 (f_X1_linesOf h i0 a1)) = 0) → ((vp_in a1 8) ∧ ((vp_in a2 6) ∧ True)))))
def f_X1_itemOf (h : Hp) (i0 : Nat) (a1 : Int32) (a2 : Int32) : Int32 := if (f_X11_isInside h a2 (f_X1_linesOf h i0 a1)) = 0 then (-1) else (h.1 25 (8 * i0 + a1.toNatClampNeg) a2.toNatClampNeg)
set_option maxHeartbeats 4000000 in
theorem c_X1_itemOf {d : Nat} {h : Hp} {P : Int32 → Hp → Prop} {Qx : String → Hp → Prop} {i0 : Nat} {a1 : Int32} {a2 : Int32}  (hp : p_X1_itemOf h i0 a1 a2) (k : P (f_X1_itemOf h i0 a1 a2) h) : CL 0 (d + 3) mX1_itemOf [vR 1 i0, vI a1, vI a2] h (oI P) Qx := by
  replace k : oI P (some (vI (f_X1_itemOf h i0 a1 a2))) h := k
  unfold p_X1_itemOf at hp
  unfold f_X1_itemOf at k
  refine CL.ofF (plainFor_of_name rfl) rfl (Nat.le_of_ble_eq_true rfl) (vc_X1_itemOf_0 (d := d + 2)  ?_)
  refine c_X1_linesOf  hp.1 ?_
  replace hp := hp.2
  refine c_X11_isInside  hp.1 ?_
  replace hp := hp.2
  refine ⟨fun c => ?_, fun c => ?_⟩
  · replace hp := hp.1 c
    try simp only [if_pos c] at k
    exact k
  · replace hp := hp.2 c
    try simp only [if_neg c] at k
    refine ⟨hp.1, ?_⟩
    replace hp := hp.2
    refine ⟨hp.1, ?_⟩
    replace hp := hp.2
    exact k
def p_X1_quantityOf (h : Hp) (i0 : Nat) (a1 : Int32) (a2 : Int32) : Prop := p_X1_linesOf h i0 a1 ∧ (p_X11_isInside h a2 (f_X1_linesOf h i0 a1) ∧ ((((f_X11_isInside h a2 (f_X1_linesOf h i0 a1)) = 0) → True) ∧ ((¬ (f_X11_isInside h a2 (f_X1_linesOf h i0 a1)) = 0) → ((vp_in a1 8) ∧ ((vp_in a2 6) ∧ True)))))
def f_X1_quantityOf (h : Hp) (i0 : Nat) (a1 : Int32) (a2 : Int32) : Int32 := if (f_X11_isInside h a2 (f_X1_linesOf h i0 a1)) = 0 then (-1) else (h.1 27 (8 * i0 + a1.toNatClampNeg) a2.toNatClampNeg)
set_option maxHeartbeats 4000000 in
theorem c_X1_quantityOf {d : Nat} {h : Hp} {P : Int32 → Hp → Prop} {Qx : String → Hp → Prop} {i0 : Nat} {a1 : Int32} {a2 : Int32}  (hp : p_X1_quantityOf h i0 a1 a2) (k : P (f_X1_quantityOf h i0 a1 a2) h) : CL 0 (d + 3) mX1_quantityOf [vR 1 i0, vI a1, vI a2] h (oI P) Qx := by
  replace k : oI P (some (vI (f_X1_quantityOf h i0 a1 a2))) h := k
  unfold p_X1_quantityOf at hp
  unfold f_X1_quantityOf at k
  refine CL.ofF (plainFor_of_name rfl) rfl (Nat.le_of_ble_eq_true rfl) (vc_X1_quantityOf_0 (d := d + 2)  ?_)
  refine c_X1_linesOf  hp.1 ?_
  replace hp := hp.2
  refine c_X11_isInside  hp.1 ?_
  replace hp := hp.2
  refine ⟨fun c => ?_, fun c => ?_⟩
  · replace hp := hp.1 c
    try simp only [if_pos c] at k
    exact k
  · replace hp := hp.2 c
    try simp only [if_neg c] at k
    refine ⟨hp.1, ?_⟩
    replace hp := hp.2
    refine ⟨hp.1, ?_⟩
    replace hp := hp.2
    exact k
def p_X1_levelOf (h : Hp) (i0 : Nat) (a1 : Int32) : Prop := p_X11_isInside h a1 (h.1 1 i0 1) ∧ ((((f_X11_isInside h a1 (h.1 1 i0 1)) = 0) → True) ∧ ((¬ (f_X11_isInside h a1 (h.1 1 i0 1)) = 0) → ((vp_in a1 8) ∧ True)))
def f_X1_levelOf (h : Hp) (i0 : Nat) (a1 : Int32) : Int32 := if (f_X11_isInside h a1 (h.1 1 i0 1)) = 0 then 0 else (h.1 22 i0 a1.toNatClampNeg)
set_option maxHeartbeats 4000000 in
theorem c_X1_levelOf {d : Nat} {h : Hp} {P : Int32 → Hp → Prop} {Qx : String → Hp → Prop} {i0 : Nat} {a1 : Int32}  (hp : p_X1_levelOf h i0 a1) (k : P (f_X1_levelOf h i0 a1) h) : CL 0 (d + 2) mX1_levelOf [vR 1 i0, vI a1] h (oI P) Qx := by
  replace k : oI P (some (vI (f_X1_levelOf h i0 a1))) h := k
  unfold p_X1_levelOf at hp
  unfold f_X1_levelOf at k
  refine CL.ofF (plainFor_of_name rfl) rfl (Nat.le_of_ble_eq_true rfl) (vc_X1_levelOf_0 (d := d + 1)  ?_)
  refine c_X11_isInside  hp.1 ?_
  replace hp := hp.2
  refine ⟨fun c => ?_, fun c => ?_⟩
  · replace hp := hp.1 c
    try simp only [if_pos c] at k
    exact k
  · replace hp := hp.2 c
    try simp only [if_neg c] at k
    refine ⟨hp.1, ?_⟩
    replace hp := hp.2
    exact k
def p_X1_rungTakes (h : Hp) (i0 : Nat) (a1 : Int32) (a2 : Int32) : Prop := p_X11_isInside h a1 (h.1 1 i0 2) ∧ ((((f_X11_isInside h a1 (h.1 1 i0 2)) = 0) → True) ∧ ((¬ (f_X11_isInside h a1 (h.1 1 i0 2)) = 0) → ((vp_in a1 6) ∧ (((a2 < (h.1 30 i0 a1.toNatClampNeg)) → True) ∧ ((¬ a2 < (h.1 30 i0 a1.toNatClampNeg)) → ((vp_in a1 6) ∧ (((if (h.1 31 i0 a1.toNatClampNeg) < a2 then (0 : Int32) else 1) = 0 ∨ (if (h.1 31 i0 a1.toNatClampNeg) < a2 then (0 : Int32) else 1) = 1) ∧ True)))))))
def f_X1_rungTakes (h : Hp) (i0 : Nat) (a1 : Int32) (a2 : Int32) : Int32 := if (f_X11_isInside h a1 (h.1 1 i0 2)) = 0 then 0 else (if a2 < (h.1 30 i0 a1.toNatClampNeg) then 0 else (if (h.1 31 i0 a1.toNatClampNeg) < a2 then (0 : Int32) else 1))
set_option maxHeartbeats 4000000 in
theorem c_X1_rungTakes {d : Nat} {h : Hp} {P : Int32 → Hp → Prop} {Qx : String → Hp → Prop} {i0 : Nat} {a1 : Int32} {a2 : Int32}  (hp : p_X1_rungTakes h i0 a1 a2) (k : P (f_X1_rungTakes h i0 a1 a2) h) : CL 0 (d + 2) mX1_rungTakes [vR 1 i0, vI a1, vI a2] h (oI P) Qx := by
  replace k : oI P (some (vI (f_X1_rungTakes h i0 a1 a2))) h := k
  unfold p_X1_rungTakes at hp
  unfold f_X1_rungTakes at k
  refine CL.ofF (plainFor_of_name rfl) rfl (Nat.le_of_ble_eq_true rfl) (vc_X1_rungTakes_0 (d := d + 1)  ?_)
  refine c_X11_isInside  hp.1 ?_
  replace hp := hp.2
  refine ⟨fun c => ?_, fun c => ?_⟩
  · replace hp := hp.1 c
    try simp only [if_pos c] at k
    exact k
  · replace hp := hp.2 c
    try simp only [if_neg c] at k
    refine ⟨hp.1, ?_⟩
    replace hp := hp.2
    refine ⟨fun c => ?_, fun c => ?_⟩
    · replace hp := hp.1 c
      try simp only [if_pos c] at k
      exact k
    · replace hp := hp.2 c
      try simp only [if_neg c] at k
      refine ⟨hp.1, ?_⟩
      replace hp := hp.2
      refine ⟨hp.1, ?_⟩
      replace hp := hp.2
      exact k
def p_X1_shareOf (h : Hp) (i0 : Nat) (a1 : Int32) : Prop := p_X11_isInside h a1 (h.1 1 i0 2) ∧ ((((f_X11_isInside h a1 (h.1 1 i0 2)) = 0) → True) ∧ ((¬ (f_X11_isInside h a1 (h.1 1 i0 2)) = 0) → ((vp_in a1 6) ∧ True)))
def f_X1_shareOf (h : Hp) (i0 : Nat) (a1 : Int32) : Int32 := if (f_X11_isInside h a1 (h.1 1 i0 2)) = 0 then 0 else (h.1 32 i0 a1.toNatClampNeg)
set_option maxHeartbeats 4000000 in
theorem c_X1_shareOf {d : Nat} {h : Hp} {P : Int32 → Hp → Prop} {Qx : String → Hp → Prop} {i0 : Nat} {a1 : Int32}  (hp : p_X1_shareOf h i0 a1) (k : P (f_X1_shareOf h i0 a1) h) : CL 0 (d + 2) mX1_shareOf [vR 1 i0, vI a1] h (oI P) Qx := by
  replace k : oI P (some (vI (f_X1_shareOf h i0 a1))) h := k
  unfold p_X1_shareOf at hp
  unfold f_X1_shareOf at k
  refine CL.ofF (plainFor_of_name rfl) rfl (Nat.le_of_ble_eq_true rfl) (vc_X1_shareOf_0 (d := d + 1)  ?_)
  refine c_X11_isInside  hp.1 ?_
  replace hp := hp.2
  refine ⟨fun c => ?_, fun c => ?_⟩
  · replace hp := hp.1 c
    try simp only [if_pos c] at k
    exact k
  · replace hp := hp.2 c
    try simp only [if_neg c] at k
    refine ⟨hp.1, ?_⟩
    replace hp := hp.2
    exact k
def p_X1_mostUnits (h : Hp) (i0 : Nat) (a1 : Int32) (t2 : Nat) (i2 : Nat) (n2 : Nat) : Prop := p_X1_tightestPart h i0 a1 t2 i2 n2 ∧ (p_X1_needOf h i0 a1 (f_X1_tightestPart h i0 a1 t2 i2 n2) ∧ ((((f_X1_needOf h i0 a1 (f_X1_tightestPart h i0 a1 t2 i2 n2)) ≤ 0) → True) ∧ ((¬ (f_X1_needOf h i0 a1 (f_X1_tightestPart h i0 a1 t2 i2 n2)) ≤ 0) → (p_X11_isInside h (f_X1_tightestPart h i0 a1 t2 i2 n2) (Int32.ofNat n2) ∧ ((((f_X11_isInside h (f_X1_tightestPart h i0 a1 t2 i2 n2) (Int32.ofNat n2)) = 0) → True) ∧ ((¬ (f_X11_isInside h (f_X1_tightestPart h i0 a1 t2 i2 n2) (Int32.ofNat n2)) = 0) → ((vp_in (f_X1_tightestPart h i0 a1 t2 i2 n2) n2) ∧ ((¬ (f_X1_needOf h i0 a1 (f_X1_tightestPart h i0 a1 t2 i2 n2)) = 0) ∧ True))))))))
def f_X1_mostUnits (h : Hp) (i0 : Nat) (a1 : Int32) (t2 : Nat) (i2 : Nat) (n2 : Nat) : Int32 := if (f_X1_needOf h i0 a1 (f_X1_tightestPart h i0 a1 t2 i2 n2)) ≤ 0 then 0 else (if (f_X11_isInside h (f_X1_tightestPart h i0 a1 t2 i2 n2) (Int32.ofNat n2)) = 0 then 0 else ((h.1 t2 i2 (f_X1_tightestPart h i0 a1 t2 i2 n2).toNatClampNeg) / (f_X1_needOf h i0 a1 (f_X1_tightestPart h i0 a1 t2 i2 n2))))
set_option maxHeartbeats 4000000 in
theorem c_X1_mostUnits {d : Nat} {h : Hp} {P : Int32 → Hp → Prop} {Qx : String → Hp → Prop} {i0 : Nat} {a1 : Int32} {t2 i2 n2 : Nat} {f2 : List (Nat × Nat)} (ht2 : t2 < oa_nT) (hk2 : oa_kd t2 = (1, n2, f2)) (hp : p_X1_mostUnits h i0 a1 t2 i2 n2) (k : P (f_X1_mostUnits h i0 a1 t2 i2 n2) h) : CL 0 (d + 3) mX1_mostUnits [vR 1 i0, vI a1, vR t2 i2] h (oI P) Qx := by
  replace k : oI P (some (vI (f_X1_mostUnits h i0 a1 t2 i2 n2))) h := k
  unfold p_X1_mostUnits at hp
  unfold f_X1_mostUnits at k
  refine CL.ofF (plainFor_of_name rfl) rfl (Nat.le_of_ble_eq_true rfl) (vc_X1_mostUnits_0 (d := d + 2) ht2 hk2 ?_)
  refine c_X1_tightestPart ht2 hk2 hp.1 ?_
  replace hp := hp.2
  refine c_X1_needOf  hp.1 ?_
  replace hp := hp.2
  refine ⟨fun c => ?_, fun c => ?_⟩
  · replace hp := hp.1 c
    try simp only [if_pos c] at k
    exact k
  · replace hp := hp.2 c
    try simp only [if_neg c] at k
    refine c_X11_isInside  hp.1 ?_
    replace hp := hp.2
    refine ⟨fun c => ?_, fun c => ?_⟩
    · replace hp := hp.1 c
      try simp only [if_pos c] at k
      exact k
    · replace hp := hp.2 c
      try simp only [if_neg c] at k
      refine ⟨hp.1, ?_⟩
      replace hp := hp.2
      refine ⟨hp.1, ?_⟩
      replace hp := hp.2
      exact k
def p_X1_leftAfter (h : Hp) (i0 : Nat) (a1 : Int32) (t2 : Nat) (i2 : Nat) (n2 : Nat) (a3 : Int32) (a4 : Int32) : Prop := p_X11_isInside h a3 (Int32.ofNat n2) ∧ ((((f_X11_isInside h a3 (Int32.ofNat n2)) = 0) → True) ∧ ((¬ (f_X11_isInside h a3 (Int32.ofNat n2)) = 0) → ((vp_in a3 n2) ∧ (p_X1_needOf h i0 a1 a3 ∧ True))))
def f_X1_leftAfter (h : Hp) (i0 : Nat) (a1 : Int32) (t2 : Nat) (i2 : Nat) (n2 : Nat) (a3 : Int32) (a4 : Int32) : Int64 := if (f_X11_isInside h a3 (Int32.ofNat n2)) = 0 then 0 else (((h.1 t2 i2 a3.toNatClampNeg).toInt64) - (a4.toInt64 * (f_X1_needOf h i0 a1 a3).toInt64))
set_option maxHeartbeats 4000000 in
theorem c_X1_leftAfter {d : Nat} {h : Hp} {P : Int64 → Hp → Prop} {Qx : String → Hp → Prop} {i0 : Nat} {a1 : Int32} {t2 i2 n2 : Nat} {f2 : List (Nat × Nat)} {a3 : Int32} {a4 : Int32} (ht2 : t2 < oa_nT) (hk2 : oa_kd t2 = (1, n2, f2)) (hp : p_X1_leftAfter h i0 a1 t2 i2 n2 a3 a4) (k : P (f_X1_leftAfter h i0 a1 t2 i2 n2 a3 a4) h) : CL 0 (d + 2) mX1_leftAfter [vR 1 i0, vI a1, vR t2 i2, vI a3, vI a4] h (oJ P) Qx := by
  replace k : oJ P (some (vJ (f_X1_leftAfter h i0 a1 t2 i2 n2 a3 a4))) h := k
  unfold p_X1_leftAfter at hp
  unfold f_X1_leftAfter at k
  refine CL.ofF (plainFor_of_name rfl) rfl (Nat.le_of_ble_eq_true rfl) (vc_X1_leftAfter_0 (d := d + 1) ht2 hk2 ?_)
  refine c_X11_isInside  hp.1 ?_
  replace hp := hp.2
  refine ⟨fun c => ?_, fun c => ?_⟩
  · replace hp := hp.1 c
    try simp only [if_pos c] at k
    exact k
  · replace hp := hp.2 c
    try simp only [if_neg c] at k
    refine ⟨hp.1, ?_⟩
    replace hp := hp.2
    refine c_X1_needOf  hp.1 ?_
    replace hp := hp.2
    exact k
def p_X2_byteAt (h : Hp) (a1 : Int32) : Prop := p_X11_isInside h a1 (h.1 2 0 0) ∧ ((((f_X11_isInside h a1 (h.1 2 0 0)) = 0) → True) ∧ ((¬ (f_X11_isInside h a1 (h.1 2 0 0)) = 0) → (((200 ≤ a1) → True) ∧ ((¬ 200 ≤ a1) → ((vp_in a1 200) ∧ True)))))
def f_X2_byteAt (h : Hp) (a1 : Int32) : Int32 := if (f_X11_isInside h a1 (h.1 2 0 0)) = 0 then (-1) else (if 200 ≤ a1 then (-1) else (h.1 33 0 a1.toNatClampNeg))
set_option maxHeartbeats 4000000 in
theorem c_X2_byteAt {d : Nat} {h : Hp} {P : Int32 → Hp → Prop} {Qx : String → Hp → Prop} {a1 : Int32}  (hp : p_X2_byteAt h a1) (k : P (f_X2_byteAt h a1) h) : CL 0 (d + 2) mX2_byteAt [vR 2 0, vI a1] h (oI P) Qx := by
  replace k : oI P (some (vI (f_X2_byteAt h a1))) h := k
  unfold p_X2_byteAt at hp
  unfold f_X2_byteAt at k
  refine CL.ofF (plainFor_of_name rfl) rfl (Nat.le_of_ble_eq_true rfl) (vc_X2_byteAt_0 (d := d + 1)  ?_)
  refine c_X11_isInside  hp.1 ?_
  replace hp := hp.2
  refine ⟨fun c => ?_, fun c => ?_⟩
  · replace hp := hp.1 c
    try simp only [if_pos c] at k
    exact k
  · replace hp := hp.2 c
    try simp only [if_neg c] at k
    refine ⟨fun c => ?_, fun c => ?_⟩
    · replace hp := hp.1 c
      try simp only [if_pos c] at k
      exact k
    · replace hp := hp.2 c
      try simp only [if_neg c] at k
      refine ⟨hp.1, ?_⟩
      replace hp := hp.2
      exact k
def p_X2_put (h : Hp) (a1 : Int32) : Prop := p_X11_isInside h (h.1 2 0 0) 200 ∧ ((((f_X11_isInside h (h.1 2 0 0) 200) = 0) → True) ∧ ((¬ (f_X11_isInside h (h.1 2 0 0) 200) = 0) → ((vp_in (h.1 2 0 0) 200) ∧ True)))
def g_X2_put (h : Hp) (a1 : Int32) : Hp := if (f_X11_isInside h (h.1 2 0 0) 200) = 0 then h else (hp_i (hp_i h 33 0 ((h.1 2 0 0).toNatClampNeg) (vp_nar .byte a1.toInt8.toInt32)) 2 0 0 ((h.1 2 0 0) + 1))
set_option maxHeartbeats 4000000 in
theorem c_X2_put {d : Nat} {h : Hp} {P : Hp → Prop} {Qx : String → Hp → Prop} {a1 : Int32}  (hp : p_X2_put h a1) (k : P  (g_X2_put h a1)) : CL 0 (d + 2) mX2_put [vR 2 0, vI a1] h (oV P) Qx := by
  replace k : oV P none (g_X2_put h a1) := k
  unfold p_X2_put at hp
  unfold g_X2_put at k
  refine CL.ofF (plainFor_of_name rfl) rfl (Nat.le_of_ble_eq_true rfl) (vc_X2_put_0 (d := d + 1)  ?_)
  refine c_X11_isInside  hp.1 ?_
  replace hp := hp.2
  refine ⟨fun c => ?_, fun c => ?_⟩
  · replace hp := hp.1 c
    try simp only [if_pos c] at k
    exact k
  · replace hp := hp.2 c
    try simp only [if_neg c] at k
    refine ⟨hp.1, ?_⟩
    replace hp := hp.2
    exact k
def pw_X2_putName_3 : Nat → Hp → Int64 → Int32 → Prop
  | 0, _, _, _ => False
  | n + 1, h, x1, x3 => ((x3 < 0) → True) ∧ ((¬ x3 < 0) → (((((((x1.toUInt64 >>> (x3.toInt64.toUInt64 &&& Int64.toUInt64 63)).toInt64).toInt32) &&& 255) = 0) → (pw_X2_putName_3 n h x1 (x3 + (-8)))) ∧ ((¬ ((((x1.toUInt64 >>> (x3.toInt64.toUInt64 &&& Int64.toUInt64 63)).toInt64).toInt32) &&& 255) = 0) → (p_X2_put h ((((x1.toUInt64 >>> (x3.toInt64.toUInt64 &&& Int64.toUInt64 63)).toInt64).toInt32) &&& 255) ∧ (pw_X2_putName_3 n (g_X2_put h ((((x1.toUInt64 >>> (x3.toInt64.toUInt64 &&& Int64.toUInt64 63)).toInt64).toInt32) &&& 255)) x1 (x3 + (-8)))))))
def gw_X2_putName_3 : Nat → Hp → Int64 → Int32 → Hp
  | 0, h, _, _ => h
  | n + 1, h, x1, x3 => if x3 < 0 then h else (if ((((x1.toUInt64 >>> (x3.toInt64.toUInt64 &&& Int64.toUInt64 63)).toInt64).toInt32) &&& 255) = 0 then (gw_X2_putName_3 n h x1 (x3 + (-8))) else (gw_X2_putName_3 n (g_X2_put h ((((x1.toUInt64 >>> (x3.toInt64.toUInt64 &&& Int64.toUInt64 63)).toInt64).toInt32) &&& 255)) x1 (x3 + (-8))))
set_option maxHeartbeats 4000000 in
theorem lw_X2_putName_3 {X : WD → State → Prop} {d rb : Nat} {Qr : Option AV → Hp → Prop} {Qx : String → Hp → Prop}   : ∀ (n : Nat) (h : Hp) (x1 : Int64) (x3 : Int32), pw_X2_putName_3 n h x1 x3 → Qr none (gw_X2_putName_3 n h x1 x3) → AW X (d + 3) rb mX2_putName 3 [(0, vR 2 0), (1, vJ x1), (3, vI x3)] [] h Qr Qx := by
  intro n
  induction n with
  | zero => intro h x1 x3 hp; exact hp.elim
  | succ n ih =>
    intro h x1 x3 hp k
    rw [pw_X2_putName_3] at hp
    rw [gw_X2_putName_3] at k
    refine vc_X2_putName_3 (d := d + 2)  ?_
    refine ⟨fun c => ?_, fun c => ?_⟩
    · replace hp := hp.1 c
      try simp only [if_pos c] at k
      exact k
    · replace hp := hp.2 c
      try simp only [if_neg c] at k
      refine ⟨fun c => ?_, fun c => ?_⟩
      · replace hp := hp.1 c
        try simp only [if_pos c] at k
        exact ih _ _ _ hp k
      · replace hp := hp.2 c
        try simp only [if_neg c] at k
        refine c_X2_put  hp.1 ?_
        replace hp := hp.2
        exact ih _ _ _ hp k
def p_X2_putName (h : Hp) (a1 : Int64) : Prop := pw_X2_putName_3 oa_N h a1 56
def g_X2_putName (h : Hp) (a1 : Int64) : Hp := gw_X2_putName_3 oa_N h a1 56
set_option maxHeartbeats 4000000 in
theorem c_X2_putName {d : Nat} {h : Hp} {P : Hp → Prop} {Qx : String → Hp → Prop} {a1 : Int64}  (hp : p_X2_putName h a1) (k : P  (g_X2_putName h a1)) : CL 0 (d + 3) mX2_putName [vR 2 0, vJ a1] h (oV P) Qx := by
  replace k : oV P none (g_X2_putName h a1) := k
  unfold p_X2_putName at hp
  unfold g_X2_putName at k
  refine CL.ofF (plainFor_of_name rfl) rfl (Nat.le_of_ble_eq_true rfl) (vc_X2_putName_0 (d := d + 2)  ?_)
  exact lw_X2_putName_3  _ _ _ _ hp k
def pw_X2_putText_2 : Nat → Hp → Nat → Int32 → Prop
  | 0, _, _, _ => False
  | n + 1, h, j1, x2 => p_J0_length_8abf5 h j1 ∧ ((((f_J0_length_8abf5 h j1) ≤ x2) → True) ∧ ((¬ (f_J0_length_8abf5 h j1) ≤ x2) → (p_J0_charAt_5068e h j1 x2 ∧ (p_X2_put h (f_J0_charAt_5068e h j1 x2) ∧ (pw_X2_putText_2 n (g_X2_put h (f_J0_charAt_5068e h j1 x2)) j1 (x2 + 1))))))
def gw_X2_putText_2 : Nat → Hp → Nat → Int32 → Hp
  | 0, h, _, _ => h
  | n + 1, h, j1, x2 => if (f_J0_length_8abf5 h j1) ≤ x2 then h else (gw_X2_putText_2 n (g_X2_put h (f_J0_charAt_5068e h j1 x2)) j1 (x2 + 1))
set_option maxHeartbeats 4000000 in
theorem lw_X2_putText_2 {X : WD → State → Prop} {d rb : Nat} {Qr : Option AV → Hp → Prop} {Qx : String → Hp → Prop} {j1 : Nat} (hj1 : j1 < 36) : ∀ (n : Nat) (h : Hp) (x2 : Int32), pw_X2_putText_2 n h j1 x2 → Qr none (gw_X2_putText_2 n h j1 x2) → AW X (d + 6) rb mX2_putText 2 [(0, vR 2 0), (1, vR (1000 + j1) 0), (2, vI x2)] [] h Qr Qx := by
  intro n
  induction n with
  | zero => intro h x2 hp; exact hp.elim
  | succ n ih =>
    intro h x2 hp k
    rw [pw_X2_putText_2] at hp
    rw [gw_X2_putText_2] at k
    refine vc_X2_putText_2 (d := d + 5) hj1 ?_
    refine c_J0_length_8abf5  hp.1 ?_
    replace hp := hp.2
    refine ⟨fun c => ?_, fun c => ?_⟩
    · replace hp := hp.1 c
      try simp only [if_pos c] at k
      exact k
    · replace hp := hp.2 c
      try simp only [if_neg c] at k
      refine c_J0_charAt_5068e  hp.1 ?_
      replace hp := hp.2
      refine c_X2_put  hp.1 ?_
      replace hp := hp.2
      exact ih _ _ hp k
def p_X2_putText (h : Hp) (j1 : Nat) : Prop := pw_X2_putText_2 oa_N h j1 0
def g_X2_putText (h : Hp) (j1 : Nat) : Hp := gw_X2_putText_2 oa_N h j1 0
set_option maxHeartbeats 4000000 in
theorem c_X2_putText {d : Nat} {h : Hp} {P : Hp → Prop} {Qx : String → Hp → Prop} {j1 : Nat} (hj1 : j1 < 36) (hp : p_X2_putText h j1) (k : P  (g_X2_putText h j1)) : CL 0 (d + 6) mX2_putText [vR 2 0, vR (1000 + j1) 0] h (oV P) Qx := by
  replace k : oV P none (g_X2_putText h j1) := k
  unfold p_X2_putText at hp
  unfold g_X2_putText at k
  refine CL.ofF (plainFor_of_name rfl) rfl (Nat.le_of_ble_eq_true rfl) (vc_X2_putText_0 (d := d + 5) hj1 ?_)
  exact lw_X2_putText_2 hj1 _ _ _ hp k
def pw_X2_putNumbered_11 : Nat → Hp → Nat → Int32 → Int32 → Int32 → Prop
  | 0, _, _, _, _, _ => False
  | n + 1, h, j1, x2, x3, x4 => ((x4 ≤ 0) → True) ∧ ((¬ x4 ≤ 0) → ((¬ x4 = 0) ∧ ((((if ¬ x3 = 0 then (1 : Int32) else (if ¬ ((x2 / x4) - (x2 / x4) / 10 * 10) = 0 then (1 : Int32) else (if ¬ x4 = 1 then (0 : Int32) else 1))) = 0) → (pw_X2_putNumbered_11 n h j1 x2 (if ¬ x3 = 0 then (1 : Int32) else (if ¬ ((x2 / x4) - (x2 / x4) / 10 * 10) = 0 then (1 : Int32) else (if ¬ x4 = 1 then (0 : Int32) else 1))) (x4 / 10))) ∧ ((¬ (if ¬ x3 = 0 then (1 : Int32) else (if ¬ ((x2 / x4) - (x2 / x4) / 10 * 10) = 0 then (1 : Int32) else (if ¬ x4 = 1 then (0 : Int32) else 1))) = 0) → (p_X2_put h (48 + ((x2 / x4) - (x2 / x4) / 10 * 10)) ∧ (pw_X2_putNumbered_11 n (g_X2_put h (48 + ((x2 / x4) - (x2 / x4) / 10 * 10))) j1 x2 (if ¬ x3 = 0 then (1 : Int32) else (if ¬ ((x2 / x4) - (x2 / x4) / 10 * 10) = 0 then (1 : Int32) else (if ¬ x4 = 1 then (0 : Int32) else 1))) (x4 / 10)))))))
def gw_X2_putNumbered_11 : Nat → Hp → Nat → Int32 → Int32 → Int32 → Hp
  | 0, h, _, _, _, _ => h
  | n + 1, h, j1, x2, x3, x4 => if x4 ≤ 0 then h else (if (if ¬ x3 = 0 then (1 : Int32) else (if ¬ ((x2 / x4) - (x2 / x4) / 10 * 10) = 0 then (1 : Int32) else (if ¬ x4 = 1 then (0 : Int32) else 1))) = 0 then (gw_X2_putNumbered_11 n h j1 x2 (if ¬ x3 = 0 then (1 : Int32) else (if ¬ ((x2 / x4) - (x2 / x4) / 10 * 10) = 0 then (1 : Int32) else (if ¬ x4 = 1 then (0 : Int32) else 1))) (x4 / 10)) else (gw_X2_putNumbered_11 n (g_X2_put h (48 + ((x2 / x4) - (x2 / x4) / 10 * 10))) j1 x2 (if ¬ x3 = 0 then (1 : Int32) else (if ¬ ((x2 / x4) - (x2 / x4) / 10 * 10) = 0 then (1 : Int32) else (if ¬ x4 = 1 then (0 : Int32) else 1))) (x4 / 10)))
set_option maxHeartbeats 4000000 in
theorem lw_X2_putNumbered_11 {X : WD → State → Prop} {d rb : Nat} {Qr : Option AV → Hp → Prop} {Qx : String → Hp → Prop} {j1 : Nat} (hj1 : j1 < 36) : ∀ (n : Nat) (h : Hp) (x2 : Int32) (x3 : Int32) (x4 : Int32), pw_X2_putNumbered_11 n h j1 x2 x3 x4 → Qr none (gw_X2_putNumbered_11 n h j1 x2 x3 x4) → AW X (d + 7) rb mX2_putNumbered 11 [(0, vR 2 0), (1, vR (1000 + j1) 0), (2, vI x2), (3, vI x3), (4, vI x4)] [] h Qr Qx := by
  intro n
  induction n with
  | zero => intro h x2 x3 x4 hp; exact hp.elim
  | succ n ih =>
    intro h x2 x3 x4 hp k
    rw [pw_X2_putNumbered_11] at hp
    rw [gw_X2_putNumbered_11] at k
    refine vc_X2_putNumbered_11 (d := d + 6) hj1 ?_
    refine ⟨fun c => ?_, fun c => ?_⟩
    · replace hp := hp.1 c
      try simp only [if_pos c] at k
      exact k
    · replace hp := hp.2 c
      try simp only [if_neg c] at k
      refine ⟨hp.1, ?_⟩
      replace hp := hp.2
      refine ⟨fun c => ?_, fun c => ?_⟩
      · replace hp := hp.1 c
        try simp only [if_pos c] at k
        exact ih _ _ _ _ hp k
      · replace hp := hp.2 c
        try simp only [if_neg c] at k
        refine c_X2_put  hp.1 ?_
        replace hp := hp.2
        exact ih _ _ _ _ hp k
def p_X2_putNumbered (h : Hp) (j1 : Nat) (a2 : Int32) : Prop := p_X2_putText h j1 ∧ (pw_X2_putNumbered_11 oa_N (g_X2_putText h j1) j1 a2 0 1000000000)
def g_X2_putNumbered (h : Hp) (j1 : Nat) (a2 : Int32) : Hp := gw_X2_putNumbered_11 oa_N (g_X2_putText h j1) j1 a2 0 1000000000
set_option maxHeartbeats 4000000 in
theorem c_X2_putNumbered {d : Nat} {h : Hp} {P : Hp → Prop} {Qx : String → Hp → Prop} {j1 : Nat} {a2 : Int32} (hj1 : j1 < 36) (hp : p_X2_putNumbered h j1 a2) (k : P  (g_X2_putNumbered h j1 a2)) : CL 0 (d + 7) mX2_putNumbered [vR 2 0, vR (1000 + j1) 0, vI a2] h (oV P) Qx := by
  replace k : oV P none (g_X2_putNumbered h j1 a2) := k
  unfold p_X2_putNumbered at hp
  unfold g_X2_putNumbered at k
  refine CL.ofF (plainFor_of_name rfl) rfl (Nat.le_of_ble_eq_true rfl) (vc_X2_putNumbered_0 (d := d + 6) hj1 ?_)
  refine c_X2_putText hj1 hp.1 ?_
  replace hp := hp.2
  exact lw_X2_putNumbered_11 hj1 _ _ _ _ _ hp k
def pw_X4_putWord_3 : Nat → Hp → Int32 → Int32 → Prop
  | 0, _, _, _ => False
  | n + 1, h, x1, x2 => ((x2 < 0) → True) ∧ ((¬ x2 < 0) → (p_X11_isInside h (h.1 4 0 0) 900 ∧ ((((f_X11_isInside h (h.1 4 0 0) 900) = 0) → (pw_X4_putWord_3 n h x1 (x2 + (-8)))) ∧ ((¬ (f_X11_isInside h (h.1 4 0 0) 900) = 0) → ((vp_in (h.1 4 0 0) 900) ∧ (pw_X4_putWord_3 n (hp_i (hp_i h 35 0 ((h.1 4 0 0).toNatClampNeg) (vp_nar .byte (((x1.toUInt32 >>> (x2.toUInt32 &&& Int32.toUInt32 31)).toInt32).toInt8.toInt32))) 4 0 0 ((h.1 4 0 0) + 1)) x1 (x2 + (-8))))))))
def gw_X4_putWord_3 : Nat → Hp → Int32 → Int32 → Hp
  | 0, h, _, _ => h
  | n + 1, h, x1, x2 => if x2 < 0 then h else (if (f_X11_isInside h (h.1 4 0 0) 900) = 0 then (gw_X4_putWord_3 n h x1 (x2 + (-8))) else (gw_X4_putWord_3 n (hp_i (hp_i h 35 0 ((h.1 4 0 0).toNatClampNeg) (vp_nar .byte (((x1.toUInt32 >>> (x2.toUInt32 &&& Int32.toUInt32 31)).toInt32).toInt8.toInt32))) 4 0 0 ((h.1 4 0 0) + 1)) x1 (x2 + (-8))))
set_option maxHeartbeats 4000000 in
theorem lw_X4_putWord_3 {X : WD → State → Prop} {d rb : Nat} {Qr : Option AV → Hp → Prop} {Qx : String → Hp → Prop}   : ∀ (n : Nat) (h : Hp) (x1 : Int32) (x2 : Int32), pw_X4_putWord_3 n h x1 x2 → Qr none (gw_X4_putWord_3 n h x1 x2) → AW X (d + 2) rb mX4_putWord 3 [(0, vR 4 0), (1, vI x1), (2, vI x2)] [] h Qr Qx := by
  intro n
  induction n with
  | zero => intro h x1 x2 hp; exact hp.elim
  | succ n ih =>
    intro h x1 x2 hp k
    rw [pw_X4_putWord_3] at hp
    rw [gw_X4_putWord_3] at k
    refine vc_X4_putWord_3 (d := d + 1)  ?_
    refine ⟨fun c => ?_, fun c => ?_⟩
    · replace hp := hp.1 c
      try simp only [if_pos c] at k
      exact k
    · replace hp := hp.2 c
      try simp only [if_neg c] at k
      refine c_X11_isInside  hp.1 ?_
      replace hp := hp.2
      refine ⟨fun c => ?_, fun c => ?_⟩
      · replace hp := hp.1 c
        try simp only [if_pos c] at k
        exact ih _ _ _ hp k
      · replace hp := hp.2 c
        try simp only [if_neg c] at k
        refine ⟨hp.1, ?_⟩
        replace hp := hp.2
        exact ih _ _ _ hp k
def p_X4_putWord (h : Hp) (a1 : Int32) : Prop := pw_X4_putWord_3 oa_N h a1 24
def g_X4_putWord (h : Hp) (a1 : Int32) : Hp := gw_X4_putWord_3 oa_N h a1 24
set_option maxHeartbeats 4000000 in
theorem c_X4_putWord {d : Nat} {h : Hp} {P : Hp → Prop} {Qx : String → Hp → Prop} {a1 : Int32}  (hp : p_X4_putWord h a1) (k : P  (g_X4_putWord h a1)) : CL 0 (d + 2) mX4_putWord [vR 4 0, vI a1] h (oV P) Qx := by
  replace k : oV P none (g_X4_putWord h a1) := k
  unfold p_X4_putWord at hp
  unfold g_X4_putWord at k
  refine CL.ofF (plainFor_of_name rfl) rfl (Nat.le_of_ble_eq_true rfl) (vc_X4_putWord_0 (d := d + 1)  ?_)
  exact lw_X4_putWord_3  _ _ _ _ hp k
def p_X5_copyFrom (h : Hp) (i0 : Nat) (i1 : Nat) : Prop := p_X10_copyFrom h i0 i1 ∧ (p_X6_copyFrom (g_X10_copyFrom h i0 i1) i0 i1 ∧ (p_X8_copyFrom (g_X6_copyFrom (g_X10_copyFrom h i0 i1) i0 i1) i0 i1 ∧ True))
def g_X5_copyFrom (h : Hp) (i0 : Nat) (i1 : Nat) : Hp := (g_X8_copyFrom (g_X6_copyFrom (g_X10_copyFrom h i0 i1) i0 i1) i0 i1)
set_option maxHeartbeats 4000000 in
theorem c_X5_copyFrom {d : Nat} {h : Hp} {P : Hp → Prop} {Qx : String → Hp → Prop} {i0 : Nat} {i1 : Nat}  (hp : p_X5_copyFrom h i0 i1) (k : P  (g_X5_copyFrom h i0 i1)) : CL 0 (d + 2) mX5_copyFrom [vR 5 i0, vR 5 i1] h (oV P) Qx := by
  replace k : oV P none (g_X5_copyFrom h i0 i1) := k
  unfold p_X5_copyFrom at hp
  unfold g_X5_copyFrom at k
  refine CL.ofF (plainFor_of_name rfl) rfl (Nat.le_of_ble_eq_true rfl) (vc_X5_copyFrom_0 (d := d + 1)  ?_)
  refine c_X10_copyFrom  hp.1 ?_
  replace hp := hp.2
  refine c_X6_copyFrom  hp.1 ?_
  replace hp := hp.2
  refine c_X8_copyFrom  hp.1 ?_
  replace hp := hp.2
  exact k
def p_X6_productOf (h : Hp) (i0 : Nat) (a1 : Int32) : Prop := p_X11_isInside h a1 (h.1 6 i0 0) ∧ ((((f_X11_isInside h a1 (h.1 6 i0 0)) = 0) → True) ∧ ((¬ (f_X11_isInside h a1 (h.1 6 i0 0)) = 0) → ((vp_in a1 20) ∧ True)))
def f_X6_productOf (h : Hp) (i0 : Nat) (a1 : Int32) : Int32 := if (f_X11_isInside h a1 (h.1 6 i0 0)) = 0 then (-1) else (h.1 36 i0 a1.toNatClampNeg)
set_option maxHeartbeats 4000000 in
theorem c_X6_productOf {d : Nat} {h : Hp} {P : Int32 → Hp → Prop} {Qx : String → Hp → Prop} {i0 : Nat} {a1 : Int32}  (hp : p_X6_productOf h i0 a1) (k : P (f_X6_productOf h i0 a1) h) : CL 0 (d + 2) mX6_productOf [vR 6 i0, vI a1] h (oI P) Qx := by
  replace k : oI P (some (vI (f_X6_productOf h i0 a1))) h := k
  unfold p_X6_productOf at hp
  unfold f_X6_productOf at k
  refine CL.ofF (plainFor_of_name rfl) rfl (Nat.le_of_ble_eq_true rfl) (vc_X6_productOf_0 (d := d + 1)  ?_)
  refine c_X11_isInside  hp.1 ?_
  replace hp := hp.2
  refine ⟨fun c => ?_, fun c => ?_⟩
  · replace hp := hp.1 c
    try simp only [if_pos c] at k
    exact k
  · replace hp := hp.2 c
    try simp only [if_neg c] at k
    refine ⟨hp.1, ?_⟩
    replace hp := hp.2
    exact k
def p_X6_quantityOf (h : Hp) (i0 : Nat) (a1 : Int32) : Prop := p_X11_isInside h a1 (h.1 6 i0 0) ∧ ((((f_X11_isInside h a1 (h.1 6 i0 0)) = 0) → True) ∧ ((¬ (f_X11_isInside h a1 (h.1 6 i0 0)) = 0) → ((vp_in a1 20) ∧ True)))
def f_X6_quantityOf (h : Hp) (i0 : Nat) (a1 : Int32) : Int32 := if (f_X11_isInside h a1 (h.1 6 i0 0)) = 0 then 0 else (h.1 37 i0 a1.toNatClampNeg)
set_option maxHeartbeats 4000000 in
theorem c_X6_quantityOf {d : Nat} {h : Hp} {P : Int32 → Hp → Prop} {Qx : String → Hp → Prop} {i0 : Nat} {a1 : Int32}  (hp : p_X6_quantityOf h i0 a1) (k : P (f_X6_quantityOf h i0 a1) h) : CL 0 (d + 2) mX6_quantityOf [vR 6 i0, vI a1] h (oI P) Qx := by
  replace k : oI P (some (vI (f_X6_quantityOf h i0 a1))) h := k
  unfold p_X6_quantityOf at hp
  unfold f_X6_quantityOf at k
  refine CL.ofF (plainFor_of_name rfl) rfl (Nat.le_of_ble_eq_true rfl) (vc_X6_quantityOf_0 (d := d + 1)  ?_)
  refine c_X11_isInside  hp.1 ?_
  replace hp := hp.2
  refine ⟨fun c => ?_, fun c => ?_⟩
  · replace hp := hp.1 c
    try simp only [if_pos c] at k
    exact k
  · replace hp := hp.2 c
    try simp only [if_neg c] at k
    refine ⟨hp.1, ?_⟩
    replace hp := hp.2
    exact k
def p_X6_classOf (h : Hp) (i0 : Nat) (a1 : Int32) : Prop := p_X11_isInside h a1 (h.1 6 i0 0) ∧ ((((f_X11_isInside h a1 (h.1 6 i0 0)) = 0) → True) ∧ ((¬ (f_X11_isInside h a1 (h.1 6 i0 0)) = 0) → ((vp_in a1 20) ∧ True)))
def f_X6_classOf (h : Hp) (i0 : Nat) (a1 : Int32) : Int32 := if (f_X11_isInside h a1 (h.1 6 i0 0)) = 0 then (-1) else (h.1 38 i0 a1.toNatClampNeg)
set_option maxHeartbeats 4000000 in
theorem c_X6_classOf {d : Nat} {h : Hp} {P : Int32 → Hp → Prop} {Qx : String → Hp → Prop} {i0 : Nat} {a1 : Int32}  (hp : p_X6_classOf h i0 a1) (k : P (f_X6_classOf h i0 a1) h) : CL 0 (d + 2) mX6_classOf [vR 6 i0, vI a1] h (oI P) Qx := by
  replace k : oI P (some (vI (f_X6_classOf h i0 a1))) h := k
  unfold p_X6_classOf at hp
  unfold f_X6_classOf at k
  refine CL.ofF (plainFor_of_name rfl) rfl (Nat.le_of_ble_eq_true rfl) (vc_X6_classOf_0 (d := d + 1)  ?_)
  refine c_X11_isInside  hp.1 ?_
  replace hp := hp.2
  refine ⟨fun c => ?_, fun c => ?_⟩
  · replace hp := hp.1 c
    try simp only [if_pos c] at k
    exact k
  · replace hp := hp.2 c
    try simp only [if_neg c] at k
    refine ⟨hp.1, ?_⟩
    replace hp := hp.2
    exact k
def p_X6_dueOf (h : Hp) (i0 : Nat) (a1 : Int32) : Prop := p_X11_isInside h a1 (h.1 6 i0 0) ∧ ((((f_X11_isInside h a1 (h.1 6 i0 0)) = 0) → True) ∧ ((¬ (f_X11_isInside h a1 (h.1 6 i0 0)) = 0) → ((vp_in a1 20) ∧ True)))
def f_X6_dueOf (h : Hp) (i0 : Nat) (a1 : Int32) : Int32 := if (f_X11_isInside h a1 (h.1 6 i0 0)) = 0 then 0 else (h.1 39 i0 a1.toNatClampNeg)
set_option maxHeartbeats 4000000 in
theorem c_X6_dueOf {d : Nat} {h : Hp} {P : Int32 → Hp → Prop} {Qx : String → Hp → Prop} {i0 : Nat} {a1 : Int32}  (hp : p_X6_dueOf h i0 a1) (k : P (f_X6_dueOf h i0 a1) h) : CL 0 (d + 2) mX6_dueOf [vR 6 i0, vI a1] h (oI P) Qx := by
  replace k : oI P (some (vI (f_X6_dueOf h i0 a1))) h := k
  unfold p_X6_dueOf at hp
  unfold f_X6_dueOf at k
  refine CL.ofF (plainFor_of_name rfl) rfl (Nat.le_of_ble_eq_true rfl) (vc_X6_dueOf_0 (d := d + 1)  ?_)
  refine c_X11_isInside  hp.1 ?_
  replace hp := hp.2
  refine ⟨fun c => ?_, fun c => ?_⟩
  · replace hp := hp.1 c
    try simp only [if_pos c] at k
    exact k
  · replace hp := hp.2 c
    try simp only [if_neg c] at k
    refine ⟨hp.1, ?_⟩
    replace hp := hp.2
    exact k
def p_X6_isWhole (h : Hp) (i0 : Nat) (a1 : Int32) : Prop := p_X11_isInside h a1 (h.1 6 i0 0) ∧ ((((f_X11_isInside h a1 (h.1 6 i0 0)) = 0) → True) ∧ ((¬ (f_X11_isInside h a1 (h.1 6 i0 0)) = 0) → ((vp_in a1 20) ∧ (((if (h.1 40 i0 a1.toNatClampNeg) = 0 then (0 : Int32) else 1) = 0 ∨ (if (h.1 40 i0 a1.toNatClampNeg) = 0 then (0 : Int32) else 1) = 1) ∧ True))))
def f_X6_isWhole (h : Hp) (i0 : Nat) (a1 : Int32) : Int32 := if (f_X11_isInside h a1 (h.1 6 i0 0)) = 0 then 0 else (if (h.1 40 i0 a1.toNatClampNeg) = 0 then (0 : Int32) else 1)
set_option maxHeartbeats 4000000 in
theorem c_X6_isWhole {d : Nat} {h : Hp} {P : Int32 → Hp → Prop} {Qx : String → Hp → Prop} {i0 : Nat} {a1 : Int32}  (hp : p_X6_isWhole h i0 a1) (k : P (f_X6_isWhole h i0 a1) h) : CL 0 (d + 2) mX6_isWhole [vR 6 i0, vI a1] h (oI P) Qx := by
  replace k : oI P (some (vI (f_X6_isWhole h i0 a1))) h := k
  unfold p_X6_isWhole at hp
  unfold f_X6_isWhole at k
  refine CL.ofF (plainFor_of_name rfl) rfl (Nat.le_of_ble_eq_true rfl) (vc_X6_isWhole_0 (d := d + 1)  ?_)
  refine c_X11_isInside  hp.1 ?_
  replace hp := hp.2
  refine ⟨fun c => ?_, fun c => ?_⟩
  · replace hp := hp.1 c
    try simp only [if_pos c] at k
    exact k
  · replace hp := hp.2 c
    try simp only [if_neg c] at k
    refine ⟨hp.1, ?_⟩
    replace hp := hp.2
    refine ⟨hp.1, ?_⟩
    replace hp := hp.2
    exact k
def p_X6_reservedOf (h : Hp) (i0 : Nat) (a1 : Int32) : Prop := p_X11_isInside h a1 (h.1 6 i0 0) ∧ ((((f_X11_isInside h a1 (h.1 6 i0 0)) = 0) → True) ∧ ((¬ (f_X11_isInside h a1 (h.1 6 i0 0)) = 0) → ((vp_in a1 20) ∧ True)))
def f_X6_reservedOf (h : Hp) (i0 : Nat) (a1 : Int32) : Int32 := if (f_X11_isInside h a1 (h.1 6 i0 0)) = 0 then 0 else (h.1 42 i0 a1.toNatClampNeg)
set_option maxHeartbeats 4000000 in
theorem c_X6_reservedOf {d : Nat} {h : Hp} {P : Int32 → Hp → Prop} {Qx : String → Hp → Prop} {i0 : Nat} {a1 : Int32}  (hp : p_X6_reservedOf h i0 a1) (k : P (f_X6_reservedOf h i0 a1) h) : CL 0 (d + 2) mX6_reservedOf [vR 6 i0, vI a1] h (oI P) Qx := by
  replace k : oI P (some (vI (f_X6_reservedOf h i0 a1))) h := k
  unfold p_X6_reservedOf at hp
  unfold f_X6_reservedOf at k
  refine CL.ofF (plainFor_of_name rfl) rfl (Nat.le_of_ble_eq_true rfl) (vc_X6_reservedOf_0 (d := d + 1)  ?_)
  refine c_X11_isInside  hp.1 ?_
  replace hp := hp.2
  refine ⟨fun c => ?_, fun c => ?_⟩
  · replace hp := hp.1 c
    try simp only [if_pos c] at k
    exact k
  · replace hp := hp.2 c
    try simp only [if_neg c] at k
    refine ⟨hp.1, ?_⟩
    replace hp := hp.2
    exact k
def p_X6_shippedOf (h : Hp) (i0 : Nat) (a1 : Int32) : Prop := p_X11_isInside h a1 (h.1 6 i0 0) ∧ ((((f_X11_isInside h a1 (h.1 6 i0 0)) = 0) → True) ∧ ((¬ (f_X11_isInside h a1 (h.1 6 i0 0)) = 0) → ((vp_in a1 20) ∧ True)))
def f_X6_shippedOf (h : Hp) (i0 : Nat) (a1 : Int32) : Int32 := if (f_X11_isInside h a1 (h.1 6 i0 0)) = 0 then 0 else (h.1 43 i0 a1.toNatClampNeg)
set_option maxHeartbeats 4000000 in
theorem c_X6_shippedOf {d : Nat} {h : Hp} {P : Int32 → Hp → Prop} {Qx : String → Hp → Prop} {i0 : Nat} {a1 : Int32}  (hp : p_X6_shippedOf h i0 a1) (k : P (f_X6_shippedOf h i0 a1) h) : CL 0 (d + 2) mX6_shippedOf [vR 6 i0, vI a1] h (oI P) Qx := by
  replace k : oI P (some (vI (f_X6_shippedOf h i0 a1))) h := k
  unfold p_X6_shippedOf at hp
  unfold f_X6_shippedOf at k
  refine CL.ofF (plainFor_of_name rfl) rfl (Nat.le_of_ble_eq_true rfl) (vc_X6_shippedOf_0 (d := d + 1)  ?_)
  refine c_X11_isInside  hp.1 ?_
  replace hp := hp.2
  refine ⟨fun c => ?_, fun c => ?_⟩
  · replace hp := hp.1 c
    try simp only [if_pos c] at k
    exact k
  · replace hp := hp.2 c
    try simp only [if_neg c] at k
    refine ⟨hp.1, ?_⟩
    replace hp := hp.2
    exact k
def p_X6_openOf (h : Hp) (i0 : Nat) (a1 : Int32) : Prop := p_X11_isInside h a1 (h.1 6 i0 0) ∧ ((((f_X11_isInside h a1 (h.1 6 i0 0)) = 0) → True) ∧ ((¬ (f_X11_isInside h a1 (h.1 6 i0 0)) = 0) → ((vp_in a1 20) ∧ ((((h.1 41 i0 a1.toNatClampNeg) = 0) → ((vp_in a1 20) ∧ ((vp_in a1 20) ∧ ((vp_in a1 20) ∧ True)))) ∧ ((¬ (h.1 41 i0 a1.toNatClampNeg) = 0) → True)))))
def f_X6_openOf (h : Hp) (i0 : Nat) (a1 : Int32) : Int32 := if (f_X11_isInside h a1 (h.1 6 i0 0)) = 0 then 0 else (if (h.1 41 i0 a1.toNatClampNeg) = 0 then (((h.1 37 i0 a1.toNatClampNeg) - (h.1 42 i0 a1.toNatClampNeg)) - (h.1 43 i0 a1.toNatClampNeg)) else 0)
set_option maxHeartbeats 4000000 in
theorem c_X6_openOf {d : Nat} {h : Hp} {P : Int32 → Hp → Prop} {Qx : String → Hp → Prop} {i0 : Nat} {a1 : Int32}  (hp : p_X6_openOf h i0 a1) (k : P (f_X6_openOf h i0 a1) h) : CL 0 (d + 2) mX6_openOf [vR 6 i0, vI a1] h (oI P) Qx := by
  replace k : oI P (some (vI (f_X6_openOf h i0 a1))) h := k
  unfold p_X6_openOf at hp
  unfold f_X6_openOf at k
  refine CL.ofF (plainFor_of_name rfl) rfl (Nat.le_of_ble_eq_true rfl) (vc_X6_openOf_0 (d := d + 1)  ?_)
  refine c_X11_isInside  hp.1 ?_
  replace hp := hp.2
  refine ⟨fun c => ?_, fun c => ?_⟩
  · replace hp := hp.1 c
    try simp only [if_pos c] at k
    exact k
  · replace hp := hp.2 c
    try simp only [if_neg c] at k
    refine ⟨hp.1, ?_⟩
    replace hp := hp.2
    refine ⟨fun c => ?_, fun c => ?_⟩
    · replace hp := hp.1 c
      try simp only [if_pos c] at k
      refine ⟨hp.1, ?_⟩
      replace hp := hp.2
      refine ⟨hp.1, ?_⟩
      replace hp := hp.2
      refine ⟨hp.1, ?_⟩
      replace hp := hp.2
      exact k
    · replace hp := hp.2 c
      try simp only [if_neg c] at k
      exact k
def p_X6_stateFor (h : Hp) (i0 : Nat) (a1 : Int32) : Prop := p_X11_isInside h a1 (h.1 6 i0 0) ∧ ((((f_X11_isInside h a1 (h.1 6 i0 0)) = 0) → (p_X6_openOf h i0 a1 ∧ ((((f_X6_openOf h i0 a1) ≤ 0) → (p_X6_reservedOf h i0 a1 ∧ True)) ∧ ((¬ (f_X6_openOf h i0 a1) ≤ 0) → True)))) ∧ ((¬ (f_X11_isInside h a1 (h.1 6 i0 0)) = 0) → ((vp_in a1 20) ∧ ((((h.1 41 i0 a1.toNatClampNeg) = 0) → (p_X6_openOf h i0 a1 ∧ ((((f_X6_openOf h i0 a1) ≤ 0) → (p_X6_reservedOf h i0 a1 ∧ True)) ∧ ((¬ (f_X6_openOf h i0 a1) ≤ 0) → True)))) ∧ ((¬ (h.1 41 i0 a1.toNatClampNeg) = 0) → True)))))
def f_X6_stateFor (h : Hp) (i0 : Nat) (a1 : Int32) : Int32 := if (f_X11_isInside h a1 (h.1 6 i0 0)) = 0 then (if (f_X6_openOf h i0 a1) ≤ 0 then (if (f_X6_reservedOf h i0 a1) ≤ 0 then (2 : Int32) else 1) else 0) else (if (h.1 41 i0 a1.toNatClampNeg) = 0 then (if (f_X6_openOf h i0 a1) ≤ 0 then (if (f_X6_reservedOf h i0 a1) ≤ 0 then (2 : Int32) else 1) else 0) else 3)
set_option maxHeartbeats 4000000 in
theorem c_X6_stateFor {d : Nat} {h : Hp} {P : Int32 → Hp → Prop} {Qx : String → Hp → Prop} {i0 : Nat} {a1 : Int32}  (hp : p_X6_stateFor h i0 a1) (k : P (f_X6_stateFor h i0 a1) h) : CL 0 (d + 3) mX6_stateFor [vR 6 i0, vI a1] h (oI P) Qx := by
  replace k : oI P (some (vI (f_X6_stateFor h i0 a1))) h := k
  unfold p_X6_stateFor at hp
  unfold f_X6_stateFor at k
  refine CL.ofF (plainFor_of_name rfl) rfl (Nat.le_of_ble_eq_true rfl) (vc_X6_stateFor_0 (d := d + 2)  ?_)
  refine c_X11_isInside  hp.1 ?_
  replace hp := hp.2
  refine ⟨fun c => ?_, fun c => ?_⟩
  · replace hp := hp.1 c
    try simp only [if_pos c] at k
    refine c_X6_openOf  hp.1 ?_
    replace hp := hp.2
    refine ⟨fun c => ?_, fun c => ?_⟩
    · replace hp := hp.1 c
      try simp only [if_pos c] at k
      refine c_X6_reservedOf  hp.1 ?_
      replace hp := hp.2
      exact k
    · replace hp := hp.2 c
      try simp only [if_neg c] at k
      exact k
  · replace hp := hp.2 c
    try simp only [if_neg c] at k
    refine ⟨hp.1, ?_⟩
    replace hp := hp.2
    refine ⟨fun c => ?_, fun c => ?_⟩
    · replace hp := hp.1 c
      try simp only [if_pos c] at k
      refine c_X6_openOf  hp.1 ?_
      replace hp := hp.2
      refine ⟨fun c => ?_, fun c => ?_⟩
      · replace hp := hp.1 c
        try simp only [if_pos c] at k
        refine c_X6_reservedOf  hp.1 ?_
        replace hp := hp.2
        exact k
      · replace hp := hp.2 c
        try simp only [if_neg c] at k
        exact k
    · replace hp := hp.2 c
      try simp only [if_neg c] at k
      exact k
def p_X6_mayMove (h : Hp) (i0 : Nat) (a1 : Int32) (a2 : Int32) : Prop := p_X6_isWhole h i0 a1 ∧ ((((f_X6_isWhole h i0 a1) = 0) → True) ∧ ((¬ (f_X6_isWhole h i0 a1) = 0) → (p_X6_quantityOf h i0 a1 ∧ (((if ¬ a2 = (f_X6_quantityOf h i0 a1) then (0 : Int32) else 1) = 0 ∨ (if ¬ a2 = (f_X6_quantityOf h i0 a1) then (0 : Int32) else 1) = 1) ∧ True))))
def f_X6_mayMove (h : Hp) (i0 : Nat) (a1 : Int32) (a2 : Int32) : Int32 := if (f_X6_isWhole h i0 a1) = 0 then 1 else (if ¬ a2 = (f_X6_quantityOf h i0 a1) then (0 : Int32) else 1)
set_option maxHeartbeats 4000000 in
theorem c_X6_mayMove {d : Nat} {h : Hp} {P : Int32 → Hp → Prop} {Qx : String → Hp → Prop} {i0 : Nat} {a1 : Int32} {a2 : Int32}  (hp : p_X6_mayMove h i0 a1 a2) (k : P (f_X6_mayMove h i0 a1 a2) h) : CL 0 (d + 3) mX6_mayMove [vR 6 i0, vI a1, vI a2] h (oI P) Qx := by
  replace k : oI P (some (vI (f_X6_mayMove h i0 a1 a2))) h := k
  unfold p_X6_mayMove at hp
  unfold f_X6_mayMove at k
  refine CL.ofF (plainFor_of_name rfl) rfl (Nat.le_of_ble_eq_true rfl) (vc_X6_mayMove_0 (d := d + 2)  ?_)
  refine c_X6_isWhole  hp.1 ?_
  replace hp := hp.2
  refine ⟨fun c => ?_, fun c => ?_⟩
  · replace hp := hp.1 c
    try simp only [if_pos c] at k
    exact k
  · replace hp := hp.2 c
    try simp only [if_neg c] at k
    refine c_X6_quantityOf  hp.1 ?_
    replace hp := hp.2
    refine ⟨hp.1, ?_⟩
    replace hp := hp.2
    exact k
def p_X6_addReserved (h : Hp) (i0 : Nat) (a1 : Int32) (a2 : Int32) : Prop := p_X11_isInside h a1 (h.1 6 i0 0) ∧ ((((f_X11_isInside h a1 (h.1 6 i0 0)) = 0) → True) ∧ ((¬ (f_X11_isInside h a1 (h.1 6 i0 0)) = 0) → ((vp_in a1 20) ∧ ((vp_in a1 20) ∧ True))))
def g_X6_addReserved (h : Hp) (i0 : Nat) (a1 : Int32) (a2 : Int32) : Hp := if (f_X11_isInside h a1 (h.1 6 i0 0)) = 0 then h else (hp_i h 42 i0 a1.toNatClampNeg ((h.1 42 i0 a1.toNatClampNeg) + a2))
set_option maxHeartbeats 4000000 in
theorem c_X6_addReserved {d : Nat} {h : Hp} {P : Hp → Prop} {Qx : String → Hp → Prop} {i0 : Nat} {a1 : Int32} {a2 : Int32}  (hp : p_X6_addReserved h i0 a1 a2) (k : P  (g_X6_addReserved h i0 a1 a2)) : CL 0 (d + 2) mX6_addReserved [vR 6 i0, vI a1, vI a2] h (oV P) Qx := by
  replace k : oV P none (g_X6_addReserved h i0 a1 a2) := k
  unfold p_X6_addReserved at hp
  unfold g_X6_addReserved at k
  refine CL.ofF (plainFor_of_name rfl) rfl (Nat.le_of_ble_eq_true rfl) (vc_X6_addReserved_0 (d := d + 1)  ?_)
  refine c_X11_isInside  hp.1 ?_
  replace hp := hp.2
  refine ⟨fun c => ?_, fun c => ?_⟩
  · replace hp := hp.1 c
    try simp only [if_pos c] at k
    exact k
  · replace hp := hp.2 c
    try simp only [if_neg c] at k
    refine ⟨hp.1, ?_⟩
    replace hp := hp.2
    refine ⟨hp.1, ?_⟩
    replace hp := hp.2
    exact k
def p_X6_addShipped (h : Hp) (i0 : Nat) (a1 : Int32) (a2 : Int32) : Prop := p_X11_isInside h a1 (h.1 6 i0 0) ∧ ((((f_X11_isInside h a1 (h.1 6 i0 0)) = 0) → True) ∧ ((¬ (f_X11_isInside h a1 (h.1 6 i0 0)) = 0) → ((vp_in a1 20) ∧ ((vp_in a1 20) ∧ True))))
def g_X6_addShipped (h : Hp) (i0 : Nat) (a1 : Int32) (a2 : Int32) : Hp := if (f_X11_isInside h a1 (h.1 6 i0 0)) = 0 then h else (hp_i h 43 i0 a1.toNatClampNeg ((h.1 43 i0 a1.toNatClampNeg) + a2))
set_option maxHeartbeats 4000000 in
theorem c_X6_addShipped {d : Nat} {h : Hp} {P : Hp → Prop} {Qx : String → Hp → Prop} {i0 : Nat} {a1 : Int32} {a2 : Int32}  (hp : p_X6_addShipped h i0 a1 a2) (k : P  (g_X6_addShipped h i0 a1 a2)) : CL 0 (d + 2) mX6_addShipped [vR 6 i0, vI a1, vI a2] h (oV P) Qx := by
  replace k : oV P none (g_X6_addShipped h i0 a1 a2) := k
  unfold p_X6_addShipped at hp
  unfold g_X6_addShipped at k
  refine CL.ofF (plainFor_of_name rfl) rfl (Nat.le_of_ble_eq_true rfl) (vc_X6_addShipped_0 (d := d + 1)  ?_)
  refine c_X11_isInside  hp.1 ?_
  replace hp := hp.2
  refine ⟨fun c => ?_, fun c => ?_⟩
  · replace hp := hp.1 c
    try simp only [if_pos c] at k
    exact k
  · replace hp := hp.2 c
    try simp only [if_neg c] at k
    refine ⟨hp.1, ?_⟩
    replace hp := hp.2
    refine ⟨hp.1, ?_⟩
    replace hp := hp.2
    exact k
