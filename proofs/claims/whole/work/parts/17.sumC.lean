def p_X6_markCancelled (h : Hp) (i0 : Nat) (a1 : Int32) : Prop := p_X11_isInside h a1 (h.1 6 i0 0) ∧ ((((f_X11_isInside h a1 (h.1 6 i0 0)) = 0) → True) ∧ ((¬ (f_X11_isInside h a1 (h.1 6 i0 0)) = 0) → ((vp_in a1 20) ∧ True)))
def g_X6_markCancelled (h : Hp) (i0 : Nat) (a1 : Int32) : Hp := if (f_X11_isInside h a1 (h.1 6 i0 0)) = 0 then h else (hp_i h 41 i0 a1.toNatClampNeg 1)
set_option maxHeartbeats 4000000 in
theorem c_X6_markCancelled {d : Nat} {h : Hp} {P : Hp → Prop} {Qx : String → Hp → Prop} {i0 : Nat} {a1 : Int32}  (hp : p_X6_markCancelled h i0 a1) (k : P  (g_X6_markCancelled h i0 a1)) : CL 0 (d + 2) mX6_markCancelled [vR 6 i0, vI a1] h (oV P) Qx := by
  replace k : oV P none (g_X6_markCancelled h i0 a1) := k
  unfold p_X6_markCancelled at hp
  unfold g_X6_markCancelled at k
  refine CL.ofF (plainFor_of_name rfl) rfl (Nat.le_of_ble_eq_true rfl) (vc_X6_markCancelled_0 (d := d + 1)  ?_)
  refine c_X11_isInside  hp.1 ?_
  replace hp := hp.2
  refine ⟨fun c => ?_, fun c => ?_⟩
  · replace hp := hp.1 c
    try simp only [if_pos c] at k
    exact k
  · replace hp := hp.2 c
    try simp only [if_neg c] at k
    refine ⟨hp.1, ?_⟩
    replace hp := hp.2
    exact k
def p_X6_isServedBefore (h : Hp) (i0 : Nat) (a1 : Int32) (a2 : Int32) : Prop := p_X6_dueOf h i0 a1 ∧ (p_X6_dueOf h i0 a2 ∧ ((((f_X6_dueOf h i0 a1) = (f_X6_dueOf h i0 a2)) → (p_X6_classOf h i0 a1 ∧ (p_X6_classOf h i0 a2 ∧ (((if (f_X6_classOf h i0 a1) ≤ (f_X6_classOf h i0 a2) then (0 : Int32) else 1) = 0 ∨ (if (f_X6_classOf h i0 a1) ≤ (f_X6_classOf h i0 a2) then (0 : Int32) else 1) = 1) ∧ True)))) ∧ ((¬ (f_X6_dueOf h i0 a1) = (f_X6_dueOf h i0 a2)) → (p_X6_dueOf h i0 a1 ∧ (p_X6_dueOf h i0 a2 ∧ (((if (f_X6_dueOf h i0 a2) ≤ (f_X6_dueOf h i0 a1) then (0 : Int32) else 1) = 0 ∨ (if (f_X6_dueOf h i0 a2) ≤ (f_X6_dueOf h i0 a1) then (0 : Int32) else 1) = 1) ∧ True))))))
def f_X6_isServedBefore (h : Hp) (i0 : Nat) (a1 : Int32) (a2 : Int32) : Int32 := if (f_X6_dueOf h i0 a1) = (f_X6_dueOf h i0 a2) then (if (f_X6_classOf h i0 a1) ≤ (f_X6_classOf h i0 a2) then (0 : Int32) else 1) else (if (f_X6_dueOf h i0 a2) ≤ (f_X6_dueOf h i0 a1) then (0 : Int32) else 1)
set_option maxHeartbeats 4000000 in
theorem c_X6_isServedBefore {d : Nat} {h : Hp} {P : Int32 → Hp → Prop} {Qx : String → Hp → Prop} {i0 : Nat} {a1 : Int32} {a2 : Int32}  (hp : p_X6_isServedBefore h i0 a1 a2) (k : P (f_X6_isServedBefore h i0 a1 a2) h) : CL 0 (d + 3) mX6_isServedBefore [vR 6 i0, vI a1, vI a2] h (oI P) Qx := by
  replace k : oI P (some (vI (f_X6_isServedBefore h i0 a1 a2))) h := k
  unfold p_X6_isServedBefore at hp
  unfold f_X6_isServedBefore at k
  refine CL.ofF (plainFor_of_name rfl) rfl (Nat.le_of_ble_eq_true rfl) (vc_X6_isServedBefore_0 (d := d + 2)  ?_)
  refine c_X6_dueOf  hp.1 ?_
  replace hp := hp.2
  refine c_X6_dueOf  hp.1 ?_
  replace hp := hp.2
  refine ⟨fun c => ?_, fun c => ?_⟩
  · replace hp := hp.1 c
    try simp only [if_pos c] at k
    refine c_X6_classOf  hp.1 ?_
    replace hp := hp.2
    refine c_X6_classOf  hp.1 ?_
    replace hp := hp.2
    refine ⟨hp.1, ?_⟩
    replace hp := hp.2
    exact k
  · replace hp := hp.2 c
    try simp only [if_neg c] at k
    refine c_X6_dueOf  hp.1 ?_
    replace hp := hp.2
    refine c_X6_dueOf  hp.1 ?_
    replace hp := hp.2
    refine ⟨hp.1, ?_⟩
    replace hp := hp.2
    exact k
def p_X6_losesBefore (h : Hp) (i0 : Nat) (a1 : Int32) (a2 : Int32) : Prop := p_X6_classOf h i0 a1 ∧ (p_X6_classOf h i0 a2 ∧ ((((f_X6_classOf h i0 a1) = (f_X6_classOf h i0 a2)) → (p_X6_dueOf h i0 a1 ∧ (p_X6_dueOf h i0 a2 ∧ (((if (f_X6_dueOf h i0 a1) < (f_X6_dueOf h i0 a2) then (0 : Int32) else 1) = 0 ∨ (if (f_X6_dueOf h i0 a1) < (f_X6_dueOf h i0 a2) then (0 : Int32) else 1) = 1) ∧ True)))) ∧ ((¬ (f_X6_classOf h i0 a1) = (f_X6_classOf h i0 a2)) → (p_X6_classOf h i0 a1 ∧ (p_X6_classOf h i0 a2 ∧ (((if (f_X6_classOf h i0 a2) ≤ (f_X6_classOf h i0 a1) then (0 : Int32) else 1) = 0 ∨ (if (f_X6_classOf h i0 a2) ≤ (f_X6_classOf h i0 a1) then (0 : Int32) else 1) = 1) ∧ True))))))
def f_X6_losesBefore (h : Hp) (i0 : Nat) (a1 : Int32) (a2 : Int32) : Int32 := if (f_X6_classOf h i0 a1) = (f_X6_classOf h i0 a2) then (if (f_X6_dueOf h i0 a1) < (f_X6_dueOf h i0 a2) then (0 : Int32) else 1) else (if (f_X6_classOf h i0 a2) ≤ (f_X6_classOf h i0 a1) then (0 : Int32) else 1)
set_option maxHeartbeats 4000000 in
theorem c_X6_losesBefore {d : Nat} {h : Hp} {P : Int32 → Hp → Prop} {Qx : String → Hp → Prop} {i0 : Nat} {a1 : Int32} {a2 : Int32}  (hp : p_X6_losesBefore h i0 a1 a2) (k : P (f_X6_losesBefore h i0 a1 a2) h) : CL 0 (d + 3) mX6_losesBefore [vR 6 i0, vI a1, vI a2] h (oI P) Qx := by
  replace k : oI P (some (vI (f_X6_losesBefore h i0 a1 a2))) h := k
  unfold p_X6_losesBefore at hp
  unfold f_X6_losesBefore at k
  refine CL.ofF (plainFor_of_name rfl) rfl (Nat.le_of_ble_eq_true rfl) (vc_X6_losesBefore_0 (d := d + 2)  ?_)
  refine c_X6_classOf  hp.1 ?_
  replace hp := hp.2
  refine c_X6_classOf  hp.1 ?_
  replace hp := hp.2
  refine ⟨fun c => ?_, fun c => ?_⟩
  · replace hp := hp.1 c
    try simp only [if_pos c] at k
    refine c_X6_dueOf  hp.1 ?_
    replace hp := hp.2
    refine c_X6_dueOf  hp.1 ?_
    replace hp := hp.2
    refine ⟨hp.1, ?_⟩
    replace hp := hp.2
    exact k
  · replace hp := hp.2 c
    try simp only [if_neg c] at k
    refine c_X6_classOf  hp.1 ?_
    replace hp := hp.2
    refine c_X6_classOf  hp.1 ?_
    replace hp := hp.2
    refine ⟨hp.1, ?_⟩
    replace hp := hp.2
    exact k
def p_X7_isNewName (h : Hp)  : Prop := p_X9_isName h ∧ (((¬ (f_X9_isName h) = 0) → (p_X9_name h ∧ (p_X1_itemNamed h (h.2.2 7 0 3) (f_X9_name h) ∧ ((((f_X1_itemNamed h (h.2.2 7 0 3) (f_X9_name h)) = (-1)) → True) ∧ ((¬ (f_X1_itemNamed h (h.2.2 7 0 3) (f_X9_name h)) = (-1)) → (p_X7_fail h 3 ∧ (((if (f_X7_fail h 3) = 0 then (0 : Int32) else 1) = 0 ∨ (if (f_X7_fail h 3) = 0 then (0 : Int32) else 1) = 1) ∧ True))))))) ∧ (((f_X9_isName h) = 0) → (p_X7_fail h 1 ∧ (((f_X7_fail h 1) = 0 ∨ (f_X7_fail h 1) = 1) ∧ True))))
def f_X7_isNewName (h : Hp)  : Int32 := if ¬ (f_X9_isName h) = 0 then (if (f_X1_itemNamed h (h.2.2 7 0 3) (f_X9_name h)) = (-1) then 1 else (if (f_X7_fail h 3) = 0 then (0 : Int32) else 1)) else (f_X7_fail h 1)
def g_X7_isNewName (h : Hp)  : Hp := if ¬ (f_X9_isName h) = 0 then (if (f_X1_itemNamed h (h.2.2 7 0 3) (f_X9_name h)) = (-1) then h else (g_X7_fail h 3)) else (g_X7_fail h 1)
set_option maxHeartbeats 4000000 in
theorem c_X7_isNewName {d : Nat} {h : Hp} {P : Int32 → Hp → Prop} {Qx : String → Hp → Prop}   (hp : p_X7_isNewName h ) (k : P (f_X7_isNewName h ) (g_X7_isNewName h )) : CL 0 (d + 3) mX7_isNewName [vR 7 0] h (oI P) Qx := by
  replace k : oI P (some (vI (f_X7_isNewName h ))) (g_X7_isNewName h ) := k
  unfold p_X7_isNewName at hp
  unfold f_X7_isNewName at k
  unfold g_X7_isNewName at k
  refine CL.ofF (plainFor_of_name rfl) rfl (Nat.le_of_ble_eq_true rfl) (vc_X7_isNewName_0 (d := d + 2)  ?_)
  refine c_X9_isName  hp.1 ?_
  replace hp := hp.2
  refine ⟨fun c => ?_, fun c => ?_⟩
  · replace hp := hp.1 c
    try simp only [if_pos c] at k
    refine c_X9_name  hp.1 ?_
    replace hp := hp.2
    refine c_X1_itemNamed  hp.1 ?_
    replace hp := hp.2
    refine ⟨fun c => ?_, fun c => ?_⟩
    · replace hp := hp.1 c
      try simp only [if_pos c] at k
      exact k
    · replace hp := hp.2 c
      try simp only [if_neg c] at k
      refine c_X7_fail  hp.1 ?_
      replace hp := hp.2
      refine ⟨hp.1, ?_⟩
      replace hp := hp.2
      exact k
  · replace hp := hp.2 c
    try simp only [if_neg (oa_nn c)] at k
    refine c_X7_fail  hp.1 ?_
    replace hp := hp.2
    refine ⟨hp.1, ?_⟩
    replace hp := hp.2
    exact k
def p_X8_clear (h : Hp) (i0 : Nat) : Prop := p_J7_fill_53178 h 44 i0 5 0 ∧ True
def g_X8_clear (h : Hp) (i0 : Nat) : Hp := (g_J7_fill_53178 h 44 i0 5 0)
set_option maxHeartbeats 4000000 in
theorem c_X8_clear {d : Nat} {h : Hp} {P : Hp → Prop} {Qx : String → Hp → Prop} {i0 : Nat}  (hp : p_X8_clear h i0) (k : P  (g_X8_clear h i0)) : CL 0 (d + 2) mX8_clear [vR 8 i0] h (oV P) Qx := by
  replace k : oV P none (g_X8_clear h i0) := k
  unfold p_X8_clear at hp
  unfold g_X8_clear at k
  refine CL.ofF (plainFor_of_name rfl) rfl (Nat.le_of_ble_eq_true rfl) (vc_X8_clear_0 (d := d + 1)  ?_)
  refine c_J7_fill_53178 (by decide) rfl hp.1 ?_
  replace hp := hp.2
  exact k
def p_X8_addShipment (h : Hp) (i0 : Nat) (a1 : Int32) (a2 : Int32) (a3 : Int32) (a4 : Int32) : Prop := p_J9_floorMod_7cf53 h (h.1 44 i0 0) 16 ∧ ((vp_in (f_J9_floorMod_7cf53 h (h.1 44 i0 0) 16) 16) ∧ ((vp_in (f_J9_floorMod_7cf53 h (h.1 44 i0 0) 16) 16) ∧ ((vp_in (f_J9_floorMod_7cf53 h (h.1 44 i0 0) 16) 16) ∧ True)))
def g_X8_addShipment (h : Hp) (i0 : Nat) (a1 : Int32) (a2 : Int32) (a3 : Int32) (a4 : Int32) : Hp := if a3 ≤ a4 then (hp_i (hp_i (hp_i (hp_i (hp_i h 45 i0 (f_J9_floorMod_7cf53 h (h.1 44 i0 0) 16).toNatClampNeg a1) 46 i0 (f_J9_floorMod_7cf53 h (h.1 44 i0 0) 16).toNatClampNeg a2) 47 i0 (f_J9_floorMod_7cf53 h (h.1 44 i0 0) 16).toNatClampNeg a3) 44 i0 0 ((h.1 44 i0 0) + 1)) 44 i0 1 (((hp_i (hp_i (hp_i (hp_i h 45 i0 (f_J9_floorMod_7cf53 h (h.1 44 i0 0) 16).toNatClampNeg a1) 46 i0 (f_J9_floorMod_7cf53 h (h.1 44 i0 0) 16).toNatClampNeg a2) 47 i0 (f_J9_floorMod_7cf53 h (h.1 44 i0 0) 16).toNatClampNeg a3) 44 i0 0 ((h.1 44 i0 0) + 1)).1 44 i0 1) + a2)) else (hp_i (hp_i (hp_i (hp_i (hp_i (hp_i (hp_i h 45 i0 (f_J9_floorMod_7cf53 h (h.1 44 i0 0) 16).toNatClampNeg a1) 46 i0 (f_J9_floorMod_7cf53 h (h.1 44 i0 0) 16).toNatClampNeg a2) 47 i0 (f_J9_floorMod_7cf53 h (h.1 44 i0 0) 16).toNatClampNeg a3) 44 i0 0 ((h.1 44 i0 0) + 1)) 44 i0 1 (((hp_i (hp_i (hp_i (hp_i h 45 i0 (f_J9_floorMod_7cf53 h (h.1 44 i0 0) 16).toNatClampNeg a1) 46 i0 (f_J9_floorMod_7cf53 h (h.1 44 i0 0) 16).toNatClampNeg a2) 47 i0 (f_J9_floorMod_7cf53 h (h.1 44 i0 0) 16).toNatClampNeg a3) 44 i0 0 ((h.1 44 i0 0) + 1)).1 44 i0 1) + a2)) 44 i0 2 (((hp_i (hp_i (hp_i (hp_i (hp_i h 45 i0 (f_J9_floorMod_7cf53 h (h.1 44 i0 0) 16).toNatClampNeg a1) 46 i0 (f_J9_floorMod_7cf53 h (h.1 44 i0 0) 16).toNatClampNeg a2) 47 i0 (f_J9_floorMod_7cf53 h (h.1 44 i0 0) 16).toNatClampNeg a3) 44 i0 0 ((h.1 44 i0 0) + 1)) 44 i0 1 (((hp_i (hp_i (hp_i (hp_i h 45 i0 (f_J9_floorMod_7cf53 h (h.1 44 i0 0) 16).toNatClampNeg a1) 46 i0 (f_J9_floorMod_7cf53 h (h.1 44 i0 0) 16).toNatClampNeg a2) 47 i0 (f_J9_floorMod_7cf53 h (h.1 44 i0 0) 16).toNatClampNeg a3) 44 i0 0 ((h.1 44 i0 0) + 1)).1 44 i0 1) + a2)).1 44 i0 2) + a2)) 44 i0 3 (((hp_i (hp_i (hp_i (hp_i (hp_i (hp_i h 45 i0 (f_J9_floorMod_7cf53 h (h.1 44 i0 0) 16).toNatClampNeg a1) 46 i0 (f_J9_floorMod_7cf53 h (h.1 44 i0 0) 16).toNatClampNeg a2) 47 i0 (f_J9_floorMod_7cf53 h (h.1 44 i0 0) 16).toNatClampNeg a3) 44 i0 0 ((h.1 44 i0 0) + 1)) 44 i0 1 (((hp_i (hp_i (hp_i (hp_i h 45 i0 (f_J9_floorMod_7cf53 h (h.1 44 i0 0) 16).toNatClampNeg a1) 46 i0 (f_J9_floorMod_7cf53 h (h.1 44 i0 0) 16).toNatClampNeg a2) 47 i0 (f_J9_floorMod_7cf53 h (h.1 44 i0 0) 16).toNatClampNeg a3) 44 i0 0 ((h.1 44 i0 0) + 1)).1 44 i0 1) + a2)) 44 i0 2 (((hp_i (hp_i (hp_i (hp_i (hp_i h 45 i0 (f_J9_floorMod_7cf53 h (h.1 44 i0 0) 16).toNatClampNeg a1) 46 i0 (f_J9_floorMod_7cf53 h (h.1 44 i0 0) 16).toNatClampNeg a2) 47 i0 (f_J9_floorMod_7cf53 h (h.1 44 i0 0) 16).toNatClampNeg a3) 44 i0 0 ((h.1 44 i0 0) + 1)) 44 i0 1 (((hp_i (hp_i (hp_i (hp_i h 45 i0 (f_J9_floorMod_7cf53 h (h.1 44 i0 0) 16).toNatClampNeg a1) 46 i0 (f_J9_floorMod_7cf53 h (h.1 44 i0 0) 16).toNatClampNeg a2) 47 i0 (f_J9_floorMod_7cf53 h (h.1 44 i0 0) 16).toNatClampNeg a3) 44 i0 0 ((h.1 44 i0 0) + 1)).1 44 i0 1) + a2)).1 44 i0 2) + a2)).1 44 i0 3) + (a2 * (a3 - a4))))
set_option maxHeartbeats 4000000 in
theorem c_X8_addShipment {d : Nat} {h : Hp} {P : Hp → Prop} {Qx : String → Hp → Prop} {i0 : Nat} {a1 : Int32} {a2 : Int32} {a3 : Int32} {a4 : Int32}  (hp : p_X8_addShipment h i0 a1 a2 a3 a4) (k : P  (g_X8_addShipment h i0 a1 a2 a3 a4)) : CL 0 (d + 2) mX8_addShipment [vR 8 i0, vI a1, vI a2, vI a3, vI a4] h (oV P) Qx := by
  replace k : oV P none (g_X8_addShipment h i0 a1 a2 a3 a4) := k
  unfold p_X8_addShipment at hp
  unfold g_X8_addShipment at k
  refine CL.ofF (plainFor_of_name rfl) rfl (Nat.le_of_ble_eq_true rfl) (vc_X8_addShipment_0 (d := d + 1)  ?_)
  refine c_J9_floorMod_7cf53  hp.1 ?_
  replace hp := hp.2
  refine ⟨hp.1, ?_⟩
  replace hp := hp.2
  refine ⟨hp.1, ?_⟩
  replace hp := hp.2
  refine ⟨hp.1, ?_⟩
  replace hp := hp.2
  refine ⟨fun c => ?_, fun c => ?_⟩
  · skip
    try simp only [if_pos c] at k
    exact k
  · skip
    try simp only [if_neg c] at k
    exact k
def p_X8_totalOf (h : Hp) (i0 : Nat) (a1 : Int32) : Prop := p_X11_isInside h a1 5 ∧ ((((f_X11_isInside h a1 5) = 0) → True) ∧ ((¬ (f_X11_isInside h a1 5) = 0) → ((vp_in a1 5) ∧ True)))
def f_X8_totalOf (h : Hp) (i0 : Nat) (a1 : Int32) : Int32 := if (f_X11_isInside h a1 5) = 0 then (-1) else (h.1 44 i0 a1.toNatClampNeg)
set_option maxHeartbeats 4000000 in
theorem c_X8_totalOf {d : Nat} {h : Hp} {P : Int32 → Hp → Prop} {Qx : String → Hp → Prop} {i0 : Nat} {a1 : Int32}  (hp : p_X8_totalOf h i0 a1) (k : P (f_X8_totalOf h i0 a1) h) : CL 0 (d + 2) mX8_totalOf [vR 8 i0, vI a1] h (oI P) Qx := by
  replace k : oI P (some (vI (f_X8_totalOf h i0 a1))) h := k
  unfold p_X8_totalOf at hp
  unfold f_X8_totalOf at k
  refine CL.ofF (plainFor_of_name rfl) rfl (Nat.le_of_ble_eq_true rfl) (vc_X8_totalOf_0 (d := d + 1)  ?_)
  refine c_X11_isInside  hp.1 ?_
  replace hp := hp.2
  refine ⟨fun c => ?_, fun c => ?_⟩
  · replace hp := hp.1 c
    try simp only [if_pos c] at k
    exact k
  · replace hp := hp.2 c
    try simp only [if_neg c] at k
    refine ⟨hp.1, ?_⟩
    replace hp := hp.2
    exact k
def p_X8_entry (h : Hp) (i0 : Nat) (a1 : Int32) (a2 : Int32) : Prop := p_X11_isInside h a1 (if 16 < (h.1 44 i0 0) then 16 else (h.1 44 i0 0)) ∧ (((¬ (f_X11_isInside h a1 (if 16 < (h.1 44 i0 0) then 16 else (h.1 44 i0 0))) = 0) → (p_J9_floorMod_7cf53 h (((h.1 44 i0 0) - 1) - a1) 16 ∧ (((a2 < 0 ∨ 2 < a2) → True) ∧ ((a2 = 0) → ((vp_in (f_J9_floorMod_7cf53 h (((h.1 44 i0 0) - 1) - a1) 16) 16) ∧ True)) ∧ ((a2 = 1) → ((vp_in (f_J9_floorMod_7cf53 h (((h.1 44 i0 0) - 1) - a1) 16) 16) ∧ True)) ∧ ((a2 = 2) → ((vp_in (f_J9_floorMod_7cf53 h (((h.1 44 i0 0) - 1) - a1) 16) 16) ∧ True))))) ∧ (((f_X11_isInside h a1 (if 16 < (h.1 44 i0 0) then 16 else (h.1 44 i0 0))) = 0) → True))
def f_X8_entry (h : Hp) (i0 : Nat) (a1 : Int32) (a2 : Int32) : Int32 := if ¬ (f_X11_isInside h a1 (if 16 < (h.1 44 i0 0) then 16 else (h.1 44 i0 0))) = 0 then (if (a2 < 0 ∨ 2 < a2) then (-1) else if a2 = 0 then (h.1 45 i0 (f_J9_floorMod_7cf53 h (((h.1 44 i0 0) - 1) - a1) 16).toNatClampNeg) else if a2 = 1 then (h.1 46 i0 (f_J9_floorMod_7cf53 h (((h.1 44 i0 0) - 1) - a1) 16).toNatClampNeg) else (h.1 47 i0 (f_J9_floorMod_7cf53 h (((h.1 44 i0 0) - 1) - a1) 16).toNatClampNeg)) else (-1)
set_option maxHeartbeats 4000000 in
theorem c_X8_entry {d : Nat} {h : Hp} {P : Int32 → Hp → Prop} {Qx : String → Hp → Prop} {i0 : Nat} {a1 : Int32} {a2 : Int32}  (hp : p_X8_entry h i0 a1 a2) (k : P (f_X8_entry h i0 a1 a2) h) : CL 0 (d + 2) mX8_entry [vR 8 i0, vI a1, vI a2] h (oI P) Qx := by
  replace k : oI P (some (vI (f_X8_entry h i0 a1 a2))) h := k
  unfold p_X8_entry at hp
  unfold f_X8_entry at k
  refine CL.ofF (plainFor_of_name rfl) rfl (Nat.le_of_ble_eq_true rfl) (vc_X8_entry_0 (d := d + 1)  ?_)
  refine c_X11_isInside  hp.1 ?_
  replace hp := hp.2
  refine ⟨fun c => ?_, fun c => ?_⟩
  · replace hp := hp.1 c
    try simp only [if_pos c] at k
    refine c_J9_floorMod_7cf53  hp.1 ?_
    replace hp := hp.2
    refine ⟨fun c => ?_, fun c => ?_, fun c => ?_, fun c => ?_⟩
    · replace hp := hp.1 c
      try simp only [if_pos c] at k
      exact k
    · replace hp := hp.2.1 c
      try simp only [if_neg (show ¬ (a2 < 0 ∨ 2 < a2) by rw [c]; decide), if_pos c] at k
      refine ⟨hp.1, ?_⟩
      replace hp := hp.2
      exact k
    · replace hp := hp.2.2.1 c
      try simp only [if_neg (show ¬ (a2 < 0 ∨ 2 < a2) by rw [c]; decide), if_neg (show ¬ a2 = 0 by rw [c]; decide), if_pos c] at k
      refine ⟨hp.1, ?_⟩
      replace hp := hp.2
      exact k
    · replace hp := hp.2.2.2 c
      try simp only [if_neg (show ¬ (a2 < 0 ∨ 2 < a2) by rw [c]; decide), if_neg (show ¬ a2 = 0 by rw [c]; decide), if_neg (show ¬ a2 = 1 by rw [c]; decide)] at k
      refine ⟨hp.1, ?_⟩
      replace hp := hp.2
      exact k
  · replace hp := hp.2 c
    try simp only [if_neg (oa_nn c)] at k
    exact k
def pw_X9_step_100 : Nat → Hp → Int32 → Prop
  | 0, _, _ => False
  | n + 1, h, x1 => ((x1 = 0) → True) ∧ ((¬ x1 = 0) → ((((h.1 4 0 0) ≤ (h.1 9 0 3)) → True) ∧ ((¬ (h.1 4 0 0) ≤ (h.1 9 0 3)) → (p_X4_signAt h (h.1 9 0 3) ∧ (p_X9_kindOf h (f_X4_signAt h (h.1 9 0 3)) ∧ (((¬ (f_X9_kindOf h (f_X4_signAt h (h.1 9 0 3))) = (h.1 9 0 0)) → True) ∧ (((f_X9_kindOf h (f_X4_signAt h (h.1 9 0 3))) = (h.1 9 0 0)) → (pw_X9_step_100 n (hp_i h 9 0 3 ((h.1 9 0 3) + 1)) x1))))))))
def gw_X9_step_100 : Nat → Hp → Int32 → Hp
  | 0, h, _ => h
  | n + 1, h, x1 => if x1 = 0 then (if ¬ (h.1 9 0 0) = 3 then h else (hp_i h 9 0 3 ((h.1 9 0 1) + 1))) else (if (h.1 4 0 0) ≤ (h.1 9 0 3) then (if ¬ (h.1 9 0 0) = 3 then h else (hp_i h 9 0 3 ((h.1 9 0 1) + 1))) else (if ¬ (f_X9_kindOf h (f_X4_signAt h (h.1 9 0 3))) = (h.1 9 0 0) then (if ¬ (h.1 9 0 0) = 3 then h else (hp_i h 9 0 3 ((h.1 9 0 1) + 1))) else (gw_X9_step_100 n (hp_i h 9 0 3 ((h.1 9 0 3) + 1)) x1)))
set_option maxHeartbeats 4000000 in
theorem lw_X9_step_100 {X : WD → State → Prop} {d rb : Nat} {Qr : Option AV → Hp → Prop} {Qx : String → Hp → Prop}   : ∀ (n : Nat) (h : Hp) (x1 : Int32), pw_X9_step_100 n h x1 → Qr none (gw_X9_step_100 n h x1) → AW X (d + 2) rb mX9_step 100 [(0, vR 9 0), (1, vI x1)] [] h Qr Qx := by
  intro n
  induction n with
  | zero => intro h x1 hp; exact hp.elim
  | succ n ih =>
    intro h x1 hp k
    rw [pw_X9_step_100] at hp
    rw [gw_X9_step_100] at k
    refine vc_X9_step_100 (d := d + 1)  ?_
    refine ⟨fun c => ?_, fun c => ?_⟩
    · replace hp := hp.1 c
      try simp only [if_pos c] at k
      refine ⟨fun c => ?_, fun c => ?_⟩
      · skip
        try simp only [if_pos c] at k
        exact k
      · skip
        try simp only [if_neg (oa_nn c)] at k
        exact k
    · replace hp := hp.2 c
      try simp only [if_neg c] at k
      refine ⟨fun c => ?_, fun c => ?_⟩
      · replace hp := hp.1 c
        try simp only [if_pos c] at k
        refine ⟨fun c => ?_, fun c => ?_⟩
        · skip
          try simp only [if_pos c] at k
          exact k
        · skip
          try simp only [if_neg (oa_nn c)] at k
          exact k
      · replace hp := hp.2 c
        try simp only [if_neg c] at k
        refine c_X4_signAt  hp.1 ?_
        replace hp := hp.2
        refine c_X9_kindOf  hp.1 ?_
        replace hp := hp.2
        refine ⟨fun c => ?_, fun c => ?_⟩
        · replace hp := hp.1 c
          try simp only [if_pos c] at k
          refine ⟨fun c => ?_, fun c => ?_⟩
          · skip
            try simp only [if_pos c] at k
            exact k
          · skip
            try simp only [if_neg (oa_nn c)] at k
            exact k
        · replace hp := hp.2 c
          try simp only [if_neg (oa_nn c)] at k
          exact ih _ _ hp k
def pw_X9_step_8 : Nat → Hp → Prop
  | 0, _ => False
  | n + 1, h => (((h.1 4 0 0) ≤ (h.1 9 0 1)) → (p_X4_signAt h (h.1 9 0 1) ∧ (p_X9_kindOf h (f_X4_signAt h (h.1 9 0 1)) ∧ (pw_X9_step_100 oa_N (hp_i (hp_i h 9 0 0 (f_X9_kindOf h (f_X4_signAt h (h.1 9 0 1)))) 9 0 3 ((hp_i h 9 0 0 (f_X9_kindOf h (f_X4_signAt h (h.1 9 0 1)))).1 9 0 1)) (if ((hp_i (hp_i h 9 0 0 (f_X9_kindOf h (f_X4_signAt h (h.1 9 0 1)))) 9 0 3 ((hp_i h 9 0 0 (f_X9_kindOf h (f_X4_signAt h (h.1 9 0 1)))).1 9 0 1)).1 9 0 0) = 1 then (1 : Int32) else (if ¬ ((hp_i (hp_i h 9 0 0 (f_X9_kindOf h (f_X4_signAt h (h.1 9 0 1)))) 9 0 3 ((hp_i h 9 0 0 (f_X9_kindOf h (f_X4_signAt h (h.1 9 0 1)))).1 9 0 1)).1 9 0 0) = 2 then (0 : Int32) else 1)))))) ∧ ((¬ (h.1 4 0 0) ≤ (h.1 9 0 1)) → (p_X4_signAt h (h.1 9 0 1) ∧ (p_X9_isSpace h (f_X4_signAt h (h.1 9 0 1)) ∧ ((((f_X9_isSpace h (f_X4_signAt h (h.1 9 0 1))) = 0) → (p_X4_signAt h (h.1 9 0 1) ∧ (p_X9_kindOf h (f_X4_signAt h (h.1 9 0 1)) ∧ (pw_X9_step_100 oa_N (hp_i (hp_i h 9 0 0 (f_X9_kindOf h (f_X4_signAt h (h.1 9 0 1)))) 9 0 3 ((hp_i h 9 0 0 (f_X9_kindOf h (f_X4_signAt h (h.1 9 0 1)))).1 9 0 1)) (if ((hp_i (hp_i h 9 0 0 (f_X9_kindOf h (f_X4_signAt h (h.1 9 0 1)))) 9 0 3 ((hp_i h 9 0 0 (f_X9_kindOf h (f_X4_signAt h (h.1 9 0 1)))).1 9 0 1)).1 9 0 0) = 1 then (1 : Int32) else (if ¬ ((hp_i (hp_i h 9 0 0 (f_X9_kindOf h (f_X4_signAt h (h.1 9 0 1)))) 9 0 3 ((hp_i h 9 0 0 (f_X9_kindOf h (f_X4_signAt h (h.1 9 0 1)))).1 9 0 1)).1 9 0 0) = 2 then (0 : Int32) else 1)))))) ∧ ((¬ (f_X9_isSpace h (f_X4_signAt h (h.1 9 0 1))) = 0) → (pw_X9_step_8 n (hp_i h 9 0 1 ((h.1 9 0 1) + 1)) ))))))
def gw_X9_step_8 : Nat → Hp → Hp
  | 0, h => h
  | n + 1, h => if (h.1 4 0 0) ≤ (h.1 9 0 1) then (gw_X9_step_100 oa_N (hp_i (hp_i h 9 0 0 (f_X9_kindOf h (f_X4_signAt h (h.1 9 0 1)))) 9 0 3 ((hp_i h 9 0 0 (f_X9_kindOf h (f_X4_signAt h (h.1 9 0 1)))).1 9 0 1)) (if ((hp_i (hp_i h 9 0 0 (f_X9_kindOf h (f_X4_signAt h (h.1 9 0 1)))) 9 0 3 ((hp_i h 9 0 0 (f_X9_kindOf h (f_X4_signAt h (h.1 9 0 1)))).1 9 0 1)).1 9 0 0) = 1 then (1 : Int32) else (if ¬ ((hp_i (hp_i h 9 0 0 (f_X9_kindOf h (f_X4_signAt h (h.1 9 0 1)))) 9 0 3 ((hp_i h 9 0 0 (f_X9_kindOf h (f_X4_signAt h (h.1 9 0 1)))).1 9 0 1)).1 9 0 0) = 2 then (0 : Int32) else 1))) else (if (f_X9_isSpace h (f_X4_signAt h (h.1 9 0 1))) = 0 then (gw_X9_step_100 oa_N (hp_i (hp_i h 9 0 0 (f_X9_kindOf h (f_X4_signAt h (h.1 9 0 1)))) 9 0 3 ((hp_i h 9 0 0 (f_X9_kindOf h (f_X4_signAt h (h.1 9 0 1)))).1 9 0 1)) (if ((hp_i (hp_i h 9 0 0 (f_X9_kindOf h (f_X4_signAt h (h.1 9 0 1)))) 9 0 3 ((hp_i h 9 0 0 (f_X9_kindOf h (f_X4_signAt h (h.1 9 0 1)))).1 9 0 1)).1 9 0 0) = 1 then (1 : Int32) else (if ¬ ((hp_i (hp_i h 9 0 0 (f_X9_kindOf h (f_X4_signAt h (h.1 9 0 1)))) 9 0 3 ((hp_i h 9 0 0 (f_X9_kindOf h (f_X4_signAt h (h.1 9 0 1)))).1 9 0 1)).1 9 0 0) = 2 then (0 : Int32) else 1))) else (gw_X9_step_8 n (hp_i h 9 0 1 ((h.1 9 0 1) + 1)) ))
set_option maxHeartbeats 4000000 in
theorem lw_X9_step_8 {X : WD → State → Prop} {d rb : Nat} {Qr : Option AV → Hp → Prop} {Qx : String → Hp → Prop}   : ∀ (n : Nat) (h : Hp) , pw_X9_step_8 n h  → Qr none (gw_X9_step_8 n h ) → AW X (d + 2) rb mX9_step 8 [(0, vR 9 0)] [] h Qr Qx := by
  intro n
  induction n with
  | zero => intro h  hp; exact hp.elim
  | succ n ih =>
    intro h  hp k
    rw [pw_X9_step_8] at hp
    rw [gw_X9_step_8] at k
    refine vc_X9_step_8 (d := d + 1)  ?_
    refine ⟨fun c => ?_, fun c => ?_⟩
    · replace hp := hp.1 c
      try simp only [if_pos c] at k
      refine c_X4_signAt  hp.1 ?_
      replace hp := hp.2
      refine c_X9_kindOf  hp.1 ?_
      replace hp := hp.2
      exact lw_X9_step_100  _ _ _ hp k
    · replace hp := hp.2 c
      try simp only [if_neg c] at k
      refine c_X4_signAt  hp.1 ?_
      replace hp := hp.2
      refine c_X9_isSpace  hp.1 ?_
      replace hp := hp.2
      refine ⟨fun c => ?_, fun c => ?_⟩
      · replace hp := hp.1 c
        try simp only [if_pos c] at k
        refine c_X4_signAt  hp.1 ?_
        replace hp := hp.2
        refine c_X9_kindOf  hp.1 ?_
        replace hp := hp.2
        exact lw_X9_step_100  _ _ _ hp k
      · replace hp := hp.2 c
        try simp only [if_neg c] at k
        exact ih _  hp k
def p_X9_step (h : Hp)  : Prop := pw_X9_step_8 oa_N (hp_i h 9 0 1 (h.1 9 0 3)) 
def g_X9_step (h : Hp)  : Hp := gw_X9_step_8 oa_N (hp_i h 9 0 1 (h.1 9 0 3)) 
set_option maxHeartbeats 4000000 in
theorem c_X9_step {d : Nat} {h : Hp} {P : Hp → Prop} {Qx : String → Hp → Prop}   (hp : p_X9_step h ) (k : P  (g_X9_step h )) : CL 0 (d + 2) mX9_step [vR 9 0] h (oV P) Qx := by
  replace k : oV P none (g_X9_step h ) := k
  unfold p_X9_step at hp
  unfold g_X9_step at k
  refine CL.ofF (plainFor_of_name rfl) rfl (Nat.le_of_ble_eq_true rfl) (vc_X9_step_0 (d := d + 1)  ?_)
  exact lw_X9_step_8  _ _  hp k
def p_X10_clear (h : Hp) (i0 : Nat) : Prop := p_J7_fill_53178 (hp_i (hp_i h 10 i0 0 0) 10 i0 1 0) 48 i0 12 0 ∧ (p_J7_fill_53178 (g_J7_fill_53178 (hp_i (hp_i h 10 i0 0 0) 10 i0 1 0) 48 i0 12 0) 49 i0 12 0 ∧ True)
def g_X10_clear (h : Hp) (i0 : Nat) : Hp := (g_J7_fill_53178 (g_J7_fill_53178 (hp_i (hp_i h 10 i0 0 0) 10 i0 1 0) 48 i0 12 0) 49 i0 12 0)
set_option maxHeartbeats 4000000 in
theorem c_X10_clear {d : Nat} {h : Hp} {P : Hp → Prop} {Qx : String → Hp → Prop} {i0 : Nat}  (hp : p_X10_clear h i0) (k : P  (g_X10_clear h i0)) : CL 0 (d + 2) mX10_clear [vR 10 i0] h (oV P) Qx := by
  replace k : oV P none (g_X10_clear h i0) := k
  unfold p_X10_clear at hp
  unfold g_X10_clear at k
  refine CL.ofF (plainFor_of_name rfl) rfl (Nat.le_of_ble_eq_true rfl) (vc_X10_clear_0 (d := d + 1)  ?_)
  refine c_J7_fill_53178 (by decide) rfl hp.1 ?_
  replace hp := hp.2
  refine c_J7_fill_53178 (by decide) rfl hp.1 ?_
  replace hp := hp.2
  exact k
def p_X10_stockOf (h : Hp) (i0 : Nat) (a1 : Int32) : Prop := p_X11_isInside h a1 12 ∧ ((((f_X11_isInside h a1 12) = 0) → True) ∧ ((¬ (f_X11_isInside h a1 12) = 0) → ((vp_in a1 12) ∧ True)))
def f_X10_stockOf (h : Hp) (i0 : Nat) (a1 : Int32) : Int32 := if (f_X11_isInside h a1 12) = 0 then 0 else (h.1 48 i0 a1.toNatClampNeg)
set_option maxHeartbeats 4000000 in
theorem c_X10_stockOf {d : Nat} {h : Hp} {P : Int32 → Hp → Prop} {Qx : String → Hp → Prop} {i0 : Nat} {a1 : Int32}  (hp : p_X10_stockOf h i0 a1) (k : P (f_X10_stockOf h i0 a1) h) : CL 0 (d + 2) mX10_stockOf [vR 10 i0, vI a1] h (oI P) Qx := by
  replace k : oI P (some (vI (f_X10_stockOf h i0 a1))) h := k
  unfold p_X10_stockOf at hp
  unfold f_X10_stockOf at k
  refine CL.ofF (plainFor_of_name rfl) rfl (Nat.le_of_ble_eq_true rfl) (vc_X10_stockOf_0 (d := d + 1)  ?_)
  refine c_X11_isInside  hp.1 ?_
  replace hp := hp.2
  refine ⟨fun c => ?_, fun c => ?_⟩
  · replace hp := hp.1 c
    try simp only [if_pos c] at k
    exact k
  · replace hp := hp.2 c
    try simp only [if_neg c] at k
    refine ⟨hp.1, ?_⟩
    replace hp := hp.2
    exact k
def p_X10_reservedOf (h : Hp) (i0 : Nat) (a1 : Int32) : Prop := p_X11_isInside h a1 12 ∧ ((((f_X11_isInside h a1 12) = 0) → True) ∧ ((¬ (f_X11_isInside h a1 12) = 0) → ((vp_in a1 12) ∧ True)))
def f_X10_reservedOf (h : Hp) (i0 : Nat) (a1 : Int32) : Int32 := if (f_X11_isInside h a1 12) = 0 then 0 else (h.1 49 i0 a1.toNatClampNeg)
set_option maxHeartbeats 4000000 in
theorem c_X10_reservedOf {d : Nat} {h : Hp} {P : Int32 → Hp → Prop} {Qx : String → Hp → Prop} {i0 : Nat} {a1 : Int32}  (hp : p_X10_reservedOf h i0 a1) (k : P (f_X10_reservedOf h i0 a1) h) : CL 0 (d + 2) mX10_reservedOf [vR 10 i0, vI a1] h (oI P) Qx := by
  replace k : oI P (some (vI (f_X10_reservedOf h i0 a1))) h := k
  unfold p_X10_reservedOf at hp
  unfold f_X10_reservedOf at k
  refine CL.ofF (plainFor_of_name rfl) rfl (Nat.le_of_ble_eq_true rfl) (vc_X10_reservedOf_0 (d := d + 1)  ?_)
  refine c_X11_isInside  hp.1 ?_
  replace hp := hp.2
  refine ⟨fun c => ?_, fun c => ?_⟩
  · replace hp := hp.1 c
    try simp only [if_pos c] at k
    exact k
  · replace hp := hp.2 c
    try simp only [if_neg c] at k
    refine ⟨hp.1, ?_⟩
    replace hp := hp.2
    exact k
def p_X10_freeOf (h : Hp) (i0 : Nat) (a1 : Int32) : Prop := p_X10_stockOf h i0 a1 ∧ (p_X10_reservedOf h i0 a1 ∧ True)
def f_X10_freeOf (h : Hp) (i0 : Nat) (a1 : Int32) : Int32 := (f_X10_stockOf h i0 a1) - (f_X10_reservedOf h i0 a1)
set_option maxHeartbeats 4000000 in
theorem c_X10_freeOf {d : Nat} {h : Hp} {P : Int32 → Hp → Prop} {Qx : String → Hp → Prop} {i0 : Nat} {a1 : Int32}  (hp : p_X10_freeOf h i0 a1) (k : P (f_X10_freeOf h i0 a1) h) : CL 0 (d + 3) mX10_freeOf [vR 10 i0, vI a1] h (oI P) Qx := by
  replace k : oI P (some (vI (f_X10_freeOf h i0 a1))) h := k
  unfold p_X10_freeOf at hp
  unfold f_X10_freeOf at k
  refine CL.ofF (plainFor_of_name rfl) rfl (Nat.le_of_ble_eq_true rfl) (vc_X10_freeOf_0 (d := d + 2)  ?_)
  refine c_X10_stockOf  hp.1 ?_
  replace hp := hp.2
  refine c_X10_reservedOf  hp.1 ?_
  replace hp := hp.2
  exact k
def pw_X10_fillFree_2 : Nat → Hp → Nat → Nat → Nat → Nat → Int32 → Prop
  | 0, _, _, _, _, _, _ => False
  | n + 1, h, i0, t1, i1, n1, x2 => (((Int32.ofNat n1) ≤ x2) → True) ∧ ((¬ (Int32.ofNat n1) ≤ x2) → (p_X10_freeOf h i0 x2 ∧ ((vp_in x2 n1) ∧ (pw_X10_fillFree_2 n (hp_i h t1 i1 x2.toNatClampNeg (f_X10_freeOf h i0 x2)) i0 t1 i1 n1 (x2 + 1)))))
def gw_X10_fillFree_2 : Nat → Hp → Nat → Nat → Nat → Nat → Int32 → Hp
  | 0, h, _, _, _, _, _ => h
  | n + 1, h, i0, t1, i1, n1, x2 => if (Int32.ofNat n1) ≤ x2 then h else (gw_X10_fillFree_2 n (hp_i h t1 i1 x2.toNatClampNeg (f_X10_freeOf h i0 x2)) i0 t1 i1 n1 (x2 + 1))
set_option maxHeartbeats 4000000 in
theorem lw_X10_fillFree_2 {X : WD → State → Prop} {d rb : Nat} {Qr : Option AV → Hp → Prop} {Qx : String → Hp → Prop} {t1 i1 n1 : Nat} {f1 : List (Nat × Nat)} (ht1 : t1 < oa_nT) (hk1 : oa_kd t1 = (1, n1, f1)) : ∀ (n : Nat) (h : Hp) (i0 : Nat) (x2 : Int32), pw_X10_fillFree_2 n h i0 t1 i1 n1 x2 → Qr none (gw_X10_fillFree_2 n h i0 t1 i1 n1 x2) → AW X (d + 4) rb mX10_fillFree 2 [(0, vR 10 i0), (1, vR t1 i1), (2, vI x2)] [] h Qr Qx := by
  intro n
  induction n with
  | zero => intro h i0 x2 hp; exact hp.elim
  | succ n ih =>
    intro h i0 x2 hp k
    rw [pw_X10_fillFree_2] at hp
    rw [gw_X10_fillFree_2] at k
    refine vc_X10_fillFree_2 (d := d + 3) ht1 hk1 ?_
    refine ⟨fun c => ?_, fun c => ?_⟩
    · replace hp := hp.1 c
      try simp only [if_pos c] at k
      exact k
    · replace hp := hp.2 c
      try simp only [if_neg c] at k
      refine c_X10_freeOf  hp.1 ?_
      replace hp := hp.2
      refine ⟨hp.1, ?_⟩
      replace hp := hp.2
      exact ih _ _ _ hp k
def p_X10_fillFree (h : Hp) (i0 : Nat) (t1 : Nat) (i1 : Nat) (n1 : Nat) : Prop := pw_X10_fillFree_2 oa_N h i0 t1 i1 n1 0
def g_X10_fillFree (h : Hp) (i0 : Nat) (t1 : Nat) (i1 : Nat) (n1 : Nat) : Hp := gw_X10_fillFree_2 oa_N h i0 t1 i1 n1 0
set_option maxHeartbeats 4000000 in
theorem c_X10_fillFree {d : Nat} {h : Hp} {P : Hp → Prop} {Qx : String → Hp → Prop} {i0 : Nat} {t1 i1 n1 : Nat} {f1 : List (Nat × Nat)} (ht1 : t1 < oa_nT) (hk1 : oa_kd t1 = (1, n1, f1)) (hp : p_X10_fillFree h i0 t1 i1 n1) (k : P  (g_X10_fillFree h i0 t1 i1 n1)) : CL 0 (d + 4) mX10_fillFree [vR 10 i0, vR t1 i1] h (oV P) Qx := by
  replace k : oV P none (g_X10_fillFree h i0 t1 i1 n1) := k
  unfold p_X10_fillFree at hp
  unfold g_X10_fillFree at k
  refine CL.ofF (plainFor_of_name rfl) rfl (Nat.le_of_ble_eq_true rfl) (vc_X10_fillFree_0 (d := d + 3) ht1 hk1 ?_)
  exact lw_X10_fillFree_2 ht1 hk1 _ _ _ _ hp k
def p_X10_setStock (h : Hp) (i0 : Nat) (a1 : Int32) (a2 : Int32) : Prop := p_X11_isInside h a1 12 ∧ ((((f_X11_isInside h a1 12) = 0) → True) ∧ ((¬ (f_X11_isInside h a1 12) = 0) → ((vp_in a1 12) ∧ True)))
def g_X10_setStock (h : Hp) (i0 : Nat) (a1 : Int32) (a2 : Int32) : Hp := if (f_X11_isInside h a1 12) = 0 then h else (hp_i h 48 i0 a1.toNatClampNeg a2)
set_option maxHeartbeats 4000000 in
theorem c_X10_setStock {d : Nat} {h : Hp} {P : Hp → Prop} {Qx : String → Hp → Prop} {i0 : Nat} {a1 : Int32} {a2 : Int32}  (hp : p_X10_setStock h i0 a1 a2) (k : P  (g_X10_setStock h i0 a1 a2)) : CL 0 (d + 2) mX10_setStock [vR 10 i0, vI a1, vI a2] h (oV P) Qx := by
  replace k : oV P none (g_X10_setStock h i0 a1 a2) := k
  unfold p_X10_setStock at hp
  unfold g_X10_setStock at k
  refine CL.ofF (plainFor_of_name rfl) rfl (Nat.le_of_ble_eq_true rfl) (vc_X10_setStock_0 (d := d + 1)  ?_)
  refine c_X11_isInside  hp.1 ?_
  replace hp := hp.2
  refine ⟨fun c => ?_, fun c => ?_⟩
  · replace hp := hp.1 c
    try simp only [if_pos c] at k
    exact k
  · replace hp := hp.2 c
    try simp only [if_neg c] at k
    refine ⟨hp.1, ?_⟩
    replace hp := hp.2
    exact k
def p_X10_addReserved (h : Hp) (i0 : Nat) (a1 : Int32) (a2 : Int32) : Prop := p_X11_isInside h a1 12 ∧ ((((f_X11_isInside h a1 12) = 0) → True) ∧ ((¬ (f_X11_isInside h a1 12) = 0) → ((vp_in a1 12) ∧ ((vp_in a1 12) ∧ True))))
def g_X10_addReserved (h : Hp) (i0 : Nat) (a1 : Int32) (a2 : Int32) : Hp := if (f_X11_isInside h a1 12) = 0 then h else (hp_i h 49 i0 a1.toNatClampNeg ((h.1 49 i0 a1.toNatClampNeg) + a2))
set_option maxHeartbeats 4000000 in
theorem c_X10_addReserved {d : Nat} {h : Hp} {P : Hp → Prop} {Qx : String → Hp → Prop} {i0 : Nat} {a1 : Int32} {a2 : Int32}  (hp : p_X10_addReserved h i0 a1 a2) (k : P  (g_X10_addReserved h i0 a1 a2)) : CL 0 (d + 2) mX10_addReserved [vR 10 i0, vI a1, vI a2] h (oV P) Qx := by
  replace k : oV P none (g_X10_addReserved h i0 a1 a2) := k
  unfold p_X10_addReserved at hp
  unfold g_X10_addReserved at k
  refine CL.ofF (plainFor_of_name rfl) rfl (Nat.le_of_ble_eq_true rfl) (vc_X10_addReserved_0 (d := d + 1)  ?_)
  refine c_X11_isInside  hp.1 ?_
  replace hp := hp.2
  refine ⟨fun c => ?_, fun c => ?_⟩
  · replace hp := hp.1 c
    try simp only [if_pos c] at k
    exact k
  · replace hp := hp.2 c
    try simp only [if_neg c] at k
    refine ⟨hp.1, ?_⟩
    replace hp := hp.2
    refine ⟨hp.1, ?_⟩
    replace hp := hp.2
    exact k
def pw_X10_passDay_14 : Nat → Hp → Nat → Int32 → Int32 → Prop
  | 0, _, _, _, _ => False
  | n + 1, h, i0, x1, x2 => (((h.1 10 i0 1) ≤ x2) → True) ∧ ((¬ (h.1 10 i0 1) ≤ x2) → ((vp_in x2 20) ∧ (((¬ (h.1 52 i0 x2.toNatClampNeg) = (h.1 10 i0 0)) → ((vp_in x2 20) ∧ ((vp_in x1 20) ∧ ((vp_in x2 20) ∧ ((vp_in x1 20) ∧ ((vp_in x2 20) ∧ ((vp_in x1 20) ∧ (pw_X10_passDay_14 n (hp_i (hp_i (hp_i h 50 i0 x1.toNatClampNeg (h.1 50 i0 x2.toNatClampNeg)) 51 i0 x1.toNatClampNeg (h.1 51 i0 x2.toNatClampNeg)) 52 i0 x1.toNatClampNeg (h.1 52 i0 x2.toNatClampNeg)) i0 (x1 + 1) (x2 + 1))))))))) ∧ (((h.1 52 i0 x2.toNatClampNeg) = (h.1 10 i0 0)) → ((vp_in x2 20) ∧ (p_X10_stockOf h i0 (h.1 50 i0 x2.toNatClampNeg) ∧ ((vp_in x2 20) ∧ (p_X10_setStock h i0 (h.1 50 i0 x2.toNatClampNeg) ((f_X10_stockOf h i0 (h.1 50 i0 x2.toNatClampNeg)) + (h.1 51 i0 x2.toNatClampNeg)) ∧ (pw_X10_passDay_14 n (g_X10_setStock h i0 (h.1 50 i0 x2.toNatClampNeg) ((f_X10_stockOf h i0 (h.1 50 i0 x2.toNatClampNeg)) + (h.1 51 i0 x2.toNatClampNeg))) i0 x1 (x2 + 1))))))))))
def fw_X10_passDay_14 : Nat → Hp → Nat → Int32 → Int32 → Int32
  | 0, _, _, _, _ => 0
  | n + 1, h, i0, x1, x2 => if (h.1 10 i0 1) ≤ x2 then ((h.1 10 i0 1) - x1) else (if ¬ (h.1 52 i0 x2.toNatClampNeg) = (h.1 10 i0 0) then (fw_X10_passDay_14 n (hp_i (hp_i (hp_i h 50 i0 x1.toNatClampNeg (h.1 50 i0 x2.toNatClampNeg)) 51 i0 x1.toNatClampNeg (h.1 51 i0 x2.toNatClampNeg)) 52 i0 x1.toNatClampNeg (h.1 52 i0 x2.toNatClampNeg)) i0 (x1 + 1) (x2 + 1)) else (fw_X10_passDay_14 n (g_X10_setStock h i0 (h.1 50 i0 x2.toNatClampNeg) ((f_X10_stockOf h i0 (h.1 50 i0 x2.toNatClampNeg)) + (h.1 51 i0 x2.toNatClampNeg))) i0 x1 (x2 + 1)))
def gw_X10_passDay_14 : Nat → Hp → Nat → Int32 → Int32 → Hp
  | 0, h, _, _, _ => h
  | n + 1, h, i0, x1, x2 => if (h.1 10 i0 1) ≤ x2 then (hp_i h 10 i0 1 x1) else (if ¬ (h.1 52 i0 x2.toNatClampNeg) = (h.1 10 i0 0) then (gw_X10_passDay_14 n (hp_i (hp_i (hp_i h 50 i0 x1.toNatClampNeg (h.1 50 i0 x2.toNatClampNeg)) 51 i0 x1.toNatClampNeg (h.1 51 i0 x2.toNatClampNeg)) 52 i0 x1.toNatClampNeg (h.1 52 i0 x2.toNatClampNeg)) i0 (x1 + 1) (x2 + 1)) else (gw_X10_passDay_14 n (g_X10_setStock h i0 (h.1 50 i0 x2.toNatClampNeg) ((f_X10_stockOf h i0 (h.1 50 i0 x2.toNatClampNeg)) + (h.1 51 i0 x2.toNatClampNeg))) i0 x1 (x2 + 1)))
set_option maxHeartbeats 4000000 in
theorem lw_X10_passDay_14 {X : WD → State → Prop} {d rb : Nat} {Qr : Option AV → Hp → Prop} {Qx : String → Hp → Prop}   : ∀ (n : Nat) (h : Hp) (i0 : Nat) (x1 : Int32) (x2 : Int32), pw_X10_passDay_14 n h i0 x1 x2 → Qr (some (vI (fw_X10_passDay_14 n h i0 x1 x2))) (gw_X10_passDay_14 n h i0 x1 x2) → AW X (d + 3) rb mX10_passDay 14 [(0, vR 10 i0), (1, vI x1), (2, vI x2)] [] h Qr Qx := by
  intro n
  induction n with
  | zero => intro h i0 x1 x2 hp; exact hp.elim
  | succ n ih =>
    intro h i0 x1 x2 hp k
    rw [pw_X10_passDay_14] at hp
    rw [fw_X10_passDay_14] at k
    rw [gw_X10_passDay_14] at k
    refine vc_X10_passDay_14 (d := d + 2)  ?_
    refine ⟨fun c => ?_, fun c => ?_⟩
    · replace hp := hp.1 c
      try simp only [if_pos c] at k
      exact k
    · replace hp := hp.2 c
      try simp only [if_neg c] at k
      refine ⟨hp.1, ?_⟩
      replace hp := hp.2
      refine ⟨fun c => ?_, fun c => ?_⟩
      · replace hp := hp.1 c
        try simp only [if_pos c] at k
        refine ⟨hp.1, ?_⟩
        replace hp := hp.2
        refine ⟨hp.1, ?_⟩
        replace hp := hp.2
        refine ⟨hp.1, ?_⟩
        replace hp := hp.2
        refine ⟨hp.1, ?_⟩
        replace hp := hp.2
        refine ⟨hp.1, ?_⟩
        replace hp := hp.2
        refine ⟨hp.1, ?_⟩
        replace hp := hp.2
        exact ih _ _ _ _ hp k
      · replace hp := hp.2 c
        try simp only [if_neg (oa_nn c)] at k
        refine ⟨hp.1, ?_⟩
        replace hp := hp.2
        refine c_X10_stockOf  hp.1 ?_
        replace hp := hp.2
        refine ⟨hp.1, ?_⟩
        replace hp := hp.2
        refine c_X10_setStock  hp.1 ?_
        replace hp := hp.2
        exact ih _ _ _ _ hp k
def p_X10_passDay (h : Hp) (i0 : Nat) : Prop := pw_X10_passDay_14 oa_N (hp_i h 10 i0 0 ((h.1 10 i0 0) + 1)) i0 0 0
def f_X10_passDay (h : Hp) (i0 : Nat) : Int32 := fw_X10_passDay_14 oa_N (hp_i h 10 i0 0 ((h.1 10 i0 0) + 1)) i0 0 0
def g_X10_passDay (h : Hp) (i0 : Nat) : Hp := gw_X10_passDay_14 oa_N (hp_i h 10 i0 0 ((h.1 10 i0 0) + 1)) i0 0 0
set_option maxHeartbeats 4000000 in
theorem c_X10_passDay {d : Nat} {h : Hp} {P : Int32 → Hp → Prop} {Qx : String → Hp → Prop} {i0 : Nat}  (hp : p_X10_passDay h i0) (k : P (f_X10_passDay h i0) (g_X10_passDay h i0)) : CL 0 (d + 3) mX10_passDay [vR 10 i0] h (oI P) Qx := by
  replace k : oI P (some (vI (f_X10_passDay h i0))) (g_X10_passDay h i0) := k
  unfold p_X10_passDay at hp
  unfold f_X10_passDay at k
  unfold g_X10_passDay at k
  refine CL.ofF (plainFor_of_name rfl) rfl (Nat.le_of_ble_eq_true rfl) (vc_X10_passDay_0 (d := d + 2)  ?_)
  exact lw_X10_passDay_14  _ _ _ _ _ hp k
def p_X10_allArriving (h : Hp) (i0 : Nat) (a1 : Int32) : Prop := p_X10_arrivingUntil h i0 a1 ((h.1 10 i0 0) + 60) ∧ True
def f_X10_allArriving (h : Hp) (i0 : Nat) (a1 : Int32) : Int32 := (f_X10_arrivingUntil h i0 a1 ((h.1 10 i0 0) + 60))
set_option maxHeartbeats 4000000 in
theorem c_X10_allArriving {d : Nat} {h : Hp} {P : Int32 → Hp → Prop} {Qx : String → Hp → Prop} {i0 : Nat} {a1 : Int32}  (hp : p_X10_allArriving h i0 a1) (k : P (f_X10_allArriving h i0 a1) h) : CL 0 (d + 2) mX10_allArriving [vR 10 i0, vI a1] h (oI P) Qx := by
  replace k : oI P (some (vI (f_X10_allArriving h i0 a1))) h := k
  unfold p_X10_allArriving at hp
  unfold f_X10_allArriving at k
  refine CL.ofF (plainFor_of_name rfl) rfl (Nat.le_of_ble_eq_true rfl) (vc_X10_allArriving_0 (d := d + 1)  ?_)
  refine c_X10_arrivingUntil  hp.1 ?_
  replace hp := hp.2
  exact k
def pw_X10_dayFor_30 : Nat → Hp → Nat → Int32 → Int32 → Int32 → Int32 → Int32 → Int32 → Prop
  | 0, _, _, _, _, _, _, _, _ => False
  | n + 1, h, i0, x1, x2, x3, x4, x5, x6 => (((h.1 10 i0 1) ≤ x6) → True) ∧ ((¬ (h.1 10 i0 1) ≤ x6) → ((vp_in x6 20) ∧ (((x5 ≤ (h.1 52 i0 x6.toNatClampNeg)) → (pw_X10_dayFor_30 n h i0 x1 x2 x3 x4 x5 (x6 + 1))) ∧ ((¬ x5 ≤ (h.1 52 i0 x6.toNatClampNeg)) → (p_X10_arrivingUntil h i0 x1 (h.1 52 i0 x6.toNatClampNeg) ∧ ((((f_X10_arrivingUntil h i0 x1 (h.1 52 i0 x6.toNatClampNeg)) < x4) → (pw_X10_dayFor_30 n h i0 x1 x2 x3 x4 x5 (x6 + 1))) ∧ ((¬ (f_X10_arrivingUntil h i0 x1 (h.1 52 i0 x6.toNatClampNeg)) < x4) → (pw_X10_dayFor_30 n h i0 x1 x2 x3 x4 (h.1 52 i0 x6.toNatClampNeg) (x6 + 1)))))))))
def fw_X10_dayFor_30 : Nat → Hp → Nat → Int32 → Int32 → Int32 → Int32 → Int32 → Int32 → Int32
  | 0, _, _, _, _, _, _, _, _ => 0
  | n + 1, h, i0, x1, x2, x3, x4, x5, x6 => if (h.1 10 i0 1) ≤ x6 then x5 else (if x5 ≤ (h.1 52 i0 x6.toNatClampNeg) then (fw_X10_dayFor_30 n h i0 x1 x2 x3 x4 x5 (x6 + 1)) else (if (f_X10_arrivingUntil h i0 x1 (h.1 52 i0 x6.toNatClampNeg)) < x4 then (fw_X10_dayFor_30 n h i0 x1 x2 x3 x4 x5 (x6 + 1)) else (fw_X10_dayFor_30 n h i0 x1 x2 x3 x4 (h.1 52 i0 x6.toNatClampNeg) (x6 + 1))))
set_option maxHeartbeats 4000000 in
theorem lw_X10_dayFor_30 {X : WD → State → Prop} {d rb : Nat} {Qr : Option AV → Hp → Prop} {Qx : String → Hp → Prop}   : ∀ (n : Nat) (h : Hp) (i0 : Nat) (x1 : Int32) (x2 : Int32) (x3 : Int32) (x4 : Int32) (x5 : Int32) (x6 : Int32), pw_X10_dayFor_30 n h i0 x1 x2 x3 x4 x5 x6 → Qr (some (vI (fw_X10_dayFor_30 n h i0 x1 x2 x3 x4 x5 x6))) h → AW X (d + 4) rb mX10_dayFor 30 [(0, vR 10 i0), (1, vI x1), (2, vI x2), (3, vI x3), (4, vI x4), (5, vI x5), (6, vI x6)] [] h Qr Qx := by
  intro n
  induction n with
  | zero => intro h i0 x1 x2 x3 x4 x5 x6 hp; exact hp.elim
  | succ n ih =>
    intro h i0 x1 x2 x3 x4 x5 x6 hp k
    rw [pw_X10_dayFor_30] at hp
    rw [fw_X10_dayFor_30] at k
    refine vc_X10_dayFor_30 (d := d + 3)  ?_
    refine ⟨fun c => ?_, fun c => ?_⟩
    · replace hp := hp.1 c
      try simp only [if_pos c] at k
      exact k
    · replace hp := hp.2 c
      try simp only [if_neg c] at k
      refine ⟨hp.1, ?_⟩
      replace hp := hp.2
      refine ⟨fun c => ?_, fun c => ?_⟩
      · replace hp := hp.1 c
        try simp only [if_pos c] at k
        exact ih _ _ _ _ _ _ _ _ hp k
      · replace hp := hp.2 c
        try simp only [if_neg c] at k
        refine c_X10_arrivingUntil  hp.1 ?_
        replace hp := hp.2
        refine ⟨fun c => ?_, fun c => ?_⟩
        · replace hp := hp.1 c
          try simp only [if_pos c] at k
          exact ih _ _ _ _ _ _ _ _ hp k
        · replace hp := hp.2 c
          try simp only [if_neg c] at k
          exact ih _ _ _ _ _ _ _ _ hp k
def p_X10_dayFor (h : Hp) (i0 : Nat) (a1 : Int32) (a2 : Int32) (a3 : Int32) : Prop := p_X10_freeOf h i0 a1 ∧ (((0 < (a2 - (f_X10_freeOf h i0 a1))) → (pw_X10_dayFor_30 oa_N h i0 a1 a2 a3 (a2 - (f_X10_freeOf h i0 a1)) ((h.1 10 i0 0) + a3) 0)) ∧ ((¬ 0 < (a2 - (f_X10_freeOf h i0 a1))) → True))
def f_X10_dayFor (h : Hp) (i0 : Nat) (a1 : Int32) (a2 : Int32) (a3 : Int32) : Int32 := if 0 < (a2 - (f_X10_freeOf h i0 a1)) then (fw_X10_dayFor_30 oa_N h i0 a1 a2 a3 (a2 - (f_X10_freeOf h i0 a1)) ((h.1 10 i0 0) + a3) 0) else (h.1 10 i0 0)
set_option maxHeartbeats 4000000 in
theorem c_X10_dayFor {d : Nat} {h : Hp} {P : Int32 → Hp → Prop} {Qx : String → Hp → Prop} {i0 : Nat} {a1 : Int32} {a2 : Int32} {a3 : Int32}  (hp : p_X10_dayFor h i0 a1 a2 a3) (k : P (f_X10_dayFor h i0 a1 a2 a3) h) : CL 0 (d + 4) mX10_dayFor [vR 10 i0, vI a1, vI a2, vI a3] h (oI P) Qx := by
  replace k : oI P (some (vI (f_X10_dayFor h i0 a1 a2 a3))) h := k
  unfold p_X10_dayFor at hp
  unfold f_X10_dayFor at k
  refine CL.ofF (plainFor_of_name rfl) rfl (Nat.le_of_ble_eq_true rfl) (vc_X10_dayFor_0 (d := d + 3)  ?_)
  refine c_X10_freeOf  hp.1 ?_
  replace hp := hp.2
  refine ⟨fun c => ?_, fun c => ?_⟩
  · replace hp := hp.1 c
    try simp only [if_pos c] at k
    exact lw_X10_dayFor_30  _ _ _ _ _ _ _ _ _ hp k
  · replace hp := hp.2 c
    try simp only [if_neg c] at k
    exact k
def p_X11_append (h : Hp) (a1 : Int32) (a2 : Int32) (a3 : Int32) (a4 : Int32) (a5 : Int32) : Prop := p_X4_hasRoomFor h 20 ∧ (((¬ (f_X4_hasRoomFor h 20) = 0) → (p_X4_putWord h a1 ∧ (p_X4_putWord (g_X4_putWord h a1) a2 ∧ (p_X4_putWord (g_X4_putWord (g_X4_putWord h a1) a2) a3 ∧ (p_X4_putWord (g_X4_putWord (g_X4_putWord (g_X4_putWord h a1) a2) a3) a4 ∧ (p_X4_putWord (g_X4_putWord (g_X4_putWord (g_X4_putWord (g_X4_putWord h a1) a2) a3) a4) a5 ∧ True)))))) ∧ (((f_X4_hasRoomFor h 20) = 0) → True))
def f_X11_append (h : Hp) (a1 : Int32) (a2 : Int32) (a3 : Int32) (a4 : Int32) (a5 : Int32) : Int32 := if ¬ (f_X4_hasRoomFor h 20) = 0 then ((g_X4_putWord (g_X4_putWord (g_X4_putWord (g_X4_putWord (g_X4_putWord h a1) a2) a3) a4) a5).1 4 0 0) else (-1)
def g_X11_append (h : Hp) (a1 : Int32) (a2 : Int32) (a3 : Int32) (a4 : Int32) (a5 : Int32) : Hp := if ¬ (f_X4_hasRoomFor h 20) = 0 then (g_X4_putWord (g_X4_putWord (g_X4_putWord (g_X4_putWord (g_X4_putWord h a1) a2) a3) a4) a5) else h
set_option maxHeartbeats 4000000 in
theorem c_X11_append {d : Nat} {h : Hp} {P : Int32 → Hp → Prop} {Qx : String → Hp → Prop} {a1 : Int32} {a2 : Int32} {a3 : Int32} {a4 : Int32} {a5 : Int32}  (hp : p_X11_append h a1 a2 a3 a4 a5) (k : P (f_X11_append h a1 a2 a3 a4 a5) (g_X11_append h a1 a2 a3 a4 a5)) : CL 0 (d + 3) mX11_append [vR 11 0, vI a1, vI a2, vI a3, vI a4, vI a5] h (oI P) Qx := by
  replace k : oI P (some (vI (f_X11_append h a1 a2 a3 a4 a5))) (g_X11_append h a1 a2 a3 a4 a5) := k
  unfold p_X11_append at hp
  unfold f_X11_append at k
  unfold g_X11_append at k
  refine CL.ofF (plainFor_of_name rfl) rfl (Nat.le_of_ble_eq_true rfl) (vc_X11_append_0 (d := d + 2)  ?_)
  refine c_X4_hasRoomFor  hp.1 ?_
  replace hp := hp.2
  refine ⟨fun c => ?_, fun c => ?_⟩
  · replace hp := hp.1 c
    try simp only [if_pos c] at k
    refine c_X4_putWord  hp.1 ?_
    replace hp := hp.2
    refine c_X4_putWord  hp.1 ?_
    replace hp := hp.2
    refine c_X4_putWord  hp.1 ?_
    replace hp := hp.2
    refine c_X4_putWord  hp.1 ?_
    replace hp := hp.2
    refine c_X4_putWord  hp.1 ?_
    replace hp := hp.2
    exact k
  · replace hp := hp.2 c
    try simp only [if_neg (oa_nn c)] at k
    exact k
def p_X11_total (h : Hp) (a1 : Int32) : Prop := p_X8_totalOf h (h.2.2 11 0 7) a1 ∧ True
def f_X11_total (h : Hp) (a1 : Int32) : Int32 := (f_X8_totalOf h (h.2.2 11 0 7) a1)
set_option maxHeartbeats 4000000 in
theorem c_X11_total {d : Nat} {h : Hp} {P : Int32 → Hp → Prop} {Qx : String → Hp → Prop} {a1 : Int32}  (hp : p_X11_total h a1) (k : P (f_X11_total h a1) h) : CL 0 (d + 3) mX11_total [vR 11 0, vI a1] h (oI P) Qx := by
  replace k : oI P (some (vI (f_X11_total h a1))) h := k
  unfold p_X11_total at hp
  unfold f_X11_total at k
  refine CL.ofF (plainFor_of_name rfl) rfl (Nat.le_of_ble_eq_true rfl) (vc_X11_total_0 (d := d + 2)  ?_)
  refine c_X8_totalOf  hp.1 ?_
  replace hp := hp.2
  exact k
def p_X11_shipment (h : Hp) (a1 : Int32) (a2 : Int32) : Prop := p_X8_entry h (h.2.2 11 0 7) a1 a2 ∧ True
def f_X11_shipment (h : Hp) (a1 : Int32) (a2 : Int32) : Int32 := (f_X8_entry h (h.2.2 11 0 7) a1 a2)
set_option maxHeartbeats 4000000 in
theorem c_X11_shipment {d : Nat} {h : Hp} {P : Int32 → Hp → Prop} {Qx : String → Hp → Prop} {a1 : Int32} {a2 : Int32}  (hp : p_X11_shipment h a1 a2) (k : P (f_X11_shipment h a1 a2) h) : CL 0 (d + 3) mX11_shipment [vR 11 0, vI a1, vI a2] h (oI P) Qx := by
  replace k : oI P (some (vI (f_X11_shipment h a1 a2))) h := k
  unfold p_X11_shipment at hp
  unfold f_X11_shipment at k
  refine CL.ofF (plainFor_of_name rfl) rfl (Nat.le_of_ble_eq_true rfl) (vc_X11_shipment_0 (d := d + 2)  ?_)
  refine c_X8_entry  hp.1 ?_
  replace hp := hp.2
  exact k
def p_X11_formattedByte (h : Hp) (a1 : Int32) : Prop := p_X2_byteAt h a1 ∧ True
def f_X11_formattedByte (h : Hp) (a1 : Int32) : Int32 := (f_X2_byteAt h a1)
set_option maxHeartbeats 4000000 in
theorem c_X11_formattedByte {d : Nat} {h : Hp} {P : Int32 → Hp → Prop} {Qx : String → Hp → Prop} {a1 : Int32}  (hp : p_X11_formattedByte h a1) (k : P (f_X11_formattedByte h a1) h) : CL 0 (d + 3) mX11_formattedByte [vR 11 0, vI a1] h (oI P) Qx := by
  replace k : oI P (some (vI (f_X11_formattedByte h a1))) h := k
  unfold p_X11_formattedByte at hp
  unfold f_X11_formattedByte at k
  refine CL.ofF (plainFor_of_name rfl) rfl (Nat.le_of_ble_eq_true rfl) (vc_X11_formattedByte_0 (d := d + 2)  ?_)
  refine c_X2_byteAt  hp.1 ?_
  replace hp := hp.2
  exact k
def p_X11_checkPart (h : Hp) (a1 : Int32) : Prop := p_X11_isInside h a1 (h.1 1 (h.2.2 11 0 6) 0) ∧ True
def x_X11_checkPart (h : Hp) (a1 : Int32) : Nat := if ¬ (f_X11_isInside h a1 (h.1 1 (h.2.2 11 0 6) 0)) = 0 then 0 else 1
set_option maxHeartbeats 4000000 in
theorem c_X11_checkPart {d : Nat} {h : Hp} {P : Hp → Prop} {Qx : String → Hp → Prop} {a1 : Int32}  (hp : p_X11_checkPart h a1) (hx : x_X11_checkPart h a1 = 0) (k : P  h) : CL 0 (d + 6) mX11_checkPart [vR 11 0, vI a1] h (oV P) Qx := by
  replace k : oV P none h := k
  unfold p_X11_checkPart at hp
  unfold x_X11_checkPart at hx
  refine CL.ofF (plainFor_of_name rfl) rfl (Nat.le_of_ble_eq_true rfl) (vc_X11_checkPart_0 (d := d + 5)  ?_)
  refine c_X11_isInside  hp.1 ?_
  replace hp := hp.2
  refine ⟨fun c => ?_, fun c => ?_⟩
  · skip
    try simp only [if_pos c] at k
    try simp only [if_pos c] at hx
    exact k
  · skip
    try simp only [if_neg (oa_nn c)] at k
    try simp only [if_neg (oa_nn c)] at hx
    exact absurd hx (by decide)
set_option maxHeartbeats 4000000 in
theorem t_X11_checkPart {d : Nat} {h : Hp} {Qx : String → Hp → Prop} {a1 : Int32}  (hp : p_X11_checkPart h a1) (hx : ¬ x_X11_checkPart h a1 = 0) (k : Qx (oa_ex (x_X11_checkPart h a1)) h) : CL 1 (d + 6) mX11_checkPart [vR 11 0, vI a1] h (fun _ _ => False) Qx := by
  unfold p_X11_checkPart at hp
  unfold x_X11_checkPart at hx
  unfold x_X11_checkPart at k
  refine CL.ofF (plainFor_of_name rfl) rfl (Nat.le_of_ble_eq_true rfl) (vc_X11_checkPart_0 (d := d + 5)  ?_)
  refine c_X11_isInside  hp.1 ?_
  replace hp := hp.2
  refine ⟨fun c => ?_, fun c => ?_⟩
  · skip
    try simp only [if_pos c] at k
    try simp only [if_pos c] at hx
    exact (hx (by first | rfl | trivial)).elim
  · skip
    try simp only [if_neg (oa_nn c)] at k
    try simp only [if_neg (oa_nn c)] at hx
    exact vc_X11_checkPart_14 (d := d + 0) k
def p_X11_checkProduct (h : Hp) (a1 : Int32) : Prop := p_X11_isInside h a1 (h.1 1 (h.2.2 11 0 6) 1) ∧ True
def x_X11_checkProduct (h : Hp) (a1 : Int32) : Nat := if ¬ (f_X11_isInside h a1 (h.1 1 (h.2.2 11 0 6) 1)) = 0 then 0 else 1
set_option maxHeartbeats 4000000 in
theorem c_X11_checkProduct {d : Nat} {h : Hp} {P : Hp → Prop} {Qx : String → Hp → Prop} {a1 : Int32}  (hp : p_X11_checkProduct h a1) (hx : x_X11_checkProduct h a1 = 0) (k : P  h) : CL 0 (d + 6) mX11_checkProduct [vR 11 0, vI a1] h (oV P) Qx := by
  replace k : oV P none h := k
  unfold p_X11_checkProduct at hp
  unfold x_X11_checkProduct at hx
  refine CL.ofF (plainFor_of_name rfl) rfl (Nat.le_of_ble_eq_true rfl) (vc_X11_checkProduct_0 (d := d + 5)  ?_)
  refine c_X11_isInside  hp.1 ?_
  replace hp := hp.2
  refine ⟨fun c => ?_, fun c => ?_⟩
  · skip
    try simp only [if_pos c] at k
    try simp only [if_pos c] at hx
    exact k
  · skip
    try simp only [if_neg (oa_nn c)] at k
    try simp only [if_neg (oa_nn c)] at hx
    exact absurd hx (by decide)
set_option maxHeartbeats 4000000 in
theorem t_X11_checkProduct {d : Nat} {h : Hp} {Qx : String → Hp → Prop} {a1 : Int32}  (hp : p_X11_checkProduct h a1) (hx : ¬ x_X11_checkProduct h a1 = 0) (k : Qx (oa_ex (x_X11_checkProduct h a1)) h) : CL 1 (d + 6) mX11_checkProduct [vR 11 0, vI a1] h (fun _ _ => False) Qx := by
  unfold p_X11_checkProduct at hp
  unfold x_X11_checkProduct at hx
  unfold x_X11_checkProduct at k
  refine CL.ofF (plainFor_of_name rfl) rfl (Nat.le_of_ble_eq_true rfl) (vc_X11_checkProduct_0 (d := d + 5)  ?_)
  refine c_X11_isInside  hp.1 ?_
  replace hp := hp.2
  refine ⟨fun c => ?_, fun c => ?_⟩
  · skip
    try simp only [if_pos c] at k
    try simp only [if_pos c] at hx
    exact (hx (by first | rfl | trivial)).elim
  · skip
    try simp only [if_neg (oa_nn c)] at k
    try simp only [if_neg (oa_nn c)] at hx
    exact vc_X11_checkProduct_14 (d := d + 0) k
def p_X11_checkOrder (h : Hp) (a1 : Int32) : Prop := p_X11_isInside h a1 (h.1 6 (h.2.2 11 0 7) 0) ∧ True
def x_X11_checkOrder (h : Hp) (a1 : Int32) : Nat := if ¬ (f_X11_isInside h a1 (h.1 6 (h.2.2 11 0 7) 0)) = 0 then 0 else 1
set_option maxHeartbeats 4000000 in
theorem c_X11_checkOrder {d : Nat} {h : Hp} {P : Hp → Prop} {Qx : String → Hp → Prop} {a1 : Int32}  (hp : p_X11_checkOrder h a1) (hx : x_X11_checkOrder h a1 = 0) (k : P  h) : CL 0 (d + 6) mX11_checkOrder [vR 11 0, vI a1] h (oV P) Qx := by
  replace k : oV P none h := k
  unfold p_X11_checkOrder at hp
  unfold x_X11_checkOrder at hx
  refine CL.ofF (plainFor_of_name rfl) rfl (Nat.le_of_ble_eq_true rfl) (vc_X11_checkOrder_0 (d := d + 5)  ?_)
  refine c_X11_isInside  hp.1 ?_
  replace hp := hp.2
  refine ⟨fun c => ?_, fun c => ?_⟩
  · skip
    try simp only [if_pos c] at k
    try simp only [if_pos c] at hx
    exact k
  · skip
    try simp only [if_neg (oa_nn c)] at k
    try simp only [if_neg (oa_nn c)] at hx
    exact absurd hx (by decide)
set_option maxHeartbeats 4000000 in
theorem t_X11_checkOrder {d : Nat} {h : Hp} {Qx : String → Hp → Prop} {a1 : Int32}  (hp : p_X11_checkOrder h a1) (hx : ¬ x_X11_checkOrder h a1 = 0) (k : Qx (oa_ex (x_X11_checkOrder h a1)) h) : CL 1 (d + 6) mX11_checkOrder [vR 11 0, vI a1] h (fun _ _ => False) Qx := by
  unfold p_X11_checkOrder at hp
  unfold x_X11_checkOrder at hx
  unfold x_X11_checkOrder at k
  refine CL.ofF (plainFor_of_name rfl) rfl (Nat.le_of_ble_eq_true rfl) (vc_X11_checkOrder_0 (d := d + 5)  ?_)
  refine c_X11_isInside  hp.1 ?_
  replace hp := hp.2
  refine ⟨fun c => ?_, fun c => ?_⟩
  · skip
    try simp only [if_pos c] at k
    try simp only [if_pos c] at hx
    exact (hx (by first | rfl | trivial)).elim
  · skip
    try simp only [if_neg (oa_nn c)] at k
    try simp only [if_neg (oa_nn c)] at hx
    exact vc_X11_checkOrder_17 (d := d + 0) k
def p_X11_checkRung (h : Hp) (a1 : Int32) : Prop := p_X11_isInside h a1 (h.1 1 (h.2.2 11 0 6) 2) ∧ True
def x_X11_checkRung (h : Hp) (a1 : Int32) : Nat := if ¬ (f_X11_isInside h a1 (h.1 1 (h.2.2 11 0 6) 2)) = 0 then 0 else 1
set_option maxHeartbeats 4000000 in
theorem c_X11_checkRung {d : Nat} {h : Hp} {P : Hp → Prop} {Qx : String → Hp → Prop} {a1 : Int32}  (hp : p_X11_checkRung h a1) (hx : x_X11_checkRung h a1 = 0) (k : P  h) : CL 0 (d + 6) mX11_checkRung [vR 11 0, vI a1] h (oV P) Qx := by
  replace k : oV P none h := k
  unfold p_X11_checkRung at hp
  unfold x_X11_checkRung at hx
  refine CL.ofF (plainFor_of_name rfl) rfl (Nat.le_of_ble_eq_true rfl) (vc_X11_checkRung_0 (d := d + 5)  ?_)
  refine c_X11_isInside  hp.1 ?_
  replace hp := hp.2
  refine ⟨fun c => ?_, fun c => ?_⟩
  · skip
    try simp only [if_pos c] at k
    try simp only [if_pos c] at hx
    exact k
  · skip
    try simp only [if_neg (oa_nn c)] at k
    try simp only [if_neg (oa_nn c)] at hx
    exact absurd hx (by decide)
set_option maxHeartbeats 4000000 in
theorem t_X11_checkRung {d : Nat} {h : Hp} {Qx : String → Hp → Prop} {a1 : Int32}  (hp : p_X11_checkRung h a1) (hx : ¬ x_X11_checkRung h a1 = 0) (k : Qx (oa_ex (x_X11_checkRung h a1)) h) : CL 1 (d + 6) mX11_checkRung [vR 11 0, vI a1] h (fun _ _ => False) Qx := by
  unfold p_X11_checkRung at hp
  unfold x_X11_checkRung at hx
  unfold x_X11_checkRung at k
  refine CL.ofF (plainFor_of_name rfl) rfl (Nat.le_of_ble_eq_true rfl) (vc_X11_checkRung_0 (d := d + 5)  ?_)
  refine c_X11_isInside  hp.1 ?_
  replace hp := hp.2
  refine ⟨fun c => ?_, fun c => ?_⟩
  · skip
    try simp only [if_pos c] at k
    try simp only [if_pos c] at hx
    exact (hx (by first | rfl | trivial)).elim
  · skip
    try simp only [if_neg (oa_nn c)] at k
    try simp only [if_neg (oa_nn c)] at hx
    exact vc_X11_checkRung_14 (d := d + 0) k
def p_X11_isClosed (h : Hp) (a1 : Int32) : Prop := p_X6_stateFor h (h.2.2 11 0 7) a1 ∧ (((if (f_X6_stateFor h (h.2.2 11 0 7) a1) = 2 then (1 : Int32) else (if ¬ (f_X6_stateFor h (h.2.2 11 0 7) a1) = 3 then (0 : Int32) else 1)) = 0 ∨ (if (f_X6_stateFor h (h.2.2 11 0 7) a1) = 2 then (1 : Int32) else (if ¬ (f_X6_stateFor h (h.2.2 11 0 7) a1) = 3 then (0 : Int32) else 1)) = 1) ∧ True)
def f_X11_isClosed (h : Hp) (a1 : Int32) : Int32 := if (f_X6_stateFor h (h.2.2 11 0 7) a1) = 2 then (1 : Int32) else (if ¬ (f_X6_stateFor h (h.2.2 11 0 7) a1) = 3 then (0 : Int32) else 1)
set_option maxHeartbeats 4000000 in
theorem c_X11_isClosed {d : Nat} {h : Hp} {P : Int32 → Hp → Prop} {Qx : String → Hp → Prop} {a1 : Int32}  (hp : p_X11_isClosed h a1) (k : P (f_X11_isClosed h a1) h) : CL 0 (d + 4) mX11_isClosed [vR 11 0, vI a1] h (oI P) Qx := by
  replace k : oI P (some (vI (f_X11_isClosed h a1))) h := k
  unfold p_X11_isClosed at hp
  unfold f_X11_isClosed at k
  refine CL.ofF (plainFor_of_name rfl) rfl (Nat.le_of_ble_eq_true rfl) (vc_X11_isClosed_0 (d := d + 3)  ?_)
  refine c_X6_stateFor  hp.1 ?_
  replace hp := hp.2
  refine ⟨hp.1, ?_⟩
  replace hp := hp.2
  exact k
def p_X11_shortageOf (h : Hp) (a1 : Int32) (a2 : Int32) : Prop := p_X6_openOf h (h.2.2 11 0 7) a1 ∧ (p_X6_productOf h (h.2.2 11 0 7) a1 ∧ (p_X1_needOf h (h.2.2 11 0 6) (f_X6_productOf h (h.2.2 11 0 7) a1) a2 ∧ (p_X10_freeOf h (h.2.2 11 0 7) a2 ∧ True)))
def f_X11_shortageOf (h : Hp) (a1 : Int32) (a2 : Int32) : Int32 := if 0 < (((f_X6_openOf h (h.2.2 11 0 7) a1) * (f_X1_needOf h (h.2.2 11 0 6) (f_X6_productOf h (h.2.2 11 0 7) a1) a2)) - (f_X10_freeOf h (h.2.2 11 0 7) a2)) then (((f_X6_openOf h (h.2.2 11 0 7) a1) * (f_X1_needOf h (h.2.2 11 0 6) (f_X6_productOf h (h.2.2 11 0 7) a1) a2)) - (f_X10_freeOf h (h.2.2 11 0 7) a2)) else 0
set_option maxHeartbeats 4000000 in
theorem c_X11_shortageOf {d : Nat} {h : Hp} {P : Int32 → Hp → Prop} {Qx : String → Hp → Prop} {a1 : Int32} {a2 : Int32}  (hp : p_X11_shortageOf h a1 a2) (k : P (f_X11_shortageOf h a1 a2) h) : CL 0 (d + 4) mX11_shortageOf [vR 11 0, vI a1, vI a2] h (oI P) Qx := by
  replace k : oI P (some (vI (f_X11_shortageOf h a1 a2))) h := k
  unfold p_X11_shortageOf at hp
  unfold f_X11_shortageOf at k
  refine CL.ofF (plainFor_of_name rfl) rfl (Nat.le_of_ble_eq_true rfl) (vc_X11_shortageOf_0 (d := d + 3)  ?_)
  refine c_X6_openOf  hp.1 ?_
  replace hp := hp.2
  refine c_X6_productOf  hp.1 ?_
  replace hp := hp.2
  refine c_X1_needOf  hp.1 ?_
  replace hp := hp.2
  refine c_X10_freeOf  hp.1 ?_
  replace hp := hp.2
  exact k
def p_X11_dayOfPart (h : Hp) (a1 : Int32) (a2 : Int32) : Prop := p_X1_leadTimeOf h (h.2.2 11 0 6) a1 ∧ (p_X10_dayFor h (h.2.2 11 0 7) a1 a2 (f_X1_leadTimeOf h (h.2.2 11 0 6) a1) ∧ True)
def f_X11_dayOfPart (h : Hp) (a1 : Int32) (a2 : Int32) : Int32 := (f_X10_dayFor h (h.2.2 11 0 7) a1 a2 (f_X1_leadTimeOf h (h.2.2 11 0 6) a1))
set_option maxHeartbeats 4000000 in
theorem c_X11_dayOfPart {d : Nat} {h : Hp} {P : Int32 → Hp → Prop} {Qx : String → Hp → Prop} {a1 : Int32} {a2 : Int32}  (hp : p_X11_dayOfPart h a1 a2) (k : P (f_X11_dayOfPart h a1 a2) h) : CL 0 (d + 5) mX11_dayOfPart [vR 11 0, vI a1, vI a2] h (oI P) Qx := by
  replace k : oI P (some (vI (f_X11_dayOfPart h a1 a2))) h := k
  unfold p_X11_dayOfPart at hp
  unfold f_X11_dayOfPart at k
  refine CL.ofF (plainFor_of_name rfl) rfl (Nat.le_of_ble_eq_true rfl) (vc_X11_dayOfPart_0 (d := d + 4)  ?_)
  refine c_X1_leadTimeOf  hp.1 ?_
  replace hp := hp.2
  refine c_X10_dayFor  hp.1 ?_
  replace hp := hp.2
  exact k
def pw_X11_promiseDate_14 : Nat → Hp → Int32 → Int32 → Int32 → Int32 → Prop
  | 0, _, _, _, _, _ => False
  | n + 1, h, x1, x2, x3, x4 => (((h.1 1 (h.2.2 11 0 6) 0) ≤ x4) → True) ∧ ((¬ (h.1 1 (h.2.2 11 0 6) 0) ≤ x4) → (p_X1_needOf h (h.2.2 11 0 6) x1 x4 ∧ ((((f_X1_needOf h (h.2.2 11 0 6) x1 x4) ≤ 0) → (pw_X11_promiseDate_14 n h x1 x2 x3 (x4 + 1))) ∧ ((¬ (f_X1_needOf h (h.2.2 11 0 6) x1 x4) ≤ 0) → (p_X11_dayOfPart h x4 (x2 * (f_X1_needOf h (h.2.2 11 0 6) x1 x4)) ∧ (pw_X11_promiseDate_14 n h x1 x2 (if x3 < (f_X11_dayOfPart h x4 (x2 * (f_X1_needOf h (h.2.2 11 0 6) x1 x4))) then (f_X11_dayOfPart h x4 (x2 * (f_X1_needOf h (h.2.2 11 0 6) x1 x4))) else x3) (x4 + 1)))))))
def fw_X11_promiseDate_14 : Nat → Hp → Int32 → Int32 → Int32 → Int32 → Int32
  | 0, _, _, _, _, _ => 0
  | n + 1, h, x1, x2, x3, x4 => if (h.1 1 (h.2.2 11 0 6) 0) ≤ x4 then x3 else (if (f_X1_needOf h (h.2.2 11 0 6) x1 x4) ≤ 0 then (fw_X11_promiseDate_14 n h x1 x2 x3 (x4 + 1)) else (fw_X11_promiseDate_14 n h x1 x2 (if x3 < (f_X11_dayOfPart h x4 (x2 * (f_X1_needOf h (h.2.2 11 0 6) x1 x4))) then (f_X11_dayOfPart h x4 (x2 * (f_X1_needOf h (h.2.2 11 0 6) x1 x4))) else x3) (x4 + 1)))
set_option maxHeartbeats 4000000 in
theorem lw_X11_promiseDate_14 {X : WD → State → Prop} {d rb : Nat} {Qr : Option AV → Hp → Prop} {Qx : String → Hp → Prop}   : ∀ (n : Nat) (h : Hp) (x1 : Int32) (x2 : Int32) (x3 : Int32) (x4 : Int32), pw_X11_promiseDate_14 n h x1 x2 x3 x4 → Qr (some (vI (fw_X11_promiseDate_14 n h x1 x2 x3 x4))) h → AW X (d + 6) rb mX11_promiseDate 14 [(0, vR 11 0), (1, vI x1), (2, vI x2), (3, vI x3), (4, vI x4)] [] h Qr Qx := by
  intro n
  induction n with
  | zero => intro h x1 x2 x3 x4 hp; exact hp.elim
  | succ n ih =>
    intro h x1 x2 x3 x4 hp k
    rw [pw_X11_promiseDate_14] at hp
    rw [fw_X11_promiseDate_14] at k
    refine vc_X11_promiseDate_14 (d := d + 5)  ?_
    refine ⟨fun c => ?_, fun c => ?_⟩
    · replace hp := hp.1 c
      try simp only [if_pos c] at k
      exact k
    · replace hp := hp.2 c
      try simp only [if_neg c] at k
      refine c_X1_needOf  hp.1 ?_
      replace hp := hp.2
      refine ⟨fun c => ?_, fun c => ?_⟩
      · replace hp := hp.1 c
        try simp only [if_pos c] at k
        exact ih _ _ _ _ _ hp k
      · replace hp := hp.2 c
        try simp only [if_neg c] at k
        refine c_X11_dayOfPart  hp.1 ?_
        replace hp := hp.2
        exact ih _ _ _ _ _ hp k
def p_X11_promiseDate (h : Hp) (a1 : Int32) (a2 : Int32) : Prop := pw_X11_promiseDate_14 oa_N h a1 a2 (h.1 10 (h.2.2 11 0 7) 0) 0
def f_X11_promiseDate (h : Hp) (a1 : Int32) (a2 : Int32) : Int32 := fw_X11_promiseDate_14 oa_N h a1 a2 (h.1 10 (h.2.2 11 0 7) 0) 0
set_option maxHeartbeats 4000000 in
theorem c_X11_promiseDate {d : Nat} {h : Hp} {P : Int32 → Hp → Prop} {Qx : String → Hp → Prop} {a1 : Int32} {a2 : Int32}  (hp : p_X11_promiseDate h a1 a2) (k : P (f_X11_promiseDate h a1 a2) h) : CL 0 (d + 6) mX11_promiseDate [vR 11 0, vI a1, vI a2] h (oI P) Qx := by
  replace k : oI P (some (vI (f_X11_promiseDate h a1 a2))) h := k
  unfold p_X11_promiseDate at hp
  unfold f_X11_promiseDate at k
  refine CL.ofF (plainFor_of_name rfl) rfl (Nat.le_of_ble_eq_true rfl) (vc_X11_promiseDate_0 (d := d + 5)  ?_)
  exact lw_X11_promiseDate_14  _ _ _ _ _ _ hp k
def pw_X12_product_84 : Nat → Hp → Int32 → Int32 → Int32 → Prop
  | 0, _, _, _, _ => False
  | n + 1, h, x1, x2, x3 => ((x3 = 0) → ((vp_in (188 + x1) 506) ∧ True)) ∧ ((¬ x3 = 0) → (p_X12_hasFailed h ∧ (((¬ (f_X12_hasFailed h) = 0) → ((vp_in (188 + x1) 506) ∧ True)) ∧ (((f_X12_hasFailed h) = 0) → (p_X12_line h x1 x2 ∧ (p_X12_blanks0 (g_X12_line h x1 x2) ∧ (p_X12_isAt (g_X12_blanks0 (g_X12_line h x1 x2)) 48 57 ∧ (pw_X12_product_84 n (g_X12_blanks0 (g_X12_line h x1 x2)) x1 (x2 + 1) (f_X12_isAt (g_X12_blanks0 (g_X12_line h x1 x2)) 48 57)))))))))
def gw_X12_product_84 : Nat → Hp → Int32 → Int32 → Int32 → Hp
  | 0, h, _, _, _ => h
  | n + 1, h, x1, x2, x3 => if x3 = 0 then (hp_i (hp_i h 57 0 ((188 + x1).toNatClampNeg) x2) 57 0 1 (((hp_i h 57 0 ((188 + x1).toNatClampNeg) x2).1 57 0 1) + 1)) else (if ¬ (f_X12_hasFailed h) = 0 then (hp_i (hp_i h 57 0 ((188 + x1).toNatClampNeg) x2) 57 0 1 (((hp_i h 57 0 ((188 + x1).toNatClampNeg) x2).1 57 0 1) + 1)) else (gw_X12_product_84 n (g_X12_blanks0 (g_X12_line h x1 x2)) x1 (x2 + 1) (f_X12_isAt (g_X12_blanks0 (g_X12_line h x1 x2)) 48 57)))
set_option maxHeartbeats 4000000 in
theorem lw_X12_product_84 {X : WD → State → Prop} {d rb : Nat} {Qr : Option AV → Hp → Prop} {Qx : String → Hp → Prop}   : ∀ (n : Nat) (h : Hp) (x1 : Int32) (x2 : Int32) (x3 : Int32), pw_X12_product_84 n h x1 x2 x3 → Qr none (gw_X12_product_84 n h x1 x2 x3) → AW X (d + 6) rb mX12_product 84 [(0, vR 12 0), (1, vI x1), (2, vI x2), (3, vI x3)] [] h Qr Qx := by
  intro n
  induction n with
  | zero => intro h x1 x2 x3 hp; exact hp.elim
  | succ n ih =>
    intro h x1 x2 x3 hp k
    rw [pw_X12_product_84] at hp
    rw [gw_X12_product_84] at k
    refine vc_X12_product_84 (d := d + 5)  ?_
    refine ⟨fun c => ?_, fun c => ?_⟩
    · replace hp := hp.1 c
      try simp only [if_pos c] at k
      refine ⟨hp.1, ?_⟩
      replace hp := hp.2
      exact k
    · replace hp := hp.2 c
      try simp only [if_neg c] at k
      refine c_X12_hasFailed  hp.1 ?_
      replace hp := hp.2
      refine ⟨fun c => ?_, fun c => ?_⟩
      · replace hp := hp.1 c
        try simp only [if_pos c] at k
        refine ⟨hp.1, ?_⟩
        replace hp := hp.2
        exact k
      · replace hp := hp.2 c
        try simp only [if_neg (oa_nn c)] at k
        refine c_X12_line  hp.1 ?_
        replace hp := hp.2
        refine c_X12_blanks0  hp.1 ?_
        replace hp := hp.2
        refine c_X12_isAt  hp.1 ?_
        replace hp := hp.2
        exact ih _ _ _ _ hp k
def pw_X12_product_52 : Nat → Hp → Int32 → Int32 → Prop
  | 0, _, _, _ => False
  | n + 1, h, x1, x2 => ((12 ≤ x2) → (pw_X12_product_84 oa_N h x1 0 1)) ∧ ((¬ 12 ≤ x2) → ((vp_in ((292 + (12 * x1)) + x2) 506) ∧ (pw_X12_product_52 n (hp_i h 57 0 (((292 + (12 * x1)) + x2).toNatClampNeg) 0) x1 (x2 + 1))))
def gw_X12_product_52 : Nat → Hp → Int32 → Int32 → Hp
  | 0, h, _, _ => h
  | n + 1, h, x1, x2 => if 12 ≤ x2 then (gw_X12_product_84 oa_N h x1 0 1) else (gw_X12_product_52 n (hp_i h 57 0 (((292 + (12 * x1)) + x2).toNatClampNeg) 0) x1 (x2 + 1))
set_option maxHeartbeats 4000000 in
theorem lw_X12_product_52 {X : WD → State → Prop} {d rb : Nat} {Qr : Option AV → Hp → Prop} {Qx : String → Hp → Prop}   : ∀ (n : Nat) (h : Hp) (x1 : Int32) (x2 : Int32), pw_X12_product_52 n h x1 x2 → Qr none (gw_X12_product_52 n h x1 x2) → AW X (d + 6) rb mX12_product 52 [(0, vR 12 0), (1, vI x1), (2, vI x2)] [] h Qr Qx := by
  intro n
  induction n with
  | zero => intro h x1 x2 hp; exact hp.elim
  | succ n ih =>
    intro h x1 x2 hp k
    rw [pw_X12_product_52] at hp
    rw [gw_X12_product_52] at k
    refine vc_X12_product_52 (d := d + 5)  ?_
    refine ⟨fun c => ?_, fun c => ?_⟩
    · replace hp := hp.1 c
      try simp only [if_pos c] at k
      exact lw_X12_product_84  _ _ _ _ _ hp k
    · replace hp := hp.2 c
      try simp only [if_neg c] at k
      refine ⟨hp.1, ?_⟩
      replace hp := hp.2
      exact ih _ _ _ hp k
def p_X12_product (h : Hp)  : Prop := p_X12_must h (if 8 ≤ (h.1 57 0 1) then (0 : Int32) else 1) 4 ∧ (p_X12_hasFailed (g_X12_must h (if 8 ≤ (h.1 57 0 1) then (0 : Int32) else 1) 4) ∧ ((((f_X12_hasFailed (g_X12_must h (if 8 ≤ (h.1 57 0 1) then (0 : Int32) else 1) 4)) = 0) → (p_X12_newName (hp_i (g_X12_must h (if 8 ≤ (h.1 57 0 1) then (0 : Int32) else 1) 4) 12 0 4 (((g_X12_must h (if 8 ≤ (h.1 57 0 1) then (0 : Int32) else 1) 4).1 12 0 4) + 7)) (12 + (h.1 57 0 1)) ∧ (pw_X12_product_52 oa_N (g_X12_newName (hp_i (g_X12_must h (if 8 ≤ (h.1 57 0 1) then (0 : Int32) else 1) 4) 12 0 4 (((g_X12_must h (if 8 ≤ (h.1 57 0 1) then (0 : Int32) else 1) 4).1 12 0 4) + 7)) (12 + (h.1 57 0 1))) (h.1 57 0 1) 0))) ∧ ((¬ (f_X12_hasFailed (g_X12_must h (if 8 ≤ (h.1 57 0 1) then (0 : Int32) else 1) 4)) = 0) → True)))
def g_X12_product (h : Hp)  : Hp := if (f_X12_hasFailed (g_X12_must h (if 8 ≤ (h.1 57 0 1) then (0 : Int32) else 1) 4)) = 0 then (gw_X12_product_52 oa_N (g_X12_newName (hp_i (g_X12_must h (if 8 ≤ (h.1 57 0 1) then (0 : Int32) else 1) 4) 12 0 4 (((g_X12_must h (if 8 ≤ (h.1 57 0 1) then (0 : Int32) else 1) 4).1 12 0 4) + 7)) (12 + (h.1 57 0 1))) (h.1 57 0 1) 0) else (g_X12_must h (if 8 ≤ (h.1 57 0 1) then (0 : Int32) else 1) 4)
set_option maxHeartbeats 4000000 in
theorem c_X12_product {d : Nat} {h : Hp} {P : Hp → Prop} {Qx : String → Hp → Prop}   (hp : p_X12_product h ) (k : P  (g_X12_product h )) : CL 0 (d + 6) mX12_product [vR 12 0] h (oV P) Qx := by
  replace k : oV P none (g_X12_product h ) := k
  unfold p_X12_product at hp
  unfold g_X12_product at k
  refine CL.ofF (plainFor_of_name rfl) rfl (Nat.le_of_ble_eq_true rfl) (vc_X12_product_0 (d := d + 5)  ?_)
  refine c_X12_must  hp.1 ?_
  replace hp := hp.2
  refine c_X12_hasFailed  hp.1 ?_
  replace hp := hp.2
  refine ⟨fun c => ?_, fun c => ?_⟩
  · replace hp := hp.1 c
    try simp only [if_pos c] at k
    refine c_X12_newName  hp.1 ?_
    replace hp := hp.2
    exact lw_X12_product_52  _ _ _ _ hp k
  · replace hp := hp.2 c
    try simp only [if_neg c] at k
    exact k
def pw_X12_triesRung_62 : Nat → Hp → Int32 → Int32 → Prop
  | 0, _, _, _ => False
  | n + 1, h, x1, x2 => ((x2 = (-1)) → True) ∧ ((¬ x2 = (-1)) → (p_X12_can (hp_i h 12 0 22 ((h.1 12 0 22) ||| (1 <<< (x2 &&& 31)))) x2 ∧ ((((f_X12_can (hp_i h 12 0 22 ((h.1 12 0 22) ||| (1 <<< (x2 &&& 31)))) x2) ≤ 0) → (p_X12_nextIn (hp_i h 12 0 22 ((h.1 12 0 22) ||| (1 <<< (x2 &&& 31)))) x1 ∧ (pw_X12_triesRung_62 n (hp_i h 12 0 22 ((h.1 12 0 22) ||| (1 <<< (x2 &&& 31)))) x1 (f_X12_nextIn (hp_i h 12 0 22 ((h.1 12 0 22) ||| (1 <<< (x2 &&& 31)))) x1)))) ∧ ((¬ (f_X12_can (hp_i h 12 0 22 ((h.1 12 0 22) ||| (1 <<< (x2 &&& 31)))) x2) ≤ 0) → (p_X12_takes0 (hp_i h 12 0 22 ((h.1 12 0 22) ||| (1 <<< (x2 &&& 31)))) x2 (f_X12_can (hp_i h 12 0 22 ((h.1 12 0 22) ||| (1 <<< (x2 &&& 31)))) x2) ∧ ((vp_in x2 20) ∧ (((¬ ((g_X12_takes0 (hp_i h 12 0 22 ((h.1 12 0 22) ||| (1 <<< (x2 &&& 31)))) x2 (f_X12_can (hp_i h 12 0 22 ((h.1 12 0 22) ||| (1 <<< (x2 &&& 31)))) x2)).1 63 0 x2.toNatClampNeg) = (-1)) → ((vp_in x2 20) ∧ ((vp_in x2 20) ∧ ((vp_in x1 6) ∧ ((vp_in x1 6) ∧ (p_X12_nextIn (hp_i (hp_i (g_X12_takes0 (hp_i h 12 0 22 ((h.1 12 0 22) ||| (1 <<< (x2 &&& 31)))) x2 (f_X12_can (hp_i h 12 0 22 ((h.1 12 0 22) ||| (1 <<< (x2 &&& 31)))) x2)) 63 0 x2.toNatClampNeg ((g_X12_takes0 (hp_i h 12 0 22 ((h.1 12 0 22) ||| (1 <<< (x2 &&& 31)))) x2 (f_X12_can (hp_i h 12 0 22 ((h.1 12 0 22) ||| (1 <<< (x2 &&& 31)))) x2)).1 63 0 x2.toNatClampNeg)) 64 0 x1.toNatClampNeg (((g_X12_takes0 (hp_i h 12 0 22 ((h.1 12 0 22) ||| (1 <<< (x2 &&& 31)))) x2 (f_X12_can (hp_i h 12 0 22 ((h.1 12 0 22) ||| (1 <<< (x2 &&& 31)))) x2)).1 64 0 x1.toNatClampNeg) + (f_X12_can (hp_i h 12 0 22 ((h.1 12 0 22) ||| (1 <<< (x2 &&& 31)))) x2))) x1 ∧ (pw_X12_triesRung_62 n (hp_i (hp_i (g_X12_takes0 (hp_i h 12 0 22 ((h.1 12 0 22) ||| (1 <<< (x2 &&& 31)))) x2 (f_X12_can (hp_i h 12 0 22 ((h.1 12 0 22) ||| (1 <<< (x2 &&& 31)))) x2)) 63 0 x2.toNatClampNeg ((g_X12_takes0 (hp_i h 12 0 22 ((h.1 12 0 22) ||| (1 <<< (x2 &&& 31)))) x2 (f_X12_can (hp_i h 12 0 22 ((h.1 12 0 22) ||| (1 <<< (x2 &&& 31)))) x2)).1 63 0 x2.toNatClampNeg)) 64 0 x1.toNatClampNeg (((g_X12_takes0 (hp_i h 12 0 22 ((h.1 12 0 22) ||| (1 <<< (x2 &&& 31)))) x2 (f_X12_can (hp_i h 12 0 22 ((h.1 12 0 22) ||| (1 <<< (x2 &&& 31)))) x2)).1 64 0 x1.toNatClampNeg) + (f_X12_can (hp_i h 12 0 22 ((h.1 12 0 22) ||| (1 <<< (x2 &&& 31)))) x2))) x1 (f_X12_nextIn (hp_i (hp_i (g_X12_takes0 (hp_i h 12 0 22 ((h.1 12 0 22) ||| (1 <<< (x2 &&& 31)))) x2 (f_X12_can (hp_i h 12 0 22 ((h.1 12 0 22) ||| (1 <<< (x2 &&& 31)))) x2)) 63 0 x2.toNatClampNeg ((g_X12_takes0 (hp_i h 12 0 22 ((h.1 12 0 22) ||| (1 <<< (x2 &&& 31)))) x2 (f_X12_can (hp_i h 12 0 22 ((h.1 12 0 22) ||| (1 <<< (x2 &&& 31)))) x2)).1 63 0 x2.toNatClampNeg)) 64 0 x1.toNatClampNeg (((g_X12_takes0 (hp_i h 12 0 22 ((h.1 12 0 22) ||| (1 <<< (x2 &&& 31)))) x2 (f_X12_can (hp_i h 12 0 22 ((h.1 12 0 22) ||| (1 <<< (x2 &&& 31)))) x2)).1 64 0 x1.toNatClampNeg) + (f_X12_can (hp_i h 12 0 22 ((h.1 12 0 22) ||| (1 <<< (x2 &&& 31)))) x2))) x1)))))))) ∧ ((((g_X12_takes0 (hp_i h 12 0 22 ((h.1 12 0 22) ||| (1 <<< (x2 &&& 31)))) x2 (f_X12_can (hp_i h 12 0 22 ((h.1 12 0 22) ||| (1 <<< (x2 &&& 31)))) x2)).1 63 0 x2.toNatClampNeg) = (-1)) → ((vp_in x2 20) ∧ ((vp_in x1 6) ∧ ((vp_in x1 6) ∧ (p_X12_nextIn (hp_i (hp_i (g_X12_takes0 (hp_i h 12 0 22 ((h.1 12 0 22) ||| (1 <<< (x2 &&& 31)))) x2 (f_X12_can (hp_i h 12 0 22 ((h.1 12 0 22) ||| (1 <<< (x2 &&& 31)))) x2)) 63 0 x2.toNatClampNeg x1) 64 0 x1.toNatClampNeg (((g_X12_takes0 (hp_i h 12 0 22 ((h.1 12 0 22) ||| (1 <<< (x2 &&& 31)))) x2 (f_X12_can (hp_i h 12 0 22 ((h.1 12 0 22) ||| (1 <<< (x2 &&& 31)))) x2)).1 64 0 x1.toNatClampNeg) + (f_X12_can (hp_i h 12 0 22 ((h.1 12 0 22) ||| (1 <<< (x2 &&& 31)))) x2))) x1 ∧ (pw_X12_triesRung_62 n (hp_i (hp_i (g_X12_takes0 (hp_i h 12 0 22 ((h.1 12 0 22) ||| (1 <<< (x2 &&& 31)))) x2 (f_X12_can (hp_i h 12 0 22 ((h.1 12 0 22) ||| (1 <<< (x2 &&& 31)))) x2)) 63 0 x2.toNatClampNeg x1) 64 0 x1.toNatClampNeg (((g_X12_takes0 (hp_i h 12 0 22 ((h.1 12 0 22) ||| (1 <<< (x2 &&& 31)))) x2 (f_X12_can (hp_i h 12 0 22 ((h.1 12 0 22) ||| (1 <<< (x2 &&& 31)))) x2)).1 64 0 x1.toNatClampNeg) + (f_X12_can (hp_i h 12 0 22 ((h.1 12 0 22) ||| (1 <<< (x2 &&& 31)))) x2))) x1 (f_X12_nextIn (hp_i (hp_i (g_X12_takes0 (hp_i h 12 0 22 ((h.1 12 0 22) ||| (1 <<< (x2 &&& 31)))) x2 (f_X12_can (hp_i h 12 0 22 ((h.1 12 0 22) ||| (1 <<< (x2 &&& 31)))) x2)) 63 0 x2.toNatClampNeg x1) 64 0 x1.toNatClampNeg (((g_X12_takes0 (hp_i h 12 0 22 ((h.1 12 0 22) ||| (1 <<< (x2 &&& 31)))) x2 (f_X12_can (hp_i h 12 0 22 ((h.1 12 0 22) ||| (1 <<< (x2 &&& 31)))) x2)).1 64 0 x1.toNatClampNeg) + (f_X12_can (hp_i h 12 0 22 ((h.1 12 0 22) ||| (1 <<< (x2 &&& 31)))) x2))) x1))))))))))))))
def gw_X12_triesRung_62 : Nat → Hp → Int32 → Int32 → Hp
  | 0, h, _, _ => h
  | n + 1, h, x1, x2 => if x2 = (-1) then h else (if (f_X12_can (hp_i h 12 0 22 ((h.1 12 0 22) ||| (1 <<< (x2 &&& 31)))) x2) ≤ 0 then (gw_X12_triesRung_62 n (hp_i h 12 0 22 ((h.1 12 0 22) ||| (1 <<< (x2 &&& 31)))) x1 (f_X12_nextIn (hp_i h 12 0 22 ((h.1 12 0 22) ||| (1 <<< (x2 &&& 31)))) x1)) else (if ¬ ((g_X12_takes0 (hp_i h 12 0 22 ((h.1 12 0 22) ||| (1 <<< (x2 &&& 31)))) x2 (f_X12_can (hp_i h 12 0 22 ((h.1 12 0 22) ||| (1 <<< (x2 &&& 31)))) x2)).1 63 0 x2.toNatClampNeg) = (-1) then (gw_X12_triesRung_62 n (hp_i (hp_i (g_X12_takes0 (hp_i h 12 0 22 ((h.1 12 0 22) ||| (1 <<< (x2 &&& 31)))) x2 (f_X12_can (hp_i h 12 0 22 ((h.1 12 0 22) ||| (1 <<< (x2 &&& 31)))) x2)) 63 0 x2.toNatClampNeg ((g_X12_takes0 (hp_i h 12 0 22 ((h.1 12 0 22) ||| (1 <<< (x2 &&& 31)))) x2 (f_X12_can (hp_i h 12 0 22 ((h.1 12 0 22) ||| (1 <<< (x2 &&& 31)))) x2)).1 63 0 x2.toNatClampNeg)) 64 0 x1.toNatClampNeg (((g_X12_takes0 (hp_i h 12 0 22 ((h.1 12 0 22) ||| (1 <<< (x2 &&& 31)))) x2 (f_X12_can (hp_i h 12 0 22 ((h.1 12 0 22) ||| (1 <<< (x2 &&& 31)))) x2)).1 64 0 x1.toNatClampNeg) + (f_X12_can (hp_i h 12 0 22 ((h.1 12 0 22) ||| (1 <<< (x2 &&& 31)))) x2))) x1 (f_X12_nextIn (hp_i (hp_i (g_X12_takes0 (hp_i h 12 0 22 ((h.1 12 0 22) ||| (1 <<< (x2 &&& 31)))) x2 (f_X12_can (hp_i h 12 0 22 ((h.1 12 0 22) ||| (1 <<< (x2 &&& 31)))) x2)) 63 0 x2.toNatClampNeg ((g_X12_takes0 (hp_i h 12 0 22 ((h.1 12 0 22) ||| (1 <<< (x2 &&& 31)))) x2 (f_X12_can (hp_i h 12 0 22 ((h.1 12 0 22) ||| (1 <<< (x2 &&& 31)))) x2)).1 63 0 x2.toNatClampNeg)) 64 0 x1.toNatClampNeg (((g_X12_takes0 (hp_i h 12 0 22 ((h.1 12 0 22) ||| (1 <<< (x2 &&& 31)))) x2 (f_X12_can (hp_i h 12 0 22 ((h.1 12 0 22) ||| (1 <<< (x2 &&& 31)))) x2)).1 64 0 x1.toNatClampNeg) + (f_X12_can (hp_i h 12 0 22 ((h.1 12 0 22) ||| (1 <<< (x2 &&& 31)))) x2))) x1)) else (gw_X12_triesRung_62 n (hp_i (hp_i (g_X12_takes0 (hp_i h 12 0 22 ((h.1 12 0 22) ||| (1 <<< (x2 &&& 31)))) x2 (f_X12_can (hp_i h 12 0 22 ((h.1 12 0 22) ||| (1 <<< (x2 &&& 31)))) x2)) 63 0 x2.toNatClampNeg x1) 64 0 x1.toNatClampNeg (((g_X12_takes0 (hp_i h 12 0 22 ((h.1 12 0 22) ||| (1 <<< (x2 &&& 31)))) x2 (f_X12_can (hp_i h 12 0 22 ((h.1 12 0 22) ||| (1 <<< (x2 &&& 31)))) x2)).1 64 0 x1.toNatClampNeg) + (f_X12_can (hp_i h 12 0 22 ((h.1 12 0 22) ||| (1 <<< (x2 &&& 31)))) x2))) x1 (f_X12_nextIn (hp_i (hp_i (g_X12_takes0 (hp_i h 12 0 22 ((h.1 12 0 22) ||| (1 <<< (x2 &&& 31)))) x2 (f_X12_can (hp_i h 12 0 22 ((h.1 12 0 22) ||| (1 <<< (x2 &&& 31)))) x2)) 63 0 x2.toNatClampNeg x1) 64 0 x1.toNatClampNeg (((g_X12_takes0 (hp_i h 12 0 22 ((h.1 12 0 22) ||| (1 <<< (x2 &&& 31)))) x2 (f_X12_can (hp_i h 12 0 22 ((h.1 12 0 22) ||| (1 <<< (x2 &&& 31)))) x2)).1 64 0 x1.toNatClampNeg) + (f_X12_can (hp_i h 12 0 22 ((h.1 12 0 22) ||| (1 <<< (x2 &&& 31)))) x2))) x1))))
set_option maxHeartbeats 4000000 in
theorem lw_X12_triesRung_62 {X : WD → State → Prop} {d rb : Nat} {Qr : Option AV → Hp → Prop} {Qx : String → Hp → Prop}   : ∀ (n : Nat) (h : Hp) (x1 : Int32) (x2 : Int32), pw_X12_triesRung_62 n h x1 x2 → Qr none (gw_X12_triesRung_62 n h x1 x2) → AW X (d + 4) rb mX12_triesRung 62 [(0, vR 12 0), (1, vI x1), (2, vI x2)] [] h Qr Qx := by
  intro n
  induction n with
  | zero => intro h x1 x2 hp; exact hp.elim
  | succ n ih =>
    intro h x1 x2 hp k
    rw [pw_X12_triesRung_62] at hp
    rw [gw_X12_triesRung_62] at k
    refine vc_X12_triesRung_62 (d := d + 3)  ?_
    refine ⟨fun c => ?_, fun c => ?_⟩
    · replace hp := hp.1 c
      try simp only [if_pos c] at k
      exact k
    · replace hp := hp.2 c
      try simp only [if_neg c] at k
      refine c_X12_can  hp.1 ?_
      replace hp := hp.2
      refine ⟨fun c => ?_, fun c => ?_⟩
      · replace hp := hp.1 c
        try simp only [if_pos c] at k
        refine c_X12_nextIn  hp.1 ?_
        replace hp := hp.2
        exact ih _ _ _ hp k
      · replace hp := hp.2 c
        try simp only [if_neg c] at k
        refine c_X12_takes0  hp.1 ?_
        replace hp := hp.2
        refine ⟨hp.1, ?_⟩
        replace hp := hp.2
        refine ⟨fun c => ?_, fun c => ?_⟩
        · replace hp := hp.1 c
          try simp only [if_pos c] at k
          refine ⟨hp.1, ?_⟩
          replace hp := hp.2
          refine ⟨hp.1, ?_⟩
          replace hp := hp.2
          refine ⟨hp.1, ?_⟩
          replace hp := hp.2
          refine ⟨hp.1, ?_⟩
          replace hp := hp.2
          refine c_X12_nextIn  hp.1 ?_
          replace hp := hp.2
          exact ih _ _ _ hp k
        · replace hp := hp.2 c
          try simp only [if_neg (oa_nn c)] at k
          refine ⟨hp.1, ?_⟩
          replace hp := hp.2
          refine ⟨hp.1, ?_⟩
          replace hp := hp.2
          refine ⟨hp.1, ?_⟩
          replace hp := hp.2
          refine c_X12_nextIn  hp.1 ?_
          replace hp := hp.2
          exact ih _ _ _ hp k
def pw_X12_triesRung_2 : Nat → Hp → Int32 → Int32 → Prop
  | 0, _, _, _ => False
  | n + 1, h, x1, x2 => ((12 ≤ x2) → ((vp_in x1 6) ∧ (p_X12_nextIn (hp_i (hp_i h 64 0 x1.toNatClampNeg 0) 12 0 22 0) x1 ∧ (pw_X12_triesRung_62 oa_N (hp_i (hp_i h 64 0 x1.toNatClampNeg 0) 12 0 22 0) x1 (f_X12_nextIn (hp_i (hp_i h 64 0 x1.toNatClampNeg 0) 12 0 22 0) x1))))) ∧ ((¬ 12 ≤ x2) → ((vp_in x2 12) ∧ ((vp_in ((388 + (3 * x1)) + 2) 506) ∧ ((vp_in x2 12) ∧ (pw_X12_triesRung_2 n (hp_i h 61 0 x2.toNatClampNeg (((h.1 60 0 x2.toNatClampNeg) * (h.1 56 0 (((388 + (3 * x1)) + 2).toNatClampNeg))) / 100)) x1 (x2 + 1))))))
def gw_X12_triesRung_2 : Nat → Hp → Int32 → Int32 → Hp
  | 0, h, _, _ => h
  | n + 1, h, x1, x2 => if 12 ≤ x2 then (gw_X12_triesRung_62 oa_N (hp_i (hp_i h 64 0 x1.toNatClampNeg 0) 12 0 22 0) x1 (f_X12_nextIn (hp_i (hp_i h 64 0 x1.toNatClampNeg 0) 12 0 22 0) x1)) else (gw_X12_triesRung_2 n (hp_i h 61 0 x2.toNatClampNeg (((h.1 60 0 x2.toNatClampNeg) * (h.1 56 0 (((388 + (3 * x1)) + 2).toNatClampNeg))) / 100)) x1 (x2 + 1))
set_option maxHeartbeats 4000000 in
theorem lw_X12_triesRung_2 {X : WD → State → Prop} {d rb : Nat} {Qr : Option AV → Hp → Prop} {Qx : String → Hp → Prop}   : ∀ (n : Nat) (h : Hp) (x1 : Int32) (x2 : Int32), pw_X12_triesRung_2 n h x1 x2 → Qr none (gw_X12_triesRung_2 n h x1 x2) → AW X (d + 4) rb mX12_triesRung 2 [(0, vR 12 0), (1, vI x1), (2, vI x2)] [] h Qr Qx := by
  intro n
  induction n with
  | zero => intro h x1 x2 hp; exact hp.elim
  | succ n ih =>
    intro h x1 x2 hp k
    rw [pw_X12_triesRung_2] at hp
    rw [gw_X12_triesRung_2] at k
    refine vc_X12_triesRung_2 (d := d + 3)  ?_
    refine ⟨fun c => ?_, fun c => ?_⟩
    · replace hp := hp.1 c
      try simp only [if_pos c] at k
      refine ⟨hp.1, ?_⟩
      replace hp := hp.2
      refine c_X12_nextIn  hp.1 ?_
      replace hp := hp.2
      exact lw_X12_triesRung_62  _ _ _ _ hp k
    · replace hp := hp.2 c
      try simp only [if_neg c] at k
      refine ⟨hp.1, ?_⟩
      replace hp := hp.2
      refine ⟨hp.1, ?_⟩
      replace hp := hp.2
      refine ⟨hp.1, ?_⟩
      replace hp := hp.2
      exact ih _ _ _ hp k
def p_X12_triesRung (h : Hp) (a1 : Int32) : Prop := pw_X12_triesRung_2 oa_N h a1 0
def g_X12_triesRung (h : Hp) (a1 : Int32) : Hp := gw_X12_triesRung_2 oa_N h a1 0
set_option maxHeartbeats 4000000 in
theorem c_X12_triesRung {d : Nat} {h : Hp} {P : Hp → Prop} {Qx : String → Hp → Prop} {a1 : Int32}  (hp : p_X12_triesRung h a1) (k : P  (g_X12_triesRung h a1)) : CL 0 (d + 4) mX12_triesRung [vR 12 0, vI a1] h (oV P) Qx := by
  replace k : oV P none (g_X12_triesRung h a1) := k
  unfold p_X12_triesRung at hp
  unfold g_X12_triesRung at k
  refine CL.ofF (plainFor_of_name rfl) rfl (Nat.le_of_ble_eq_true rfl) (vc_X12_triesRung_0 (d := d + 3)  ?_)
  exact lw_X12_triesRung_2  _ _ _ _ hp k
def pw_X12_coveredOrders_40 : Nat → Hp → Int32 → Int32 → Int32 → Prop
  | 0, _, _, _, _ => False
  | n + 1, h, x1, x2, x3 => ((x3 = (-1)) → True) ∧ ((¬ x3 = (-1)) → (p_X12_isCovered h x3 ∧ ((((f_X12_isCovered h x3) = 0) → (p_X12_nextOpen (g_X12_isCovered h x3) (x2 ||| (1 <<< (x3 &&& 31))) ∧ (pw_X12_coveredOrders_40 n (g_X12_isCovered h x3) x1 (x2 ||| (1 <<< (x3 &&& 31))) (f_X12_nextOpen (g_X12_isCovered h x3) (x2 ||| (1 <<< (x3 &&& 31))))))) ∧ ((¬ (f_X12_isCovered h x3) = 0) → (p_X12_nextOpen (g_X12_isCovered h x3) (x2 ||| (1 <<< (x3 &&& 31))) ∧ (pw_X12_coveredOrders_40 n (g_X12_isCovered h x3) (x1 ||| (1 <<< (x3 &&& 31))) (x2 ||| (1 <<< (x3 &&& 31))) (f_X12_nextOpen (g_X12_isCovered h x3) (x2 ||| (1 <<< (x3 &&& 31))))))))))
def fw_X12_coveredOrders_40 : Nat → Hp → Int32 → Int32 → Int32 → Int32
  | 0, _, _, _, _ => 0
  | n + 1, h, x1, x2, x3 => if x3 = (-1) then x1 else (if (f_X12_isCovered h x3) = 0 then (fw_X12_coveredOrders_40 n (g_X12_isCovered h x3) x1 (x2 ||| (1 <<< (x3 &&& 31))) (f_X12_nextOpen (g_X12_isCovered h x3) (x2 ||| (1 <<< (x3 &&& 31))))) else (fw_X12_coveredOrders_40 n (g_X12_isCovered h x3) (x1 ||| (1 <<< (x3 &&& 31))) (x2 ||| (1 <<< (x3 &&& 31))) (f_X12_nextOpen (g_X12_isCovered h x3) (x2 ||| (1 <<< (x3 &&& 31))))))
def gw_X12_coveredOrders_40 : Nat → Hp → Int32 → Int32 → Int32 → Hp
  | 0, h, _, _, _ => h
  | n + 1, h, x1, x2, x3 => if x3 = (-1) then h else (if (f_X12_isCovered h x3) = 0 then (gw_X12_coveredOrders_40 n (g_X12_isCovered h x3) x1 (x2 ||| (1 <<< (x3 &&& 31))) (f_X12_nextOpen (g_X12_isCovered h x3) (x2 ||| (1 <<< (x3 &&& 31))))) else (gw_X12_coveredOrders_40 n (g_X12_isCovered h x3) (x1 ||| (1 <<< (x3 &&& 31))) (x2 ||| (1 <<< (x3 &&& 31))) (f_X12_nextOpen (g_X12_isCovered h x3) (x2 ||| (1 <<< (x3 &&& 31))))))
set_option maxHeartbeats 4000000 in
theorem lw_X12_coveredOrders_40 {X : WD → State → Prop} {d rb : Nat} {Qr : Option AV → Hp → Prop} {Qx : String → Hp → Prop}   : ∀ (n : Nat) (h : Hp) (x1 : Int32) (x2 : Int32) (x3 : Int32), pw_X12_coveredOrders_40 n h x1 x2 x3 → Qr (some (vI (fw_X12_coveredOrders_40 n h x1 x2 x3))) (gw_X12_coveredOrders_40 n h x1 x2 x3) → AW X (d + 4) rb mX12_coveredOrders 40 [(0, vR 12 0), (1, vI x1), (2, vI x2), (3, vI x3)] [] h Qr Qx := by
  intro n
  induction n with
  | zero => intro h x1 x2 x3 hp; exact hp.elim
  | succ n ih =>
    intro h x1 x2 x3 hp k
    rw [pw_X12_coveredOrders_40] at hp
    rw [fw_X12_coveredOrders_40] at k
    rw [gw_X12_coveredOrders_40] at k
    refine vc_X12_coveredOrders_40 (d := d + 3)  ?_
    refine ⟨fun c => ?_, fun c => ?_⟩
    · replace hp := hp.1 c
      try simp only [if_pos c] at k
      exact k
    · replace hp := hp.2 c
      try simp only [if_neg c] at k
      refine c_X12_isCovered  hp.1 ?_
      replace hp := hp.2
      refine ⟨fun c => ?_, fun c => ?_⟩
      · replace hp := hp.1 c
        try simp only [if_pos c] at k
        refine c_X12_nextOpen  hp.1 ?_
        replace hp := hp.2
        exact ih _ _ _ _ hp k
      · replace hp := hp.2 c
        try simp only [if_neg c] at k
        refine c_X12_nextOpen  hp.1 ?_
        replace hp := hp.2
        exact ih _ _ _ _ hp k
def pw_X12_coveredOrders_7 : Nat → Hp → Int32 → Prop
  | 0, _, _ => False
  | n + 1, h, x1 => ((12 ≤ x1) → (p_X12_nextOpen h 0 ∧ (pw_X12_coveredOrders_40 oa_N h 0 0 (f_X12_nextOpen h 0)))) ∧ ((¬ 12 ≤ x1) → (p_X12_free h x1 ∧ ((vp_in x1 12) ∧ (pw_X12_coveredOrders_7 n (hp_i h 60 0 x1.toNatClampNeg (f_X12_free h x1)) (x1 + 1)))))
def fw_X12_coveredOrders_7 : Nat → Hp → Int32 → Int32
  | 0, _, _ => 0
  | n + 1, h, x1 => if 12 ≤ x1 then (fw_X12_coveredOrders_40 oa_N h 0 0 (f_X12_nextOpen h 0)) else (fw_X12_coveredOrders_7 n (hp_i h 60 0 x1.toNatClampNeg (f_X12_free h x1)) (x1 + 1))
def gw_X12_coveredOrders_7 : Nat → Hp → Int32 → Hp
  | 0, h, _ => h
  | n + 1, h, x1 => if 12 ≤ x1 then (gw_X12_coveredOrders_40 oa_N h 0 0 (f_X12_nextOpen h 0)) else (gw_X12_coveredOrders_7 n (hp_i h 60 0 x1.toNatClampNeg (f_X12_free h x1)) (x1 + 1))
set_option maxHeartbeats 4000000 in
theorem lw_X12_coveredOrders_7 {X : WD → State → Prop} {d rb : Nat} {Qr : Option AV → Hp → Prop} {Qx : String → Hp → Prop}   : ∀ (n : Nat) (h : Hp) (x1 : Int32), pw_X12_coveredOrders_7 n h x1 → Qr (some (vI (fw_X12_coveredOrders_7 n h x1))) (gw_X12_coveredOrders_7 n h x1) → AW X (d + 4) rb mX12_coveredOrders 7 [(0, vR 12 0), (1, vI x1)] [] h Qr Qx := by
  intro n
  induction n with
  | zero => intro h x1 hp; exact hp.elim
  | succ n ih =>
    intro h x1 hp k
    rw [pw_X12_coveredOrders_7] at hp
    rw [fw_X12_coveredOrders_7] at k
    rw [gw_X12_coveredOrders_7] at k
    refine vc_X12_coveredOrders_7 (d := d + 3)  ?_
    refine ⟨fun c => ?_, fun c => ?_⟩
    · replace hp := hp.1 c
      try simp only [if_pos c] at k
      refine c_X12_nextOpen  hp.1 ?_
      replace hp := hp.2
      exact lw_X12_coveredOrders_40  _ _ _ _ _ hp k
    · replace hp := hp.2 c
      try simp only [if_neg c] at k
      refine c_X12_free  hp.1 ?_
      replace hp := hp.2
      refine ⟨hp.1, ?_⟩
      replace hp := hp.2
      exact ih _ _ hp k
def p_X12_coveredOrders (h : Hp)  : Prop := pw_X12_coveredOrders_7 oa_N (hp_i h 12 0 0 0) 0
def f_X12_coveredOrders (h : Hp)  : Int32 := fw_X12_coveredOrders_7 oa_N (hp_i h 12 0 0 0) 0
def g_X12_coveredOrders (h : Hp)  : Hp := gw_X12_coveredOrders_7 oa_N (hp_i h 12 0 0 0) 0
set_option maxHeartbeats 4000000 in
theorem c_X12_coveredOrders {d : Nat} {h : Hp} {P : Int32 → Hp → Prop} {Qx : String → Hp → Prop}   (hp : p_X12_coveredOrders h ) (k : P (f_X12_coveredOrders h ) (g_X12_coveredOrders h )) : CL 0 (d + 4) mX12_coveredOrders [vR 12 0] h (oI P) Qx := by
  replace k : oI P (some (vI (f_X12_coveredOrders h ))) (g_X12_coveredOrders h ) := k
  unfold p_X12_coveredOrders at hp
  unfold f_X12_coveredOrders at k
  unfold g_X12_coveredOrders at k
  refine CL.ofF (plainFor_of_name rfl) rfl (Nat.le_of_ble_eq_true rfl) (vc_X12_coveredOrders_0 (d := d + 3)  ?_)
  exact lw_X12_coveredOrders_7  _ _ _ hp k
def pw_X12_ship_66 : Nat → Hp → Int32 → Int32 → Int32 → Prop
  | 0, _, _, _, _ => False
  | n + 1, h, x1, x2, x3 => (((h.1 56 0 0) ≤ x3) → (p_X12_of h x1 3 ∧ (p_X12_logs (hp_i (hp_i (hp_i (hp_i h 58 0 4 ((h.1 58 0 4) + 1)) 58 0 5 (((hp_i h 58 0 4 ((h.1 58 0 4) + 1)).1 58 0 5) + x2)) 58 0 6 (((hp_i (hp_i h 58 0 4 ((h.1 58 0 4) + 1)) 58 0 5 (((hp_i h 58 0 4 ((h.1 58 0 4) + 1)).1 58 0 5) + x2)).1 58 0 6) + (if (if 0 < ((h.1 58 0 0) - (f_X12_of h x1 3)) then ((h.1 58 0 0) - (f_X12_of h x1 3)) else 0) ≤ 0 then (0 : Int32) else x2))) 58 0 7 (((hp_i (hp_i (hp_i h 58 0 4 ((h.1 58 0 4) + 1)) 58 0 5 (((hp_i h 58 0 4 ((h.1 58 0 4) + 1)).1 58 0 5) + x2)) 58 0 6 (((hp_i (hp_i h 58 0 4 ((h.1 58 0 4) + 1)) 58 0 5 (((hp_i h 58 0 4 ((h.1 58 0 4) + 1)).1 58 0 5) + x2)).1 58 0 6) + (if (if 0 < ((h.1 58 0 0) - (f_X12_of h x1 3)) then ((h.1 58 0 0) - (f_X12_of h x1 3)) else 0) ≤ 0 then (0 : Int32) else x2))).1 58 0 7) + ((if 0 < ((h.1 58 0 0) - (f_X12_of h x1 3)) then ((h.1 58 0 0) - (f_X12_of h x1 3)) else 0) * x2))) x1 x2 ∧ True))) ∧ ((¬ (h.1 56 0 0) ≤ x3) → ((vp_in (9 + x3) 301) ∧ (p_X12_of h x1 0 ∧ (p_X12_needs h (f_X12_of h x1 0) x3 ∧ ((vp_in (9 + x3) 301) ∧ (pw_X12_ship_66 n (hp_i h 58 0 ((9 + x3).toNatClampNeg) ((h.1 58 0 ((9 + x3).toNatClampNeg)) - (x2 * (f_X12_needs h (f_X12_of h x1 0) x3)))) x1 x2 (x3 + 1)))))))
def fw_X12_ship_66 : Nat → Hp → Int32 → Int32 → Int32 → Int32
  | 0, _, _, _, _ => 0
  | n + 1, h, x1, x2, x3 => if (h.1 56 0 0) ≤ x3 then x2 else (fw_X12_ship_66 n (hp_i h 58 0 ((9 + x3).toNatClampNeg) ((h.1 58 0 ((9 + x3).toNatClampNeg)) - (x2 * (f_X12_needs h (f_X12_of h x1 0) x3)))) x1 x2 (x3 + 1))
def gw_X12_ship_66 : Nat → Hp → Int32 → Int32 → Int32 → Hp
  | 0, h, _, _, _ => h
  | n + 1, h, x1, x2, x3 => if (h.1 56 0 0) ≤ x3 then (g_X12_logs (hp_i (hp_i (hp_i (hp_i h 58 0 4 ((h.1 58 0 4) + 1)) 58 0 5 (((hp_i h 58 0 4 ((h.1 58 0 4) + 1)).1 58 0 5) + x2)) 58 0 6 (((hp_i (hp_i h 58 0 4 ((h.1 58 0 4) + 1)) 58 0 5 (((hp_i h 58 0 4 ((h.1 58 0 4) + 1)).1 58 0 5) + x2)).1 58 0 6) + (if (if 0 < ((h.1 58 0 0) - (f_X12_of h x1 3)) then ((h.1 58 0 0) - (f_X12_of h x1 3)) else 0) ≤ 0 then (0 : Int32) else x2))) 58 0 7 (((hp_i (hp_i (hp_i h 58 0 4 ((h.1 58 0 4) + 1)) 58 0 5 (((hp_i h 58 0 4 ((h.1 58 0 4) + 1)).1 58 0 5) + x2)) 58 0 6 (((hp_i (hp_i h 58 0 4 ((h.1 58 0 4) + 1)) 58 0 5 (((hp_i h 58 0 4 ((h.1 58 0 4) + 1)).1 58 0 5) + x2)).1 58 0 6) + (if (if 0 < ((h.1 58 0 0) - (f_X12_of h x1 3)) then ((h.1 58 0 0) - (f_X12_of h x1 3)) else 0) ≤ 0 then (0 : Int32) else x2))).1 58 0 7) + ((if 0 < ((h.1 58 0 0) - (f_X12_of h x1 3)) then ((h.1 58 0 0) - (f_X12_of h x1 3)) else 0) * x2))) x1 x2) else (gw_X12_ship_66 n (hp_i h 58 0 ((9 + x3).toNatClampNeg) ((h.1 58 0 ((9 + x3).toNatClampNeg)) - (x2 * (f_X12_needs h (f_X12_of h x1 0) x3)))) x1 x2 (x3 + 1))
set_option maxHeartbeats 4000000 in
theorem lw_X12_ship_66 {X : WD → State → Prop} {d rb : Nat} {Qr : Option AV → Hp → Prop} {Qx : String → Hp → Prop}   : ∀ (n : Nat) (h : Hp) (x1 : Int32) (x2 : Int32) (x3 : Int32), pw_X12_ship_66 n h x1 x2 x3 → Qr (some (vI (fw_X12_ship_66 n h x1 x2 x3))) (gw_X12_ship_66 n h x1 x2 x3) → AW X (d + 3) rb mX12_ship 66 [(0, vR 12 0), (1, vI x1), (2, vI x2), (3, vI x3)] [] h Qr Qx := by
  intro n
  induction n with
  | zero => intro h x1 x2 x3 hp; exact hp.elim
  | succ n ih =>
    intro h x1 x2 x3 hp k
    rw [pw_X12_ship_66] at hp
    rw [fw_X12_ship_66] at k
    rw [gw_X12_ship_66] at k
    refine vc_X12_ship_66 (d := d + 2)  ?_
    refine ⟨fun c => ?_, fun c => ?_⟩
    · replace hp := hp.1 c
      try simp only [if_pos c] at k
      refine c_X12_of  hp.1 ?_
      replace hp := hp.2
      refine c_X12_logs  hp.1 ?_
      replace hp := hp.2
      exact k
    · replace hp := hp.2 c
      try simp only [if_neg c] at k
      refine ⟨hp.1, ?_⟩
      replace hp := hp.2
      refine c_X12_of  hp.1 ?_
      replace hp := hp.2
      refine c_X12_needs  hp.1 ?_
      replace hp := hp.2
      refine ⟨hp.1, ?_⟩
      replace hp := hp.2
      exact ih _ _ _ _ hp k
def p_X12_ship (h : Hp) (a1 : Int32) : Prop := p_X12_noOrder (hp_i h 12 0 0 0) a1 ∧ (((¬ (f_X12_noOrder (hp_i h 12 0 0 0) a1) = 0) → True) ∧ (((f_X12_noOrder (hp_i h 12 0 0 0) a1) = 0) → (p_X12_of (g_X12_noOrder (hp_i h 12 0 0 0) a1) a1 6 ∧ (p_X12_throwsIf (g_X12_noOrder (hp_i h 12 0 0 0) a1) (if ¬ (f_X12_of (g_X12_noOrder (hp_i h 12 0 0 0) a1) a1 6) = 0 then (0 : Int32) else 1) 2 ∧ ((((f_X12_throwsIf (g_X12_noOrder (hp_i h 12 0 0 0) a1) (if ¬ (f_X12_of (g_X12_noOrder (hp_i h 12 0 0 0) a1) a1 6) = 0 then (0 : Int32) else 1) 2) = 0) → (p_X12_keeps (g_X12_throwsIf (g_X12_noOrder (hp_i h 12 0 0 0) a1) (if ¬ (f_X12_of (g_X12_noOrder (hp_i h 12 0 0 0) a1) a1 6) = 0 then (0 : Int32) else 1) 2) ∧ (p_X12_of (g_X12_keeps (g_X12_throwsIf (g_X12_noOrder (hp_i h 12 0 0 0) a1) (if ¬ (f_X12_of (g_X12_noOrder (hp_i h 12 0 0 0) a1) a1 6) = 0 then (0 : Int32) else 1) 2)) a1 6 ∧ (p_X12_holds (g_X12_keeps (g_X12_throwsIf (g_X12_noOrder (hp_i h 12 0 0 0) a1) (if ¬ (f_X12_of (g_X12_noOrder (hp_i h 12 0 0 0) a1) a1 6) = 0 then (0 : Int32) else 1) 2)) a1 (-(f_X12_of (g_X12_keeps (g_X12_throwsIf (g_X12_noOrder (hp_i h 12 0 0 0) a1) (if ¬ (f_X12_of (g_X12_noOrder (hp_i h 12 0 0 0) a1) a1 6) = 0 then (0 : Int32) else 1) 2)) a1 6)) ∧ (p_X12_grows (g_X12_holds (g_X12_keeps (g_X12_throwsIf (g_X12_noOrder (hp_i h 12 0 0 0) a1) (if ¬ (f_X12_of (g_X12_noOrder (hp_i h 12 0 0 0) a1) a1 6) = 0 then (0 : Int32) else 1) 2)) a1 (-(f_X12_of (g_X12_keeps (g_X12_throwsIf (g_X12_noOrder (hp_i h 12 0 0 0) a1) (if ¬ (f_X12_of (g_X12_noOrder (hp_i h 12 0 0 0) a1) a1 6) = 0 then (0 : Int32) else 1) 2)) a1 6))) a1 5 (f_X12_of (g_X12_keeps (g_X12_throwsIf (g_X12_noOrder (hp_i h 12 0 0 0) a1) (if ¬ (f_X12_of (g_X12_noOrder (hp_i h 12 0 0 0) a1) a1 6) = 0 then (0 : Int32) else 1) 2)) a1 6) ∧ (pw_X12_ship_66 oa_N (g_X12_grows (g_X12_holds (g_X12_keeps (g_X12_throwsIf (g_X12_noOrder (hp_i h 12 0 0 0) a1) (if ¬ (f_X12_of (g_X12_noOrder (hp_i h 12 0 0 0) a1) a1 6) = 0 then (0 : Int32) else 1) 2)) a1 (-(f_X12_of (g_X12_keeps (g_X12_throwsIf (g_X12_noOrder (hp_i h 12 0 0 0) a1) (if ¬ (f_X12_of (g_X12_noOrder (hp_i h 12 0 0 0) a1) a1 6) = 0 then (0 : Int32) else 1) 2)) a1 6))) a1 5 (f_X12_of (g_X12_keeps (g_X12_throwsIf (g_X12_noOrder (hp_i h 12 0 0 0) a1) (if ¬ (f_X12_of (g_X12_noOrder (hp_i h 12 0 0 0) a1) a1 6) = 0 then (0 : Int32) else 1) 2)) a1 6)) a1 (f_X12_of (g_X12_keeps (g_X12_throwsIf (g_X12_noOrder (hp_i h 12 0 0 0) a1) (if ¬ (f_X12_of (g_X12_noOrder (hp_i h 12 0 0 0) a1) a1 6) = 0 then (0 : Int32) else 1) 2)) a1 6) 0)))))) ∧ ((¬ (f_X12_throwsIf (g_X12_noOrder (hp_i h 12 0 0 0) a1) (if ¬ (f_X12_of (g_X12_noOrder (hp_i h 12 0 0 0) a1) a1 6) = 0 then (0 : Int32) else 1) 2) = 0) → True))))))
def f_X12_ship (h : Hp) (a1 : Int32) : Int32 := if ¬ (f_X12_noOrder (hp_i h 12 0 0 0) a1) = 0 then 0 else (if (f_X12_throwsIf (g_X12_noOrder (hp_i h 12 0 0 0) a1) (if ¬ (f_X12_of (g_X12_noOrder (hp_i h 12 0 0 0) a1) a1 6) = 0 then (0 : Int32) else 1) 2) = 0 then (fw_X12_ship_66 oa_N (g_X12_grows (g_X12_holds (g_X12_keeps (g_X12_throwsIf (g_X12_noOrder (hp_i h 12 0 0 0) a1) (if ¬ (f_X12_of (g_X12_noOrder (hp_i h 12 0 0 0) a1) a1 6) = 0 then (0 : Int32) else 1) 2)) a1 (-(f_X12_of (g_X12_keeps (g_X12_throwsIf (g_X12_noOrder (hp_i h 12 0 0 0) a1) (if ¬ (f_X12_of (g_X12_noOrder (hp_i h 12 0 0 0) a1) a1 6) = 0 then (0 : Int32) else 1) 2)) a1 6))) a1 5 (f_X12_of (g_X12_keeps (g_X12_throwsIf (g_X12_noOrder (hp_i h 12 0 0 0) a1) (if ¬ (f_X12_of (g_X12_noOrder (hp_i h 12 0 0 0) a1) a1 6) = 0 then (0 : Int32) else 1) 2)) a1 6)) a1 (f_X12_of (g_X12_keeps (g_X12_throwsIf (g_X12_noOrder (hp_i h 12 0 0 0) a1) (if ¬ (f_X12_of (g_X12_noOrder (hp_i h 12 0 0 0) a1) a1 6) = 0 then (0 : Int32) else 1) 2)) a1 6) 0) else 0)
def g_X12_ship (h : Hp) (a1 : Int32) : Hp := if ¬ (f_X12_noOrder (hp_i h 12 0 0 0) a1) = 0 then (g_X12_noOrder (hp_i h 12 0 0 0) a1) else (if (f_X12_throwsIf (g_X12_noOrder (hp_i h 12 0 0 0) a1) (if ¬ (f_X12_of (g_X12_noOrder (hp_i h 12 0 0 0) a1) a1 6) = 0 then (0 : Int32) else 1) 2) = 0 then (gw_X12_ship_66 oa_N (g_X12_grows (g_X12_holds (g_X12_keeps (g_X12_throwsIf (g_X12_noOrder (hp_i h 12 0 0 0) a1) (if ¬ (f_X12_of (g_X12_noOrder (hp_i h 12 0 0 0) a1) a1 6) = 0 then (0 : Int32) else 1) 2)) a1 (-(f_X12_of (g_X12_keeps (g_X12_throwsIf (g_X12_noOrder (hp_i h 12 0 0 0) a1) (if ¬ (f_X12_of (g_X12_noOrder (hp_i h 12 0 0 0) a1) a1 6) = 0 then (0 : Int32) else 1) 2)) a1 6))) a1 5 (f_X12_of (g_X12_keeps (g_X12_throwsIf (g_X12_noOrder (hp_i h 12 0 0 0) a1) (if ¬ (f_X12_of (g_X12_noOrder (hp_i h 12 0 0 0) a1) a1 6) = 0 then (0 : Int32) else 1) 2)) a1 6)) a1 (f_X12_of (g_X12_keeps (g_X12_throwsIf (g_X12_noOrder (hp_i h 12 0 0 0) a1) (if ¬ (f_X12_of (g_X12_noOrder (hp_i h 12 0 0 0) a1) a1 6) = 0 then (0 : Int32) else 1) 2)) a1 6) 0) else (g_X12_throwsIf (g_X12_noOrder (hp_i h 12 0 0 0) a1) (if ¬ (f_X12_of (g_X12_noOrder (hp_i h 12 0 0 0) a1) a1 6) = 0 then (0 : Int32) else 1) 2))
set_option maxHeartbeats 4000000 in
theorem c_X12_ship {d : Nat} {h : Hp} {P : Int32 → Hp → Prop} {Qx : String → Hp → Prop} {a1 : Int32}  (hp : p_X12_ship h a1) (k : P (f_X12_ship h a1) (g_X12_ship h a1)) : CL 0 (d + 3) mX12_ship [vR 12 0, vI a1] h (oI P) Qx := by
  replace k : oI P (some (vI (f_X12_ship h a1))) (g_X12_ship h a1) := k
  unfold p_X12_ship at hp
  unfold f_X12_ship at k
  unfold g_X12_ship at k
  refine CL.ofF (plainFor_of_name rfl) rfl (Nat.le_of_ble_eq_true rfl) (vc_X12_ship_0 (d := d + 2)  ?_)
  refine c_X12_noOrder  hp.1 ?_
  replace hp := hp.2
  refine ⟨fun c => ?_, fun c => ?_⟩
  · replace hp := hp.1 c
    try simp only [if_pos c] at k
    exact k
  · replace hp := hp.2 c
    try simp only [if_neg (oa_nn c)] at k
    refine c_X12_of  hp.1 ?_
    replace hp := hp.2
    refine c_X12_throwsIf  hp.1 ?_
    replace hp := hp.2
    refine ⟨fun c => ?_, fun c => ?_⟩
    · replace hp := hp.1 c
      try simp only [if_pos c] at k
      refine c_X12_keeps  hp.1 ?_
      replace hp := hp.2
      refine c_X12_of  hp.1 ?_
      replace hp := hp.2
      refine c_X12_holds  hp.1 ?_
      replace hp := hp.2
      refine c_X12_grows  hp.1 ?_
      replace hp := hp.2
      exact lw_X12_ship_66  _ _ _ _ _ hp k
    · replace hp := hp.2 c
      try simp only [if_neg c] at k
      exact k
def p_X0_serve (h : Hp) (i1 : Nat) (i2 : Nat) (a3 : Int32) (a4 : Int32) : Prop := p_X6_productOf h i2 a3 ∧ (p_X6_openOf h i2 a3 ∧ (p_X0_grantOf h a3 ∧ (p_X1_mostUnits h i1 (f_X6_productOf h i2 a3) 14 0 12 ∧ ((((if (f_X1_mostUnits h i1 (f_X6_productOf h i2 a3) 14 0 12) < ((f_X6_openOf h i2 a3) - (f_X0_grantOf h a3)) then (f_X1_mostUnits h i1 (f_X6_productOf h i2 a3) 14 0 12) else ((f_X6_openOf h i2 a3) - (f_X0_grantOf h a3))) = ((f_X6_openOf h i2 a3) - (f_X0_grantOf h a3))) → ((((if (f_X1_mostUnits h i1 (f_X6_productOf h i2 a3) 14 0 12) < ((f_X6_openOf h i2 a3) - (f_X0_grantOf h a3)) then (f_X1_mostUnits h i1 (f_X6_productOf h i2 a3) 14 0 12) else ((f_X6_openOf h i2 a3) - (f_X0_grantOf h a3))) ≤ 0) → True) ∧ ((¬ (if (f_X1_mostUnits h i1 (f_X6_productOf h i2 a3) 14 0 12) < ((f_X6_openOf h i2 a3) - (f_X0_grantOf h a3)) then (f_X1_mostUnits h i1 (f_X6_productOf h i2 a3) 14 0 12) else ((f_X6_openOf h i2 a3) - (f_X0_grantOf h a3))) ≤ 0) → (p_X11_isInside h a3 20 ∧ ((((f_X11_isInside h a3 20) = 0) → True) ∧ ((¬ (f_X11_isInside h a3 20) = 0) → (p_X11_isInside h a4 6 ∧ ((((f_X11_isInside h a4 6) = 0) → True) ∧ ((¬ (f_X11_isInside h a4 6) = 0) → (p_X1_takePieces h i1 (f_X6_productOf h i2 a3) (if (f_X1_mostUnits h i1 (f_X6_productOf h i2 a3) 14 0 12) < ((f_X6_openOf h i2 a3) - (f_X0_grantOf h a3)) then (f_X1_mostUnits h i1 (f_X6_productOf h i2 a3) 14 0 12) else ((f_X6_openOf h i2 a3) - (f_X0_grantOf h a3))) 14 0 12 ∧ (p_X1_takePieces (g_X1_takePieces h i1 (f_X6_productOf h i2 a3) (if (f_X1_mostUnits h i1 (f_X6_productOf h i2 a3) 14 0 12) < ((f_X6_openOf h i2 a3) - (f_X0_grantOf h a3)) then (f_X1_mostUnits h i1 (f_X6_productOf h i2 a3) 14 0 12) else ((f_X6_openOf h i2 a3) - (f_X0_grantOf h a3))) 14 0 12) i1 (f_X6_productOf h i2 a3) (if (f_X1_mostUnits h i1 (f_X6_productOf h i2 a3) 14 0 12) < ((f_X6_openOf h i2 a3) - (f_X0_grantOf h a3)) then (f_X1_mostUnits h i1 (f_X6_productOf h i2 a3) 14 0 12) else ((f_X6_openOf h i2 a3) - (f_X0_grantOf h a3))) 13 0 12 ∧ ((vp_in a3 20) ∧ ((vp_in a3 20) ∧ ((vp_in a4 6) ∧ ((vp_in a4 6) ∧ ((vp_in a3 20) ∧ (((¬ ((g_X1_takePieces (g_X1_takePieces h i1 (f_X6_productOf h i2 a3) (if (f_X1_mostUnits h i1 (f_X6_productOf h i2 a3) 14 0 12) < ((f_X6_openOf h i2 a3) - (f_X0_grantOf h a3)) then (f_X1_mostUnits h i1 (f_X6_productOf h i2 a3) 14 0 12) else ((f_X6_openOf h i2 a3) - (f_X0_grantOf h a3))) 14 0 12) i1 (f_X6_productOf h i2 a3) (if (f_X1_mostUnits h i1 (f_X6_productOf h i2 a3) 14 0 12) < ((f_X6_openOf h i2 a3) - (f_X0_grantOf h a3)) then (f_X1_mostUnits h i1 (f_X6_productOf h i2 a3) 14 0 12) else ((f_X6_openOf h i2 a3) - (f_X0_grantOf h a3))) 13 0 12).1 17 0 a3.toNatClampNeg) = (-1)) → ((vp_in a3 20) ∧ ((vp_in a3 20) ∧ True))) ∧ ((((g_X1_takePieces (g_X1_takePieces h i1 (f_X6_productOf h i2 a3) (if (f_X1_mostUnits h i1 (f_X6_productOf h i2 a3) 14 0 12) < ((f_X6_openOf h i2 a3) - (f_X0_grantOf h a3)) then (f_X1_mostUnits h i1 (f_X6_productOf h i2 a3) 14 0 12) else ((f_X6_openOf h i2 a3) - (f_X0_grantOf h a3))) 14 0 12) i1 (f_X6_productOf h i2 a3) (if (f_X1_mostUnits h i1 (f_X6_productOf h i2 a3) 14 0 12) < ((f_X6_openOf h i2 a3) - (f_X0_grantOf h a3)) then (f_X1_mostUnits h i1 (f_X6_productOf h i2 a3) 14 0 12) else ((f_X6_openOf h i2 a3) - (f_X0_grantOf h a3))) 13 0 12).1 17 0 a3.toNatClampNeg) = (-1)) → ((vp_in a3 20) ∧ True))))))))))))))))))) ∧ ((¬ (if (f_X1_mostUnits h i1 (f_X6_productOf h i2 a3) 14 0 12) < ((f_X6_openOf h i2 a3) - (f_X0_grantOf h a3)) then (f_X1_mostUnits h i1 (f_X6_productOf h i2 a3) 14 0 12) else ((f_X6_openOf h i2 a3) - (f_X0_grantOf h a3))) = ((f_X6_openOf h i2 a3) - (f_X0_grantOf h a3))) → (p_X6_isWhole h i2 a3 ∧ ((((if (f_X1_mostUnits h i1 (f_X6_productOf h i2 a3) 14 0 12) < ((f_X6_openOf h i2 a3) - (f_X0_grantOf h a3)) then (f_X1_mostUnits h i1 (f_X6_productOf h i2 a3) 14 0 12) else ((f_X6_openOf h i2 a3) - (f_X0_grantOf h a3))) ≤ 0) → True) ∧ ((¬ (if (f_X1_mostUnits h i1 (f_X6_productOf h i2 a3) 14 0 12) < ((f_X6_openOf h i2 a3) - (f_X0_grantOf h a3)) then (f_X1_mostUnits h i1 (f_X6_productOf h i2 a3) 14 0 12) else ((f_X6_openOf h i2 a3) - (f_X0_grantOf h a3))) ≤ 0) → ((((if ¬ (f_X6_isWhole h i2 a3) = 0 then (0 : Int32) else 1) = 0) → True) ∧ ((¬ (if ¬ (f_X6_isWhole h i2 a3) = 0 then (0 : Int32) else 1) = 0) → (p_X11_isInside h a3 20 ∧ ((((f_X11_isInside h a3 20) = 0) → True) ∧ ((¬ (f_X11_isInside h a3 20) = 0) → (p_X11_isInside h a4 6 ∧ ((((f_X11_isInside h a4 6) = 0) → True) ∧ ((¬ (f_X11_isInside h a4 6) = 0) → (p_X1_takePieces h i1 (f_X6_productOf h i2 a3) (if (f_X1_mostUnits h i1 (f_X6_productOf h i2 a3) 14 0 12) < ((f_X6_openOf h i2 a3) - (f_X0_grantOf h a3)) then (f_X1_mostUnits h i1 (f_X6_productOf h i2 a3) 14 0 12) else ((f_X6_openOf h i2 a3) - (f_X0_grantOf h a3))) 14 0 12 ∧ (p_X1_takePieces (g_X1_takePieces h i1 (f_X6_productOf h i2 a3) (if (f_X1_mostUnits h i1 (f_X6_productOf h i2 a3) 14 0 12) < ((f_X6_openOf h i2 a3) - (f_X0_grantOf h a3)) then (f_X1_mostUnits h i1 (f_X6_productOf h i2 a3) 14 0 12) else ((f_X6_openOf h i2 a3) - (f_X0_grantOf h a3))) 14 0 12) i1 (f_X6_productOf h i2 a3) (if (f_X1_mostUnits h i1 (f_X6_productOf h i2 a3) 14 0 12) < ((f_X6_openOf h i2 a3) - (f_X0_grantOf h a3)) then (f_X1_mostUnits h i1 (f_X6_productOf h i2 a3) 14 0 12) else ((f_X6_openOf h i2 a3) - (f_X0_grantOf h a3))) 13 0 12 ∧ ((vp_in a3 20) ∧ ((vp_in a3 20) ∧ ((vp_in a4 6) ∧ ((vp_in a4 6) ∧ ((vp_in a3 20) ∧ (((¬ ((g_X1_takePieces (g_X1_takePieces h i1 (f_X6_productOf h i2 a3) (if (f_X1_mostUnits h i1 (f_X6_productOf h i2 a3) 14 0 12) < ((f_X6_openOf h i2 a3) - (f_X0_grantOf h a3)) then (f_X1_mostUnits h i1 (f_X6_productOf h i2 a3) 14 0 12) else ((f_X6_openOf h i2 a3) - (f_X0_grantOf h a3))) 14 0 12) i1 (f_X6_productOf h i2 a3) (if (f_X1_mostUnits h i1 (f_X6_productOf h i2 a3) 14 0 12) < ((f_X6_openOf h i2 a3) - (f_X0_grantOf h a3)) then (f_X1_mostUnits h i1 (f_X6_productOf h i2 a3) 14 0 12) else ((f_X6_openOf h i2 a3) - (f_X0_grantOf h a3))) 13 0 12).1 17 0 a3.toNatClampNeg) = (-1)) → ((vp_in a3 20) ∧ ((vp_in a3 20) ∧ True))) ∧ ((((g_X1_takePieces (g_X1_takePieces h i1 (f_X6_productOf h i2 a3) (if (f_X1_mostUnits h i1 (f_X6_productOf h i2 a3) 14 0 12) < ((f_X6_openOf h i2 a3) - (f_X0_grantOf h a3)) then (f_X1_mostUnits h i1 (f_X6_productOf h i2 a3) 14 0 12) else ((f_X6_openOf h i2 a3) - (f_X0_grantOf h a3))) 14 0 12) i1 (f_X6_productOf h i2 a3) (if (f_X1_mostUnits h i1 (f_X6_productOf h i2 a3) 14 0 12) < ((f_X6_openOf h i2 a3) - (f_X0_grantOf h a3)) then (f_X1_mostUnits h i1 (f_X6_productOf h i2 a3) 14 0 12) else ((f_X6_openOf h i2 a3) - (f_X0_grantOf h a3))) 13 0 12).1 17 0 a3.toNatClampNeg) = (-1)) → ((vp_in a3 20) ∧ True))))))))))))))))))))))))))
def g_X0_serve (h : Hp) (i1 : Nat) (i2 : Nat) (a3 : Int32) (a4 : Int32) : Hp := if (if (f_X1_mostUnits h i1 (f_X6_productOf h i2 a3) 14 0 12) < ((f_X6_openOf h i2 a3) - (f_X0_grantOf h a3)) then (f_X1_mostUnits h i1 (f_X6_productOf h i2 a3) 14 0 12) else ((f_X6_openOf h i2 a3) - (f_X0_grantOf h a3))) = ((f_X6_openOf h i2 a3) - (f_X0_grantOf h a3)) then (if (if (f_X1_mostUnits h i1 (f_X6_productOf h i2 a3) 14 0 12) < ((f_X6_openOf h i2 a3) - (f_X0_grantOf h a3)) then (f_X1_mostUnits h i1 (f_X6_productOf h i2 a3) 14 0 12) else ((f_X6_openOf h i2 a3) - (f_X0_grantOf h a3))) ≤ 0 then h else (if (f_X11_isInside h a3 20) = 0 then h else (if (f_X11_isInside h a4 6) = 0 then h else (if ¬ ((g_X1_takePieces (g_X1_takePieces h i1 (f_X6_productOf h i2 a3) (if (f_X1_mostUnits h i1 (f_X6_productOf h i2 a3) 14 0 12) < ((f_X6_openOf h i2 a3) - (f_X0_grantOf h a3)) then (f_X1_mostUnits h i1 (f_X6_productOf h i2 a3) 14 0 12) else ((f_X6_openOf h i2 a3) - (f_X0_grantOf h a3))) 14 0 12) i1 (f_X6_productOf h i2 a3) (if (f_X1_mostUnits h i1 (f_X6_productOf h i2 a3) 14 0 12) < ((f_X6_openOf h i2 a3) - (f_X0_grantOf h a3)) then (f_X1_mostUnits h i1 (f_X6_productOf h i2 a3) 14 0 12) else ((f_X6_openOf h i2 a3) - (f_X0_grantOf h a3))) 13 0 12).1 17 0 a3.toNatClampNeg) = (-1) then (hp_i (hp_i (hp_i (g_X1_takePieces (g_X1_takePieces h i1 (f_X6_productOf h i2 a3) (if (f_X1_mostUnits h i1 (f_X6_productOf h i2 a3) 14 0 12) < ((f_X6_openOf h i2 a3) - (f_X0_grantOf h a3)) then (f_X1_mostUnits h i1 (f_X6_productOf h i2 a3) 14 0 12) else ((f_X6_openOf h i2 a3) - (f_X0_grantOf h a3))) 14 0 12) i1 (f_X6_productOf h i2 a3) (if (f_X1_mostUnits h i1 (f_X6_productOf h i2 a3) 14 0 12) < ((f_X6_openOf h i2 a3) - (f_X0_grantOf h a3)) then (f_X1_mostUnits h i1 (f_X6_productOf h i2 a3) 14 0 12) else ((f_X6_openOf h i2 a3) - (f_X0_grantOf h a3))) 13 0 12) 16 0 a3.toNatClampNeg (((g_X1_takePieces (g_X1_takePieces h i1 (f_X6_productOf h i2 a3) (if (f_X1_mostUnits h i1 (f_X6_productOf h i2 a3) 14 0 12) < ((f_X6_openOf h i2 a3) - (f_X0_grantOf h a3)) then (f_X1_mostUnits h i1 (f_X6_productOf h i2 a3) 14 0 12) else ((f_X6_openOf h i2 a3) - (f_X0_grantOf h a3))) 14 0 12) i1 (f_X6_productOf h i2 a3) (if (f_X1_mostUnits h i1 (f_X6_productOf h i2 a3) 14 0 12) < ((f_X6_openOf h i2 a3) - (f_X0_grantOf h a3)) then (f_X1_mostUnits h i1 (f_X6_productOf h i2 a3) 14 0 12) else ((f_X6_openOf h i2 a3) - (f_X0_grantOf h a3))) 13 0 12).1 16 0 a3.toNatClampNeg) + (if (f_X1_mostUnits h i1 (f_X6_productOf h i2 a3) 14 0 12) < ((f_X6_openOf h i2 a3) - (f_X0_grantOf h a3)) then (f_X1_mostUnits h i1 (f_X6_productOf h i2 a3) 14 0 12) else ((f_X6_openOf h i2 a3) - (f_X0_grantOf h a3))))) 18 0 a4.toNatClampNeg (((g_X1_takePieces (g_X1_takePieces h i1 (f_X6_productOf h i2 a3) (if (f_X1_mostUnits h i1 (f_X6_productOf h i2 a3) 14 0 12) < ((f_X6_openOf h i2 a3) - (f_X0_grantOf h a3)) then (f_X1_mostUnits h i1 (f_X6_productOf h i2 a3) 14 0 12) else ((f_X6_openOf h i2 a3) - (f_X0_grantOf h a3))) 14 0 12) i1 (f_X6_productOf h i2 a3) (if (f_X1_mostUnits h i1 (f_X6_productOf h i2 a3) 14 0 12) < ((f_X6_openOf h i2 a3) - (f_X0_grantOf h a3)) then (f_X1_mostUnits h i1 (f_X6_productOf h i2 a3) 14 0 12) else ((f_X6_openOf h i2 a3) - (f_X0_grantOf h a3))) 13 0 12).1 18 0 a4.toNatClampNeg) + (if (f_X1_mostUnits h i1 (f_X6_productOf h i2 a3) 14 0 12) < ((f_X6_openOf h i2 a3) - (f_X0_grantOf h a3)) then (f_X1_mostUnits h i1 (f_X6_productOf h i2 a3) 14 0 12) else ((f_X6_openOf h i2 a3) - (f_X0_grantOf h a3))))) 17 0 a3.toNatClampNeg ((g_X1_takePieces (g_X1_takePieces h i1 (f_X6_productOf h i2 a3) (if (f_X1_mostUnits h i1 (f_X6_productOf h i2 a3) 14 0 12) < ((f_X6_openOf h i2 a3) - (f_X0_grantOf h a3)) then (f_X1_mostUnits h i1 (f_X6_productOf h i2 a3) 14 0 12) else ((f_X6_openOf h i2 a3) - (f_X0_grantOf h a3))) 14 0 12) i1 (f_X6_productOf h i2 a3) (if (f_X1_mostUnits h i1 (f_X6_productOf h i2 a3) 14 0 12) < ((f_X6_openOf h i2 a3) - (f_X0_grantOf h a3)) then (f_X1_mostUnits h i1 (f_X6_productOf h i2 a3) 14 0 12) else ((f_X6_openOf h i2 a3) - (f_X0_grantOf h a3))) 13 0 12).1 17 0 a3.toNatClampNeg)) else (hp_i (hp_i (hp_i (g_X1_takePieces (g_X1_takePieces h i1 (f_X6_productOf h i2 a3) (if (f_X1_mostUnits h i1 (f_X6_productOf h i2 a3) 14 0 12) < ((f_X6_openOf h i2 a3) - (f_X0_grantOf h a3)) then (f_X1_mostUnits h i1 (f_X6_productOf h i2 a3) 14 0 12) else ((f_X6_openOf h i2 a3) - (f_X0_grantOf h a3))) 14 0 12) i1 (f_X6_productOf h i2 a3) (if (f_X1_mostUnits h i1 (f_X6_productOf h i2 a3) 14 0 12) < ((f_X6_openOf h i2 a3) - (f_X0_grantOf h a3)) then (f_X1_mostUnits h i1 (f_X6_productOf h i2 a3) 14 0 12) else ((f_X6_openOf h i2 a3) - (f_X0_grantOf h a3))) 13 0 12) 16 0 a3.toNatClampNeg (((g_X1_takePieces (g_X1_takePieces h i1 (f_X6_productOf h i2 a3) (if (f_X1_mostUnits h i1 (f_X6_productOf h i2 a3) 14 0 12) < ((f_X6_openOf h i2 a3) - (f_X0_grantOf h a3)) then (f_X1_mostUnits h i1 (f_X6_productOf h i2 a3) 14 0 12) else ((f_X6_openOf h i2 a3) - (f_X0_grantOf h a3))) 14 0 12) i1 (f_X6_productOf h i2 a3) (if (f_X1_mostUnits h i1 (f_X6_productOf h i2 a3) 14 0 12) < ((f_X6_openOf h i2 a3) - (f_X0_grantOf h a3)) then (f_X1_mostUnits h i1 (f_X6_productOf h i2 a3) 14 0 12) else ((f_X6_openOf h i2 a3) - (f_X0_grantOf h a3))) 13 0 12).1 16 0 a3.toNatClampNeg) + (if (f_X1_mostUnits h i1 (f_X6_productOf h i2 a3) 14 0 12) < ((f_X6_openOf h i2 a3) - (f_X0_grantOf h a3)) then (f_X1_mostUnits h i1 (f_X6_productOf h i2 a3) 14 0 12) else ((f_X6_openOf h i2 a3) - (f_X0_grantOf h a3))))) 18 0 a4.toNatClampNeg (((g_X1_takePieces (g_X1_takePieces h i1 (f_X6_productOf h i2 a3) (if (f_X1_mostUnits h i1 (f_X6_productOf h i2 a3) 14 0 12) < ((f_X6_openOf h i2 a3) - (f_X0_grantOf h a3)) then (f_X1_mostUnits h i1 (f_X6_productOf h i2 a3) 14 0 12) else ((f_X6_openOf h i2 a3) - (f_X0_grantOf h a3))) 14 0 12) i1 (f_X6_productOf h i2 a3) (if (f_X1_mostUnits h i1 (f_X6_productOf h i2 a3) 14 0 12) < ((f_X6_openOf h i2 a3) - (f_X0_grantOf h a3)) then (f_X1_mostUnits h i1 (f_X6_productOf h i2 a3) 14 0 12) else ((f_X6_openOf h i2 a3) - (f_X0_grantOf h a3))) 13 0 12).1 18 0 a4.toNatClampNeg) + (if (f_X1_mostUnits h i1 (f_X6_productOf h i2 a3) 14 0 12) < ((f_X6_openOf h i2 a3) - (f_X0_grantOf h a3)) then (f_X1_mostUnits h i1 (f_X6_productOf h i2 a3) 14 0 12) else ((f_X6_openOf h i2 a3) - (f_X0_grantOf h a3))))) 17 0 a3.toNatClampNeg a4))))) else (if (if (f_X1_mostUnits h i1 (f_X6_productOf h i2 a3) 14 0 12) < ((f_X6_openOf h i2 a3) - (f_X0_grantOf h a3)) then (f_X1_mostUnits h i1 (f_X6_productOf h i2 a3) 14 0 12) else ((f_X6_openOf h i2 a3) - (f_X0_grantOf h a3))) ≤ 0 then h else (if (if ¬ (f_X6_isWhole h i2 a3) = 0 then (0 : Int32) else 1) = 0 then h else (if (f_X11_isInside h a3 20) = 0 then h else (if (f_X11_isInside h a4 6) = 0 then h else (if ¬ ((g_X1_takePieces (g_X1_takePieces h i1 (f_X6_productOf h i2 a3) (if (f_X1_mostUnits h i1 (f_X6_productOf h i2 a3) 14 0 12) < ((f_X6_openOf h i2 a3) - (f_X0_grantOf h a3)) then (f_X1_mostUnits h i1 (f_X6_productOf h i2 a3) 14 0 12) else ((f_X6_openOf h i2 a3) - (f_X0_grantOf h a3))) 14 0 12) i1 (f_X6_productOf h i2 a3) (if (f_X1_mostUnits h i1 (f_X6_productOf h i2 a3) 14 0 12) < ((f_X6_openOf h i2 a3) - (f_X0_grantOf h a3)) then (f_X1_mostUnits h i1 (f_X6_productOf h i2 a3) 14 0 12) else ((f_X6_openOf h i2 a3) - (f_X0_grantOf h a3))) 13 0 12).1 17 0 a3.toNatClampNeg) = (-1) then (hp_i (hp_i (hp_i (g_X1_takePieces (g_X1_takePieces h i1 (f_X6_productOf h i2 a3) (if (f_X1_mostUnits h i1 (f_X6_productOf h i2 a3) 14 0 12) < ((f_X6_openOf h i2 a3) - (f_X0_grantOf h a3)) then (f_X1_mostUnits h i1 (f_X6_productOf h i2 a3) 14 0 12) else ((f_X6_openOf h i2 a3) - (f_X0_grantOf h a3))) 14 0 12) i1 (f_X6_productOf h i2 a3) (if (f_X1_mostUnits h i1 (f_X6_productOf h i2 a3) 14 0 12) < ((f_X6_openOf h i2 a3) - (f_X0_grantOf h a3)) then (f_X1_mostUnits h i1 (f_X6_productOf h i2 a3) 14 0 12) else ((f_X6_openOf h i2 a3) - (f_X0_grantOf h a3))) 13 0 12) 16 0 a3.toNatClampNeg (((g_X1_takePieces (g_X1_takePieces h i1 (f_X6_productOf h i2 a3) (if (f_X1_mostUnits h i1 (f_X6_productOf h i2 a3) 14 0 12) < ((f_X6_openOf h i2 a3) - (f_X0_grantOf h a3)) then (f_X1_mostUnits h i1 (f_X6_productOf h i2 a3) 14 0 12) else ((f_X6_openOf h i2 a3) - (f_X0_grantOf h a3))) 14 0 12) i1 (f_X6_productOf h i2 a3) (if (f_X1_mostUnits h i1 (f_X6_productOf h i2 a3) 14 0 12) < ((f_X6_openOf h i2 a3) - (f_X0_grantOf h a3)) then (f_X1_mostUnits h i1 (f_X6_productOf h i2 a3) 14 0 12) else ((f_X6_openOf h i2 a3) - (f_X0_grantOf h a3))) 13 0 12).1 16 0 a3.toNatClampNeg) + (if (f_X1_mostUnits h i1 (f_X6_productOf h i2 a3) 14 0 12) < ((f_X6_openOf h i2 a3) - (f_X0_grantOf h a3)) then (f_X1_mostUnits h i1 (f_X6_productOf h i2 a3) 14 0 12) else ((f_X6_openOf h i2 a3) - (f_X0_grantOf h a3))))) 18 0 a4.toNatClampNeg (((g_X1_takePieces (g_X1_takePieces h i1 (f_X6_productOf h i2 a3) (if (f_X1_mostUnits h i1 (f_X6_productOf h i2 a3) 14 0 12) < ((f_X6_openOf h i2 a3) - (f_X0_grantOf h a3)) then (f_X1_mostUnits h i1 (f_X6_productOf h i2 a3) 14 0 12) else ((f_X6_openOf h i2 a3) - (f_X0_grantOf h a3))) 14 0 12) i1 (f_X6_productOf h i2 a3) (if (f_X1_mostUnits h i1 (f_X6_productOf h i2 a3) 14 0 12) < ((f_X6_openOf h i2 a3) - (f_X0_grantOf h a3)) then (f_X1_mostUnits h i1 (f_X6_productOf h i2 a3) 14 0 12) else ((f_X6_openOf h i2 a3) - (f_X0_grantOf h a3))) 13 0 12).1 18 0 a4.toNatClampNeg) + (if (f_X1_mostUnits h i1 (f_X6_productOf h i2 a3) 14 0 12) < ((f_X6_openOf h i2 a3) - (f_X0_grantOf h a3)) then (f_X1_mostUnits h i1 (f_X6_productOf h i2 a3) 14 0 12) else ((f_X6_openOf h i2 a3) - (f_X0_grantOf h a3))))) 17 0 a3.toNatClampNeg ((g_X1_takePieces (g_X1_takePieces h i1 (f_X6_productOf h i2 a3) (if (f_X1_mostUnits h i1 (f_X6_productOf h i2 a3) 14 0 12) < ((f_X6_openOf h i2 a3) - (f_X0_grantOf h a3)) then (f_X1_mostUnits h i1 (f_X6_productOf h i2 a3) 14 0 12) else ((f_X6_openOf h i2 a3) - (f_X0_grantOf h a3))) 14 0 12) i1 (f_X6_productOf h i2 a3) (if (f_X1_mostUnits h i1 (f_X6_productOf h i2 a3) 14 0 12) < ((f_X6_openOf h i2 a3) - (f_X0_grantOf h a3)) then (f_X1_mostUnits h i1 (f_X6_productOf h i2 a3) 14 0 12) else ((f_X6_openOf h i2 a3) - (f_X0_grantOf h a3))) 13 0 12).1 17 0 a3.toNatClampNeg)) else (hp_i (hp_i (hp_i (g_X1_takePieces (g_X1_takePieces h i1 (f_X6_productOf h i2 a3) (if (f_X1_mostUnits h i1 (f_X6_productOf h i2 a3) 14 0 12) < ((f_X6_openOf h i2 a3) - (f_X0_grantOf h a3)) then (f_X1_mostUnits h i1 (f_X6_productOf h i2 a3) 14 0 12) else ((f_X6_openOf h i2 a3) - (f_X0_grantOf h a3))) 14 0 12) i1 (f_X6_productOf h i2 a3) (if (f_X1_mostUnits h i1 (f_X6_productOf h i2 a3) 14 0 12) < ((f_X6_openOf h i2 a3) - (f_X0_grantOf h a3)) then (f_X1_mostUnits h i1 (f_X6_productOf h i2 a3) 14 0 12) else ((f_X6_openOf h i2 a3) - (f_X0_grantOf h a3))) 13 0 12) 16 0 a3.toNatClampNeg (((g_X1_takePieces (g_X1_takePieces h i1 (f_X6_productOf h i2 a3) (if (f_X1_mostUnits h i1 (f_X6_productOf h i2 a3) 14 0 12) < ((f_X6_openOf h i2 a3) - (f_X0_grantOf h a3)) then (f_X1_mostUnits h i1 (f_X6_productOf h i2 a3) 14 0 12) else ((f_X6_openOf h i2 a3) - (f_X0_grantOf h a3))) 14 0 12) i1 (f_X6_productOf h i2 a3) (if (f_X1_mostUnits h i1 (f_X6_productOf h i2 a3) 14 0 12) < ((f_X6_openOf h i2 a3) - (f_X0_grantOf h a3)) then (f_X1_mostUnits h i1 (f_X6_productOf h i2 a3) 14 0 12) else ((f_X6_openOf h i2 a3) - (f_X0_grantOf h a3))) 13 0 12).1 16 0 a3.toNatClampNeg) + (if (f_X1_mostUnits h i1 (f_X6_productOf h i2 a3) 14 0 12) < ((f_X6_openOf h i2 a3) - (f_X0_grantOf h a3)) then (f_X1_mostUnits h i1 (f_X6_productOf h i2 a3) 14 0 12) else ((f_X6_openOf h i2 a3) - (f_X0_grantOf h a3))))) 18 0 a4.toNatClampNeg (((g_X1_takePieces (g_X1_takePieces h i1 (f_X6_productOf h i2 a3) (if (f_X1_mostUnits h i1 (f_X6_productOf h i2 a3) 14 0 12) < ((f_X6_openOf h i2 a3) - (f_X0_grantOf h a3)) then (f_X1_mostUnits h i1 (f_X6_productOf h i2 a3) 14 0 12) else ((f_X6_openOf h i2 a3) - (f_X0_grantOf h a3))) 14 0 12) i1 (f_X6_productOf h i2 a3) (if (f_X1_mostUnits h i1 (f_X6_productOf h i2 a3) 14 0 12) < ((f_X6_openOf h i2 a3) - (f_X0_grantOf h a3)) then (f_X1_mostUnits h i1 (f_X6_productOf h i2 a3) 14 0 12) else ((f_X6_openOf h i2 a3) - (f_X0_grantOf h a3))) 13 0 12).1 18 0 a4.toNatClampNeg) + (if (f_X1_mostUnits h i1 (f_X6_productOf h i2 a3) 14 0 12) < ((f_X6_openOf h i2 a3) - (f_X0_grantOf h a3)) then (f_X1_mostUnits h i1 (f_X6_productOf h i2 a3) 14 0 12) else ((f_X6_openOf h i2 a3) - (f_X0_grantOf h a3))))) 17 0 a3.toNatClampNeg a4))))))
set_option maxHeartbeats 4000000 in
theorem c_X0_serve {d : Nat} {h : Hp} {P : Hp → Prop} {Qx : String → Hp → Prop} {i1 : Nat} {i2 : Nat} {a3 : Int32} {a4 : Int32}  (hp : p_X0_serve h i1 i2 a3 a4) (k : P  (g_X0_serve h i1 i2 a3 a4)) : CL 0 (d + 4) mX0_serve [vR 0 0, vR 1 i1, vR 6 i2, vI a3, vI a4] h (oV P) Qx := by
  replace k : oV P none (g_X0_serve h i1 i2 a3 a4) := k
  unfold p_X0_serve at hp
  unfold g_X0_serve at k
  refine CL.ofF (plainFor_of_name rfl) rfl (Nat.le_of_ble_eq_true rfl) (vc_X0_serve_0 (d := d + 3)  ?_)
  refine c_X6_productOf  hp.1 ?_
  replace hp := hp.2
  refine c_X6_openOf  hp.1 ?_
  replace hp := hp.2
  refine c_X0_grantOf  hp.1 ?_
  replace hp := hp.2
  refine c_X1_mostUnits (by decide) rfl hp.1 ?_
  replace hp := hp.2
  refine ⟨fun c => ?_, fun c => ?_⟩
  · replace hp := hp.1 c
    try simp only [if_pos c] at k
    refine ⟨fun c => ?_, fun c => ?_⟩
    · replace hp := hp.1 c
      try simp only [if_pos c] at k
      exact k
    · replace hp := hp.2 c
      try simp only [if_neg c] at k
      refine c_X11_isInside  hp.1 ?_
      replace hp := hp.2
      refine ⟨fun c => ?_, fun c => ?_⟩
      · replace hp := hp.1 c
        try simp only [if_pos c] at k
        exact k
      · replace hp := hp.2 c
        try simp only [if_neg c] at k
        refine c_X11_isInside  hp.1 ?_
        replace hp := hp.2
        refine ⟨fun c => ?_, fun c => ?_⟩
        · replace hp := hp.1 c
          try simp only [if_pos c] at k
          exact k
        · replace hp := hp.2 c
          try simp only [if_neg c] at k
          refine c_X1_takePieces (by decide) rfl hp.1 ?_
          replace hp := hp.2
          refine c_X1_takePieces (by decide) rfl hp.1 ?_
          replace hp := hp.2
          refine ⟨hp.1, ?_⟩
          replace hp := hp.2
          refine ⟨hp.1, ?_⟩
          replace hp := hp.2
          refine ⟨hp.1, ?_⟩
          replace hp := hp.2
          refine ⟨hp.1, ?_⟩
          replace hp := hp.2
          refine ⟨hp.1, ?_⟩
          replace hp := hp.2
          refine ⟨fun c => ?_, fun c => ?_⟩
          · replace hp := hp.1 c
            try simp only [if_pos c] at k
            refine ⟨hp.1, ?_⟩
            replace hp := hp.2
            refine ⟨hp.1, ?_⟩
            replace hp := hp.2
            exact k
          · replace hp := hp.2 c
            try simp only [if_neg (oa_nn c)] at k
            refine ⟨hp.1, ?_⟩
            replace hp := hp.2
            exact k
  · replace hp := hp.2 c
    try simp only [if_neg c] at k
    refine c_X6_isWhole  hp.1 ?_
    replace hp := hp.2
    refine ⟨fun c => ?_, fun c => ?_⟩
    · replace hp := hp.1 c
      try simp only [if_pos c] at k
      exact k
    · replace hp := hp.2 c
      try simp only [if_neg c] at k
      refine ⟨fun c => ?_, fun c => ?_⟩
      · replace hp := hp.1 c
        try simp only [if_pos c] at k
        exact k
      · replace hp := hp.2 c
        try simp only [if_neg c] at k
        refine c_X11_isInside  hp.1 ?_
        replace hp := hp.2
        refine ⟨fun c => ?_, fun c => ?_⟩
        · replace hp := hp.1 c
          try simp only [if_pos c] at k
          exact k
        · replace hp := hp.2 c
          try simp only [if_neg c] at k
          refine c_X11_isInside  hp.1 ?_
          replace hp := hp.2
          refine ⟨fun c => ?_, fun c => ?_⟩
          · replace hp := hp.1 c
            try simp only [if_pos c] at k
            exact k
          · replace hp := hp.2 c
            try simp only [if_neg c] at k
            refine c_X1_takePieces (by decide) rfl hp.1 ?_
            replace hp := hp.2
            refine c_X1_takePieces (by decide) rfl hp.1 ?_
            replace hp := hp.2
            refine ⟨hp.1, ?_⟩
            replace hp := hp.2
            refine ⟨hp.1, ?_⟩
            replace hp := hp.2
            refine ⟨hp.1, ?_⟩
            replace hp := hp.2
            refine ⟨hp.1, ?_⟩
            replace hp := hp.2
            refine ⟨hp.1, ?_⟩
            replace hp := hp.2
            refine ⟨fun c => ?_, fun c => ?_⟩
            · replace hp := hp.1 c
              try simp only [if_pos c] at k
              refine ⟨hp.1, ?_⟩
              replace hp := hp.2
              refine ⟨hp.1, ?_⟩
              replace hp := hp.2
              exact k
            · replace hp := hp.2 c
              try simp only [if_neg (oa_nn c)] at k
              refine ⟨hp.1, ?_⟩
              replace hp := hp.2
              exact k
def pw_X1_begunCanHold_2 : Nat → Hp → Nat → Int32 → Int32 → Int32 → Prop
  | 0, _, _, _, _, _ => False
  | n + 1, h, i0, x1, x2, x3 => (((h.1 1 i0 0) ≤ x3) → True) ∧ ((¬ (h.1 1 i0 0) ≤ x3) → (p_X1_needWith h i0 x1 x2 x3 ∧ ((((f_X1_needWith h i0 x1 x2 x3) ≤ 9999) → (pw_X1_begunCanHold_2 n h i0 x1 x2 (x3 + 1))) ∧ ((¬ (f_X1_needWith h i0 x1 x2 x3) ≤ 9999) → True))))
def fw_X1_begunCanHold_2 : Nat → Hp → Nat → Int32 → Int32 → Int32 → Int32
  | 0, _, _, _, _, _ => 0
  | n + 1, h, i0, x1, x2, x3 => if (h.1 1 i0 0) ≤ x3 then 1 else (if (f_X1_needWith h i0 x1 x2 x3) ≤ 9999 then (fw_X1_begunCanHold_2 n h i0 x1 x2 (x3 + 1)) else 0)
set_option maxHeartbeats 4000000 in
theorem lw_X1_begunCanHold_2 {X : WD → State → Prop} {d rb : Nat} {Qr : Option AV → Hp → Prop} {Qx : String → Hp → Prop}   : ∀ (n : Nat) (h : Hp) (i0 : Nat) (x1 : Int32) (x2 : Int32) (x3 : Int32), pw_X1_begunCanHold_2 n h i0 x1 x2 x3 → Qr (some (vI (fw_X1_begunCanHold_2 n h i0 x1 x2 x3))) h → AW X (d + 3) rb mX1_begunCanHold 2 [(0, vR 1 i0), (1, vI x1), (2, vI x2), (3, vI x3)] [] h Qr Qx := by
  intro n
  induction n with
  | zero => intro h i0 x1 x2 x3 hp; exact hp.elim
  | succ n ih =>
    intro h i0 x1 x2 x3 hp k
    rw [pw_X1_begunCanHold_2] at hp
    rw [fw_X1_begunCanHold_2] at k
    refine vc_X1_begunCanHold_2 (d := d + 2)  ?_
    refine ⟨fun c => ?_, fun c => ?_⟩
    · replace hp := hp.1 c
      try simp only [if_pos c] at k
      exact k
    · replace hp := hp.2 c
      try simp only [if_neg c] at k
      refine c_X1_needWith  hp.1 ?_
      replace hp := hp.2
      refine ⟨fun c => ?_, fun c => ?_⟩
      · replace hp := hp.1 c
        try simp only [if_pos c] at k
        exact ih _ _ _ _ _ hp k
      · replace hp := hp.2 c
        try simp only [if_neg c] at k
        exact k
def p_X1_begunCanHold (h : Hp) (i0 : Nat) (a1 : Int32) (a2 : Int32) : Prop := pw_X1_begunCanHold_2 oa_N h i0 a1 a2 0
def f_X1_begunCanHold (h : Hp) (i0 : Nat) (a1 : Int32) (a2 : Int32) : Int32 := fw_X1_begunCanHold_2 oa_N h i0 a1 a2 0
set_option maxHeartbeats 4000000 in
theorem c_X1_begunCanHold {d : Nat} {h : Hp} {P : Int32 → Hp → Prop} {Qx : String → Hp → Prop} {i0 : Nat} {a1 : Int32} {a2 : Int32}  (hp : p_X1_begunCanHold h i0 a1 a2) (k : P (f_X1_begunCanHold h i0 a1 a2) h) : CL 0 (d + 3) mX1_begunCanHold [vR 1 i0, vI a1, vI a2] h (oI P) Qx := by
  replace k : oI P (some (vI (f_X1_begunCanHold h i0 a1 a2))) h := k
  unfold p_X1_begunCanHold at hp
  unfold f_X1_begunCanHold at k
  refine CL.ofF (plainFor_of_name rfl) rfl (Nat.le_of_ble_eq_true rfl) (vc_X1_begunCanHold_0 (d := d + 2)  ?_)
  exact lw_X1_begunCanHold_2  _ _ _ _ _ _ hp k
def pw_X1_addLine_24 : Nat → Hp → Nat → Int32 → Int32 → Int32 → Int32 → Prop
  | 0, _, _, _, _, _, _ => False
  | n + 1, h, i0, x1, x2, x3, x4 => (((h.1 1 i0 0) ≤ x4) → ((vp_in (h.1 1 i0 1) 8) ∧ (p_X1_levelOf h i0 (x1 - 100) ∧ ((vp_in (h.1 1 i0 1) 8) ∧ ((vp_in (h.1 1 i0 1) 8) ∧ ((vp_in x3 6) ∧ ((vp_in (h.1 1 i0 1) 8) ∧ ((vp_in x3 6) ∧ ((vp_in (h.1 1 i0 1) 8) ∧ True))))))))) ∧ ((¬ (h.1 1 i0 0) ≤ x4) → ((vp_in (h.1 1 i0 1) 8) ∧ (p_X1_needWith h i0 x1 x2 x4 ∧ ((vp_in x4 12) ∧ (pw_X1_addLine_24 n (hp_i h 29 (8 * i0 + (h.1 1 i0 1).toNatClampNeg) x4.toNatClampNeg (f_X1_needWith h i0 x1 x2 x4)) i0 x1 x2 x3 (x4 + 1))))))
def gw_X1_addLine_24 : Nat → Hp → Nat → Int32 → Int32 → Int32 → Int32 → Hp
  | 0, h, _, _, _, _, _ => h
  | n + 1, h, i0, x1, x2, x3, x4 => if (h.1 1 i0 0) ≤ x4 then (hp_i (hp_i (hp_i (hp_i h 22 i0 ((h.1 1 i0 1).toNatClampNeg) (if (h.1 22 i0 ((h.1 1 i0 1).toNatClampNeg)) < (1 + (f_X1_levelOf h i0 (x1 - 100))) then (1 + (f_X1_levelOf h i0 (x1 - 100))) else (h.1 22 i0 ((h.1 1 i0 1).toNatClampNeg)))) 25 (8 * i0 + (h.1 1 i0 1).toNatClampNeg) x3.toNatClampNeg x1) 27 (8 * i0 + (h.1 1 i0 1).toNatClampNeg) x3.toNatClampNeg x2) 23 i0 ((h.1 1 i0 1).toNatClampNeg) (x3 + 1)) else (gw_X1_addLine_24 n (hp_i h 29 (8 * i0 + (h.1 1 i0 1).toNatClampNeg) x4.toNatClampNeg (f_X1_needWith h i0 x1 x2 x4)) i0 x1 x2 x3 (x4 + 1))
set_option maxHeartbeats 4000000 in
theorem lw_X1_addLine_24 {X : WD → State → Prop} {d rb : Nat} {Qr : Option AV → Hp → Prop} {Qx : String → Hp → Prop}   : ∀ (n : Nat) (h : Hp) (i0 : Nat) (x1 : Int32) (x2 : Int32) (x3 : Int32) (x4 : Int32), pw_X1_addLine_24 n h i0 x1 x2 x3 x4 → Qr none (gw_X1_addLine_24 n h i0 x1 x2 x3 x4) → AW X (d + 3) rb mX1_addLine 24 [(0, vR 1 i0), (1, vI x1), (2, vI x2), (3, vI x3), (4, vI x4)] [] h Qr Qx := by
  intro n
  induction n with
  | zero => intro h i0 x1 x2 x3 x4 hp; exact hp.elim
  | succ n ih =>
    intro h i0 x1 x2 x3 x4 hp k
    rw [pw_X1_addLine_24] at hp
    rw [gw_X1_addLine_24] at k
    refine vc_X1_addLine_24 (d := d + 2)  ?_
    refine ⟨fun c => ?_, fun c => ?_⟩
    · replace hp := hp.1 c
      try simp only [if_pos c] at k
      refine ⟨hp.1, ?_⟩
      replace hp := hp.2
      refine c_X1_levelOf  hp.1 ?_
      replace hp := hp.2
      refine ⟨hp.1, ?_⟩
      replace hp := hp.2
      refine ⟨hp.1, ?_⟩
      replace hp := hp.2
      refine ⟨hp.1, ?_⟩
      replace hp := hp.2
      refine ⟨hp.1, ?_⟩
      replace hp := hp.2
      refine ⟨hp.1, ?_⟩
      replace hp := hp.2
      refine ⟨hp.1, ?_⟩
      replace hp := hp.2
      exact k
    · replace hp := hp.2 c
      try simp only [if_neg c] at k
      refine ⟨hp.1, ?_⟩
      replace hp := hp.2
      refine c_X1_needWith  hp.1 ?_
      replace hp := hp.2
      refine ⟨hp.1, ?_⟩
      replace hp := hp.2
      exact ih _ _ _ _ _ _ hp k
def p_X1_addLine (h : Hp) (i0 : Nat) (a1 : Int32) (a2 : Int32) : Prop := p_X1_linesOfBegun h i0 ∧ (((8 ≤ (h.1 1 i0 1)) → True) ∧ ((¬ 8 ≤ (h.1 1 i0 1)) → ((((f_X1_linesOfBegun h i0) < 6) → (pw_X1_addLine_24 oa_N h i0 a1 a2 (f_X1_linesOfBegun h i0) 0)) ∧ ((¬ (f_X1_linesOfBegun h i0) < 6) → True))))
def g_X1_addLine (h : Hp) (i0 : Nat) (a1 : Int32) (a2 : Int32) : Hp := if 8 ≤ (h.1 1 i0 1) then h else (if (f_X1_linesOfBegun h i0) < 6 then (gw_X1_addLine_24 oa_N h i0 a1 a2 (f_X1_linesOfBegun h i0) 0) else h)
set_option maxHeartbeats 4000000 in
theorem c_X1_addLine {d : Nat} {h : Hp} {P : Hp → Prop} {Qx : String → Hp → Prop} {i0 : Nat} {a1 : Int32} {a2 : Int32}  (hp : p_X1_addLine h i0 a1 a2) (k : P  (g_X1_addLine h i0 a1 a2)) : CL 0 (d + 3) mX1_addLine [vR 1 i0, vI a1, vI a2] h (oV P) Qx := by
  replace k : oV P none (g_X1_addLine h i0 a1 a2) := k
  unfold p_X1_addLine at hp
  unfold g_X1_addLine at k
  refine CL.ofF (plainFor_of_name rfl) rfl (Nat.le_of_ble_eq_true rfl) (vc_X1_addLine_0 (d := d + 2)  ?_)
  refine c_X1_linesOfBegun  hp.1 ?_
  replace hp := hp.2
  refine ⟨fun c => ?_, fun c => ?_⟩
  · replace hp := hp.1 c
    try simp only [if_pos c] at k
    exact k
  · replace hp := hp.2 c
    try simp only [if_neg c] at k
    refine ⟨fun c => ?_, fun c => ?_⟩
    · replace hp := hp.1 c
      try simp only [if_pos c] at k
      exact lw_X1_addLine_24  _ _ _ _ _ _ _ hp k
    · replace hp := hp.2 c
      try simp only [if_neg c] at k
      exact k
def pw_X1_limitingPart_6 : Nat → Hp → Nat → Int32 → Int32 → Nat → Nat → Nat → Int32 → Int32 → Int32 → Prop
  | 0, _, _, _, _, _, _, _, _, _, _ => False
  | n + 1, h, i0, x1, x2, t3, i3, n3, x4, x5, x6 => (((h.1 1 i0 0) ≤ x6) → True) ∧ ((¬ (h.1 1 i0 0) ≤ x6) → (p_X1_needOf h i0 x2 x6 ∧ ((((lg_cmp (f_X1_needOf h i0 x2 x6).toInt64 0) ≤ 0) → (pw_X1_limitingPart_6 n h i0 x1 x2 t3 i3 n3 x4 x5 (x6 + 1))) ∧ ((¬ (lg_cmp (f_X1_needOf h i0 x2 x6).toInt64 0) ≤ 0) → (((x5 = (-1)) → (pw_X1_limitingPart_6 n h i0 x1 x2 t3 i3 n3 x4 x6 (x6 + 1))) ∧ ((¬ x5 = (-1)) → (p_X1_leftAfter h i0 x1 t3 i3 n3 x6 x4 ∧ (p_X1_needOf h i0 x2 x5 ∧ (p_X1_leftAfter h i0 x1 t3 i3 n3 x5 x4 ∧ (((0 ≤ (lg_cmp ((f_X1_leftAfter h i0 x1 t3 i3 n3 x6 x4) * (f_X1_needOf h i0 x2 x5).toInt64) ((f_X1_leftAfter h i0 x1 t3 i3 n3 x5 x4) * (f_X1_needOf h i0 x2 x6).toInt64))) → (pw_X1_limitingPart_6 n h i0 x1 x2 t3 i3 n3 x4 x5 (x6 + 1))) ∧ ((¬ 0 ≤ (lg_cmp ((f_X1_leftAfter h i0 x1 t3 i3 n3 x6 x4) * (f_X1_needOf h i0 x2 x5).toInt64) ((f_X1_leftAfter h i0 x1 t3 i3 n3 x5 x4) * (f_X1_needOf h i0 x2 x6).toInt64))) → (pw_X1_limitingPart_6 n h i0 x1 x2 t3 i3 n3 x4 x6 (x6 + 1)))))))))))))
def fw_X1_limitingPart_6 : Nat → Hp → Nat → Int32 → Int32 → Nat → Nat → Nat → Int32 → Int32 → Int32 → Int32
  | 0, _, _, _, _, _, _, _, _, _, _ => 0
  | n + 1, h, i0, x1, x2, t3, i3, n3, x4, x5, x6 => if (h.1 1 i0 0) ≤ x6 then x5 else (if (lg_cmp (f_X1_needOf h i0 x2 x6).toInt64 0) ≤ 0 then (fw_X1_limitingPart_6 n h i0 x1 x2 t3 i3 n3 x4 x5 (x6 + 1)) else (if x5 = (-1) then (fw_X1_limitingPart_6 n h i0 x1 x2 t3 i3 n3 x4 x6 (x6 + 1)) else (if 0 ≤ (lg_cmp ((f_X1_leftAfter h i0 x1 t3 i3 n3 x6 x4) * (f_X1_needOf h i0 x2 x5).toInt64) ((f_X1_leftAfter h i0 x1 t3 i3 n3 x5 x4) * (f_X1_needOf h i0 x2 x6).toInt64)) then (fw_X1_limitingPart_6 n h i0 x1 x2 t3 i3 n3 x4 x5 (x6 + 1)) else (fw_X1_limitingPart_6 n h i0 x1 x2 t3 i3 n3 x4 x6 (x6 + 1)))))
set_option maxHeartbeats 4000000 in
theorem lw_X1_limitingPart_6 {X : WD → State → Prop} {d rb : Nat} {Qr : Option AV → Hp → Prop} {Qx : String → Hp → Prop} {t3 i3 n3 : Nat} {f3 : List (Nat × Nat)} (ht3 : t3 < oa_nT) (hk3 : oa_kd t3 = (1, n3, f3)) : ∀ (n : Nat) (h : Hp) (i0 : Nat) (x1 : Int32) (x2 : Int32) (x4 : Int32) (x5 : Int32) (x6 : Int32), pw_X1_limitingPart_6 n h i0 x1 x2 t3 i3 n3 x4 x5 x6 → Qr (some (vI (fw_X1_limitingPart_6 n h i0 x1 x2 t3 i3 n3 x4 x5 x6))) h → AW X (d + 3) rb mX1_limitingPart 6 [(0, vR 1 i0), (1, vI x1), (2, vI x2), (3, vR t3 i3), (4, vI x4), (5, vI x5), (6, vI x6)] [] h Qr Qx := by
  intro n
  induction n with
  | zero => intro h i0 x1 x2 x4 x5 x6 hp; exact hp.elim
  | succ n ih =>
    intro h i0 x1 x2 x4 x5 x6 hp k
    rw [pw_X1_limitingPart_6] at hp
    rw [fw_X1_limitingPart_6] at k
    refine vc_X1_limitingPart_6 (d := d + 2) ht3 hk3 ?_
    refine ⟨fun c => ?_, fun c => ?_⟩
    · replace hp := hp.1 c
      try simp only [if_pos c] at k
      exact k
    · replace hp := hp.2 c
      try simp only [if_neg c] at k
      refine c_X1_needOf  hp.1 ?_
      replace hp := hp.2
      refine ⟨fun c => ?_, fun c => ?_⟩
      · replace hp := hp.1 c
        try simp only [if_pos c] at k
        exact ih _ _ _ _ _ _ _ hp k
      · replace hp := hp.2 c
        try simp only [if_neg c] at k
        refine ⟨fun c => ?_, fun c => ?_⟩
        · replace hp := hp.1 c
          try simp only [if_pos c] at k
          exact ih _ _ _ _ _ _ _ hp k
        · replace hp := hp.2 c
          try simp only [if_neg c] at k
          refine c_X1_leftAfter ht3 hk3 hp.1 ?_
          replace hp := hp.2
          refine c_X1_needOf  hp.1 ?_
          replace hp := hp.2
          refine c_X1_leftAfter ht3 hk3 hp.1 ?_
          replace hp := hp.2
          refine ⟨fun c => ?_, fun c => ?_⟩
          · replace hp := hp.1 c
            try simp only [if_pos c] at k
            exact ih _ _ _ _ _ _ _ hp k
          · replace hp := hp.2 c
            try simp only [if_neg c] at k
            exact ih _ _ _ _ _ _ _ hp k
def p_X1_limitingPart (h : Hp) (i0 : Nat) (a1 : Int32) (a2 : Int32) (t3 : Nat) (i3 : Nat) (n3 : Nat) (a4 : Int32) : Prop := pw_X1_limitingPart_6 oa_N h i0 a1 a2 t3 i3 n3 a4 (-1) 0
def f_X1_limitingPart (h : Hp) (i0 : Nat) (a1 : Int32) (a2 : Int32) (t3 : Nat) (i3 : Nat) (n3 : Nat) (a4 : Int32) : Int32 := fw_X1_limitingPart_6 oa_N h i0 a1 a2 t3 i3 n3 a4 (-1) 0
set_option maxHeartbeats 4000000 in
theorem c_X1_limitingPart {d : Nat} {h : Hp} {P : Int32 → Hp → Prop} {Qx : String → Hp → Prop} {i0 : Nat} {a1 : Int32} {a2 : Int32} {t3 i3 n3 : Nat} {f3 : List (Nat × Nat)} {a4 : Int32} (ht3 : t3 < oa_nT) (hk3 : oa_kd t3 = (1, n3, f3)) (hp : p_X1_limitingPart h i0 a1 a2 t3 i3 n3 a4) (k : P (f_X1_limitingPart h i0 a1 a2 t3 i3 n3 a4) h) : CL 0 (d + 3) mX1_limitingPart [vR 1 i0, vI a1, vI a2, vR t3 i3, vI a4] h (oI P) Qx := by
  replace k : oI P (some (vI (f_X1_limitingPart h i0 a1 a2 t3 i3 n3 a4))) h := k
  unfold p_X1_limitingPart at hp
  unfold f_X1_limitingPart at k
  refine CL.ofF (plainFor_of_name rfl) rfl (Nat.le_of_ble_eq_true rfl) (vc_X1_limitingPart_0 (d := d + 2) ht3 hk3 ?_)
  exact lw_X1_limitingPart_6 ht3 hk3 _ _ _ _ _ _ _ _ hp k
def p_X2_begin (h : Hp) (a1 : Int64) : Prop := p_X2_putName (hp_i h 2 0 0 0) a1 ∧ True
def g_X2_begin (h : Hp) (a1 : Int64) : Hp := (g_X2_putName (hp_i h 2 0 0 0) a1)
set_option maxHeartbeats 4000000 in
theorem c_X2_begin {d : Nat} {h : Hp} {P : Hp → Prop} {Qx : String → Hp → Prop} {a1 : Int64}  (hp : p_X2_begin h a1) (k : P  (g_X2_begin h a1)) : CL 0 (d + 4) mX2_begin [vR 2 0, vJ a1] h (oV P) Qx := by
  replace k : oV P none (g_X2_begin h a1) := k
  unfold p_X2_begin at hp
  unfold g_X2_begin at k
  refine CL.ofF (plainFor_of_name rfl) rfl (Nat.le_of_ble_eq_true rfl) (vc_X2_begin_0 (d := d + 3)  ?_)
  refine c_X2_putName  hp.1 ?_
  replace hp := hp.2
  exact k
def p_X3_record (h : Hp) (i1 : Nat) : Prop := p_J9_floorMod_7cf53 h (h.1 3 0 1) 12 ∧ ((vp_in (f_J9_floorMod_7cf53 h (h.1 3 0 1) 12) 12) ∧ (p_X5_copyFrom h (2 + (f_J9_floorMod_7cf53 h (h.1 3 0 1) 12).toNatClampNeg) i1 ∧ (p_J9_floorMod_7cf53 (g_X5_copyFrom h (2 + (f_J9_floorMod_7cf53 h (h.1 3 0 1) 12).toNatClampNeg) i1) (((g_X5_copyFrom h (2 + (f_J9_floorMod_7cf53 h (h.1 3 0 1) 12).toNatClampNeg) i1).1 3 0 1) + 1) 12 ∧ True)))
def g_X3_record (h : Hp) (i1 : Nat) : Hp := hp_i (hp_i (g_X5_copyFrom h (2 + (f_J9_floorMod_7cf53 h (h.1 3 0 1) 12).toNatClampNeg) i1) 3 0 1 (f_J9_floorMod_7cf53 (g_X5_copyFrom h (2 + (f_J9_floorMod_7cf53 h (h.1 3 0 1) 12).toNatClampNeg) i1) (((g_X5_copyFrom h (2 + (f_J9_floorMod_7cf53 h (h.1 3 0 1) 12).toNatClampNeg) i1).1 3 0 1) + 1) 12)) 3 0 0 (if 12 < (((hp_i (g_X5_copyFrom h (2 + (f_J9_floorMod_7cf53 h (h.1 3 0 1) 12).toNatClampNeg) i1) 3 0 1 (f_J9_floorMod_7cf53 (g_X5_copyFrom h (2 + (f_J9_floorMod_7cf53 h (h.1 3 0 1) 12).toNatClampNeg) i1) (((g_X5_copyFrom h (2 + (f_J9_floorMod_7cf53 h (h.1 3 0 1) 12).toNatClampNeg) i1).1 3 0 1) + 1) 12)).1 3 0 0) + 1) then 12 else (((hp_i (g_X5_copyFrom h (2 + (f_J9_floorMod_7cf53 h (h.1 3 0 1) 12).toNatClampNeg) i1) 3 0 1 (f_J9_floorMod_7cf53 (g_X5_copyFrom h (2 + (f_J9_floorMod_7cf53 h (h.1 3 0 1) 12).toNatClampNeg) i1) (((g_X5_copyFrom h (2 + (f_J9_floorMod_7cf53 h (h.1 3 0 1) 12).toNatClampNeg) i1).1 3 0 1) + 1) 12)).1 3 0 0) + 1))
set_option maxHeartbeats 4000000 in
theorem c_X3_record {d : Nat} {h : Hp} {P : Hp → Prop} {Qx : String → Hp → Prop} {i1 : Nat}  (hp : p_X3_record h i1) (k : P  (g_X3_record h i1)) : CL 0 (d + 3) mX3_record [vR 3 0, vR 5 i1] h (oV P) Qx := by
  replace k : oV P none (g_X3_record h i1) := k
  unfold p_X3_record at hp
  unfold g_X3_record at k
  refine CL.ofF (plainFor_of_name rfl) rfl (Nat.le_of_ble_eq_true rfl) (vc_X3_record_0 (d := d + 2)  ?_)
  refine c_J9_floorMod_7cf53  hp.1 ?_
  replace hp := hp.2
  refine ⟨hp.1, ?_⟩
  replace hp := hp.2
  refine c_X5_copyFrom  hp.1 ?_
  replace hp := hp.2
  refine c_J9_floorMod_7cf53  hp.1 ?_
  replace hp := hp.2
  exact k
def p_X3_takeBack (h : Hp) (i1 : Nat) : Prop := p_J9_floorMod_7cf53 h ((h.1 3 0 1) - 1) 12 ∧ ((vp_in (f_J9_floorMod_7cf53 h ((h.1 3 0 1) - 1) 12) 12) ∧ ((((h.1 3 0 0) = 0) → True) ∧ ((¬ (h.1 3 0 0) = 0) → (p_X5_copyFrom h i1 (2 + (f_J9_floorMod_7cf53 h ((h.1 3 0 1) - 1) 12).toNatClampNeg) ∧ True))))
def f_X3_takeBack (h : Hp) (i1 : Nat) : Int32 := if (h.1 3 0 0) = 0 then 0 else 1
def g_X3_takeBack (h : Hp) (i1 : Nat) : Hp := if (h.1 3 0 0) = 0 then h else (hp_i (hp_i (g_X5_copyFrom h i1 (2 + (f_J9_floorMod_7cf53 h ((h.1 3 0 1) - 1) 12).toNatClampNeg)) 3 0 1 (f_J9_floorMod_7cf53 h ((h.1 3 0 1) - 1) 12)) 3 0 0 (((hp_i (g_X5_copyFrom h i1 (2 + (f_J9_floorMod_7cf53 h ((h.1 3 0 1) - 1) 12).toNatClampNeg)) 3 0 1 (f_J9_floorMod_7cf53 h ((h.1 3 0 1) - 1) 12)).1 3 0 0) - 1))
set_option maxHeartbeats 4000000 in
theorem c_X3_takeBack {d : Nat} {h : Hp} {P : Int32 → Hp → Prop} {Qx : String → Hp → Prop} {i1 : Nat}  (hp : p_X3_takeBack h i1) (k : P (f_X3_takeBack h i1) (g_X3_takeBack h i1)) : CL 0 (d + 3) mX3_takeBack [vR 3 0, vR 5 i1] h (oI P) Qx := by
  replace k : oI P (some (vI (f_X3_takeBack h i1))) (g_X3_takeBack h i1) := k
  unfold p_X3_takeBack at hp
  unfold f_X3_takeBack at k
  unfold g_X3_takeBack at k
  refine CL.ofF (plainFor_of_name rfl) rfl (Nat.le_of_ble_eq_true rfl) (vc_X3_takeBack_0 (d := d + 2)  ?_)
  refine c_J9_floorMod_7cf53  hp.1 ?_
  replace hp := hp.2
  refine ⟨hp.1, ?_⟩
  replace hp := hp.2
  refine ⟨fun c => ?_, fun c => ?_⟩
  · replace hp := hp.1 c
    try simp only [if_pos c] at k
    exact k
  · replace hp := hp.2 c
    try simp only [if_neg c] at k
    refine c_X5_copyFrom  hp.1 ?_
    replace hp := hp.2
    exact k
def p_X5_clear (h : Hp) (i0 : Nat) : Prop := p_X10_clear h i0 ∧ (p_X8_clear (hp_i (g_X10_clear h i0) 6 i0 0 0) i0 ∧ True)
def g_X5_clear (h : Hp) (i0 : Nat) : Hp := (g_X8_clear (hp_i (g_X10_clear h i0) 6 i0 0 0) i0)
set_option maxHeartbeats 4000000 in
theorem c_X5_clear {d : Nat} {h : Hp} {P : Hp → Prop} {Qx : String → Hp → Prop} {i0 : Nat}  (hp : p_X5_clear h i0) (k : P  (g_X5_clear h i0)) : CL 0 (d + 3) mX5_clear [vR 5 i0] h (oV P) Qx := by
  replace k : oV P none (g_X5_clear h i0) := k
  unfold p_X5_clear at hp
  unfold g_X5_clear at k
  refine CL.ofF (plainFor_of_name rfl) rfl (Nat.le_of_ble_eq_true rfl) (vc_X5_clear_0 (d := d + 2)  ?_)
  refine c_X10_clear  hp.1 ?_
  replace hp := hp.2
  refine c_X8_clear  hp.1 ?_
  replace hp := hp.2
  exact k
def pw_X5_openPieces_5 : Nat → Hp → Nat → Nat → Int32 → Int32 → Int32 → Prop
  | 0, _, _, _, _, _, _ => False
  | n + 1, h, i0, i1, x2, x3, x4 => (((h.1 6 i0 0) ≤ x4) → True) ∧ ((¬ (h.1 6 i0 0) ≤ x4) → (p_X6_openOf h i0 x4 ∧ (p_X6_productOf h i0 x4 ∧ (p_X1_needOf h i1 (f_X6_productOf h i0 x4) x2 ∧ (pw_X5_openPieces_5 n h i0 i1 x2 (x3 + ((f_X6_openOf h i0 x4) * (f_X1_needOf h i1 (f_X6_productOf h i0 x4) x2))) (x4 + 1))))))
def fw_X5_openPieces_5 : Nat → Hp → Nat → Nat → Int32 → Int32 → Int32 → Int32
  | 0, _, _, _, _, _, _ => 0
  | n + 1, h, i0, i1, x2, x3, x4 => if (h.1 6 i0 0) ≤ x4 then x3 else (fw_X5_openPieces_5 n h i0 i1 x2 (x3 + ((f_X6_openOf h i0 x4) * (f_X1_needOf h i1 (f_X6_productOf h i0 x4) x2))) (x4 + 1))
set_option maxHeartbeats 4000000 in
theorem lw_X5_openPieces_5 {X : WD → State → Prop} {d rb : Nat} {Qr : Option AV → Hp → Prop} {Qx : String → Hp → Prop}   : ∀ (n : Nat) (h : Hp) (i0 : Nat) (i1 : Nat) (x2 : Int32) (x3 : Int32) (x4 : Int32), pw_X5_openPieces_5 n h i0 i1 x2 x3 x4 → Qr (some (vI (fw_X5_openPieces_5 n h i0 i1 x2 x3 x4))) h → AW X (d + 3) rb mX5_openPieces 5 [(0, vR 5 i0), (1, vR 1 i1), (2, vI x2), (3, vI x3), (4, vI x4)] [] h Qr Qx := by
  intro n
  induction n with
  | zero => intro h i0 i1 x2 x3 x4 hp; exact hp.elim
  | succ n ih =>
    intro h i0 i1 x2 x3 x4 hp k
    rw [pw_X5_openPieces_5] at hp
    rw [fw_X5_openPieces_5] at k
    refine vc_X5_openPieces_5 (d := d + 2)  ?_
    refine ⟨fun c => ?_, fun c => ?_⟩
    · replace hp := hp.1 c
      try simp only [if_pos c] at k
      exact k
    · replace hp := hp.2 c
      try simp only [if_neg c] at k
      refine c_X6_openOf  hp.1 ?_
      replace hp := hp.2
      refine c_X6_productOf  hp.1 ?_
      replace hp := hp.2
      refine c_X1_needOf  hp.1 ?_
      replace hp := hp.2
      exact ih _ _ _ _ _ _ hp k
def p_X5_openPieces (h : Hp) (i0 : Nat) (i1 : Nat) (a2 : Int32) : Prop := pw_X5_openPieces_5 oa_N h i0 i1 a2 0 0
def f_X5_openPieces (h : Hp) (i0 : Nat) (i1 : Nat) (a2 : Int32) : Int32 := fw_X5_openPieces_5 oa_N h i0 i1 a2 0 0
set_option maxHeartbeats 4000000 in
theorem c_X5_openPieces {d : Nat} {h : Hp} {P : Int32 → Hp → Prop} {Qx : String → Hp → Prop} {i0 : Nat} {i1 : Nat} {a2 : Int32}  (hp : p_X5_openPieces h i0 i1 a2) (k : P (f_X5_openPieces h i0 i1 a2) h) : CL 0 (d + 3) mX5_openPieces [vR 5 i0, vR 1 i1, vI a2] h (oI P) Qx := by
  replace k : oI P (some (vI (f_X5_openPieces h i0 i1 a2))) h := k
  unfold p_X5_openPieces at hp
  unfold f_X5_openPieces at k
  refine CL.ofF (plainFor_of_name rfl) rfl (Nat.le_of_ble_eq_true rfl) (vc_X5_openPieces_0 (d := d + 2)  ?_)
  exact lw_X5_openPieces_5  _ _ _ _ _ _ _ hp k
def pw_X5_changeReserved_22 : Nat → Hp → Nat → Nat → Int32 → Int32 → Int32 → Int32 → Prop
  | 0, _, _, _, _, _, _, _ => False
  | n + 1, h, i0, i1, x2, x3, x4, x5 => (((h.1 1 i1 0) ≤ x5) → True) ∧ ((¬ (h.1 1 i1 0) ≤ x5) → (p_X1_needOf h i1 x4 x5 ∧ (p_X10_addReserved h i0 x5 (x3 * (f_X1_needOf h i1 x4 x5)) ∧ (pw_X5_changeReserved_22 n (g_X10_addReserved h i0 x5 (x3 * (f_X1_needOf h i1 x4 x5))) i0 i1 x2 x3 x4 (x5 + 1)))))
def gw_X5_changeReserved_22 : Nat → Hp → Nat → Nat → Int32 → Int32 → Int32 → Int32 → Hp
  | 0, h, _, _, _, _, _, _ => h
  | n + 1, h, i0, i1, x2, x3, x4, x5 => if (h.1 1 i1 0) ≤ x5 then h else (gw_X5_changeReserved_22 n (g_X10_addReserved h i0 x5 (x3 * (f_X1_needOf h i1 x4 x5))) i0 i1 x2 x3 x4 (x5 + 1))
set_option maxHeartbeats 4000000 in
theorem lw_X5_changeReserved_22 {X : WD → State → Prop} {d rb : Nat} {Qr : Option AV → Hp → Prop} {Qx : String → Hp → Prop}   : ∀ (n : Nat) (h : Hp) (i0 : Nat) (i1 : Nat) (x2 : Int32) (x3 : Int32) (x4 : Int32) (x5 : Int32), pw_X5_changeReserved_22 n h i0 i1 x2 x3 x4 x5 → Qr none (gw_X5_changeReserved_22 n h i0 i1 x2 x3 x4 x5) → AW X (d + 3) rb mX5_changeReserved 22 [(0, vR 5 i0), (1, vR 1 i1), (2, vI x2), (3, vI x3), (4, vI x4), (5, vI x5)] [] h Qr Qx := by
  intro n
  induction n with
  | zero => intro h i0 i1 x2 x3 x4 x5 hp; exact hp.elim
  | succ n ih =>
    intro h i0 i1 x2 x3 x4 x5 hp k
    rw [pw_X5_changeReserved_22] at hp
    rw [gw_X5_changeReserved_22] at k
    refine vc_X5_changeReserved_22 (d := d + 2)  ?_
    refine ⟨fun c => ?_, fun c => ?_⟩
    · replace hp := hp.1 c
      try simp only [if_pos c] at k
      exact k
    · replace hp := hp.2 c
      try simp only [if_neg c] at k
      refine c_X1_needOf  hp.1 ?_
      replace hp := hp.2
      refine c_X10_addReserved  hp.1 ?_
      replace hp := hp.2
      exact ih _ _ _ _ _ _ _ hp k
def p_X5_changeReserved (h : Hp) (i0 : Nat) (i1 : Nat) (a2 : Int32) (a3 : Int32) : Prop := p_X6_productOf h i0 a2 ∧ (p_X6_addReserved h i0 a2 a3 ∧ (pw_X5_changeReserved_22 oa_N (g_X6_addReserved h i0 a2 a3) i0 i1 a2 a3 (f_X6_productOf h i0 a2) 0))
def g_X5_changeReserved (h : Hp) (i0 : Nat) (i1 : Nat) (a2 : Int32) (a3 : Int32) : Hp := gw_X5_changeReserved_22 oa_N (g_X6_addReserved h i0 a2 a3) i0 i1 a2 a3 (f_X6_productOf h i0 a2) 0
set_option maxHeartbeats 4000000 in
theorem c_X5_changeReserved {d : Nat} {h : Hp} {P : Hp → Prop} {Qx : String → Hp → Prop} {i0 : Nat} {i1 : Nat} {a2 : Int32} {a3 : Int32}  (hp : p_X5_changeReserved h i0 i1 a2 a3) (k : P  (g_X5_changeReserved h i0 i1 a2 a3)) : CL 0 (d + 3) mX5_changeReserved [vR 5 i0, vR 1 i1, vI a2, vI a3] h (oV P) Qx := by
  replace k : oV P none (g_X5_changeReserved h i0 i1 a2 a3) := k
  unfold p_X5_changeReserved at hp
  unfold g_X5_changeReserved at k
  refine CL.ofF (plainFor_of_name rfl) rfl (Nat.le_of_ble_eq_true rfl) (vc_X5_changeReserved_0 (d := d + 2)  ?_)
  refine c_X6_productOf  hp.1 ?_
  replace hp := hp.2
  refine c_X6_addReserved  hp.1 ?_
  replace hp := hp.2
  exact lw_X5_changeReserved_22  _ _ _ _ _ _ _ _ hp k
def pw_X5_sendReserved_22 : Nat → Hp → Nat → Nat → Int32 → Int32 → Int32 → Int32 → Prop
  | 0, _, _, _, _, _, _, _ => False
  | n + 1, h, i0, i1, x2, x3, x4, x5 => (((h.1 1 i1 0) ≤ x5) → (p_X5_changeReserved h i0 i1 x2 (-x4) ∧ (p_X6_addShipped (g_X5_changeReserved h i0 i1 x2 (-x4)) i0 x2 x4 ∧ (p_X6_dueOf (g_X6_addShipped (g_X5_changeReserved h i0 i1 x2 (-x4)) i0 x2 x4) i0 x2 ∧ (p_X8_addShipment (g_X6_addShipped (g_X5_changeReserved h i0 i1 x2 (-x4)) i0 x2 x4) i0 x2 x4 ((g_X6_addShipped (g_X5_changeReserved h i0 i1 x2 (-x4)) i0 x2 x4).1 10 i0 0) (f_X6_dueOf (g_X6_addShipped (g_X5_changeReserved h i0 i1 x2 (-x4)) i0 x2 x4) i0 x2) ∧ True))))) ∧ ((¬ (h.1 1 i1 0) ≤ x5) → (p_X1_needOf h i1 x3 x5 ∧ (p_X10_stockOf h i0 x5 ∧ (p_X10_setStock h i0 x5 ((f_X10_stockOf h i0 x5) - (x4 * (f_X1_needOf h i1 x3 x5))) ∧ (pw_X5_sendReserved_22 n (g_X10_setStock h i0 x5 ((f_X10_stockOf h i0 x5) - (x4 * (f_X1_needOf h i1 x3 x5)))) i0 i1 x2 x3 x4 (x5 + 1))))))
def fw_X5_sendReserved_22 : Nat → Hp → Nat → Nat → Int32 → Int32 → Int32 → Int32 → Int32
  | 0, _, _, _, _, _, _, _ => 0
  | n + 1, h, i0, i1, x2, x3, x4, x5 => if (h.1 1 i1 0) ≤ x5 then x4 else (fw_X5_sendReserved_22 n (g_X10_setStock h i0 x5 ((f_X10_stockOf h i0 x5) - (x4 * (f_X1_needOf h i1 x3 x5)))) i0 i1 x2 x3 x4 (x5 + 1))
def gw_X5_sendReserved_22 : Nat → Hp → Nat → Nat → Int32 → Int32 → Int32 → Int32 → Hp
  | 0, h, _, _, _, _, _, _ => h
  | n + 1, h, i0, i1, x2, x3, x4, x5 => if (h.1 1 i1 0) ≤ x5 then (g_X8_addShipment (g_X6_addShipped (g_X5_changeReserved h i0 i1 x2 (-x4)) i0 x2 x4) i0 x2 x4 ((g_X6_addShipped (g_X5_changeReserved h i0 i1 x2 (-x4)) i0 x2 x4).1 10 i0 0) (f_X6_dueOf (g_X6_addShipped (g_X5_changeReserved h i0 i1 x2 (-x4)) i0 x2 x4) i0 x2)) else (gw_X5_sendReserved_22 n (g_X10_setStock h i0 x5 ((f_X10_stockOf h i0 x5) - (x4 * (f_X1_needOf h i1 x3 x5)))) i0 i1 x2 x3 x4 (x5 + 1))
set_option maxHeartbeats 4000000 in
theorem lw_X5_sendReserved_22 {X : WD → State → Prop} {d rb : Nat} {Qr : Option AV → Hp → Prop} {Qx : String → Hp → Prop}   : ∀ (n : Nat) (h : Hp) (i0 : Nat) (i1 : Nat) (x2 : Int32) (x3 : Int32) (x4 : Int32) (x5 : Int32), pw_X5_sendReserved_22 n h i0 i1 x2 x3 x4 x5 → Qr (some (vI (fw_X5_sendReserved_22 n h i0 i1 x2 x3 x4 x5))) (gw_X5_sendReserved_22 n h i0 i1 x2 x3 x4 x5) → AW X (d + 4) rb mX5_sendReserved 22 [(0, vR 5 i0), (1, vR 1 i1), (2, vI x2), (3, vI x3), (4, vI x4), (5, vI x5)] [] h Qr Qx := by
  intro n
  induction n with
  | zero => intro h i0 i1 x2 x3 x4 x5 hp; exact hp.elim
  | succ n ih =>
    intro h i0 i1 x2 x3 x4 x5 hp k
    rw [pw_X5_sendReserved_22] at hp
    rw [fw_X5_sendReserved_22] at k
    rw [gw_X5_sendReserved_22] at k
    refine vc_X5_sendReserved_22 (d := d + 3)  ?_
    refine ⟨fun c => ?_, fun c => ?_⟩
    · replace hp := hp.1 c
      try simp only [if_pos c] at k
      refine c_X5_changeReserved  hp.1 ?_
      replace hp := hp.2
      refine c_X6_addShipped  hp.1 ?_
      replace hp := hp.2
      refine c_X6_dueOf  hp.1 ?_
      replace hp := hp.2
      refine c_X8_addShipment  hp.1 ?_
      replace hp := hp.2
      exact k
    · replace hp := hp.2 c
      try simp only [if_neg c] at k
      refine c_X1_needOf  hp.1 ?_
      replace hp := hp.2
      refine c_X10_stockOf  hp.1 ?_
      replace hp := hp.2
      refine c_X10_setStock  hp.1 ?_
      replace hp := hp.2
      exact ih _ _ _ _ _ _ _ hp k
def p_X5_sendReserved (h : Hp) (i0 : Nat) (i1 : Nat) (a2 : Int32) : Prop := p_X6_productOf h i0 a2 ∧ (p_X6_reservedOf h i0 a2 ∧ (pw_X5_sendReserved_22 oa_N h i0 i1 a2 (f_X6_productOf h i0 a2) (f_X6_reservedOf h i0 a2) 0))
def f_X5_sendReserved (h : Hp) (i0 : Nat) (i1 : Nat) (a2 : Int32) : Int32 := fw_X5_sendReserved_22 oa_N h i0 i1 a2 (f_X6_productOf h i0 a2) (f_X6_reservedOf h i0 a2) 0
def g_X5_sendReserved (h : Hp) (i0 : Nat) (i1 : Nat) (a2 : Int32) : Hp := gw_X5_sendReserved_22 oa_N h i0 i1 a2 (f_X6_productOf h i0 a2) (f_X6_reservedOf h i0 a2) 0
set_option maxHeartbeats 4000000 in
theorem c_X5_sendReserved {d : Nat} {h : Hp} {P : Int32 → Hp → Prop} {Qx : String → Hp → Prop} {i0 : Nat} {i1 : Nat} {a2 : Int32}  (hp : p_X5_sendReserved h i0 i1 a2) (k : P (f_X5_sendReserved h i0 i1 a2) (g_X5_sendReserved h i0 i1 a2)) : CL 0 (d + 4) mX5_sendReserved [vR 5 i0, vR 1 i1, vI a2] h (oI P) Qx := by
  replace k : oI P (some (vI (f_X5_sendReserved h i0 i1 a2))) (g_X5_sendReserved h i0 i1 a2) := k
  unfold p_X5_sendReserved at hp
  unfold f_X5_sendReserved at k
  unfold g_X5_sendReserved at k
  refine CL.ofF (plainFor_of_name rfl) rfl (Nat.le_of_ble_eq_true rfl) (vc_X5_sendReserved_0 (d := d + 3)  ?_)
  refine c_X6_productOf  hp.1 ?_
  replace hp := hp.2
  refine c_X6_reservedOf  hp.1 ?_
  replace hp := hp.2
  exact lw_X5_sendReserved_22  _ _ _ _ _ _ _ _ hp k
def pi_X6_fillTurns_18 : Nat → Hp → Nat → Nat → Nat → Nat → Int32 → Int32 → Prop
  | 0, _, _, _, _, _, _, _ => False
  | n + 1, h, i0, t1, i1, n1, x2, x3 => ((x3 ≤ 0) → True) ∧ ((¬ x3 ≤ 0) → ((vp_in (x3 - 1) n1) ∧ (p_X6_isServedBefore h i0 x2 (h.1 t1 i1 ((x3 - 1).toNatClampNeg)) ∧ ((((f_X6_isServedBefore h i0 x2 (h.1 t1 i1 ((x3 - 1).toNatClampNeg))) = 0) → True) ∧ ((¬ (f_X6_isServedBefore h i0 x2 (h.1 t1 i1 ((x3 - 1).toNatClampNeg))) = 0) → ((vp_in (x3 - 1) n1) ∧ ((vp_in x3 n1) ∧ (pi_X6_fillTurns_18 n (hp_i h t1 i1 x3.toNatClampNeg (h.1 t1 i1 ((x3 - 1).toNatClampNeg))) i0 t1 i1 n1 x2 (x3 + (-1))))))))))
def iw_x3_X6_fillTurns_18 : Nat → Hp → Nat → Nat → Nat → Nat → Int32 → Int32 → Int32
  | 0, _, _, _, _, _, _, x3 => x3
  | n + 1, h, i0, t1, i1, n1, x2, x3 => if x3 ≤ 0 then x3 else (if (f_X6_isServedBefore h i0 x2 (h.1 t1 i1 ((x3 - 1).toNatClampNeg))) = 0 then x3 else (iw_x3_X6_fillTurns_18 n (hp_i h t1 i1 x3.toNatClampNeg (h.1 t1 i1 ((x3 - 1).toNatClampNeg))) i0 t1 i1 n1 x2 (x3 + (-1))))
def iw_h_X6_fillTurns_18 : Nat → Hp → Nat → Nat → Nat → Nat → Int32 → Int32 → Hp
  | 0, h, _, _, _, _, _, _ => h
  | n + 1, h, i0, t1, i1, n1, x2, x3 => if x3 ≤ 0 then h else (if (f_X6_isServedBefore h i0 x2 (h.1 t1 i1 ((x3 - 1).toNatClampNeg))) = 0 then h else (iw_h_X6_fillTurns_18 n (hp_i h t1 i1 x3.toNatClampNeg (h.1 t1 i1 ((x3 - 1).toNatClampNeg))) i0 t1 i1 n1 x2 (x3 + (-1))))
set_option maxHeartbeats 4000000 in
theorem li_X6_fillTurns_18 {X : WD → State → Prop} {d rb : Nat} {Qr : Option AV → Hp → Prop} {Qx : String → Hp → Prop} {t1 i1 n1 : Nat} {f1 : List (Nat × Nat)} (ht1 : t1 < oa_nT) (hk1 : oa_kd t1 = (1, n1, f1)) : ∀ (n : Nat) (h : Hp) (i0 : Nat) (x2 : Int32) (x3 : Int32), pi_X6_fillTurns_18 n h i0 t1 i1 n1 x2 x3 → AW X (d + 4) rb mX6_fillTurns 49 [(0, vR 6 i0), (1, vR t1 i1), (2, vI x2), (3, vI (iw_x3_X6_fillTurns_18 n h i0 t1 i1 n1 x2 x3))] [] (iw_h_X6_fillTurns_18 n h i0 t1 i1 n1 x2 x3) Qr Qx → AW X (d + 4) rb mX6_fillTurns 18 [(0, vR 6 i0), (1, vR t1 i1), (2, vI x2), (3, vI x3)] [] h Qr Qx := by
  intro n
  induction n with
  | zero => intro h i0 x2 x3 hp; exact hp.elim
  | succ n ih =>
    intro h i0 x2 x3 hp k
    rw [pi_X6_fillTurns_18] at hp
    simp only [iw_x3_X6_fillTurns_18, iw_h_X6_fillTurns_18] at k
    refine vc_X6_fillTurns_18 (d := d + 3) ht1 hk1 ?_
    refine ⟨fun c => ?_, fun c => ?_⟩
    · replace hp := hp.1 c
      try simp only [if_pos c] at k
      exact k
    · replace hp := hp.2 c
      try simp only [if_neg c] at k
      refine ⟨hp.1, ?_⟩
      replace hp := hp.2
      refine c_X6_isServedBefore  hp.1 ?_
      replace hp := hp.2
      refine ⟨fun c => ?_, fun c => ?_⟩
      · replace hp := hp.1 c
        try simp only [if_pos c] at k
        exact k
      · replace hp := hp.2 c
        try simp only [if_neg c] at k
        refine ⟨hp.1, ?_⟩
        replace hp := hp.2
        refine ⟨hp.1, ?_⟩
        replace hp := hp.2
        exact ih _ _ _ _ hp k
def pw_X6_fillTurns_2 : Nat → Hp → Nat → Nat → Nat → Nat → Int32 → Prop
  | 0, _, _, _, _, _, _ => False
  | n + 1, h, i0, t1, i1, n1, x2 => (((h.1 6 i0 0) ≤ x2) → True) ∧ ((¬ (h.1 6 i0 0) ≤ x2) → ((((Int32.ofNat n1) ≤ x2) → True) ∧ ((¬ (Int32.ofNat n1) ≤ x2) → (pi_X6_fillTurns_18 oa_N h i0 t1 i1 n1 x2 x2 ∧ ((vp_in (iw_x3_X6_fillTurns_18 oa_N h i0 t1 i1 n1 x2 x2) n1) ∧ (pw_X6_fillTurns_2 n (hp_i (iw_h_X6_fillTurns_18 oa_N h i0 t1 i1 n1 x2 x2) t1 i1 (iw_x3_X6_fillTurns_18 oa_N h i0 t1 i1 n1 x2 x2).toNatClampNeg x2) i0 t1 i1 n1 (x2 + 1)))))))
def gw_X6_fillTurns_2 : Nat → Hp → Nat → Nat → Nat → Nat → Int32 → Hp
  | 0, h, _, _, _, _, _ => h
  | n + 1, h, i0, t1, i1, n1, x2 => if (h.1 6 i0 0) ≤ x2 then h else (if (Int32.ofNat n1) ≤ x2 then h else (gw_X6_fillTurns_2 n (hp_i (iw_h_X6_fillTurns_18 oa_N h i0 t1 i1 n1 x2 x2) t1 i1 (iw_x3_X6_fillTurns_18 oa_N h i0 t1 i1 n1 x2 x2).toNatClampNeg x2) i0 t1 i1 n1 (x2 + 1)))
set_option maxHeartbeats 4000000 in
theorem lw_X6_fillTurns_2 {X : WD → State → Prop} {d rb : Nat} {Qr : Option AV → Hp → Prop} {Qx : String → Hp → Prop} {t1 i1 n1 : Nat} {f1 : List (Nat × Nat)} (ht1 : t1 < oa_nT) (hk1 : oa_kd t1 = (1, n1, f1)) : ∀ (n : Nat) (h : Hp) (i0 : Nat) (x2 : Int32), pw_X6_fillTurns_2 n h i0 t1 i1 n1 x2 → Qr none (gw_X6_fillTurns_2 n h i0 t1 i1 n1 x2) → AW X (d + 4) rb mX6_fillTurns 2 [(0, vR 6 i0), (1, vR t1 i1), (2, vI x2)] [] h Qr Qx := by
  intro n
  induction n with
  | zero => intro h i0 x2 hp; exact hp.elim
  | succ n ih =>
    intro h i0 x2 hp k
    rw [pw_X6_fillTurns_2] at hp
    rw [gw_X6_fillTurns_2] at k
    refine vc_X6_fillTurns_2 (d := d + 3) ht1 hk1 ?_
    refine ⟨fun c => ?_, fun c => ?_⟩
    · replace hp := hp.1 c
      try simp only [if_pos c] at k
      exact k
    · replace hp := hp.2 c
      try simp only [if_neg c] at k
      refine ⟨fun c => ?_, fun c => ?_⟩
      · replace hp := hp.1 c
        try simp only [if_pos c] at k
        exact k
      · replace hp := hp.2 c
        try simp only [if_neg c] at k
        refine li_X6_fillTurns_18 ht1 hk1 _ _ _ _ _ hp.1 ?_
        replace hp := hp.2
        refine vc_X6_fillTurns_49 (d := d + 3) ht1 hk1 ?_
        refine ⟨hp.1, ?_⟩
        replace hp := hp.2
        exact ih _ _ _ hp k
def p_X6_fillTurns (h : Hp) (i0 : Nat) (t1 : Nat) (i1 : Nat) (n1 : Nat) : Prop := pw_X6_fillTurns_2 oa_N h i0 t1 i1 n1 0
def g_X6_fillTurns (h : Hp) (i0 : Nat) (t1 : Nat) (i1 : Nat) (n1 : Nat) : Hp := gw_X6_fillTurns_2 oa_N h i0 t1 i1 n1 0
set_option maxHeartbeats 4000000 in
theorem c_X6_fillTurns {d : Nat} {h : Hp} {P : Hp → Prop} {Qx : String → Hp → Prop} {i0 : Nat} {t1 i1 n1 : Nat} {f1 : List (Nat × Nat)} (ht1 : t1 < oa_nT) (hk1 : oa_kd t1 = (1, n1, f1)) (hp : p_X6_fillTurns h i0 t1 i1 n1) (k : P  (g_X6_fillTurns h i0 t1 i1 n1)) : CL 0 (d + 4) mX6_fillTurns [vR 6 i0, vR t1 i1] h (oV P) Qx := by
  replace k : oV P none (g_X6_fillTurns h i0 t1 i1 n1) := k
  unfold p_X6_fillTurns at hp
  unfold g_X6_fillTurns at k
  refine CL.ofF (plainFor_of_name rfl) rfl (Nat.le_of_ble_eq_true rfl) (vc_X6_fillTurns_0 (d := d + 3) ht1 hk1 ?_)
  exact lw_X6_fillTurns_2 ht1 hk1 _ _ _ _ hp k
def pw_X6_firstToLose_5 : Nat → Hp → Nat → Nat → Int32 → Int32 → Int32 → Prop
  | 0, _, _, _, _, _, _ => False
  | n + 1, h, i0, i1, x2, x3, x4 => (((h.1 6 i0 0) ≤ x4) → True) ∧ ((¬ (h.1 6 i0 0) ≤ x4) → (p_X6_reservedOf h i0 x4 ∧ ((((f_X6_reservedOf h i0 x4) ≤ 0) → (pw_X6_firstToLose_5 n h i0 i1 x2 x3 (x4 + 1))) ∧ ((¬ (f_X6_reservedOf h i0 x4) ≤ 0) → (p_X6_productOf h i0 x4 ∧ (p_X1_needOf h i1 (f_X6_productOf h i0 x4) x2 ∧ ((((if (f_X1_needOf h i1 (f_X6_productOf h i0 x4) x2) ≤ 0 then (0 : Int32) else 1) = 0) → (pw_X6_firstToLose_5 n h i0 i1 x2 x3 (x4 + 1))) ∧ ((¬ (if (f_X1_needOf h i1 (f_X6_productOf h i0 x4) x2) ≤ 0 then (0 : Int32) else 1) = 0) → (((x3 = (-1)) → (pw_X6_firstToLose_5 n h i0 i1 x2 x4 (x4 + 1))) ∧ ((¬ x3 = (-1)) → (p_X6_losesBefore h i0 x4 x3 ∧ ((((f_X6_losesBefore h i0 x4 x3) = 0) → (pw_X6_firstToLose_5 n h i0 i1 x2 x3 (x4 + 1))) ∧ ((¬ (f_X6_losesBefore h i0 x4 x3) = 0) → (pw_X6_firstToLose_5 n h i0 i1 x2 x4 (x4 + 1)))))))))))))))
def fw_X6_firstToLose_5 : Nat → Hp → Nat → Nat → Int32 → Int32 → Int32 → Int32
  | 0, _, _, _, _, _, _ => 0
  | n + 1, h, i0, i1, x2, x3, x4 => if (h.1 6 i0 0) ≤ x4 then x3 else (if (f_X6_reservedOf h i0 x4) ≤ 0 then (fw_X6_firstToLose_5 n h i0 i1 x2 x3 (x4 + 1)) else (if (if (f_X1_needOf h i1 (f_X6_productOf h i0 x4) x2) ≤ 0 then (0 : Int32) else 1) = 0 then (fw_X6_firstToLose_5 n h i0 i1 x2 x3 (x4 + 1)) else (if x3 = (-1) then (fw_X6_firstToLose_5 n h i0 i1 x2 x4 (x4 + 1)) else (if (f_X6_losesBefore h i0 x4 x3) = 0 then (fw_X6_firstToLose_5 n h i0 i1 x2 x3 (x4 + 1)) else (fw_X6_firstToLose_5 n h i0 i1 x2 x4 (x4 + 1))))))
set_option maxHeartbeats 4000000 in
theorem lw_X6_firstToLose_5 {X : WD → State → Prop} {d rb : Nat} {Qr : Option AV → Hp → Prop} {Qx : String → Hp → Prop}   : ∀ (n : Nat) (h : Hp) (i0 : Nat) (i1 : Nat) (x2 : Int32) (x3 : Int32) (x4 : Int32), pw_X6_firstToLose_5 n h i0 i1 x2 x3 x4 → Qr (some (vI (fw_X6_firstToLose_5 n h i0 i1 x2 x3 x4))) h → AW X (d + 4) rb mX6_firstToLose 5 [(0, vR 6 i0), (1, vR 1 i1), (2, vI x2), (3, vI x3), (4, vI x4)] [] h Qr Qx := by
  intro n
  induction n with
  | zero => intro h i0 i1 x2 x3 x4 hp; exact hp.elim
  | succ n ih =>
    intro h i0 i1 x2 x3 x4 hp k
    rw [pw_X6_firstToLose_5] at hp
    rw [fw_X6_firstToLose_5] at k
    refine vc_X6_firstToLose_5 (d := d + 3)  ?_
    refine ⟨fun c => ?_, fun c => ?_⟩
    · replace hp := hp.1 c
      try simp only [if_pos c] at k
      exact k
    · replace hp := hp.2 c
      try simp only [if_neg c] at k
      refine c_X6_reservedOf  hp.1 ?_
      replace hp := hp.2
      refine ⟨fun c => ?_, fun c => ?_⟩
      · replace hp := hp.1 c
        try simp only [if_pos c] at k
        exact ih _ _ _ _ _ _ hp k
      · replace hp := hp.2 c
        try simp only [if_neg c] at k
        refine c_X6_productOf  hp.1 ?_
        replace hp := hp.2
        refine c_X1_needOf  hp.1 ?_
        replace hp := hp.2
        refine ⟨fun c => ?_, fun c => ?_⟩
        · replace hp := hp.1 c
          try simp only [if_pos c] at k
          exact ih _ _ _ _ _ _ hp k
        · replace hp := hp.2 c
          try simp only [if_neg c] at k
          refine ⟨fun c => ?_, fun c => ?_⟩
          · replace hp := hp.1 c
            try simp only [if_pos c] at k
            exact ih _ _ _ _ _ _ hp k
          · replace hp := hp.2 c
            try simp only [if_neg c] at k
            refine c_X6_losesBefore  hp.1 ?_
            replace hp := hp.2
            refine ⟨fun c => ?_, fun c => ?_⟩
            · replace hp := hp.1 c
              try simp only [if_pos c] at k
              exact ih _ _ _ _ _ _ hp k
            · replace hp := hp.2 c
              try simp only [if_neg c] at k
              exact ih _ _ _ _ _ _ hp k
def p_X6_firstToLose (h : Hp) (i0 : Nat) (i1 : Nat) (a2 : Int32) : Prop := pw_X6_firstToLose_5 oa_N h i0 i1 a2 (-1) 0
def f_X6_firstToLose (h : Hp) (i0 : Nat) (i1 : Nat) (a2 : Int32) : Int32 := fw_X6_firstToLose_5 oa_N h i0 i1 a2 (-1) 0
set_option maxHeartbeats 4000000 in
theorem c_X6_firstToLose {d : Nat} {h : Hp} {P : Int32 → Hp → Prop} {Qx : String → Hp → Prop} {i0 : Nat} {i1 : Nat} {a2 : Int32}  (hp : p_X6_firstToLose h i0 i1 a2) (k : P (f_X6_firstToLose h i0 i1 a2) h) : CL 0 (d + 4) mX6_firstToLose [vR 6 i0, vR 1 i1, vI a2] h (oI P) Qx := by
  replace k : oI P (some (vI (f_X6_firstToLose h i0 i1 a2))) h := k
  unfold p_X6_firstToLose at hp
  unfold f_X6_firstToLose at k
  refine CL.ofF (plainFor_of_name rfl) rfl (Nat.le_of_ble_eq_true rfl) (vc_X6_firstToLose_0 (d := d + 3)  ?_)
  exact lw_X6_firstToLose_5  _ _ _ _ _ _ _ hp k
def p_X7_readSemicolon (h : Hp)  : Prop := p_X9_isSemicolon h ∧ (((¬ (f_X9_isSemicolon h) = 0) → (p_X9_step h ∧ True)) ∧ (((f_X9_isSemicolon h) = 0) → (p_X7_fail h 1 ∧ (((f_X7_fail h 1) = 0 ∨ (f_X7_fail h 1) = 1) ∧ True))))
def f_X7_readSemicolon (h : Hp)  : Int32 := if ¬ (f_X9_isSemicolon h) = 0 then 1 else (f_X7_fail h 1)
def g_X7_readSemicolon (h : Hp)  : Hp := if ¬ (f_X9_isSemicolon h) = 0 then (g_X9_step h) else (g_X7_fail h 1)
set_option maxHeartbeats 4000000 in
theorem c_X7_readSemicolon {d : Nat} {h : Hp} {P : Int32 → Hp → Prop} {Qx : String → Hp → Prop}   (hp : p_X7_readSemicolon h ) (k : P (f_X7_readSemicolon h ) (g_X7_readSemicolon h )) : CL 0 (d + 3) mX7_readSemicolon [vR 7 0] h (oI P) Qx := by
  replace k : oI P (some (vI (f_X7_readSemicolon h ))) (g_X7_readSemicolon h ) := k
  unfold p_X7_readSemicolon at hp
  unfold f_X7_readSemicolon at k
  unfold g_X7_readSemicolon at k
  refine CL.ofF (plainFor_of_name rfl) rfl (Nat.le_of_ble_eq_true rfl) (vc_X7_readSemicolon_0 (d := d + 2)  ?_)
  refine c_X9_isSemicolon  hp.1 ?_
  replace hp := hp.2
  refine ⟨fun c => ?_, fun c => ?_⟩
  · replace hp := hp.1 c
    try simp only [if_pos c] at k
    refine c_X9_step  hp.1 ?_
    replace hp := hp.2
    exact k
  · replace hp := hp.2 c
    try simp only [if_neg (oa_nn c)] at k
    refine c_X7_fail  hp.1 ?_
    replace hp := hp.2
    refine ⟨hp.1, ?_⟩
    replace hp := hp.2
    exact k
def p_X7_readNumber (h : Hp) (a1 : Int32) (a2 : Int32) : Prop := (((h.1 9 0 0) = 2) → (p_X9_value h ∧ ((((f_X9_value h) < a1) → (p_X7_fail h 2 ∧ True)) ∧ ((¬ (f_X9_value h) < a1) → ((((f_X9_value h) ≤ a2) → (p_X9_step h ∧ True)) ∧ ((¬ (f_X9_value h) ≤ a2) → (p_X7_fail h 2 ∧ True))))))) ∧ ((¬ (h.1 9 0 0) = 2) → (p_X7_fail h 1 ∧ True))
def f_X7_readNumber (h : Hp) (a1 : Int32) (a2 : Int32) : Int32 := if (h.1 9 0 0) = 2 then (if (f_X9_value h) < a1 then (-1) else (if (f_X9_value h) ≤ a2 then (f_X9_value h) else (-1))) else (-1)
def g_X7_readNumber (h : Hp) (a1 : Int32) (a2 : Int32) : Hp := if (h.1 9 0 0) = 2 then (if (f_X9_value h) < a1 then (g_X7_fail h 2) else (if (f_X9_value h) ≤ a2 then (g_X9_step h) else (g_X7_fail h 2))) else (g_X7_fail h 1)
set_option maxHeartbeats 4000000 in
theorem c_X7_readNumber {d : Nat} {h : Hp} {P : Int32 → Hp → Prop} {Qx : String → Hp → Prop} {a1 : Int32} {a2 : Int32}  (hp : p_X7_readNumber h a1 a2) (k : P (f_X7_readNumber h a1 a2) (g_X7_readNumber h a1 a2)) : CL 0 (d + 3) mX7_readNumber [vR 7 0, vI a1, vI a2] h (oI P) Qx := by
  replace k : oI P (some (vI (f_X7_readNumber h a1 a2))) (g_X7_readNumber h a1 a2) := k
  unfold p_X7_readNumber at hp
  unfold f_X7_readNumber at k
  unfold g_X7_readNumber at k
  refine CL.ofF (plainFor_of_name rfl) rfl (Nat.le_of_ble_eq_true rfl) (vc_X7_readNumber_0 (d := d + 2)  ?_)
  refine ⟨fun c => ?_, fun c => ?_⟩
  · replace hp := hp.1 c
    try simp only [if_pos c] at k
    refine c_X9_value  hp.1 ?_
    replace hp := hp.2
    refine ⟨fun c => ?_, fun c => ?_⟩
    · replace hp := hp.1 c
      try simp only [if_pos c] at k
      refine c_X7_fail  hp.1 ?_
      replace hp := hp.2
      exact k
    · replace hp := hp.2 c
      try simp only [if_neg c] at k
      refine ⟨fun c => ?_, fun c => ?_⟩
      · replace hp := hp.1 c
        try simp only [if_pos c] at k
        refine c_X9_step  hp.1 ?_
        replace hp := hp.2
        exact k
      · replace hp := hp.2 c
        try simp only [if_neg c] at k
        refine c_X7_fail  hp.1 ?_
        replace hp := hp.2
        exact k
  · replace hp := hp.2 c
    try simp only [if_neg c] at k
    refine c_X7_fail  hp.1 ?_
    replace hp := hp.2
    exact k
def p_X9_restart (h : Hp)  : Prop := p_X9_step (hp_i h 9 0 3 0) ∧ True
def g_X9_restart (h : Hp)  : Hp := (g_X9_step (hp_i h 9 0 3 0))
set_option maxHeartbeats 4000000 in
theorem c_X9_restart {d : Nat} {h : Hp} {P : Hp → Prop} {Qx : String → Hp → Prop}   (hp : p_X9_restart h ) (k : P  (g_X9_restart h )) : CL 0 (d + 3) mX9_restart [vR 9 0] h (oV P) Qx := by
  replace k : oV P none (g_X9_restart h ) := k
  unfold p_X9_restart at hp
  unfold g_X9_restart at k
  refine CL.ofF (plainFor_of_name rfl) rfl (Nat.le_of_ble_eq_true rfl) (vc_X9_restart_0 (d := d + 2)  ?_)
  refine c_X9_step  hp.1 ?_
  replace hp := hp.2
  exact k
def p_X11_lineCount (h : Hp) (a1 : Int32) : Prop := p_X11_checkProduct h a1 ∧ (x_X11_checkProduct h a1 = 0 → (p_X1_linesOf h (h.2.2 11 0 6) a1 ∧ True))
def f_X11_lineCount (h : Hp) (a1 : Int32) : Int32 := if x_X11_checkProduct h a1 = 0 then (f_X1_linesOf h (h.2.2 11 0 6) a1) else 0
def x_X11_lineCount (h : Hp) (a1 : Int32) : Nat := if x_X11_checkProduct h a1 = 0 then 0 else x_X11_checkProduct h a1
set_option maxHeartbeats 4000000 in
theorem c_X11_lineCount {d : Nat} {h : Hp} {P : Int32 → Hp → Prop} {Qx : String → Hp → Prop} {a1 : Int32}  (hp : p_X11_lineCount h a1) (hx : x_X11_lineCount h a1 = 0) (k : P (f_X11_lineCount h a1) h) : CL 0 (d + 7) mX11_lineCount [vR 11 0, vI a1] h (oI P) Qx := by
  replace k : oI P (some (vI (f_X11_lineCount h a1))) h := k
  unfold p_X11_lineCount at hp
  unfold f_X11_lineCount at k
  unfold x_X11_lineCount at hx
  refine CL.ofF (plainFor_of_name rfl) rfl (Nat.le_of_ble_eq_true rfl) (vc_X11_lineCount_0 (d := d + 6)  ?_)
  by_cases hc : x_X11_checkProduct h a1 = 0
  · refine Or.inl (c_X11_checkProduct  hp.1 hc ?_)
    replace hp := hp.2 hc
    try simp only [if_pos hc] at k
    try simp only [if_pos hc] at hx
    refine c_X1_linesOf  hp.1 ?_
    replace hp := hp.2
    exact k
  · simp only [if_neg hc] at hx
    exact absurd hx hc
set_option maxHeartbeats 4000000 in
theorem t_X11_lineCount {d : Nat} {h : Hp} {Qx : String → Hp → Prop} {a1 : Int32}  (hp : p_X11_lineCount h a1) (hx : ¬ x_X11_lineCount h a1 = 0) (k : Qx (oa_ex (x_X11_lineCount h a1)) h) : CL 1 (d + 7) mX11_lineCount [vR 11 0, vI a1] h (fun _ _ => False) Qx := by
  unfold p_X11_lineCount at hp
  unfold x_X11_lineCount at hx
  unfold x_X11_lineCount at k
  refine CL.ofF (plainFor_of_name rfl) rfl (Nat.le_of_ble_eq_true rfl) (vc_X11_lineCount_0 (d := d + 6)  ?_)
  by_cases hc : x_X11_checkProduct h a1 = 0
  · refine Or.inl (c_X11_checkProduct  hp.1 hc ?_)
    replace hp := hp.2 hc
    try simp only [if_pos hc] at k
    try simp only [if_pos hc] at hx
    refine c_X1_linesOf  hp.1 ?_
    replace hp := hp.2
    exact (hx (by first | rfl | trivial)).elim
  · try simp only [if_neg hc] at k
    exact Or.inr (t_X11_checkProduct  hp.1 hc k)
def p_X11_lineItem (h : Hp) (a1 : Int32) (a2 : Int32) : Prop := p_X11_checkProduct h a1 ∧ (x_X11_checkProduct h a1 = 0 → (p_X1_itemOf h (h.2.2 11 0 6) a1 a2 ∧ True))
def f_X11_lineItem (h : Hp) (a1 : Int32) (a2 : Int32) : Int32 := if x_X11_checkProduct h a1 = 0 then (f_X1_itemOf h (h.2.2 11 0 6) a1 a2) else 0
def x_X11_lineItem (h : Hp) (a1 : Int32) (a2 : Int32) : Nat := if x_X11_checkProduct h a1 = 0 then 0 else x_X11_checkProduct h a1
set_option maxHeartbeats 4000000 in
theorem c_X11_lineItem {d : Nat} {h : Hp} {P : Int32 → Hp → Prop} {Qx : String → Hp → Prop} {a1 : Int32} {a2 : Int32}  (hp : p_X11_lineItem h a1 a2) (hx : x_X11_lineItem h a1 a2 = 0) (k : P (f_X11_lineItem h a1 a2) h) : CL 0 (d + 7) mX11_lineItem [vR 11 0, vI a1, vI a2] h (oI P) Qx := by
  replace k : oI P (some (vI (f_X11_lineItem h a1 a2))) h := k
  unfold p_X11_lineItem at hp
  unfold f_X11_lineItem at k
  unfold x_X11_lineItem at hx
  refine CL.ofF (plainFor_of_name rfl) rfl (Nat.le_of_ble_eq_true rfl) (vc_X11_lineItem_0 (d := d + 6)  ?_)
  by_cases hc : x_X11_checkProduct h a1 = 0
  · refine Or.inl (c_X11_checkProduct  hp.1 hc ?_)
    replace hp := hp.2 hc
    try simp only [if_pos hc] at k
    try simp only [if_pos hc] at hx
    refine c_X1_itemOf  hp.1 ?_
    replace hp := hp.2
    exact k
  · simp only [if_neg hc] at hx
    exact absurd hx hc
set_option maxHeartbeats 4000000 in
theorem t_X11_lineItem {d : Nat} {h : Hp} {Qx : String → Hp → Prop} {a1 : Int32} {a2 : Int32}  (hp : p_X11_lineItem h a1 a2) (hx : ¬ x_X11_lineItem h a1 a2 = 0) (k : Qx (oa_ex (x_X11_lineItem h a1 a2)) h) : CL 1 (d + 7) mX11_lineItem [vR 11 0, vI a1, vI a2] h (fun _ _ => False) Qx := by
  unfold p_X11_lineItem at hp
  unfold x_X11_lineItem at hx
  unfold x_X11_lineItem at k
  refine CL.ofF (plainFor_of_name rfl) rfl (Nat.le_of_ble_eq_true rfl) (vc_X11_lineItem_0 (d := d + 6)  ?_)
  by_cases hc : x_X11_checkProduct h a1 = 0
  · refine Or.inl (c_X11_checkProduct  hp.1 hc ?_)
    replace hp := hp.2 hc
    try simp only [if_pos hc] at k
    try simp only [if_pos hc] at hx
    refine c_X1_itemOf  hp.1 ?_
    replace hp := hp.2
    exact (hx (by first | rfl | trivial)).elim
  · try simp only [if_neg hc] at k
    exact Or.inr (t_X11_checkProduct  hp.1 hc k)
def p_X11_lineQuantity (h : Hp) (a1 : Int32) (a2 : Int32) : Prop := p_X11_checkProduct h a1 ∧ (x_X11_checkProduct h a1 = 0 → (p_X1_quantityOf h (h.2.2 11 0 6) a1 a2 ∧ True))
def f_X11_lineQuantity (h : Hp) (a1 : Int32) (a2 : Int32) : Int32 := if x_X11_checkProduct h a1 = 0 then (f_X1_quantityOf h (h.2.2 11 0 6) a1 a2) else 0
def x_X11_lineQuantity (h : Hp) (a1 : Int32) (a2 : Int32) : Nat := if x_X11_checkProduct h a1 = 0 then 0 else x_X11_checkProduct h a1
set_option maxHeartbeats 4000000 in
theorem c_X11_lineQuantity {d : Nat} {h : Hp} {P : Int32 → Hp → Prop} {Qx : String → Hp → Prop} {a1 : Int32} {a2 : Int32}  (hp : p_X11_lineQuantity h a1 a2) (hx : x_X11_lineQuantity h a1 a2 = 0) (k : P (f_X11_lineQuantity h a1 a2) h) : CL 0 (d + 7) mX11_lineQuantity [vR 11 0, vI a1, vI a2] h (oI P) Qx := by
  replace k : oI P (some (vI (f_X11_lineQuantity h a1 a2))) h := k
  unfold p_X11_lineQuantity at hp
  unfold f_X11_lineQuantity at k
  unfold x_X11_lineQuantity at hx
  refine CL.ofF (plainFor_of_name rfl) rfl (Nat.le_of_ble_eq_true rfl) (vc_X11_lineQuantity_0 (d := d + 6)  ?_)
  by_cases hc : x_X11_checkProduct h a1 = 0
  · refine Or.inl (c_X11_checkProduct  hp.1 hc ?_)
    replace hp := hp.2 hc
    try simp only [if_pos hc] at k
    try simp only [if_pos hc] at hx
    refine c_X1_quantityOf  hp.1 ?_
    replace hp := hp.2
    exact k
  · simp only [if_neg hc] at hx
    exact absurd hx hc
set_option maxHeartbeats 4000000 in
theorem t_X11_lineQuantity {d : Nat} {h : Hp} {Qx : String → Hp → Prop} {a1 : Int32} {a2 : Int32}  (hp : p_X11_lineQuantity h a1 a2) (hx : ¬ x_X11_lineQuantity h a1 a2 = 0) (k : Qx (oa_ex (x_X11_lineQuantity h a1 a2)) h) : CL 1 (d + 7) mX11_lineQuantity [vR 11 0, vI a1, vI a2] h (fun _ _ => False) Qx := by
  unfold p_X11_lineQuantity at hp
  unfold x_X11_lineQuantity at hx
  unfold x_X11_lineQuantity at k
  refine CL.ofF (plainFor_of_name rfl) rfl (Nat.le_of_ble_eq_true rfl) (vc_X11_lineQuantity_0 (d := d + 6)  ?_)
  by_cases hc : x_X11_checkProduct h a1 = 0
  · refine Or.inl (c_X11_checkProduct  hp.1 hc ?_)
    replace hp := hp.2 hc
    try simp only [if_pos hc] at k
    try simp only [if_pos hc] at hx
    refine c_X1_quantityOf  hp.1 ?_
    replace hp := hp.2
    exact (hx (by first | rfl | trivial)).elim
  · try simp only [if_neg hc] at k
    exact Or.inr (t_X11_checkProduct  hp.1 hc k)
def p_X11_need (h : Hp) (a1 : Int32) (a2 : Int32) : Prop := p_X11_checkProduct h a1 ∧ (x_X11_checkProduct h a1 = 0 → (p_X11_checkPart h a2 ∧ (x_X11_checkPart h a2 = 0 → (p_X1_needOf h (h.2.2 11 0 6) a1 a2 ∧ True))))
def f_X11_need (h : Hp) (a1 : Int32) (a2 : Int32) : Int32 := if x_X11_checkProduct h a1 = 0 then (if x_X11_checkPart h a2 = 0 then (f_X1_needOf h (h.2.2 11 0 6) a1 a2) else 0) else 0
def x_X11_need (h : Hp) (a1 : Int32) (a2 : Int32) : Nat := if x_X11_checkProduct h a1 = 0 then (if x_X11_checkPart h a2 = 0 then 0 else x_X11_checkPart h a2) else x_X11_checkProduct h a1
set_option maxHeartbeats 4000000 in
theorem c_X11_need {d : Nat} {h : Hp} {P : Int32 → Hp → Prop} {Qx : String → Hp → Prop} {a1 : Int32} {a2 : Int32}  (hp : p_X11_need h a1 a2) (hx : x_X11_need h a1 a2 = 0) (k : P (f_X11_need h a1 a2) h) : CL 0 (d + 7) mX11_need [vR 11 0, vI a1, vI a2] h (oI P) Qx := by
  replace k : oI P (some (vI (f_X11_need h a1 a2))) h := k
  unfold p_X11_need at hp
  unfold f_X11_need at k
  unfold x_X11_need at hx
  refine CL.ofF (plainFor_of_name rfl) rfl (Nat.le_of_ble_eq_true rfl) (vc_X11_need_0 (d := d + 6)  ?_)
  by_cases hc : x_X11_checkProduct h a1 = 0
  · refine Or.inl (c_X11_checkProduct  hp.1 hc ?_)
    replace hp := hp.2 hc
    try simp only [if_pos hc] at k
    try simp only [if_pos hc] at hx
    by_cases hc : x_X11_checkPart h a2 = 0
    · refine Or.inl (c_X11_checkPart  hp.1 hc ?_)
      replace hp := hp.2 hc
      try simp only [if_pos hc] at k
      try simp only [if_pos hc] at hx
      refine c_X1_needOf  hp.1 ?_
      replace hp := hp.2
      exact k
    · simp only [if_neg hc] at hx
      exact absurd hx hc
  · simp only [if_neg hc] at hx
    exact absurd hx hc
set_option maxHeartbeats 4000000 in
theorem t_X11_need {d : Nat} {h : Hp} {Qx : String → Hp → Prop} {a1 : Int32} {a2 : Int32}  (hp : p_X11_need h a1 a2) (hx : ¬ x_X11_need h a1 a2 = 0) (k : Qx (oa_ex (x_X11_need h a1 a2)) h) : CL 1 (d + 7) mX11_need [vR 11 0, vI a1, vI a2] h (fun _ _ => False) Qx := by
  unfold p_X11_need at hp
  unfold x_X11_need at hx
  unfold x_X11_need at k
  refine CL.ofF (plainFor_of_name rfl) rfl (Nat.le_of_ble_eq_true rfl) (vc_X11_need_0 (d := d + 6)  ?_)
  by_cases hc : x_X11_checkProduct h a1 = 0
  · refine Or.inl (c_X11_checkProduct  hp.1 hc ?_)
    replace hp := hp.2 hc
    try simp only [if_pos hc] at k
    try simp only [if_pos hc] at hx
    by_cases hc : x_X11_checkPart h a2 = 0
    · refine Or.inl (c_X11_checkPart  hp.1 hc ?_)
      replace hp := hp.2 hc
      try simp only [if_pos hc] at k
      try simp only [if_pos hc] at hx
      refine c_X1_needOf  hp.1 ?_
      replace hp := hp.2
      exact (hx (by first | rfl | trivial)).elim
    · try simp only [if_neg hc] at k
      exact Or.inr (t_X11_checkPart  hp.1 hc k)
  · try simp only [if_neg hc] at k
    exact Or.inr (t_X11_checkProduct  hp.1 hc k)
def p_X11_level (h : Hp) (a1 : Int32) : Prop := p_X11_checkProduct h a1 ∧ (x_X11_checkProduct h a1 = 0 → (p_X1_levelOf h (h.2.2 11 0 6) a1 ∧ True))
def f_X11_level (h : Hp) (a1 : Int32) : Int32 := if x_X11_checkProduct h a1 = 0 then (f_X1_levelOf h (h.2.2 11 0 6) a1) else 0
def x_X11_level (h : Hp) (a1 : Int32) : Nat := if x_X11_checkProduct h a1 = 0 then 0 else x_X11_checkProduct h a1
set_option maxHeartbeats 4000000 in
theorem c_X11_level {d : Nat} {h : Hp} {P : Int32 → Hp → Prop} {Qx : String → Hp → Prop} {a1 : Int32}  (hp : p_X11_level h a1) (hx : x_X11_level h a1 = 0) (k : P (f_X11_level h a1) h) : CL 0 (d + 7) mX11_level [vR 11 0, vI a1] h (oI P) Qx := by
  replace k : oI P (some (vI (f_X11_level h a1))) h := k
  unfold p_X11_level at hp
  unfold f_X11_level at k
  unfold x_X11_level at hx
  refine CL.ofF (plainFor_of_name rfl) rfl (Nat.le_of_ble_eq_true rfl) (vc_X11_level_0 (d := d + 6)  ?_)
  by_cases hc : x_X11_checkProduct h a1 = 0
  · refine Or.inl (c_X11_checkProduct  hp.1 hc ?_)
    replace hp := hp.2 hc
    try simp only [if_pos hc] at k
    try simp only [if_pos hc] at hx
    refine c_X1_levelOf  hp.1 ?_
    replace hp := hp.2
    exact k
  · simp only [if_neg hc] at hx
    exact absurd hx hc
set_option maxHeartbeats 4000000 in
theorem t_X11_level {d : Nat} {h : Hp} {Qx : String → Hp → Prop} {a1 : Int32}  (hp : p_X11_level h a1) (hx : ¬ x_X11_level h a1 = 0) (k : Qx (oa_ex (x_X11_level h a1)) h) : CL 1 (d + 7) mX11_level [vR 11 0, vI a1] h (fun _ _ => False) Qx := by
  unfold p_X11_level at hp
  unfold x_X11_level at hx
  unfold x_X11_level at k
  refine CL.ofF (plainFor_of_name rfl) rfl (Nat.le_of_ble_eq_true rfl) (vc_X11_level_0 (d := d + 6)  ?_)
  by_cases hc : x_X11_checkProduct h a1 = 0
  · refine Or.inl (c_X11_checkProduct  hp.1 hc ?_)
    replace hp := hp.2 hc
    try simp only [if_pos hc] at k
    try simp only [if_pos hc] at hx
    refine c_X1_levelOf  hp.1 ?_
    replace hp := hp.2
    exact (hx (by first | rfl | trivial)).elim
  · try simp only [if_neg hc] at k
    exact Or.inr (t_X11_checkProduct  hp.1 hc k)
def pw_X11_pieces_9 : Nat → Hp → Int32 → Int32 → Int32 → Prop
  | 0, _, _, _, _ => False
  | n + 1, h, x1, x2, x3 => (((h.1 1 (h.2.2 11 0 6) 0) ≤ x3) → True) ∧ ((¬ (h.1 1 (h.2.2 11 0 6) 0) ≤ x3) → (p_X1_needOf h (h.2.2 11 0 6) x1 x3 ∧ (pw_X11_pieces_9 n h x1 (x2 + (f_X1_needOf h (h.2.2 11 0 6) x1 x3)) (x3 + 1))))
def fw_X11_pieces_9 : Nat → Hp → Int32 → Int32 → Int32 → Int32
  | 0, _, _, _, _ => 0
  | n + 1, h, x1, x2, x3 => if (h.1 1 (h.2.2 11 0 6) 0) ≤ x3 then x2 else (fw_X11_pieces_9 n h x1 (x2 + (f_X1_needOf h (h.2.2 11 0 6) x1 x3)) (x3 + 1))
set_option maxHeartbeats 4000000 in
theorem lw_X11_pieces_9 {X : WD → State → Prop} {d rb : Nat} {Qr : Option AV → Hp → Prop} {Qx : String → Hp → Prop}   : ∀ (n : Nat) (h : Hp) (x1 : Int32) (x2 : Int32) (x3 : Int32), pw_X11_pieces_9 n h x1 x2 x3 → Qr (some (vI (fw_X11_pieces_9 n h x1 x2 x3))) h → AW X (d + 7) rb mX11_pieces 9 [(0, vR 11 0), (1, vI x1), (2, vI x2), (3, vI x3)] [] h Qr Qx := by
  intro n
  induction n with
  | zero => intro h x1 x2 x3 hp; exact hp.elim
  | succ n ih =>
    intro h x1 x2 x3 hp k
    rw [pw_X11_pieces_9] at hp
    rw [fw_X11_pieces_9] at k
    refine vc_X11_pieces_9 (d := d + 6)  ?_
    refine ⟨fun c => ?_, fun c => ?_⟩
    · replace hp := hp.1 c
      try simp only [if_pos c] at k
      exact k
    · replace hp := hp.2 c
      try simp only [if_neg c] at k
      refine c_X1_needOf  hp.1 ?_
      replace hp := hp.2
      exact ih _ _ _ _ hp k
def p_X11_pieces (h : Hp) (a1 : Int32) : Prop := p_X11_checkProduct h a1 ∧ (x_X11_checkProduct h a1 = 0 → (pw_X11_pieces_9 oa_N h a1 0 0))
def f_X11_pieces (h : Hp) (a1 : Int32) : Int32 := if x_X11_checkProduct h a1 = 0 then (fw_X11_pieces_9 oa_N h a1 0 0) else 0
def x_X11_pieces (h : Hp) (a1 : Int32) : Nat := if x_X11_checkProduct h a1 = 0 then 0 else x_X11_checkProduct h a1
set_option maxHeartbeats 4000000 in
theorem c_X11_pieces {d : Nat} {h : Hp} {P : Int32 → Hp → Prop} {Qx : String → Hp → Prop} {a1 : Int32}  (hp : p_X11_pieces h a1) (hx : x_X11_pieces h a1 = 0) (k : P (f_X11_pieces h a1) h) : CL 0 (d + 7) mX11_pieces [vR 11 0, vI a1] h (oI P) Qx := by
  replace k : oI P (some (vI (f_X11_pieces h a1))) h := k
  unfold p_X11_pieces at hp
  unfold f_X11_pieces at k
  unfold x_X11_pieces at hx
  refine CL.ofF (plainFor_of_name rfl) rfl (Nat.le_of_ble_eq_true rfl) (vc_X11_pieces_0 (d := d + 6)  ?_)
  by_cases hc : x_X11_checkProduct h a1 = 0
  · refine Or.inl (c_X11_checkProduct  hp.1 hc ?_)
    replace hp := hp.2 hc
    try simp only [if_pos hc] at k
    try simp only [if_pos hc] at hx
    exact lw_X11_pieces_9  _ _ _ _ _ hp k
  · simp only [if_neg hc] at hx
    exact absurd hx hc
set_option maxHeartbeats 4000000 in
theorem t_X11_pieces {d : Nat} {h : Hp} {Qx : String → Hp → Prop} {a1 : Int32}  (hp : p_X11_pieces h a1) (hx : ¬ x_X11_pieces h a1 = 0) (k : Qx (oa_ex (x_X11_pieces h a1)) h) : CL 1 (d + 7) mX11_pieces [vR 11 0, vI a1] h (fun _ _ => False) Qx := by
  unfold p_X11_pieces at hp
  unfold x_X11_pieces at hx
  unfold x_X11_pieces at k
  refine CL.ofF (plainFor_of_name rfl) rfl (Nat.le_of_ble_eq_true rfl) (vc_X11_pieces_0 (d := d + 6)  ?_)
  by_cases hc : x_X11_checkProduct h a1 = 0
  · refine Or.inl (c_X11_checkProduct  hp.1 hc ?_)
    replace hp := hp.2 hc
    try simp only [if_pos hc] at k
    try simp only [if_pos hc] at hx
    exact (hx (by first | rfl | trivial)).elim
  · try simp only [if_neg hc] at k
    exact Or.inr (t_X11_checkProduct  hp.1 hc k)
def pw_X11_usedBy_9 : Nat → Hp → Int32 → Int32 → Int32 → Prop
  | 0, _, _, _, _ => False
  | n + 1, h, x1, x2, x3 => (((h.1 1 (h.2.2 11 0 6) 1) ≤ x3) → True) ∧ ((¬ (h.1 1 (h.2.2 11 0 6) 1) ≤ x3) → (p_X1_needOf h (h.2.2 11 0 6) x3 x1 ∧ ((((f_X1_needOf h (h.2.2 11 0 6) x3 x1) ≤ 0) → (pw_X11_usedBy_9 n h x1 x2 (x3 + 1))) ∧ ((¬ (f_X1_needOf h (h.2.2 11 0 6) x3 x1) ≤ 0) → (pw_X11_usedBy_9 n h x1 (x2 ||| (1 <<< (x3 &&& 31))) (x3 + 1))))))
def fw_X11_usedBy_9 : Nat → Hp → Int32 → Int32 → Int32 → Int32
  | 0, _, _, _, _ => 0
  | n + 1, h, x1, x2, x3 => if (h.1 1 (h.2.2 11 0 6) 1) ≤ x3 then x2 else (if (f_X1_needOf h (h.2.2 11 0 6) x3 x1) ≤ 0 then (fw_X11_usedBy_9 n h x1 x2 (x3 + 1)) else (fw_X11_usedBy_9 n h x1 (x2 ||| (1 <<< (x3 &&& 31))) (x3 + 1)))
set_option maxHeartbeats 4000000 in
theorem lw_X11_usedBy_9 {X : WD → State → Prop} {d rb : Nat} {Qr : Option AV → Hp → Prop} {Qx : String → Hp → Prop}   : ∀ (n : Nat) (h : Hp) (x1 : Int32) (x2 : Int32) (x3 : Int32), pw_X11_usedBy_9 n h x1 x2 x3 → Qr (some (vI (fw_X11_usedBy_9 n h x1 x2 x3))) h → AW X (d + 7) rb mX11_usedBy 9 [(0, vR 11 0), (1, vI x1), (2, vI x2), (3, vI x3)] [] h Qr Qx := by
  intro n
  induction n with
  | zero => intro h x1 x2 x3 hp; exact hp.elim
  | succ n ih =>
    intro h x1 x2 x3 hp k
    rw [pw_X11_usedBy_9] at hp
    rw [fw_X11_usedBy_9] at k
    refine vc_X11_usedBy_9 (d := d + 6)  ?_
    refine ⟨fun c => ?_, fun c => ?_⟩
    · replace hp := hp.1 c
      try simp only [if_pos c] at k
      exact k
    · replace hp := hp.2 c
      try simp only [if_neg c] at k
      refine c_X1_needOf  hp.1 ?_
      replace hp := hp.2
      refine ⟨fun c => ?_, fun c => ?_⟩
      · replace hp := hp.1 c
        try simp only [if_pos c] at k
        exact ih _ _ _ _ hp k
      · replace hp := hp.2 c
        try simp only [if_neg c] at k
        exact ih _ _ _ _ hp k
def p_X11_usedBy (h : Hp) (a1 : Int32) : Prop := p_X11_checkPart h a1 ∧ (x_X11_checkPart h a1 = 0 → (pw_X11_usedBy_9 oa_N h a1 0 0))
def f_X11_usedBy (h : Hp) (a1 : Int32) : Int32 := if x_X11_checkPart h a1 = 0 then (fw_X11_usedBy_9 oa_N h a1 0 0) else 0
def x_X11_usedBy (h : Hp) (a1 : Int32) : Nat := if x_X11_checkPart h a1 = 0 then 0 else x_X11_checkPart h a1
set_option maxHeartbeats 4000000 in
theorem c_X11_usedBy {d : Nat} {h : Hp} {P : Int32 → Hp → Prop} {Qx : String → Hp → Prop} {a1 : Int32}  (hp : p_X11_usedBy h a1) (hx : x_X11_usedBy h a1 = 0) (k : P (f_X11_usedBy h a1) h) : CL 0 (d + 7) mX11_usedBy [vR 11 0, vI a1] h (oI P) Qx := by
  replace k : oI P (some (vI (f_X11_usedBy h a1))) h := k
  unfold p_X11_usedBy at hp
  unfold f_X11_usedBy at k
  unfold x_X11_usedBy at hx
  refine CL.ofF (plainFor_of_name rfl) rfl (Nat.le_of_ble_eq_true rfl) (vc_X11_usedBy_0 (d := d + 6)  ?_)
  by_cases hc : x_X11_checkPart h a1 = 0
  · refine Or.inl (c_X11_checkPart  hp.1 hc ?_)
    replace hp := hp.2 hc
    try simp only [if_pos hc] at k
    try simp only [if_pos hc] at hx
    exact lw_X11_usedBy_9  _ _ _ _ _ hp k
  · simp only [if_neg hc] at hx
    exact absurd hx hc
set_option maxHeartbeats 4000000 in
theorem t_X11_usedBy {d : Nat} {h : Hp} {Qx : String → Hp → Prop} {a1 : Int32}  (hp : p_X11_usedBy h a1) (hx : ¬ x_X11_usedBy h a1 = 0) (k : Qx (oa_ex (x_X11_usedBy h a1)) h) : CL 1 (d + 7) mX11_usedBy [vR 11 0, vI a1] h (fun _ _ => False) Qx := by
  unfold p_X11_usedBy at hp
  unfold x_X11_usedBy at hx
  unfold x_X11_usedBy at k
  refine CL.ofF (plainFor_of_name rfl) rfl (Nat.le_of_ble_eq_true rfl) (vc_X11_usedBy_0 (d := d + 6)  ?_)
  by_cases hc : x_X11_checkPart h a1 = 0
  · refine Or.inl (c_X11_checkPart  hp.1 hc ?_)
    replace hp := hp.2 hc
    try simp only [if_pos hc] at k
    try simp only [if_pos hc] at hx
    exact (hx (by first | rfl | trivial)).elim
  · try simp only [if_neg hc] at k
    exact Or.inr (t_X11_checkPart  hp.1 hc k)
def pw_X11_commonParts_15 : Nat → Hp → Int32 → Int32 → Int32 → Int32 → Prop
  | 0, _, _, _, _, _ => False
  | n + 1, h, x1, x2, x3, x4 => (((h.1 1 (h.2.2 11 0 6) 0) ≤ x4) → True) ∧ ((¬ (h.1 1 (h.2.2 11 0 6) 0) ≤ x4) → (p_X1_needOf h (h.2.2 11 0 6) x1 x4 ∧ ((((f_X1_needOf h (h.2.2 11 0 6) x1 x4) ≤ 0) → (pw_X11_commonParts_15 n h x1 x2 x3 (x4 + 1))) ∧ ((¬ (f_X1_needOf h (h.2.2 11 0 6) x1 x4) ≤ 0) → (p_X1_needOf h (h.2.2 11 0 6) x2 x4 ∧ ((((f_X1_needOf h (h.2.2 11 0 6) x2 x4) ≤ 0) → (pw_X11_commonParts_15 n h x1 x2 x3 (x4 + 1))) ∧ ((¬ (f_X1_needOf h (h.2.2 11 0 6) x2 x4) ≤ 0) → (pw_X11_commonParts_15 n h x1 x2 (x3 ||| (1 <<< (x4 &&& 31))) (x4 + 1)))))))))
def fw_X11_commonParts_15 : Nat → Hp → Int32 → Int32 → Int32 → Int32 → Int32
  | 0, _, _, _, _, _ => 0
  | n + 1, h, x1, x2, x3, x4 => if (h.1 1 (h.2.2 11 0 6) 0) ≤ x4 then x3 else (if (f_X1_needOf h (h.2.2 11 0 6) x1 x4) ≤ 0 then (fw_X11_commonParts_15 n h x1 x2 x3 (x4 + 1)) else (if (f_X1_needOf h (h.2.2 11 0 6) x2 x4) ≤ 0 then (fw_X11_commonParts_15 n h x1 x2 x3 (x4 + 1)) else (fw_X11_commonParts_15 n h x1 x2 (x3 ||| (1 <<< (x4 &&& 31))) (x4 + 1))))
set_option maxHeartbeats 4000000 in
theorem lw_X11_commonParts_15 {X : WD → State → Prop} {d rb : Nat} {Qr : Option AV → Hp → Prop} {Qx : String → Hp → Prop}   : ∀ (n : Nat) (h : Hp) (x1 : Int32) (x2 : Int32) (x3 : Int32) (x4 : Int32), pw_X11_commonParts_15 n h x1 x2 x3 x4 → Qr (some (vI (fw_X11_commonParts_15 n h x1 x2 x3 x4))) h → AW X (d + 7) rb mX11_commonParts 15 [(0, vR 11 0), (1, vI x1), (2, vI x2), (3, vI x3), (4, vI x4)] [] h Qr Qx := by
  intro n
  induction n with
  | zero => intro h x1 x2 x3 x4 hp; exact hp.elim
  | succ n ih =>
    intro h x1 x2 x3 x4 hp k
    rw [pw_X11_commonParts_15] at hp
    rw [fw_X11_commonParts_15] at k
    refine vc_X11_commonParts_15 (d := d + 6)  ?_
    refine ⟨fun c => ?_, fun c => ?_⟩
    · replace hp := hp.1 c
      try simp only [if_pos c] at k
      exact k
    · replace hp := hp.2 c
      try simp only [if_neg c] at k
      refine c_X1_needOf  hp.1 ?_
      replace hp := hp.2
      refine ⟨fun c => ?_, fun c => ?_⟩
      · replace hp := hp.1 c
        try simp only [if_pos c] at k
        exact ih _ _ _ _ _ hp k
      · replace hp := hp.2 c
        try simp only [if_neg c] at k
        refine c_X1_needOf  hp.1 ?_
        replace hp := hp.2
        refine ⟨fun c => ?_, fun c => ?_⟩
        · replace hp := hp.1 c
          try simp only [if_pos c] at k
          exact ih _ _ _ _ _ hp k
        · replace hp := hp.2 c
          try simp only [if_neg c] at k
          exact ih _ _ _ _ _ hp k
def p_X11_commonParts (h : Hp) (a1 : Int32) (a2 : Int32) : Prop := p_X11_checkProduct h a1 ∧ (x_X11_checkProduct h a1 = 0 → (p_X11_checkProduct h a2 ∧ (x_X11_checkProduct h a2 = 0 → (pw_X11_commonParts_15 oa_N h a1 a2 0 0))))
def f_X11_commonParts (h : Hp) (a1 : Int32) (a2 : Int32) : Int32 := if x_X11_checkProduct h a1 = 0 then (if x_X11_checkProduct h a2 = 0 then (fw_X11_commonParts_15 oa_N h a1 a2 0 0) else 0) else 0
def x_X11_commonParts (h : Hp) (a1 : Int32) (a2 : Int32) : Nat := if x_X11_checkProduct h a1 = 0 then (if x_X11_checkProduct h a2 = 0 then 0 else x_X11_checkProduct h a2) else x_X11_checkProduct h a1
set_option maxHeartbeats 4000000 in
theorem c_X11_commonParts {d : Nat} {h : Hp} {P : Int32 → Hp → Prop} {Qx : String → Hp → Prop} {a1 : Int32} {a2 : Int32}  (hp : p_X11_commonParts h a1 a2) (hx : x_X11_commonParts h a1 a2 = 0) (k : P (f_X11_commonParts h a1 a2) h) : CL 0 (d + 7) mX11_commonParts [vR 11 0, vI a1, vI a2] h (oI P) Qx := by
  replace k : oI P (some (vI (f_X11_commonParts h a1 a2))) h := k
  unfold p_X11_commonParts at hp
  unfold f_X11_commonParts at k
  unfold x_X11_commonParts at hx
  refine CL.ofF (plainFor_of_name rfl) rfl (Nat.le_of_ble_eq_true rfl) (vc_X11_commonParts_0 (d := d + 6)  ?_)
  by_cases hc : x_X11_checkProduct h a1 = 0
  · refine Or.inl (c_X11_checkProduct  hp.1 hc ?_)
    replace hp := hp.2 hc
    try simp only [if_pos hc] at k
    try simp only [if_pos hc] at hx
    by_cases hc : x_X11_checkProduct h a2 = 0
    · refine Or.inl (c_X11_checkProduct  hp.1 hc ?_)
      replace hp := hp.2 hc
      try simp only [if_pos hc] at k
      try simp only [if_pos hc] at hx
      exact lw_X11_commonParts_15  _ _ _ _ _ _ hp k
    · simp only [if_neg hc] at hx
      exact absurd hx hc
  · simp only [if_neg hc] at hx
    exact absurd hx hc
set_option maxHeartbeats 4000000 in
theorem t_X11_commonParts {d : Nat} {h : Hp} {Qx : String → Hp → Prop} {a1 : Int32} {a2 : Int32}  (hp : p_X11_commonParts h a1 a2) (hx : ¬ x_X11_commonParts h a1 a2 = 0) (k : Qx (oa_ex (x_X11_commonParts h a1 a2)) h) : CL 1 (d + 7) mX11_commonParts [vR 11 0, vI a1, vI a2] h (fun _ _ => False) Qx := by
  unfold p_X11_commonParts at hp
  unfold x_X11_commonParts at hx
  unfold x_X11_commonParts at k
  refine CL.ofF (plainFor_of_name rfl) rfl (Nat.le_of_ble_eq_true rfl) (vc_X11_commonParts_0 (d := d + 6)  ?_)
  by_cases hc : x_X11_checkProduct h a1 = 0
  · refine Or.inl (c_X11_checkProduct  hp.1 hc ?_)
    replace hp := hp.2 hc
    try simp only [if_pos hc] at k
    try simp only [if_pos hc] at hx
    by_cases hc : x_X11_checkProduct h a2 = 0
    · refine Or.inl (c_X11_checkProduct  hp.1 hc ?_)
      replace hp := hp.2 hc
      try simp only [if_pos hc] at k
      try simp only [if_pos hc] at hx
      exact (hx (by first | rfl | trivial)).elim
    · try simp only [if_neg hc] at k
      exact Or.inr (t_X11_checkProduct  hp.1 hc k)
  · try simp only [if_neg hc] at k
    exact Or.inr (t_X11_checkProduct  hp.1 hc k)
def p_X11_stock (h : Hp) (a1 : Int32) : Prop := p_X11_checkPart h a1 ∧ (x_X11_checkPart h a1 = 0 → (p_X10_stockOf h (h.2.2 11 0 7) a1 ∧ True))
def f_X11_stock (h : Hp) (a1 : Int32) : Int32 := if x_X11_checkPart h a1 = 0 then (f_X10_stockOf h (h.2.2 11 0 7) a1) else 0
def x_X11_stock (h : Hp) (a1 : Int32) : Nat := if x_X11_checkPart h a1 = 0 then 0 else x_X11_checkPart h a1
set_option maxHeartbeats 4000000 in
theorem c_X11_stock {d : Nat} {h : Hp} {P : Int32 → Hp → Prop} {Qx : String → Hp → Prop} {a1 : Int32}  (hp : p_X11_stock h a1) (hx : x_X11_stock h a1 = 0) (k : P (f_X11_stock h a1) h) : CL 0 (d + 7) mX11_stock [vR 11 0, vI a1] h (oI P) Qx := by
  replace k : oI P (some (vI (f_X11_stock h a1))) h := k
  unfold p_X11_stock at hp
  unfold f_X11_stock at k
  unfold x_X11_stock at hx
  refine CL.ofF (plainFor_of_name rfl) rfl (Nat.le_of_ble_eq_true rfl) (vc_X11_stock_0 (d := d + 6)  ?_)
  by_cases hc : x_X11_checkPart h a1 = 0
  · refine Or.inl (c_X11_checkPart  hp.1 hc ?_)
    replace hp := hp.2 hc
    try simp only [if_pos hc] at k
    try simp only [if_pos hc] at hx
    refine c_X10_stockOf  hp.1 ?_
    replace hp := hp.2
    exact k
  · simp only [if_neg hc] at hx
    exact absurd hx hc
set_option maxHeartbeats 4000000 in
theorem t_X11_stock {d : Nat} {h : Hp} {Qx : String → Hp → Prop} {a1 : Int32}  (hp : p_X11_stock h a1) (hx : ¬ x_X11_stock h a1 = 0) (k : Qx (oa_ex (x_X11_stock h a1)) h) : CL 1 (d + 7) mX11_stock [vR 11 0, vI a1] h (fun _ _ => False) Qx := by
  unfold p_X11_stock at hp
  unfold x_X11_stock at hx
  unfold x_X11_stock at k
  refine CL.ofF (plainFor_of_name rfl) rfl (Nat.le_of_ble_eq_true rfl) (vc_X11_stock_0 (d := d + 6)  ?_)
  by_cases hc : x_X11_checkPart h a1 = 0
  · refine Or.inl (c_X11_checkPart  hp.1 hc ?_)
    replace hp := hp.2 hc
    try simp only [if_pos hc] at k
    try simp only [if_pos hc] at hx
    refine c_X10_stockOf  hp.1 ?_
    replace hp := hp.2
    exact (hx (by first | rfl | trivial)).elim
  · try simp only [if_neg hc] at k
    exact Or.inr (t_X11_checkPart  hp.1 hc k)
def p_X11_reserved (h : Hp) (a1 : Int32) : Prop := p_X11_checkPart h a1 ∧ (x_X11_checkPart h a1 = 0 → (p_X10_reservedOf h (h.2.2 11 0 7) a1 ∧ True))
def f_X11_reserved (h : Hp) (a1 : Int32) : Int32 := if x_X11_checkPart h a1 = 0 then (f_X10_reservedOf h (h.2.2 11 0 7) a1) else 0
def x_X11_reserved (h : Hp) (a1 : Int32) : Nat := if x_X11_checkPart h a1 = 0 then 0 else x_X11_checkPart h a1
set_option maxHeartbeats 4000000 in
theorem c_X11_reserved {d : Nat} {h : Hp} {P : Int32 → Hp → Prop} {Qx : String → Hp → Prop} {a1 : Int32}  (hp : p_X11_reserved h a1) (hx : x_X11_reserved h a1 = 0) (k : P (f_X11_reserved h a1) h) : CL 0 (d + 7) mX11_reserved [vR 11 0, vI a1] h (oI P) Qx := by
  replace k : oI P (some (vI (f_X11_reserved h a1))) h := k
  unfold p_X11_reserved at hp
  unfold f_X11_reserved at k
  unfold x_X11_reserved at hx
  refine CL.ofF (plainFor_of_name rfl) rfl (Nat.le_of_ble_eq_true rfl) (vc_X11_reserved_0 (d := d + 6)  ?_)
  by_cases hc : x_X11_checkPart h a1 = 0
  · refine Or.inl (c_X11_checkPart  hp.1 hc ?_)
    replace hp := hp.2 hc
    try simp only [if_pos hc] at k
    try simp only [if_pos hc] at hx
    refine c_X10_reservedOf  hp.1 ?_
    replace hp := hp.2
    exact k
  · simp only [if_neg hc] at hx
    exact absurd hx hc
set_option maxHeartbeats 4000000 in
theorem t_X11_reserved {d : Nat} {h : Hp} {Qx : String → Hp → Prop} {a1 : Int32}  (hp : p_X11_reserved h a1) (hx : ¬ x_X11_reserved h a1 = 0) (k : Qx (oa_ex (x_X11_reserved h a1)) h) : CL 1 (d + 7) mX11_reserved [vR 11 0, vI a1] h (fun _ _ => False) Qx := by
  unfold p_X11_reserved at hp
  unfold x_X11_reserved at hx
  unfold x_X11_reserved at k
  refine CL.ofF (plainFor_of_name rfl) rfl (Nat.le_of_ble_eq_true rfl) (vc_X11_reserved_0 (d := d + 6)  ?_)
  by_cases hc : x_X11_checkPart h a1 = 0
  · refine Or.inl (c_X11_checkPart  hp.1 hc ?_)
    replace hp := hp.2 hc
    try simp only [if_pos hc] at k
    try simp only [if_pos hc] at hx
    refine c_X10_reservedOf  hp.1 ?_
    replace hp := hp.2
    exact (hx (by first | rfl | trivial)).elim
  · try simp only [if_neg hc] at k
    exact Or.inr (t_X11_checkPart  hp.1 hc k)
def p_X11_arriving (h : Hp) (a1 : Int32) : Prop := p_X11_checkPart h a1 ∧ (x_X11_checkPart h a1 = 0 → (p_X10_allArriving h (h.2.2 11 0 7) a1 ∧ True))
def f_X11_arriving (h : Hp) (a1 : Int32) : Int32 := if x_X11_checkPart h a1 = 0 then (f_X10_allArriving h (h.2.2 11 0 7) a1) else 0
def x_X11_arriving (h : Hp) (a1 : Int32) : Nat := if x_X11_checkPart h a1 = 0 then 0 else x_X11_checkPart h a1
set_option maxHeartbeats 4000000 in
theorem c_X11_arriving {d : Nat} {h : Hp} {P : Int32 → Hp → Prop} {Qx : String → Hp → Prop} {a1 : Int32}  (hp : p_X11_arriving h a1) (hx : x_X11_arriving h a1 = 0) (k : P (f_X11_arriving h a1) h) : CL 0 (d + 7) mX11_arriving [vR 11 0, vI a1] h (oI P) Qx := by
  replace k : oI P (some (vI (f_X11_arriving h a1))) h := k
  unfold p_X11_arriving at hp
  unfold f_X11_arriving at k
  unfold x_X11_arriving at hx
  refine CL.ofF (plainFor_of_name rfl) rfl (Nat.le_of_ble_eq_true rfl) (vc_X11_arriving_0 (d := d + 6)  ?_)
  by_cases hc : x_X11_checkPart h a1 = 0
  · refine Or.inl (c_X11_checkPart  hp.1 hc ?_)
    replace hp := hp.2 hc
    try simp only [if_pos hc] at k
    try simp only [if_pos hc] at hx
    refine c_X10_allArriving  hp.1 ?_
    replace hp := hp.2
    exact k
  · simp only [if_neg hc] at hx
    exact absurd hx hc
set_option maxHeartbeats 4000000 in
theorem t_X11_arriving {d : Nat} {h : Hp} {Qx : String → Hp → Prop} {a1 : Int32}  (hp : p_X11_arriving h a1) (hx : ¬ x_X11_arriving h a1 = 0) (k : Qx (oa_ex (x_X11_arriving h a1)) h) : CL 1 (d + 7) mX11_arriving [vR 11 0, vI a1] h (fun _ _ => False) Qx := by
  unfold p_X11_arriving at hp
  unfold x_X11_arriving at hx
  unfold x_X11_arriving at k
  refine CL.ofF (plainFor_of_name rfl) rfl (Nat.le_of_ble_eq_true rfl) (vc_X11_arriving_0 (d := d + 6)  ?_)
  by_cases hc : x_X11_checkPart h a1 = 0
  · refine Or.inl (c_X11_checkPart  hp.1 hc ?_)
    replace hp := hp.2 hc
    try simp only [if_pos hc] at k
    try simp only [if_pos hc] at hx
    refine c_X10_allArriving  hp.1 ?_
    replace hp := hp.2
    exact (hx (by first | rfl | trivial)).elim
  · try simp only [if_neg hc] at k
    exact Or.inr (t_X11_checkPart  hp.1 hc k)
def p_X11_nextArrival (h : Hp) (a1 : Int32) : Prop := p_X11_checkPart h a1 ∧ (x_X11_checkPart h a1 = 0 → (p_X10_earliestArrival h (h.2.2 11 0 7) a1 ∧ True))
def f_X11_nextArrival (h : Hp) (a1 : Int32) : Int32 := if x_X11_checkPart h a1 = 0 then (f_X10_earliestArrival h (h.2.2 11 0 7) a1) else 0
def x_X11_nextArrival (h : Hp) (a1 : Int32) : Nat := if x_X11_checkPart h a1 = 0 then 0 else x_X11_checkPart h a1
set_option maxHeartbeats 4000000 in
theorem c_X11_nextArrival {d : Nat} {h : Hp} {P : Int32 → Hp → Prop} {Qx : String → Hp → Prop} {a1 : Int32}  (hp : p_X11_nextArrival h a1) (hx : x_X11_nextArrival h a1 = 0) (k : P (f_X11_nextArrival h a1) h) : CL 0 (d + 7) mX11_nextArrival [vR 11 0, vI a1] h (oI P) Qx := by
  replace k : oI P (some (vI (f_X11_nextArrival h a1))) h := k
  unfold p_X11_nextArrival at hp
  unfold f_X11_nextArrival at k
  unfold x_X11_nextArrival at hx
  refine CL.ofF (plainFor_of_name rfl) rfl (Nat.le_of_ble_eq_true rfl) (vc_X11_nextArrival_0 (d := d + 6)  ?_)
  by_cases hc : x_X11_checkPart h a1 = 0
  · refine Or.inl (c_X11_checkPart  hp.1 hc ?_)
    replace hp := hp.2 hc
    try simp only [if_pos hc] at k
    try simp only [if_pos hc] at hx
    refine c_X10_earliestArrival  hp.1 ?_
    replace hp := hp.2
    exact k
  · simp only [if_neg hc] at hx
    exact absurd hx hc
set_option maxHeartbeats 4000000 in
theorem t_X11_nextArrival {d : Nat} {h : Hp} {Qx : String → Hp → Prop} {a1 : Int32}  (hp : p_X11_nextArrival h a1) (hx : ¬ x_X11_nextArrival h a1 = 0) (k : Qx (oa_ex (x_X11_nextArrival h a1)) h) : CL 1 (d + 7) mX11_nextArrival [vR 11 0, vI a1] h (fun _ _ => False) Qx := by
  unfold p_X11_nextArrival at hp
  unfold x_X11_nextArrival at hx
  unfold x_X11_nextArrival at k
  refine CL.ofF (plainFor_of_name rfl) rfl (Nat.le_of_ble_eq_true rfl) (vc_X11_nextArrival_0 (d := d + 6)  ?_)
  by_cases hc : x_X11_checkPart h a1 = 0
  · refine Or.inl (c_X11_checkPart  hp.1 hc ?_)
    replace hp := hp.2 hc
    try simp only [if_pos hc] at k
    try simp only [if_pos hc] at hx
    refine c_X10_earliestArrival  hp.1 ?_
    replace hp := hp.2
    exact (hx (by first | rfl | trivial)).elim
  · try simp only [if_neg hc] at k
    exact Or.inr (t_X11_checkPart  hp.1 hc k)
def p_X11_buildable (h : Hp) (a1 : Int32) : Prop := p_X11_checkProduct h a1 ∧ (x_X11_checkProduct h a1 = 0 → (p_X10_fillFree h (h.2.2 11 0 7) 53 0 12 ∧ (p_X1_mostUnits (g_X10_fillFree h (h.2.2 11 0 7) 53 0 12) ((g_X10_fillFree h (h.2.2 11 0 7) 53 0 12).2.2 11 0 6) a1 53 0 12 ∧ True)))
def f_X11_buildable (h : Hp) (a1 : Int32) : Int32 := if x_X11_checkProduct h a1 = 0 then (f_X1_mostUnits (g_X10_fillFree h (h.2.2 11 0 7) 53 0 12) ((g_X10_fillFree h (h.2.2 11 0 7) 53 0 12).2.2 11 0 6) a1 53 0 12) else 0
def g_X11_buildable (h : Hp) (a1 : Int32) : Hp := if x_X11_checkProduct h a1 = 0 then (g_X10_fillFree h (h.2.2 11 0 7) 53 0 12) else h
def x_X11_buildable (h : Hp) (a1 : Int32) : Nat := if x_X11_checkProduct h a1 = 0 then 0 else x_X11_checkProduct h a1
set_option maxHeartbeats 4000000 in
theorem c_X11_buildable {d : Nat} {h : Hp} {P : Int32 → Hp → Prop} {Qx : String → Hp → Prop} {a1 : Int32}  (hp : p_X11_buildable h a1) (hx : x_X11_buildable h a1 = 0) (k : P (f_X11_buildable h a1) (g_X11_buildable h a1)) : CL 0 (d + 7) mX11_buildable [vR 11 0, vI a1] h (oI P) Qx := by
  replace k : oI P (some (vI (f_X11_buildable h a1))) (g_X11_buildable h a1) := k
  unfold p_X11_buildable at hp
  unfold f_X11_buildable at k
  unfold g_X11_buildable at k
  unfold x_X11_buildable at hx
  refine CL.ofF (plainFor_of_name rfl) rfl (Nat.le_of_ble_eq_true rfl) (vc_X11_buildable_0 (d := d + 6)  ?_)
  by_cases hc : x_X11_checkProduct h a1 = 0
  · refine Or.inl (c_X11_checkProduct  hp.1 hc ?_)
    replace hp := hp.2 hc
    try simp only [if_pos hc] at k
    try simp only [if_pos hc] at hx
    refine c_X10_fillFree (by decide) rfl hp.1 ?_
    replace hp := hp.2
    refine c_X1_mostUnits (by decide) rfl hp.1 ?_
    replace hp := hp.2
    exact k
  · simp only [if_neg hc] at hx
    exact absurd hx hc
set_option maxHeartbeats 4000000 in
theorem t_X11_buildable {d : Nat} {h : Hp} {Qx : String → Hp → Prop} {a1 : Int32}  (hp : p_X11_buildable h a1) (hx : ¬ x_X11_buildable h a1 = 0) (k : Qx (oa_ex (x_X11_buildable h a1)) (g_X11_buildable h a1)) : CL 1 (d + 7) mX11_buildable [vR 11 0, vI a1] h (fun _ _ => False) Qx := by
  unfold p_X11_buildable at hp
  unfold g_X11_buildable at k
  unfold x_X11_buildable at hx
  unfold x_X11_buildable at k
  refine CL.ofF (plainFor_of_name rfl) rfl (Nat.le_of_ble_eq_true rfl) (vc_X11_buildable_0 (d := d + 6)  ?_)
  by_cases hc : x_X11_checkProduct h a1 = 0
  · refine Or.inl (c_X11_checkProduct  hp.1 hc ?_)
    replace hp := hp.2 hc
    try simp only [if_pos hc] at k
    try simp only [if_pos hc] at hx
    refine c_X10_fillFree (by decide) rfl hp.1 ?_
    replace hp := hp.2
    refine c_X1_mostUnits (by decide) rfl hp.1 ?_
    replace hp := hp.2
    exact (hx (by first | rfl | trivial)).elim
  · try simp only [if_neg hc] at k
    exact Or.inr (t_X11_checkProduct  hp.1 hc k)
def p_X11_bottleneck (h : Hp) (a1 : Int32) : Prop := p_X11_checkProduct h a1 ∧ (x_X11_checkProduct h a1 = 0 → (p_X10_fillFree h (h.2.2 11 0 7) 53 0 12 ∧ (p_X1_tightestPart (g_X10_fillFree h (h.2.2 11 0 7) 53 0 12) ((g_X10_fillFree h (h.2.2 11 0 7) 53 0 12).2.2 11 0 6) a1 53 0 12 ∧ True)))
def f_X11_bottleneck (h : Hp) (a1 : Int32) : Int32 := if x_X11_checkProduct h a1 = 0 then (f_X1_tightestPart (g_X10_fillFree h (h.2.2 11 0 7) 53 0 12) ((g_X10_fillFree h (h.2.2 11 0 7) 53 0 12).2.2 11 0 6) a1 53 0 12) else 0
def g_X11_bottleneck (h : Hp) (a1 : Int32) : Hp := if x_X11_checkProduct h a1 = 0 then (g_X10_fillFree h (h.2.2 11 0 7) 53 0 12) else h
def x_X11_bottleneck (h : Hp) (a1 : Int32) : Nat := if x_X11_checkProduct h a1 = 0 then 0 else x_X11_checkProduct h a1
set_option maxHeartbeats 4000000 in
theorem c_X11_bottleneck {d : Nat} {h : Hp} {P : Int32 → Hp → Prop} {Qx : String → Hp → Prop} {a1 : Int32}  (hp : p_X11_bottleneck h a1) (hx : x_X11_bottleneck h a1 = 0) (k : P (f_X11_bottleneck h a1) (g_X11_bottleneck h a1)) : CL 0 (d + 7) mX11_bottleneck [vR 11 0, vI a1] h (oI P) Qx := by
  replace k : oI P (some (vI (f_X11_bottleneck h a1))) (g_X11_bottleneck h a1) := k
  unfold p_X11_bottleneck at hp
  unfold f_X11_bottleneck at k
  unfold g_X11_bottleneck at k
  unfold x_X11_bottleneck at hx
  refine CL.ofF (plainFor_of_name rfl) rfl (Nat.le_of_ble_eq_true rfl) (vc_X11_bottleneck_0 (d := d + 6)  ?_)
  by_cases hc : x_X11_checkProduct h a1 = 0
  · refine Or.inl (c_X11_checkProduct  hp.1 hc ?_)
    replace hp := hp.2 hc
    try simp only [if_pos hc] at k
    try simp only [if_pos hc] at hx
    refine c_X10_fillFree (by decide) rfl hp.1 ?_
    replace hp := hp.2
    refine c_X1_tightestPart (by decide) rfl hp.1 ?_
    replace hp := hp.2
    exact k
  · simp only [if_neg hc] at hx
    exact absurd hx hc
set_option maxHeartbeats 4000000 in
theorem t_X11_bottleneck {d : Nat} {h : Hp} {Qx : String → Hp → Prop} {a1 : Int32}  (hp : p_X11_bottleneck h a1) (hx : ¬ x_X11_bottleneck h a1 = 0) (k : Qx (oa_ex (x_X11_bottleneck h a1)) (g_X11_bottleneck h a1)) : CL 1 (d + 7) mX11_bottleneck [vR 11 0, vI a1] h (fun _ _ => False) Qx := by
  unfold p_X11_bottleneck at hp
  unfold g_X11_bottleneck at k
  unfold x_X11_bottleneck at hx
  unfold x_X11_bottleneck at k
  refine CL.ofF (plainFor_of_name rfl) rfl (Nat.le_of_ble_eq_true rfl) (vc_X11_bottleneck_0 (d := d + 6)  ?_)
  by_cases hc : x_X11_checkProduct h a1 = 0
  · refine Or.inl (c_X11_checkProduct  hp.1 hc ?_)
    replace hp := hp.2 hc
    try simp only [if_pos hc] at k
    try simp only [if_pos hc] at hx
    refine c_X10_fillFree (by decide) rfl hp.1 ?_
    replace hp := hp.2
    refine c_X1_tightestPart (by decide) rfl hp.1 ?_
    replace hp := hp.2
    exact (hx (by first | rfl | trivial)).elim
  · try simp only [if_neg hc] at k
    exact Or.inr (t_X11_checkProduct  hp.1 hc k)
def p_X11_stateOf (h : Hp) (a1 : Int32) : Prop := p_X11_checkOrder h a1 ∧ (x_X11_checkOrder h a1 = 0 → (p_X6_stateFor h (h.2.2 11 0 7) a1 ∧ True))
def f_X11_stateOf (h : Hp) (a1 : Int32) : Int32 := if x_X11_checkOrder h a1 = 0 then (f_X6_stateFor h (h.2.2 11 0 7) a1) else 0
def x_X11_stateOf (h : Hp) (a1 : Int32) : Nat := if x_X11_checkOrder h a1 = 0 then 0 else x_X11_checkOrder h a1
set_option maxHeartbeats 4000000 in
theorem c_X11_stateOf {d : Nat} {h : Hp} {P : Int32 → Hp → Prop} {Qx : String → Hp → Prop} {a1 : Int32}  (hp : p_X11_stateOf h a1) (hx : x_X11_stateOf h a1 = 0) (k : P (f_X11_stateOf h a1) h) : CL 0 (d + 7) mX11_stateOf [vR 11 0, vI a1] h (oI P) Qx := by
  replace k : oI P (some (vI (f_X11_stateOf h a1))) h := k
  unfold p_X11_stateOf at hp
  unfold f_X11_stateOf at k
  unfold x_X11_stateOf at hx
  refine CL.ofF (plainFor_of_name rfl) rfl (Nat.le_of_ble_eq_true rfl) (vc_X11_stateOf_0 (d := d + 6)  ?_)
  by_cases hc : x_X11_checkOrder h a1 = 0
  · refine Or.inl (c_X11_checkOrder  hp.1 hc ?_)
    replace hp := hp.2 hc
    try simp only [if_pos hc] at k
    try simp only [if_pos hc] at hx
    refine c_X6_stateFor  hp.1 ?_
    replace hp := hp.2
    exact k
  · simp only [if_neg hc] at hx
    exact absurd hx hc
set_option maxHeartbeats 4000000 in
theorem t_X11_stateOf {d : Nat} {h : Hp} {Qx : String → Hp → Prop} {a1 : Int32}  (hp : p_X11_stateOf h a1) (hx : ¬ x_X11_stateOf h a1 = 0) (k : Qx (oa_ex (x_X11_stateOf h a1)) h) : CL 1 (d + 7) mX11_stateOf [vR 11 0, vI a1] h (fun _ _ => False) Qx := by
  unfold p_X11_stateOf at hp
  unfold x_X11_stateOf at hx
  unfold x_X11_stateOf at k
  refine CL.ofF (plainFor_of_name rfl) rfl (Nat.le_of_ble_eq_true rfl) (vc_X11_stateOf_0 (d := d + 6)  ?_)
  by_cases hc : x_X11_checkOrder h a1 = 0
  · refine Or.inl (c_X11_checkOrder  hp.1 hc ?_)
    replace hp := hp.2 hc
    try simp only [if_pos hc] at k
    try simp only [if_pos hc] at hx
    refine c_X6_stateFor  hp.1 ?_
    replace hp := hp.2
    exact (hx (by first | rfl | trivial)).elim
  · try simp only [if_neg hc] at k
    exact Or.inr (t_X11_checkOrder  hp.1 hc k)
def p_X11_openUnits (h : Hp) (a1 : Int32) : Prop := p_X11_checkOrder h a1 ∧ (x_X11_checkOrder h a1 = 0 → (p_X6_openOf h (h.2.2 11 0 7) a1 ∧ True))
def f_X11_openUnits (h : Hp) (a1 : Int32) : Int32 := if x_X11_checkOrder h a1 = 0 then (f_X6_openOf h (h.2.2 11 0 7) a1) else 0
def x_X11_openUnits (h : Hp) (a1 : Int32) : Nat := if x_X11_checkOrder h a1 = 0 then 0 else x_X11_checkOrder h a1
set_option maxHeartbeats 4000000 in
theorem c_X11_openUnits {d : Nat} {h : Hp} {P : Int32 → Hp → Prop} {Qx : String → Hp → Prop} {a1 : Int32}  (hp : p_X11_openUnits h a1) (hx : x_X11_openUnits h a1 = 0) (k : P (f_X11_openUnits h a1) h) : CL 0 (d + 7) mX11_openUnits [vR 11 0, vI a1] h (oI P) Qx := by
  replace k : oI P (some (vI (f_X11_openUnits h a1))) h := k
  unfold p_X11_openUnits at hp
  unfold f_X11_openUnits at k
  unfold x_X11_openUnits at hx
  refine CL.ofF (plainFor_of_name rfl) rfl (Nat.le_of_ble_eq_true rfl) (vc_X11_openUnits_0 (d := d + 6)  ?_)
  by_cases hc : x_X11_checkOrder h a1 = 0
  · refine Or.inl (c_X11_checkOrder  hp.1 hc ?_)
    replace hp := hp.2 hc
    try simp only [if_pos hc] at k
    try simp only [if_pos hc] at hx
    refine c_X6_openOf  hp.1 ?_
    replace hp := hp.2
    exact k
  · simp only [if_neg hc] at hx
    exact absurd hx hc
set_option maxHeartbeats 4000000 in
theorem t_X11_openUnits {d : Nat} {h : Hp} {Qx : String → Hp → Prop} {a1 : Int32}  (hp : p_X11_openUnits h a1) (hx : ¬ x_X11_openUnits h a1 = 0) (k : Qx (oa_ex (x_X11_openUnits h a1)) h) : CL 1 (d + 7) mX11_openUnits [vR 11 0, vI a1] h (fun _ _ => False) Qx := by
  unfold p_X11_openUnits at hp
  unfold x_X11_openUnits at hx
  unfold x_X11_openUnits at k
  refine CL.ofF (plainFor_of_name rfl) rfl (Nat.le_of_ble_eq_true rfl) (vc_X11_openUnits_0 (d := d + 6)  ?_)
  by_cases hc : x_X11_checkOrder h a1 = 0
  · refine Or.inl (c_X11_checkOrder  hp.1 hc ?_)
    replace hp := hp.2 hc
    try simp only [if_pos hc] at k
    try simp only [if_pos hc] at hx
    refine c_X6_openOf  hp.1 ?_
    replace hp := hp.2
    exact (hx (by first | rfl | trivial)).elim
  · try simp only [if_neg hc] at k
    exact Or.inr (t_X11_checkOrder  hp.1 hc k)
def p_X11_reservedUnits (h : Hp) (a1 : Int32) : Prop := p_X11_checkOrder h a1 ∧ (x_X11_checkOrder h a1 = 0 → (p_X6_reservedOf h (h.2.2 11 0 7) a1 ∧ True))
def f_X11_reservedUnits (h : Hp) (a1 : Int32) : Int32 := if x_X11_checkOrder h a1 = 0 then (f_X6_reservedOf h (h.2.2 11 0 7) a1) else 0
def x_X11_reservedUnits (h : Hp) (a1 : Int32) : Nat := if x_X11_checkOrder h a1 = 0 then 0 else x_X11_checkOrder h a1
set_option maxHeartbeats 4000000 in
theorem c_X11_reservedUnits {d : Nat} {h : Hp} {P : Int32 → Hp → Prop} {Qx : String → Hp → Prop} {a1 : Int32}  (hp : p_X11_reservedUnits h a1) (hx : x_X11_reservedUnits h a1 = 0) (k : P (f_X11_reservedUnits h a1) h) : CL 0 (d + 7) mX11_reservedUnits [vR 11 0, vI a1] h (oI P) Qx := by
  replace k : oI P (some (vI (f_X11_reservedUnits h a1))) h := k
  unfold p_X11_reservedUnits at hp
  unfold f_X11_reservedUnits at k
  unfold x_X11_reservedUnits at hx
  refine CL.ofF (plainFor_of_name rfl) rfl (Nat.le_of_ble_eq_true rfl) (vc_X11_reservedUnits_0 (d := d + 6)  ?_)
  by_cases hc : x_X11_checkOrder h a1 = 0
  · refine Or.inl (c_X11_checkOrder  hp.1 hc ?_)
    replace hp := hp.2 hc
    try simp only [if_pos hc] at k
    try simp only [if_pos hc] at hx
    refine c_X6_reservedOf  hp.1 ?_
    replace hp := hp.2
    exact k
  · simp only [if_neg hc] at hx
    exact absurd hx hc
set_option maxHeartbeats 4000000 in
theorem t_X11_reservedUnits {d : Nat} {h : Hp} {Qx : String → Hp → Prop} {a1 : Int32}  (hp : p_X11_reservedUnits h a1) (hx : ¬ x_X11_reservedUnits h a1 = 0) (k : Qx (oa_ex (x_X11_reservedUnits h a1)) h) : CL 1 (d + 7) mX11_reservedUnits [vR 11 0, vI a1] h (fun _ _ => False) Qx := by
  unfold p_X11_reservedUnits at hp
  unfold x_X11_reservedUnits at hx
  unfold x_X11_reservedUnits at k
  refine CL.ofF (plainFor_of_name rfl) rfl (Nat.le_of_ble_eq_true rfl) (vc_X11_reservedUnits_0 (d := d + 6)  ?_)
  by_cases hc : x_X11_checkOrder h a1 = 0
  · refine Or.inl (c_X11_checkOrder  hp.1 hc ?_)
    replace hp := hp.2 hc
    try simp only [if_pos hc] at k
    try simp only [if_pos hc] at hx
    refine c_X6_reservedOf  hp.1 ?_
    replace hp := hp.2
    exact (hx (by first | rfl | trivial)).elim
  · try simp only [if_neg hc] at k
    exact Or.inr (t_X11_checkOrder  hp.1 hc k)
def p_X11_shippedUnits (h : Hp) (a1 : Int32) : Prop := p_X11_checkOrder h a1 ∧ (x_X11_checkOrder h a1 = 0 → (p_X6_shippedOf h (h.2.2 11 0 7) a1 ∧ True))
def f_X11_shippedUnits (h : Hp) (a1 : Int32) : Int32 := if x_X11_checkOrder h a1 = 0 then (f_X6_shippedOf h (h.2.2 11 0 7) a1) else 0
def x_X11_shippedUnits (h : Hp) (a1 : Int32) : Nat := if x_X11_checkOrder h a1 = 0 then 0 else x_X11_checkOrder h a1
set_option maxHeartbeats 4000000 in
theorem c_X11_shippedUnits {d : Nat} {h : Hp} {P : Int32 → Hp → Prop} {Qx : String → Hp → Prop} {a1 : Int32}  (hp : p_X11_shippedUnits h a1) (hx : x_X11_shippedUnits h a1 = 0) (k : P (f_X11_shippedUnits h a1) h) : CL 0 (d + 7) mX11_shippedUnits [vR 11 0, vI a1] h (oI P) Qx := by
  replace k : oI P (some (vI (f_X11_shippedUnits h a1))) h := k
  unfold p_X11_shippedUnits at hp
  unfold f_X11_shippedUnits at k
  unfold x_X11_shippedUnits at hx
  refine CL.ofF (plainFor_of_name rfl) rfl (Nat.le_of_ble_eq_true rfl) (vc_X11_shippedUnits_0 (d := d + 6)  ?_)
  by_cases hc : x_X11_checkOrder h a1 = 0
  · refine Or.inl (c_X11_checkOrder  hp.1 hc ?_)
    replace hp := hp.2 hc
    try simp only [if_pos hc] at k
    try simp only [if_pos hc] at hx
    refine c_X6_shippedOf  hp.1 ?_
    replace hp := hp.2
    exact k
  · simp only [if_neg hc] at hx
    exact absurd hx hc
set_option maxHeartbeats 4000000 in
theorem t_X11_shippedUnits {d : Nat} {h : Hp} {Qx : String → Hp → Prop} {a1 : Int32}  (hp : p_X11_shippedUnits h a1) (hx : ¬ x_X11_shippedUnits h a1 = 0) (k : Qx (oa_ex (x_X11_shippedUnits h a1)) h) : CL 1 (d + 7) mX11_shippedUnits [vR 11 0, vI a1] h (fun _ _ => False) Qx := by
  unfold p_X11_shippedUnits at hp
  unfold x_X11_shippedUnits at hx
  unfold x_X11_shippedUnits at k
  refine CL.ofF (plainFor_of_name rfl) rfl (Nat.le_of_ble_eq_true rfl) (vc_X11_shippedUnits_0 (d := d + 6)  ?_)
  by_cases hc : x_X11_checkOrder h a1 = 0
  · refine Or.inl (c_X11_checkOrder  hp.1 hc ?_)
    replace hp := hp.2 hc
    try simp only [if_pos hc] at k
    try simp only [if_pos hc] at hx
    refine c_X6_shippedOf  hp.1 ?_
    replace hp := hp.2
    exact (hx (by first | rfl | trivial)).elim
  · try simp only [if_neg hc] at k
    exact Or.inr (t_X11_checkOrder  hp.1 hc k)
def p_X11_orderField (h : Hp) (a1 : Int32) (a2 : Int32) : Prop := p_X11_checkOrder h a1 ∧ (x_X11_checkOrder h a1 = 0 → (((a2 < 0 ∨ 4 < a2) → True) ∧ ((a2 = 0) → (p_X6_productOf h (h.2.2 11 0 7) a1 ∧ True)) ∧ ((a2 = 1) → (p_X6_quantityOf h (h.2.2 11 0 7) a1 ∧ True)) ∧ ((a2 = 2) → (p_X6_classOf h (h.2.2 11 0 7) a1 ∧ True)) ∧ ((a2 = 3) → (p_X6_dueOf h (h.2.2 11 0 7) a1 ∧ True)) ∧ ((a2 = 4) → (p_X6_isWhole h (h.2.2 11 0 7) a1 ∧ True))))
def f_X11_orderField (h : Hp) (a1 : Int32) (a2 : Int32) : Int32 := if x_X11_checkOrder h a1 = 0 then (if (a2 < 0 ∨ 4 < a2) then (-1) else if a2 = 0 then (f_X6_productOf h (h.2.2 11 0 7) a1) else if a2 = 1 then (f_X6_quantityOf h (h.2.2 11 0 7) a1) else if a2 = 2 then (f_X6_classOf h (h.2.2 11 0 7) a1) else if a2 = 3 then (f_X6_dueOf h (h.2.2 11 0 7) a1) else (if (f_X6_isWhole h (h.2.2 11 0 7) a1) = 0 then (0 : Int32) else 1)) else 0
def x_X11_orderField (h : Hp) (a1 : Int32) (a2 : Int32) : Nat := if x_X11_checkOrder h a1 = 0 then (if (a2 < 0 ∨ 4 < a2) then 0 else if a2 = 0 then 0 else if a2 = 1 then 0 else if a2 = 2 then 0 else if a2 = 3 then 0 else 0) else x_X11_checkOrder h a1
set_option maxHeartbeats 4000000 in
theorem c_X11_orderField {d : Nat} {h : Hp} {P : Int32 → Hp → Prop} {Qx : String → Hp → Prop} {a1 : Int32} {a2 : Int32}  (hp : p_X11_orderField h a1 a2) (hx : x_X11_orderField h a1 a2 = 0) (k : P (f_X11_orderField h a1 a2) h) : CL 0 (d + 7) mX11_orderField [vR 11 0, vI a1, vI a2] h (oI P) Qx := by
  replace k : oI P (some (vI (f_X11_orderField h a1 a2))) h := k
  unfold p_X11_orderField at hp
  unfold f_X11_orderField at k
  unfold x_X11_orderField at hx
  refine CL.ofF (plainFor_of_name rfl) rfl (Nat.le_of_ble_eq_true rfl) (vc_X11_orderField_0 (d := d + 6)  ?_)
  by_cases hc : x_X11_checkOrder h a1 = 0
  · refine Or.inl (c_X11_checkOrder  hp.1 hc ?_)
    replace hp := hp.2 hc
    try simp only [if_pos hc] at k
    try simp only [if_pos hc] at hx
    refine ⟨fun c => ?_, fun c => ?_, fun c => ?_, fun c => ?_, fun c => ?_, fun c => ?_⟩
    · replace hp := hp.1 c
      try simp only [if_pos c] at k
      try simp only [if_pos c] at hx
      exact k
    · replace hp := hp.2.1 c
      try simp only [if_neg (show ¬ (a2 < 0 ∨ 4 < a2) by rw [c]; decide), if_pos c] at k
      try simp only [if_neg (show ¬ (a2 < 0 ∨ 4 < a2) by rw [c]; decide), if_pos c] at hx
      refine c_X6_productOf  hp.1 ?_
      replace hp := hp.2
      exact k
    · replace hp := hp.2.2.1 c
      try simp only [if_neg (show ¬ (a2 < 0 ∨ 4 < a2) by rw [c]; decide), if_neg (show ¬ a2 = 0 by rw [c]; decide), if_pos c] at k
      try simp only [if_neg (show ¬ (a2 < 0 ∨ 4 < a2) by rw [c]; decide), if_neg (show ¬ a2 = 0 by rw [c]; decide), if_pos c] at hx
      refine c_X6_quantityOf  hp.1 ?_
      replace hp := hp.2
      exact k
    · replace hp := hp.2.2.2.1 c
      try simp only [if_neg (show ¬ (a2 < 0 ∨ 4 < a2) by rw [c]; decide), if_neg (show ¬ a2 = 0 by rw [c]; decide), if_neg (show ¬ a2 = 1 by rw [c]; decide), if_pos c] at k
      try simp only [if_neg (show ¬ (a2 < 0 ∨ 4 < a2) by rw [c]; decide), if_neg (show ¬ a2 = 0 by rw [c]; decide), if_neg (show ¬ a2 = 1 by rw [c]; decide), if_pos c] at hx
      refine c_X6_classOf  hp.1 ?_
      replace hp := hp.2
      exact k
    · replace hp := hp.2.2.2.2.1 c
      try simp only [if_neg (show ¬ (a2 < 0 ∨ 4 < a2) by rw [c]; decide), if_neg (show ¬ a2 = 0 by rw [c]; decide), if_neg (show ¬ a2 = 1 by rw [c]; decide), if_neg (show ¬ a2 = 2 by rw [c]; decide), if_pos c] at k
      try simp only [if_neg (show ¬ (a2 < 0 ∨ 4 < a2) by rw [c]; decide), if_neg (show ¬ a2 = 0 by rw [c]; decide), if_neg (show ¬ a2 = 1 by rw [c]; decide), if_neg (show ¬ a2 = 2 by rw [c]; decide), if_pos c] at hx
      refine c_X6_dueOf  hp.1 ?_
      replace hp := hp.2
      exact k
    · replace hp := hp.2.2.2.2.2 c
      try simp only [if_neg (show ¬ (a2 < 0 ∨ 4 < a2) by rw [c]; decide), if_neg (show ¬ a2 = 0 by rw [c]; decide), if_neg (show ¬ a2 = 1 by rw [c]; decide), if_neg (show ¬ a2 = 2 by rw [c]; decide), if_neg (show ¬ a2 = 3 by rw [c]; decide)] at k
      try simp only [if_neg (show ¬ (a2 < 0 ∨ 4 < a2) by rw [c]; decide), if_neg (show ¬ a2 = 0 by rw [c]; decide), if_neg (show ¬ a2 = 1 by rw [c]; decide), if_neg (show ¬ a2 = 2 by rw [c]; decide), if_neg (show ¬ a2 = 3 by rw [c]; decide)] at hx
      refine c_X6_isWhole  hp.1 ?_
      replace hp := hp.2
      exact k
  · simp only [if_neg hc] at hx
    exact absurd hx hc
set_option maxHeartbeats 4000000 in
theorem t_X11_orderField {d : Nat} {h : Hp} {Qx : String → Hp → Prop} {a1 : Int32} {a2 : Int32}  (hp : p_X11_orderField h a1 a2) (hx : ¬ x_X11_orderField h a1 a2 = 0) (k : Qx (oa_ex (x_X11_orderField h a1 a2)) h) : CL 1 (d + 7) mX11_orderField [vR 11 0, vI a1, vI a2] h (fun _ _ => False) Qx := by
  unfold p_X11_orderField at hp
  unfold x_X11_orderField at hx
  unfold x_X11_orderField at k
  refine CL.ofF (plainFor_of_name rfl) rfl (Nat.le_of_ble_eq_true rfl) (vc_X11_orderField_0 (d := d + 6)  ?_)
  by_cases hc : x_X11_checkOrder h a1 = 0
  · refine Or.inl (c_X11_checkOrder  hp.1 hc ?_)
    replace hp := hp.2 hc
    try simp only [if_pos hc] at k
    try simp only [if_pos hc] at hx
    refine ⟨fun c => ?_, fun c => ?_, fun c => ?_, fun c => ?_, fun c => ?_, fun c => ?_⟩
    · replace hp := hp.1 c
      try simp only [if_pos c] at k
      try simp only [if_pos c] at hx
      exact (hx (by first | rfl | trivial)).elim
    · replace hp := hp.2.1 c
      try simp only [if_neg (show ¬ (a2 < 0 ∨ 4 < a2) by rw [c]; decide), if_pos c] at k
      try simp only [if_neg (show ¬ (a2 < 0 ∨ 4 < a2) by rw [c]; decide), if_pos c] at hx
      refine c_X6_productOf  hp.1 ?_
      replace hp := hp.2
      exact (hx (by first | rfl | trivial)).elim
    · replace hp := hp.2.2.1 c
      try simp only [if_neg (show ¬ (a2 < 0 ∨ 4 < a2) by rw [c]; decide), if_neg (show ¬ a2 = 0 by rw [c]; decide), if_pos c] at k
      try simp only [if_neg (show ¬ (a2 < 0 ∨ 4 < a2) by rw [c]; decide), if_neg (show ¬ a2 = 0 by rw [c]; decide), if_pos c] at hx
      refine c_X6_quantityOf  hp.1 ?_
      replace hp := hp.2
      exact (hx (by first | rfl | trivial)).elim
    · replace hp := hp.2.2.2.1 c
      try simp only [if_neg (show ¬ (a2 < 0 ∨ 4 < a2) by rw [c]; decide), if_neg (show ¬ a2 = 0 by rw [c]; decide), if_neg (show ¬ a2 = 1 by rw [c]; decide), if_pos c] at k
      try simp only [if_neg (show ¬ (a2 < 0 ∨ 4 < a2) by rw [c]; decide), if_neg (show ¬ a2 = 0 by rw [c]; decide), if_neg (show ¬ a2 = 1 by rw [c]; decide), if_pos c] at hx
      refine c_X6_classOf  hp.1 ?_
      replace hp := hp.2
      exact (hx (by first | rfl | trivial)).elim
    · replace hp := hp.2.2.2.2.1 c
      try simp only [if_neg (show ¬ (a2 < 0 ∨ 4 < a2) by rw [c]; decide), if_neg (show ¬ a2 = 0 by rw [c]; decide), if_neg (show ¬ a2 = 1 by rw [c]; decide), if_neg (show ¬ a2 = 2 by rw [c]; decide), if_pos c] at k
      try simp only [if_neg (show ¬ (a2 < 0 ∨ 4 < a2) by rw [c]; decide), if_neg (show ¬ a2 = 0 by rw [c]; decide), if_neg (show ¬ a2 = 1 by rw [c]; decide), if_neg (show ¬ a2 = 2 by rw [c]; decide), if_pos c] at hx
      refine c_X6_dueOf  hp.1 ?_
      replace hp := hp.2
      exact (hx (by first | rfl | trivial)).elim
    · replace hp := hp.2.2.2.2.2 c
      try simp only [if_neg (show ¬ (a2 < 0 ∨ 4 < a2) by rw [c]; decide), if_neg (show ¬ a2 = 0 by rw [c]; decide), if_neg (show ¬ a2 = 1 by rw [c]; decide), if_neg (show ¬ a2 = 2 by rw [c]; decide), if_neg (show ¬ a2 = 3 by rw [c]; decide)] at k
      try simp only [if_neg (show ¬ (a2 < 0 ∨ 4 < a2) by rw [c]; decide), if_neg (show ¬ a2 = 0 by rw [c]; decide), if_neg (show ¬ a2 = 1 by rw [c]; decide), if_neg (show ¬ a2 = 2 by rw [c]; decide), if_neg (show ¬ a2 = 3 by rw [c]; decide)] at hx
      refine c_X6_isWhole  hp.1 ?_
      replace hp := hp.2
      exact (hx (by first | rfl | trivial)).elim
  · try simp only [if_neg hc] at k
    exact Or.inr (t_X11_checkOrder  hp.1 hc k)
def p_X11_missing (h : Hp) (a1 : Int32) (a2 : Int32) : Prop := p_X11_checkOrder h a1 ∧ (x_X11_checkOrder h a1 = 0 → (p_X11_checkPart h a2 ∧ (x_X11_checkPart h a2 = 0 → (p_X11_shortageOf h a1 a2 ∧ True))))
def f_X11_missing (h : Hp) (a1 : Int32) (a2 : Int32) : Int32 := if x_X11_checkOrder h a1 = 0 then (if x_X11_checkPart h a2 = 0 then (f_X11_shortageOf h a1 a2) else 0) else 0
def x_X11_missing (h : Hp) (a1 : Int32) (a2 : Int32) : Nat := if x_X11_checkOrder h a1 = 0 then (if x_X11_checkPart h a2 = 0 then 0 else x_X11_checkPart h a2) else x_X11_checkOrder h a1
set_option maxHeartbeats 4000000 in
theorem c_X11_missing {d : Nat} {h : Hp} {P : Int32 → Hp → Prop} {Qx : String → Hp → Prop} {a1 : Int32} {a2 : Int32}  (hp : p_X11_missing h a1 a2) (hx : x_X11_missing h a1 a2 = 0) (k : P (f_X11_missing h a1 a2) h) : CL 0 (d + 7) mX11_missing [vR 11 0, vI a1, vI a2] h (oI P) Qx := by
  replace k : oI P (some (vI (f_X11_missing h a1 a2))) h := k
  unfold p_X11_missing at hp
  unfold f_X11_missing at k
  unfold x_X11_missing at hx
  refine CL.ofF (plainFor_of_name rfl) rfl (Nat.le_of_ble_eq_true rfl) (vc_X11_missing_0 (d := d + 6)  ?_)
  by_cases hc : x_X11_checkOrder h a1 = 0
  · refine Or.inl (c_X11_checkOrder  hp.1 hc ?_)
    replace hp := hp.2 hc
    try simp only [if_pos hc] at k
    try simp only [if_pos hc] at hx
    by_cases hc : x_X11_checkPart h a2 = 0
    · refine Or.inl (c_X11_checkPart  hp.1 hc ?_)
      replace hp := hp.2 hc
      try simp only [if_pos hc] at k
      try simp only [if_pos hc] at hx
      refine c_X11_shortageOf  hp.1 ?_
      replace hp := hp.2
      exact k
    · simp only [if_neg hc] at hx
      exact absurd hx hc
  · simp only [if_neg hc] at hx
    exact absurd hx hc
set_option maxHeartbeats 4000000 in
theorem t_X11_missing {d : Nat} {h : Hp} {Qx : String → Hp → Prop} {a1 : Int32} {a2 : Int32}  (hp : p_X11_missing h a1 a2) (hx : ¬ x_X11_missing h a1 a2 = 0) (k : Qx (oa_ex (x_X11_missing h a1 a2)) h) : CL 1 (d + 7) mX11_missing [vR 11 0, vI a1, vI a2] h (fun _ _ => False) Qx := by
  unfold p_X11_missing at hp
  unfold x_X11_missing at hx
  unfold x_X11_missing at k
  refine CL.ofF (plainFor_of_name rfl) rfl (Nat.le_of_ble_eq_true rfl) (vc_X11_missing_0 (d := d + 6)  ?_)
  by_cases hc : x_X11_checkOrder h a1 = 0
  · refine Or.inl (c_X11_checkOrder  hp.1 hc ?_)
    replace hp := hp.2 hc
    try simp only [if_pos hc] at k
    try simp only [if_pos hc] at hx
    by_cases hc : x_X11_checkPart h a2 = 0
    · refine Or.inl (c_X11_checkPart  hp.1 hc ?_)
      replace hp := hp.2 hc
      try simp only [if_pos hc] at k
      try simp only [if_pos hc] at hx
      refine c_X11_shortageOf  hp.1 ?_
      replace hp := hp.2
      exact (hx (by first | rfl | trivial)).elim
    · try simp only [if_neg hc] at k
      exact Or.inr (t_X11_checkPart  hp.1 hc k)
  · try simp only [if_neg hc] at k
    exact Or.inr (t_X11_checkOrder  hp.1 hc k)
def p_X11_promise (h : Hp) (a1 : Int32) (a2 : Int32) : Prop := p_X11_checkProduct h a1 ∧ (x_X11_checkProduct h a1 = 0 → (p_X11_checkArgument h (if a2 < 1 then (0 : Int32) else (if 999 < a2 then (0 : Int32) else 1)) ∧ (x_X11_checkArgument h (if a2 < 1 then (0 : Int32) else (if 999 < a2 then (0 : Int32) else 1)) = 0 → (p_X11_promiseDate h a1 a2 ∧ True))))
def f_X11_promise (h : Hp) (a1 : Int32) (a2 : Int32) : Int32 := if x_X11_checkProduct h a1 = 0 then (if x_X11_checkArgument h (if a2 < 1 then (0 : Int32) else (if 999 < a2 then (0 : Int32) else 1)) = 0 then (f_X11_promiseDate h a1 a2) else 0) else 0
def x_X11_promise (h : Hp) (a1 : Int32) (a2 : Int32) : Nat := if x_X11_checkProduct h a1 = 0 then (if x_X11_checkArgument h (if a2 < 1 then (0 : Int32) else (if 999 < a2 then (0 : Int32) else 1)) = 0 then 0 else x_X11_checkArgument h (if a2 < 1 then (0 : Int32) else (if 999 < a2 then (0 : Int32) else 1))) else x_X11_checkProduct h a1
set_option maxHeartbeats 4000000 in
theorem c_X11_promise {d : Nat} {h : Hp} {P : Int32 → Hp → Prop} {Qx : String → Hp → Prop} {a1 : Int32} {a2 : Int32}  (hp : p_X11_promise h a1 a2) (hx : x_X11_promise h a1 a2 = 0) (k : P (f_X11_promise h a1 a2) h) : CL 0 (d + 7) mX11_promise [vR 11 0, vI a1, vI a2] h (oI P) Qx := by
  replace k : oI P (some (vI (f_X11_promise h a1 a2))) h := k
  unfold p_X11_promise at hp
  unfold f_X11_promise at k
  unfold x_X11_promise at hx
  refine CL.ofF (plainFor_of_name rfl) rfl (Nat.le_of_ble_eq_true rfl) (vc_X11_promise_0 (d := d + 6)  ?_)
  by_cases hc : x_X11_checkProduct h a1 = 0
  · refine Or.inl (c_X11_checkProduct  hp.1 hc ?_)
    replace hp := hp.2 hc
    try simp only [if_pos hc] at k
    try simp only [if_pos hc] at hx
    by_cases hc : x_X11_checkArgument h (if a2 < 1 then (0 : Int32) else (if 999 < a2 then (0 : Int32) else 1)) = 0
    · refine Or.inl (c_X11_checkArgument  hp.1 hc ?_)
      replace hp := hp.2 hc
      try simp only [if_pos hc] at k
      try simp only [if_pos hc] at hx
      refine c_X11_promiseDate  hp.1 ?_
      replace hp := hp.2
      exact k
    · simp only [if_neg hc] at hx
      exact absurd hx hc
  · simp only [if_neg hc] at hx
    exact absurd hx hc
set_option maxHeartbeats 4000000 in
theorem t_X11_promise {d : Nat} {h : Hp} {Qx : String → Hp → Prop} {a1 : Int32} {a2 : Int32}  (hp : p_X11_promise h a1 a2) (hx : ¬ x_X11_promise h a1 a2 = 0) (k : Qx (oa_ex (x_X11_promise h a1 a2)) h) : CL 1 (d + 7) mX11_promise [vR 11 0, vI a1, vI a2] h (fun _ _ => False) Qx := by
  unfold p_X11_promise at hp
  unfold x_X11_promise at hx
  unfold x_X11_promise at k
  refine CL.ofF (plainFor_of_name rfl) rfl (Nat.le_of_ble_eq_true rfl) (vc_X11_promise_0 (d := d + 6)  ?_)
  by_cases hc : x_X11_checkProduct h a1 = 0
  · refine Or.inl (c_X11_checkProduct  hp.1 hc ?_)
    replace hp := hp.2 hc
    try simp only [if_pos hc] at k
    try simp only [if_pos hc] at hx
    by_cases hc : x_X11_checkArgument h (if a2 < 1 then (0 : Int32) else (if 999 < a2 then (0 : Int32) else 1)) = 0
    · refine Or.inl (c_X11_checkArgument  hp.1 hc ?_)
      replace hp := hp.2 hc
      try simp only [if_pos hc] at k
      try simp only [if_pos hc] at hx
      refine c_X11_promiseDate  hp.1 ?_
      replace hp := hp.2
      exact (hx (by first | rfl | trivial)).elim
    · try simp only [if_neg hc] at k
      exact Or.inr (t_X11_checkArgument  hp.1 hc k)
  · try simp only [if_neg hc] at k
    exact Or.inr (t_X11_checkProduct  hp.1 hc k)
def p_X11_promiseOf (h : Hp) (a1 : Int32) : Prop := p_X11_checkOrder h a1 ∧ (x_X11_checkOrder h a1 = 0 → (p_X11_isClosed h a1 ∧ ((((f_X11_isClosed h a1) = 0) → (p_X6_productOf h (h.2.2 11 0 7) a1 ∧ (p_X6_openOf h (h.2.2 11 0 7) a1 ∧ (p_X11_promiseDate h (f_X6_productOf h (h.2.2 11 0 7) a1) (f_X6_openOf h (h.2.2 11 0 7) a1) ∧ True)))) ∧ ((¬ (f_X11_isClosed h a1) = 0) → True))))
def f_X11_promiseOf (h : Hp) (a1 : Int32) : Int32 := if x_X11_checkOrder h a1 = 0 then (if (f_X11_isClosed h a1) = 0 then (f_X11_promiseDate h (f_X6_productOf h (h.2.2 11 0 7) a1) (f_X6_openOf h (h.2.2 11 0 7) a1)) else (-1)) else 0
def x_X11_promiseOf (h : Hp) (a1 : Int32) : Nat := if x_X11_checkOrder h a1 = 0 then (if (f_X11_isClosed h a1) = 0 then 0 else 0) else x_X11_checkOrder h a1
set_option maxHeartbeats 4000000 in
theorem c_X11_promiseOf {d : Nat} {h : Hp} {P : Int32 → Hp → Prop} {Qx : String → Hp → Prop} {a1 : Int32}  (hp : p_X11_promiseOf h a1) (hx : x_X11_promiseOf h a1 = 0) (k : P (f_X11_promiseOf h a1) h) : CL 0 (d + 7) mX11_promiseOf [vR 11 0, vI a1] h (oI P) Qx := by
  replace k : oI P (some (vI (f_X11_promiseOf h a1))) h := k
  unfold p_X11_promiseOf at hp
  unfold f_X11_promiseOf at k
  unfold x_X11_promiseOf at hx
  refine CL.ofF (plainFor_of_name rfl) rfl (Nat.le_of_ble_eq_true rfl) (vc_X11_promiseOf_0 (d := d + 6)  ?_)
  by_cases hc : x_X11_checkOrder h a1 = 0
  · refine Or.inl (c_X11_checkOrder  hp.1 hc ?_)
    replace hp := hp.2 hc
    try simp only [if_pos hc] at k
    try simp only [if_pos hc] at hx
    refine c_X11_isClosed  hp.1 ?_
    replace hp := hp.2
    refine ⟨fun c => ?_, fun c => ?_⟩
    · replace hp := hp.1 c
      try simp only [if_pos c] at k
      try simp only [if_pos c] at hx
      refine c_X6_productOf  hp.1 ?_
      replace hp := hp.2
      refine c_X6_openOf  hp.1 ?_
      replace hp := hp.2
      refine c_X11_promiseDate  hp.1 ?_
      replace hp := hp.2
      exact k
    · replace hp := hp.2 c
      try simp only [if_neg c] at k
      try simp only [if_neg c] at hx
      exact k
  · simp only [if_neg hc] at hx
    exact absurd hx hc
set_option maxHeartbeats 4000000 in
theorem t_X11_promiseOf {d : Nat} {h : Hp} {Qx : String → Hp → Prop} {a1 : Int32}  (hp : p_X11_promiseOf h a1) (hx : ¬ x_X11_promiseOf h a1 = 0) (k : Qx (oa_ex (x_X11_promiseOf h a1)) h) : CL 1 (d + 7) mX11_promiseOf [vR 11 0, vI a1] h (fun _ _ => False) Qx := by
  unfold p_X11_promiseOf at hp
  unfold x_X11_promiseOf at hx
  unfold x_X11_promiseOf at k
  refine CL.ofF (plainFor_of_name rfl) rfl (Nat.le_of_ble_eq_true rfl) (vc_X11_promiseOf_0 (d := d + 6)  ?_)
  by_cases hc : x_X11_checkOrder h a1 = 0
  · refine Or.inl (c_X11_checkOrder  hp.1 hc ?_)
    replace hp := hp.2 hc
    try simp only [if_pos hc] at k
    try simp only [if_pos hc] at hx
    refine c_X11_isClosed  hp.1 ?_
    replace hp := hp.2
    refine ⟨fun c => ?_, fun c => ?_⟩
    · replace hp := hp.1 c
      try simp only [if_pos c] at k
      try simp only [if_pos c] at hx
      refine c_X6_productOf  hp.1 ?_
      replace hp := hp.2
      refine c_X6_openOf  hp.1 ?_
      replace hp := hp.2
      refine c_X11_promiseDate  hp.1 ?_
      replace hp := hp.2
      exact (hx (by first | rfl | trivial)).elim
    · replace hp := hp.2 c
      try simp only [if_neg c] at k
      try simp only [if_neg c] at hx
      exact (hx (by first | rfl | trivial)).elim
  · try simp only [if_neg hc] at k
    exact Or.inr (t_X11_checkOrder  hp.1 hc k)
def pw_X11_delayingPart_44 : Nat → Hp → Int32 → Int32 → Int32 → Int32 → Int32 → Int32 → Prop
  | 0, _, _, _, _, _, _, _ => False
  | n + 1, h, x1, x2, x3, x4, x5, x6 => (((h.1 1 (h.2.2 11 0 6) 0) ≤ x6) → True) ∧ ((¬ (h.1 1 (h.2.2 11 0 6) 0) ≤ x6) → (p_X1_needOf h (h.2.2 11 0 6) x3 x6 ∧ ((((f_X1_needOf h (h.2.2 11 0 6) x3 x6) ≤ 0) → ((((-1) ≤ x5) → (pw_X11_delayingPart_44 n h x1 x2 x3 x4 x5 (x6 + 1))) ∧ ((¬ (-1) ≤ x5) → (pw_X11_delayingPart_44 n h x1 x2 x3 x6 (-1) (x6 + 1))))) ∧ ((¬ (f_X1_needOf h (h.2.2 11 0 6) x3 x6) ≤ 0) → (p_X11_dayOfPart h x6 (x2 * (f_X1_needOf h (h.2.2 11 0 6) x3 x6)) ∧ ((((f_X11_dayOfPart h x6 (x2 * (f_X1_needOf h (h.2.2 11 0 6) x3 x6))) ≤ x5) → (pw_X11_delayingPart_44 n h x1 x2 x3 x4 x5 (x6 + 1))) ∧ ((¬ (f_X11_dayOfPart h x6 (x2 * (f_X1_needOf h (h.2.2 11 0 6) x3 x6))) ≤ x5) → (pw_X11_delayingPart_44 n h x1 x2 x3 x6 (f_X11_dayOfPart h x6 (x2 * (f_X1_needOf h (h.2.2 11 0 6) x3 x6))) (x6 + 1)))))))))
def fw_X11_delayingPart_44 : Nat → Hp → Int32 → Int32 → Int32 → Int32 → Int32 → Int32 → Int32
  | 0, _, _, _, _, _, _, _ => 0
  | n + 1, h, x1, x2, x3, x4, x5, x6 => if (h.1 1 (h.2.2 11 0 6) 0) ≤ x6 then x4 else (if (f_X1_needOf h (h.2.2 11 0 6) x3 x6) ≤ 0 then (if (-1) ≤ x5 then (fw_X11_delayingPart_44 n h x1 x2 x3 x4 x5 (x6 + 1)) else (fw_X11_delayingPart_44 n h x1 x2 x3 x6 (-1) (x6 + 1))) else (if (f_X11_dayOfPart h x6 (x2 * (f_X1_needOf h (h.2.2 11 0 6) x3 x6))) ≤ x5 then (fw_X11_delayingPart_44 n h x1 x2 x3 x4 x5 (x6 + 1)) else (fw_X11_delayingPart_44 n h x1 x2 x3 x6 (f_X11_dayOfPart h x6 (x2 * (f_X1_needOf h (h.2.2 11 0 6) x3 x6))) (x6 + 1))))
set_option maxHeartbeats 4000000 in
theorem lw_X11_delayingPart_44 {X : WD → State → Prop} {d rb : Nat} {Qr : Option AV → Hp → Prop} {Qx : String → Hp → Prop}   : ∀ (n : Nat) (h : Hp) (x1 : Int32) (x2 : Int32) (x3 : Int32) (x4 : Int32) (x5 : Int32) (x6 : Int32), pw_X11_delayingPart_44 n h x1 x2 x3 x4 x5 x6 → Qr (some (vI (fw_X11_delayingPart_44 n h x1 x2 x3 x4 x5 x6))) h → AW X (d + 7) rb mX11_delayingPart 44 [(0, vR 11 0), (1, vI x1), (2, vI x2), (3, vI x3), (4, vI x4), (5, vI x5), (6, vI x6)] [] h Qr Qx := by
  intro n
  induction n with
  | zero => intro h x1 x2 x3 x4 x5 x6 hp; exact hp.elim
  | succ n ih =>
    intro h x1 x2 x3 x4 x5 x6 hp k
    rw [pw_X11_delayingPart_44] at hp
    rw [fw_X11_delayingPart_44] at k
    refine vc_X11_delayingPart_44 (d := d + 6)  ?_
    refine ⟨fun c => ?_, fun c => ?_⟩
    · replace hp := hp.1 c
      try simp only [if_pos c] at k
      exact k
    · replace hp := hp.2 c
      try simp only [if_neg c] at k
      refine c_X1_needOf  hp.1 ?_
      replace hp := hp.2
      refine ⟨fun c => ?_, fun c => ?_⟩
      · replace hp := hp.1 c
        try simp only [if_pos c] at k
        refine ⟨fun c => ?_, fun c => ?_⟩
        · replace hp := hp.1 c
          try simp only [if_pos c] at k
          exact ih _ _ _ _ _ _ _ hp k
        · replace hp := hp.2 c
          try simp only [if_neg c] at k
          exact ih _ _ _ _ _ _ _ hp k
      · replace hp := hp.2 c
        try simp only [if_neg c] at k
        refine c_X11_dayOfPart  hp.1 ?_
        replace hp := hp.2
        refine ⟨fun c => ?_, fun c => ?_⟩
        · replace hp := hp.1 c
          try simp only [if_pos c] at k
          exact ih _ _ _ _ _ _ _ hp k
        · replace hp := hp.2 c
          try simp only [if_neg c] at k
          exact ih _ _ _ _ _ _ _ hp k
def p_X11_delayingPart (h : Hp) (a1 : Int32) : Prop := p_X11_checkOrder h a1 ∧ (x_X11_checkOrder h a1 = 0 → (p_X6_openOf h (h.2.2 11 0 7) a1 ∧ (((¬ (f_X6_openOf h (h.2.2 11 0 7) a1) = 0) → (p_X6_productOf h (h.2.2 11 0 7) a1 ∧ (pw_X11_delayingPart_44 oa_N h a1 (f_X6_openOf h (h.2.2 11 0 7) a1) (f_X6_productOf h (h.2.2 11 0 7) a1) (-1) (-1) 0))) ∧ (((f_X6_openOf h (h.2.2 11 0 7) a1) = 0) → True))))
def f_X11_delayingPart (h : Hp) (a1 : Int32) : Int32 := if x_X11_checkOrder h a1 = 0 then (if ¬ (f_X6_openOf h (h.2.2 11 0 7) a1) = 0 then (fw_X11_delayingPart_44 oa_N h a1 (f_X6_openOf h (h.2.2 11 0 7) a1) (f_X6_productOf h (h.2.2 11 0 7) a1) (-1) (-1) 0) else (-1)) else 0
def x_X11_delayingPart (h : Hp) (a1 : Int32) : Nat := if x_X11_checkOrder h a1 = 0 then (if ¬ (f_X6_openOf h (h.2.2 11 0 7) a1) = 0 then 0 else 0) else x_X11_checkOrder h a1
set_option maxHeartbeats 4000000 in
theorem c_X11_delayingPart {d : Nat} {h : Hp} {P : Int32 → Hp → Prop} {Qx : String → Hp → Prop} {a1 : Int32}  (hp : p_X11_delayingPart h a1) (hx : x_X11_delayingPart h a1 = 0) (k : P (f_X11_delayingPart h a1) h) : CL 0 (d + 7) mX11_delayingPart [vR 11 0, vI a1] h (oI P) Qx := by
  replace k : oI P (some (vI (f_X11_delayingPart h a1))) h := k
  unfold p_X11_delayingPart at hp
  unfold f_X11_delayingPart at k
  unfold x_X11_delayingPart at hx
  refine CL.ofF (plainFor_of_name rfl) rfl (Nat.le_of_ble_eq_true rfl) (vc_X11_delayingPart_0 (d := d + 6)  ?_)
  by_cases hc : x_X11_checkOrder h a1 = 0
  · refine Or.inl (c_X11_checkOrder  hp.1 hc ?_)
    replace hp := hp.2 hc
    try simp only [if_pos hc] at k
    try simp only [if_pos hc] at hx
    refine c_X6_openOf  hp.1 ?_
    replace hp := hp.2
    refine ⟨fun c => ?_, fun c => ?_⟩
    · replace hp := hp.1 c
      try simp only [if_pos c] at k
      try simp only [if_pos c] at hx
      refine c_X6_productOf  hp.1 ?_
      replace hp := hp.2
      exact lw_X11_delayingPart_44  _ _ _ _ _ _ _ _ hp k
    · replace hp := hp.2 c
      try simp only [if_neg (oa_nn c)] at k
      try simp only [if_neg (oa_nn c)] at hx
      exact k
  · simp only [if_neg hc] at hx
    exact absurd hx hc
set_option maxHeartbeats 4000000 in
theorem t_X11_delayingPart {d : Nat} {h : Hp} {Qx : String → Hp → Prop} {a1 : Int32}  (hp : p_X11_delayingPart h a1) (hx : ¬ x_X11_delayingPart h a1 = 0) (k : Qx (oa_ex (x_X11_delayingPart h a1)) h) : CL 1 (d + 7) mX11_delayingPart [vR 11 0, vI a1] h (fun _ _ => False) Qx := by
  unfold p_X11_delayingPart at hp
  unfold x_X11_delayingPart at hx
  unfold x_X11_delayingPart at k
  refine CL.ofF (plainFor_of_name rfl) rfl (Nat.le_of_ble_eq_true rfl) (vc_X11_delayingPart_0 (d := d + 6)  ?_)
  by_cases hc : x_X11_checkOrder h a1 = 0
  · refine Or.inl (c_X11_checkOrder  hp.1 hc ?_)
    replace hp := hp.2 hc
    try simp only [if_pos hc] at k
    try simp only [if_pos hc] at hx
    refine c_X6_openOf  hp.1 ?_
    replace hp := hp.2
    refine ⟨fun c => ?_, fun c => ?_⟩
    · replace hp := hp.1 c
      try simp only [if_pos c] at k
      try simp only [if_pos c] at hx
      refine c_X6_productOf  hp.1 ?_
      replace hp := hp.2
      exact (hx (by first | rfl | trivial)).elim
    · replace hp := hp.2 c
      try simp only [if_neg (oa_nn c)] at k
      try simp only [if_neg (oa_nn c)] at hx
      exact (hx (by first | rfl | trivial)).elim
  · try simp only [if_neg hc] at k
    exact Or.inr (t_X11_checkOrder  hp.1 hc k)
def pw_X11_lateOrders_12 : Nat → Hp → Nat → Int32 → Int32 → Prop
  | 0, _, _, _, _ => False
  | n + 1, h, i1, x2, x3 => (((h.1 6 i1 0) ≤ x3) → True) ∧ ((¬ (h.1 6 i1 0) ≤ x3) → (p_X6_openOf h i1 x3 ∧ ((((f_X6_openOf h i1 x3) ≤ 0) → (pw_X11_lateOrders_12 n h i1 x2 (x3 + 1))) ∧ ((¬ (f_X6_openOf h i1 x3) ≤ 0) → (p_X6_productOf h i1 x3 ∧ (p_X11_promiseDate h (f_X6_productOf h i1 x3) (f_X6_openOf h i1 x3) ∧ (p_X6_dueOf h i1 x3 ∧ ((((f_X11_promiseDate h (f_X6_productOf h i1 x3) (f_X6_openOf h i1 x3)) ≤ (f_X6_dueOf h i1 x3)) → (pw_X11_lateOrders_12 n h i1 x2 (x3 + 1))) ∧ ((¬ (f_X11_promiseDate h (f_X6_productOf h i1 x3) (f_X6_openOf h i1 x3)) ≤ (f_X6_dueOf h i1 x3)) → (pw_X11_lateOrders_12 n h i1 (x2 ||| (1 <<< (x3 &&& 31))) (x3 + 1)))))))))))
def fw_X11_lateOrders_12 : Nat → Hp → Nat → Int32 → Int32 → Int32
  | 0, _, _, _, _ => 0
  | n + 1, h, i1, x2, x3 => if (h.1 6 i1 0) ≤ x3 then x2 else (if (f_X6_openOf h i1 x3) ≤ 0 then (fw_X11_lateOrders_12 n h i1 x2 (x3 + 1)) else (if (f_X11_promiseDate h (f_X6_productOf h i1 x3) (f_X6_openOf h i1 x3)) ≤ (f_X6_dueOf h i1 x3) then (fw_X11_lateOrders_12 n h i1 x2 (x3 + 1)) else (fw_X11_lateOrders_12 n h i1 (x2 ||| (1 <<< (x3 &&& 31))) (x3 + 1))))
set_option maxHeartbeats 4000000 in
theorem lw_X11_lateOrders_12 {X : WD → State → Prop} {d rb : Nat} {Qr : Option AV → Hp → Prop} {Qx : String → Hp → Prop}   : ∀ (n : Nat) (h : Hp) (i1 : Nat) (x2 : Int32) (x3 : Int32), pw_X11_lateOrders_12 n h i1 x2 x3 → Qr (some (vI (fw_X11_lateOrders_12 n h i1 x2 x3))) h → AW X (d + 7) rb mX11_lateOrders 12 [(0, vR 11 0), (1, vR 6 i1), (2, vI x2), (3, vI x3)] [] h Qr Qx := by
  intro n
  induction n with
  | zero => intro h i1 x2 x3 hp; exact hp.elim
  | succ n ih =>
    intro h i1 x2 x3 hp k
    rw [pw_X11_lateOrders_12] at hp
    rw [fw_X11_lateOrders_12] at k
    refine vc_X11_lateOrders_12 (d := d + 6)  ?_
    refine ⟨fun c => ?_, fun c => ?_⟩
    · replace hp := hp.1 c
      try simp only [if_pos c] at k
      exact k
    · replace hp := hp.2 c
      try simp only [if_neg c] at k
      refine c_X6_openOf  hp.1 ?_
      replace hp := hp.2
      refine ⟨fun c => ?_, fun c => ?_⟩
      · replace hp := hp.1 c
        try simp only [if_pos c] at k
        exact ih _ _ _ _ hp k
      · replace hp := hp.2 c
        try simp only [if_neg c] at k
        refine c_X6_productOf  hp.1 ?_
        replace hp := hp.2
        refine c_X11_promiseDate  hp.1 ?_
        replace hp := hp.2
        refine c_X6_dueOf  hp.1 ?_
        replace hp := hp.2
        refine ⟨fun c => ?_, fun c => ?_⟩
        · replace hp := hp.1 c
          try simp only [if_pos c] at k
          exact ih _ _ _ _ hp k
        · replace hp := hp.2 c
          try simp only [if_neg c] at k
          exact ih _ _ _ _ hp k
def p_X11_lateOrders (h : Hp)  : Prop := pw_X11_lateOrders_12 oa_N h (h.2.2 11 0 7) 0 0
def f_X11_lateOrders (h : Hp)  : Int32 := fw_X11_lateOrders_12 oa_N h (h.2.2 11 0 7) 0 0
set_option maxHeartbeats 4000000 in
theorem c_X11_lateOrders {d : Nat} {h : Hp} {P : Int32 → Hp → Prop} {Qx : String → Hp → Prop}   (hp : p_X11_lateOrders h ) (k : P (f_X11_lateOrders h ) h) : CL 0 (d + 7) mX11_lateOrders [vR 11 0] h (oI P) Qx := by
  replace k : oI P (some (vI (f_X11_lateOrders h ))) h := k
  unfold p_X11_lateOrders at hp
  unfold f_X11_lateOrders at k
  refine CL.ofF (plainFor_of_name rfl) rfl (Nat.le_of_ble_eq_true rfl) (vc_X11_lateOrders_0 (d := d + 6)  ?_)
  exact lw_X11_lateOrders_12  _ _ _ _ _ hp k
def pw_X11_missingPieces_9 : Nat → Hp → Int32 → Int32 → Int32 → Prop
  | 0, _, _, _, _ => False
  | n + 1, h, x1, x2, x3 => (((h.1 1 (h.2.2 11 0 6) 0) ≤ x3) → True) ∧ ((¬ (h.1 1 (h.2.2 11 0 6) 0) ≤ x3) → (p_X11_shortageOf h x1 x3 ∧ (pw_X11_missingPieces_9 n h x1 (x2 + (f_X11_shortageOf h x1 x3)) (x3 + 1))))
def fw_X11_missingPieces_9 : Nat → Hp → Int32 → Int32 → Int32 → Int32
  | 0, _, _, _, _ => 0
  | n + 1, h, x1, x2, x3 => if (h.1 1 (h.2.2 11 0 6) 0) ≤ x3 then x2 else (fw_X11_missingPieces_9 n h x1 (x2 + (f_X11_shortageOf h x1 x3)) (x3 + 1))
set_option maxHeartbeats 4000000 in
theorem lw_X11_missingPieces_9 {X : WD → State → Prop} {d rb : Nat} {Qr : Option AV → Hp → Prop} {Qx : String → Hp → Prop}   : ∀ (n : Nat) (h : Hp) (x1 : Int32) (x2 : Int32) (x3 : Int32), pw_X11_missingPieces_9 n h x1 x2 x3 → Qr (some (vI (fw_X11_missingPieces_9 n h x1 x2 x3))) h → AW X (d + 7) rb mX11_missingPieces 9 [(0, vR 11 0), (1, vI x1), (2, vI x2), (3, vI x3)] [] h Qr Qx := by
  intro n
  induction n with
  | zero => intro h x1 x2 x3 hp; exact hp.elim
  | succ n ih =>
    intro h x1 x2 x3 hp k
    rw [pw_X11_missingPieces_9] at hp
    rw [fw_X11_missingPieces_9] at k
    refine vc_X11_missingPieces_9 (d := d + 6)  ?_
    refine ⟨fun c => ?_, fun c => ?_⟩
    · replace hp := hp.1 c
      try simp only [if_pos c] at k
      exact k
    · replace hp := hp.2 c
      try simp only [if_neg c] at k
      refine c_X11_shortageOf  hp.1 ?_
      replace hp := hp.2
      exact ih _ _ _ _ hp k
def p_X11_missingPieces (h : Hp) (a1 : Int32) : Prop := p_X11_checkOrder h a1 ∧ (x_X11_checkOrder h a1 = 0 → (pw_X11_missingPieces_9 oa_N h a1 0 0))
def f_X11_missingPieces (h : Hp) (a1 : Int32) : Int32 := if x_X11_checkOrder h a1 = 0 then (fw_X11_missingPieces_9 oa_N h a1 0 0) else 0
def x_X11_missingPieces (h : Hp) (a1 : Int32) : Nat := if x_X11_checkOrder h a1 = 0 then 0 else x_X11_checkOrder h a1
set_option maxHeartbeats 4000000 in
theorem c_X11_missingPieces {d : Nat} {h : Hp} {P : Int32 → Hp → Prop} {Qx : String → Hp → Prop} {a1 : Int32}  (hp : p_X11_missingPieces h a1) (hx : x_X11_missingPieces h a1 = 0) (k : P (f_X11_missingPieces h a1) h) : CL 0 (d + 7) mX11_missingPieces [vR 11 0, vI a1] h (oI P) Qx := by
  replace k : oI P (some (vI (f_X11_missingPieces h a1))) h := k
  unfold p_X11_missingPieces at hp
  unfold f_X11_missingPieces at k
  unfold x_X11_missingPieces at hx
  refine CL.ofF (plainFor_of_name rfl) rfl (Nat.le_of_ble_eq_true rfl) (vc_X11_missingPieces_0 (d := d + 6)  ?_)
  by_cases hc : x_X11_checkOrder h a1 = 0
  · refine Or.inl (c_X11_checkOrder  hp.1 hc ?_)
    replace hp := hp.2 hc
    try simp only [if_pos hc] at k
    try simp only [if_pos hc] at hx
    exact lw_X11_missingPieces_9  _ _ _ _ _ hp k
  · simp only [if_neg hc] at hx
    exact absurd hx hc
set_option maxHeartbeats 4000000 in
theorem t_X11_missingPieces {d : Nat} {h : Hp} {Qx : String → Hp → Prop} {a1 : Int32}  (hp : p_X11_missingPieces h a1) (hx : ¬ x_X11_missingPieces h a1 = 0) (k : Qx (oa_ex (x_X11_missingPieces h a1)) h) : CL 1 (d + 7) mX11_missingPieces [vR 11 0, vI a1] h (fun _ _ => False) Qx := by
  unfold p_X11_missingPieces at hp
  unfold x_X11_missingPieces at hx
  unfold x_X11_missingPieces at k
  refine CL.ofF (plainFor_of_name rfl) rfl (Nat.le_of_ble_eq_true rfl) (vc_X11_missingPieces_0 (d := d + 6)  ?_)
  by_cases hc : x_X11_checkOrder h a1 = 0
  · refine Or.inl (c_X11_checkOrder  hp.1 hc ?_)
    replace hp := hp.2 hc
    try simp only [if_pos hc] at k
    try simp only [if_pos hc] at hx
    exact (hx (by first | rfl | trivial)).elim
  · try simp only [if_neg hc] at k
    exact Or.inr (t_X11_checkOrder  hp.1 hc k)
def p_X11_buildableAfter (h : Hp) (a1 : Int32) (a2 : Int32) (a3 : Int32) : Prop := p_X11_checkProduct h a1 ∧ (x_X11_checkProduct h a1 = 0 → (p_X11_checkProduct h a2 ∧ (x_X11_checkProduct h a2 = 0 → (p_X11_checkArgument h (if a1 = a2 then (0 : Int32) else (if a3 < 0 then (0 : Int32) else (if 999 < a3 then (0 : Int32) else 1))) ∧ (x_X11_checkArgument h (if a1 = a2 then (0 : Int32) else (if a3 < 0 then (0 : Int32) else (if 999 < a3 then (0 : Int32) else 1))) = 0 → (p_X10_fillFree h (h.2.2 11 0 7) 53 0 12 ∧ (p_X1_mostUnits (g_X10_fillFree h (h.2.2 11 0 7) 53 0 12) ((g_X10_fillFree h (h.2.2 11 0 7) 53 0 12).2.2 11 0 6) a2 53 0 12 ∧ (((a3 ≤ (f_X1_mostUnits (g_X10_fillFree h (h.2.2 11 0 7) 53 0 12) ((g_X10_fillFree h (h.2.2 11 0 7) 53 0 12).2.2 11 0 6) a2 53 0 12)) → (p_X1_takePieces (g_X10_fillFree h (h.2.2 11 0 7) 53 0 12) ((g_X10_fillFree h (h.2.2 11 0 7) 53 0 12).2.2 11 0 6) a2 a3 53 0 12 ∧ (p_X1_mostUnits (g_X1_takePieces (g_X10_fillFree h (h.2.2 11 0 7) 53 0 12) ((g_X10_fillFree h (h.2.2 11 0 7) 53 0 12).2.2 11 0 6) a2 a3 53 0 12) ((g_X1_takePieces (g_X10_fillFree h (h.2.2 11 0 7) 53 0 12) ((g_X10_fillFree h (h.2.2 11 0 7) 53 0 12).2.2 11 0 6) a2 a3 53 0 12).2.2 11 0 6) a1 53 0 12 ∧ True))) ∧ ((¬ a3 ≤ (f_X1_mostUnits (g_X10_fillFree h (h.2.2 11 0 7) 53 0 12) ((g_X10_fillFree h (h.2.2 11 0 7) 53 0 12).2.2 11 0 6) a2 53 0 12)) → True)))))))))
def f_X11_buildableAfter (h : Hp) (a1 : Int32) (a2 : Int32) (a3 : Int32) : Int32 := if x_X11_checkProduct h a1 = 0 then (if x_X11_checkProduct h a2 = 0 then (if x_X11_checkArgument h (if a1 = a2 then (0 : Int32) else (if a3 < 0 then (0 : Int32) else (if 999 < a3 then (0 : Int32) else 1))) = 0 then (if a3 ≤ (f_X1_mostUnits (g_X10_fillFree h (h.2.2 11 0 7) 53 0 12) ((g_X10_fillFree h (h.2.2 11 0 7) 53 0 12).2.2 11 0 6) a2 53 0 12) then (f_X1_mostUnits (g_X1_takePieces (g_X10_fillFree h (h.2.2 11 0 7) 53 0 12) ((g_X10_fillFree h (h.2.2 11 0 7) 53 0 12).2.2 11 0 6) a2 a3 53 0 12) ((g_X1_takePieces (g_X10_fillFree h (h.2.2 11 0 7) 53 0 12) ((g_X10_fillFree h (h.2.2 11 0 7) 53 0 12).2.2 11 0 6) a2 a3 53 0 12).2.2 11 0 6) a1 53 0 12) else (-1)) else 0) else 0) else 0
def g_X11_buildableAfter (h : Hp) (a1 : Int32) (a2 : Int32) (a3 : Int32) : Hp := if x_X11_checkProduct h a1 = 0 then (if x_X11_checkProduct h a2 = 0 then (if x_X11_checkArgument h (if a1 = a2 then (0 : Int32) else (if a3 < 0 then (0 : Int32) else (if 999 < a3 then (0 : Int32) else 1))) = 0 then (if a3 ≤ (f_X1_mostUnits (g_X10_fillFree h (h.2.2 11 0 7) 53 0 12) ((g_X10_fillFree h (h.2.2 11 0 7) 53 0 12).2.2 11 0 6) a2 53 0 12) then (g_X1_takePieces (g_X10_fillFree h (h.2.2 11 0 7) 53 0 12) ((g_X10_fillFree h (h.2.2 11 0 7) 53 0 12).2.2 11 0 6) a2 a3 53 0 12) else (g_X10_fillFree h (h.2.2 11 0 7) 53 0 12)) else h) else h) else h
def x_X11_buildableAfter (h : Hp) (a1 : Int32) (a2 : Int32) (a3 : Int32) : Nat := if x_X11_checkProduct h a1 = 0 then (if x_X11_checkProduct h a2 = 0 then (if x_X11_checkArgument h (if a1 = a2 then (0 : Int32) else (if a3 < 0 then (0 : Int32) else (if 999 < a3 then (0 : Int32) else 1))) = 0 then (if a3 ≤ (f_X1_mostUnits (g_X10_fillFree h (h.2.2 11 0 7) 53 0 12) ((g_X10_fillFree h (h.2.2 11 0 7) 53 0 12).2.2 11 0 6) a2 53 0 12) then 0 else 0) else x_X11_checkArgument h (if a1 = a2 then (0 : Int32) else (if a3 < 0 then (0 : Int32) else (if 999 < a3 then (0 : Int32) else 1)))) else x_X11_checkProduct h a2) else x_X11_checkProduct h a1
set_option maxHeartbeats 4000000 in
theorem c_X11_buildableAfter {d : Nat} {h : Hp} {P : Int32 → Hp → Prop} {Qx : String → Hp → Prop} {a1 : Int32} {a2 : Int32} {a3 : Int32}  (hp : p_X11_buildableAfter h a1 a2 a3) (hx : x_X11_buildableAfter h a1 a2 a3 = 0) (k : P (f_X11_buildableAfter h a1 a2 a3) (g_X11_buildableAfter h a1 a2 a3)) : CL 0 (d + 7) mX11_buildableAfter [vR 11 0, vI a1, vI a2, vI a3] h (oI P) Qx := by
  replace k : oI P (some (vI (f_X11_buildableAfter h a1 a2 a3))) (g_X11_buildableAfter h a1 a2 a3) := k
  unfold p_X11_buildableAfter at hp
  unfold f_X11_buildableAfter at k
  unfold g_X11_buildableAfter at k
  unfold x_X11_buildableAfter at hx
  refine CL.ofF (plainFor_of_name rfl) rfl (Nat.le_of_ble_eq_true rfl) (vc_X11_buildableAfter_0 (d := d + 6)  ?_)
  by_cases hc : x_X11_checkProduct h a1 = 0
  · refine Or.inl (c_X11_checkProduct  hp.1 hc ?_)
    replace hp := hp.2 hc
    try simp only [if_pos hc] at k
    try simp only [if_pos hc] at hx
    by_cases hc : x_X11_checkProduct h a2 = 0
    · refine Or.inl (c_X11_checkProduct  hp.1 hc ?_)
      replace hp := hp.2 hc
      try simp only [if_pos hc] at k
      try simp only [if_pos hc] at hx
      by_cases hc : x_X11_checkArgument h (if a1 = a2 then (0 : Int32) else (if a3 < 0 then (0 : Int32) else (if 999 < a3 then (0 : Int32) else 1))) = 0
      · refine Or.inl (c_X11_checkArgument  hp.1 hc ?_)
        replace hp := hp.2 hc
        try simp only [if_pos hc] at k
        try simp only [if_pos hc] at hx
        refine c_X10_fillFree (by decide) rfl hp.1 ?_
        replace hp := hp.2
        refine c_X1_mostUnits (by decide) rfl hp.1 ?_
        replace hp := hp.2
        refine ⟨fun c => ?_, fun c => ?_⟩
        · replace hp := hp.1 c
          try simp only [if_pos c] at k
          try simp only [if_pos c] at hx
          refine c_X1_takePieces (by decide) rfl hp.1 ?_
          replace hp := hp.2
          refine c_X1_mostUnits (by decide) rfl hp.1 ?_
          replace hp := hp.2
          exact k
        · replace hp := hp.2 c
          try simp only [if_neg c] at k
          try simp only [if_neg c] at hx
          exact k
      · simp only [if_neg hc] at hx
        exact absurd hx hc
    · simp only [if_neg hc] at hx
      exact absurd hx hc
  · simp only [if_neg hc] at hx
    exact absurd hx hc
set_option maxHeartbeats 4000000 in
theorem t_X11_buildableAfter {d : Nat} {h : Hp} {Qx : String → Hp → Prop} {a1 : Int32} {a2 : Int32} {a3 : Int32}  (hp : p_X11_buildableAfter h a1 a2 a3) (hx : ¬ x_X11_buildableAfter h a1 a2 a3 = 0) (k : Qx (oa_ex (x_X11_buildableAfter h a1 a2 a3)) (g_X11_buildableAfter h a1 a2 a3)) : CL 1 (d + 7) mX11_buildableAfter [vR 11 0, vI a1, vI a2, vI a3] h (fun _ _ => False) Qx := by
  unfold p_X11_buildableAfter at hp
  unfold g_X11_buildableAfter at k
  unfold x_X11_buildableAfter at hx
  unfold x_X11_buildableAfter at k
  refine CL.ofF (plainFor_of_name rfl) rfl (Nat.le_of_ble_eq_true rfl) (vc_X11_buildableAfter_0 (d := d + 6)  ?_)
  by_cases hc : x_X11_checkProduct h a1 = 0
  · refine Or.inl (c_X11_checkProduct  hp.1 hc ?_)
    replace hp := hp.2 hc
    try simp only [if_pos hc] at k
    try simp only [if_pos hc] at hx
    by_cases hc : x_X11_checkProduct h a2 = 0
    · refine Or.inl (c_X11_checkProduct  hp.1 hc ?_)
      replace hp := hp.2 hc
      try simp only [if_pos hc] at k
      try simp only [if_pos hc] at hx
      by_cases hc : x_X11_checkArgument h (if a1 = a2 then (0 : Int32) else (if a3 < 0 then (0 : Int32) else (if 999 < a3 then (0 : Int32) else 1))) = 0
      · refine Or.inl (c_X11_checkArgument  hp.1 hc ?_)
        replace hp := hp.2 hc
        try simp only [if_pos hc] at k
        try simp only [if_pos hc] at hx
        refine c_X10_fillFree (by decide) rfl hp.1 ?_
        replace hp := hp.2
        refine c_X1_mostUnits (by decide) rfl hp.1 ?_
        replace hp := hp.2
        refine ⟨fun c => ?_, fun c => ?_⟩
        · replace hp := hp.1 c
          try simp only [if_pos c] at k
          try simp only [if_pos c] at hx
          refine c_X1_takePieces (by decide) rfl hp.1 ?_
          replace hp := hp.2
          refine c_X1_mostUnits (by decide) rfl hp.1 ?_
          replace hp := hp.2
          exact (hx (by first | rfl | trivial)).elim
        · replace hp := hp.2 c
          try simp only [if_neg c] at k
          try simp only [if_neg c] at hx
          exact (hx (by first | rfl | trivial)).elim
      · try simp only [if_neg hc] at k
        exact Or.inr (t_X11_checkArgument  hp.1 hc k)
    · try simp only [if_neg hc] at k
      exact Or.inr (t_X11_checkProduct  hp.1 hc k)
  · try simp only [if_neg hc] at k
    exact Or.inr (t_X11_checkProduct  hp.1 hc k)
def pw_X11_promiseOfAll_13 : Nat → Hp → Int32 → Int32 → Prop
  | 0, _, _, _ => False
  | n + 1, h, x1, x2 => (((h.1 1 (h.2.2 11 0 6) 0) ≤ x2) → True) ∧ ((¬ (h.1 1 (h.2.2 11 0 6) 0) ≤ x2) → (p_X5_openPieces h (h.2.2 11 0 7) (h.2.2 11 0 6) x2 ∧ ((((f_X5_openPieces h (h.2.2 11 0 7) (h.2.2 11 0 6) x2) ≤ 0) → (pw_X11_promiseOfAll_13 n h x1 (x2 + 1))) ∧ ((¬ (f_X5_openPieces h (h.2.2 11 0 7) (h.2.2 11 0 6) x2) ≤ 0) → (p_X11_dayOfPart h x2 (f_X5_openPieces h (h.2.2 11 0 7) (h.2.2 11 0 6) x2) ∧ (pw_X11_promiseOfAll_13 n h (if x1 < (f_X11_dayOfPart h x2 (f_X5_openPieces h (h.2.2 11 0 7) (h.2.2 11 0 6) x2)) then (f_X11_dayOfPart h x2 (f_X5_openPieces h (h.2.2 11 0 7) (h.2.2 11 0 6) x2)) else x1) (x2 + 1)))))))
def fw_X11_promiseOfAll_13 : Nat → Hp → Int32 → Int32 → Int32
  | 0, _, _, _ => 0
  | n + 1, h, x1, x2 => if (h.1 1 (h.2.2 11 0 6) 0) ≤ x2 then x1 else (if (f_X5_openPieces h (h.2.2 11 0 7) (h.2.2 11 0 6) x2) ≤ 0 then (fw_X11_promiseOfAll_13 n h x1 (x2 + 1)) else (fw_X11_promiseOfAll_13 n h (if x1 < (f_X11_dayOfPart h x2 (f_X5_openPieces h (h.2.2 11 0 7) (h.2.2 11 0 6) x2)) then (f_X11_dayOfPart h x2 (f_X5_openPieces h (h.2.2 11 0 7) (h.2.2 11 0 6) x2)) else x1) (x2 + 1)))
set_option maxHeartbeats 4000000 in
theorem lw_X11_promiseOfAll_13 {X : WD → State → Prop} {d rb : Nat} {Qr : Option AV → Hp → Prop} {Qx : String → Hp → Prop}   : ∀ (n : Nat) (h : Hp) (x1 : Int32) (x2 : Int32), pw_X11_promiseOfAll_13 n h x1 x2 → Qr (some (vI (fw_X11_promiseOfAll_13 n h x1 x2))) h → AW X (d + 6) rb mX11_promiseOfAll 13 [(0, vR 11 0), (1, vI x1), (2, vI x2)] [] h Qr Qx := by
  intro n
  induction n with
  | zero => intro h x1 x2 hp; exact hp.elim
  | succ n ih =>
    intro h x1 x2 hp k
    rw [pw_X11_promiseOfAll_13] at hp
    rw [fw_X11_promiseOfAll_13] at k
    refine vc_X11_promiseOfAll_13 (d := d + 5)  ?_
    refine ⟨fun c => ?_, fun c => ?_⟩
    · replace hp := hp.1 c
      try simp only [if_pos c] at k
      exact k
    · replace hp := hp.2 c
      try simp only [if_neg c] at k
      refine c_X5_openPieces  hp.1 ?_
      replace hp := hp.2
      refine ⟨fun c => ?_, fun c => ?_⟩
      · replace hp := hp.1 c
        try simp only [if_pos c] at k
        exact ih _ _ _ hp k
      · replace hp := hp.2 c
        try simp only [if_neg c] at k
        refine c_X11_dayOfPart  hp.1 ?_
        replace hp := hp.2
        exact ih _ _ _ hp k
def p_X11_promiseOfAll (h : Hp)  : Prop := pw_X11_promiseOfAll_13 oa_N h (h.1 10 (h.2.2 11 0 7) 0) 0
def f_X11_promiseOfAll (h : Hp)  : Int32 := fw_X11_promiseOfAll_13 oa_N h (h.1 10 (h.2.2 11 0 7) 0) 0
set_option maxHeartbeats 4000000 in
theorem c_X11_promiseOfAll {d : Nat} {h : Hp} {P : Int32 → Hp → Prop} {Qx : String → Hp → Prop}   (hp : p_X11_promiseOfAll h ) (k : P (f_X11_promiseOfAll h ) h) : CL 0 (d + 6) mX11_promiseOfAll [vR 11 0] h (oI P) Qx := by
  replace k : oI P (some (vI (f_X11_promiseOfAll h ))) h := k
  unfold p_X11_promiseOfAll at hp
  unfold f_X11_promiseOfAll at k
  refine CL.ofF (plainFor_of_name rfl) rfl (Nat.le_of_ble_eq_true rfl) (vc_X11_promiseOfAll_0 (d := d + 5)  ?_)
  exact lw_X11_promiseOfAll_13  _ _ _ _ hp k
def p_X11_addOrder (h : Hp) (a1 : Int32) (a2 : Int32) (a3 : Int32) (a4 : Int32) (a5 : Int32) : Prop := p_X11_checkProduct h a1 ∧ (x_X11_checkProduct h a1 = 0 → (p_X11_checkArgument h (if a2 < 1 then (0 : Int32) else (if 99 < a2 then (0 : Int32) else 1)) ∧ (x_X11_checkArgument h (if a2 < 1 then (0 : Int32) else (if 99 < a2 then (0 : Int32) else 1)) = 0 → (p_X11_checkArgument h (if a3 < 0 then (0 : Int32) else (if 9 < a3 then (0 : Int32) else 1)) ∧ (x_X11_checkArgument h (if a3 < 0 then (0 : Int32) else (if 9 < a3 then (0 : Int32) else 1)) = 0 → (p_X11_checkArgument h (if a4 < 0 then (0 : Int32) else (if 999 < a4 then (0 : Int32) else 1)) ∧ (x_X11_checkArgument h (if a4 < 0 then (0 : Int32) else (if 999 < a4 then (0 : Int32) else 1)) = 0 → (p_X11_checkState h (if 20 ≤ (h.1 6 (h.2.2 11 0 7) 0) then (0 : Int32) else 1) ∧ (x_X11_checkState h (if 20 ≤ (h.1 6 (h.2.2 11 0 7) 0) then (0 : Int32) else 1) = 0 → (p_X3_record h (h.2.2 11 0 7) ∧ (p_X6_enter (g_X3_record h (h.2.2 11 0 7)) ((g_X3_record h (h.2.2 11 0 7)).2.2 11 0 7) a1 a2 a3 a4 a5 ∧ True)))))))))))
def f_X11_addOrder (h : Hp) (a1 : Int32) (a2 : Int32) (a3 : Int32) (a4 : Int32) (a5 : Int32) : Int32 := if x_X11_checkProduct h a1 = 0 then (if x_X11_checkArgument h (if a2 < 1 then (0 : Int32) else (if 99 < a2 then (0 : Int32) else 1)) = 0 then (if x_X11_checkArgument h (if a3 < 0 then (0 : Int32) else (if 9 < a3 then (0 : Int32) else 1)) = 0 then (if x_X11_checkArgument h (if a4 < 0 then (0 : Int32) else (if 999 < a4 then (0 : Int32) else 1)) = 0 then (if x_X11_checkState h (if 20 ≤ (h.1 6 (h.2.2 11 0 7) 0) then (0 : Int32) else 1) = 0 then (f_X6_enter (g_X3_record h (h.2.2 11 0 7)) ((g_X3_record h (h.2.2 11 0 7)).2.2 11 0 7) a1 a2 a3 a4 a5) else 0) else 0) else 0) else 0) else 0
def g_X11_addOrder (h : Hp) (a1 : Int32) (a2 : Int32) (a3 : Int32) (a4 : Int32) (a5 : Int32) : Hp := if x_X11_checkProduct h a1 = 0 then (if x_X11_checkArgument h (if a2 < 1 then (0 : Int32) else (if 99 < a2 then (0 : Int32) else 1)) = 0 then (if x_X11_checkArgument h (if a3 < 0 then (0 : Int32) else (if 9 < a3 then (0 : Int32) else 1)) = 0 then (if x_X11_checkArgument h (if a4 < 0 then (0 : Int32) else (if 999 < a4 then (0 : Int32) else 1)) = 0 then (if x_X11_checkState h (if 20 ≤ (h.1 6 (h.2.2 11 0 7) 0) then (0 : Int32) else 1) = 0 then (g_X6_enter (g_X3_record h (h.2.2 11 0 7)) ((g_X3_record h (h.2.2 11 0 7)).2.2 11 0 7) a1 a2 a3 a4 a5) else h) else h) else h) else h) else h
def x_X11_addOrder (h : Hp) (a1 : Int32) (a2 : Int32) (a3 : Int32) (a4 : Int32) (a5 : Int32) : Nat := if x_X11_checkProduct h a1 = 0 then (if x_X11_checkArgument h (if a2 < 1 then (0 : Int32) else (if 99 < a2 then (0 : Int32) else 1)) = 0 then (if x_X11_checkArgument h (if a3 < 0 then (0 : Int32) else (if 9 < a3 then (0 : Int32) else 1)) = 0 then (if x_X11_checkArgument h (if a4 < 0 then (0 : Int32) else (if 999 < a4 then (0 : Int32) else 1)) = 0 then (if x_X11_checkState h (if 20 ≤ (h.1 6 (h.2.2 11 0 7) 0) then (0 : Int32) else 1) = 0 then 0 else x_X11_checkState h (if 20 ≤ (h.1 6 (h.2.2 11 0 7) 0) then (0 : Int32) else 1)) else x_X11_checkArgument h (if a4 < 0 then (0 : Int32) else (if 999 < a4 then (0 : Int32) else 1))) else x_X11_checkArgument h (if a3 < 0 then (0 : Int32) else (if 9 < a3 then (0 : Int32) else 1))) else x_X11_checkArgument h (if a2 < 1 then (0 : Int32) else (if 99 < a2 then (0 : Int32) else 1))) else x_X11_checkProduct h a1
set_option maxHeartbeats 4000000 in
theorem c_X11_addOrder {d : Nat} {h : Hp} {P : Int32 → Hp → Prop} {Qx : String → Hp → Prop} {a1 : Int32} {a2 : Int32} {a3 : Int32} {a4 : Int32} {a5 : Int32}  (hp : p_X11_addOrder h a1 a2 a3 a4 a5) (hx : x_X11_addOrder h a1 a2 a3 a4 a5 = 0) (k : P (f_X11_addOrder h a1 a2 a3 a4 a5) (g_X11_addOrder h a1 a2 a3 a4 a5)) : CL 0 (d + 7) mX11_addOrder [vR 11 0, vI a1, vI a2, vI a3, vI a4, vI a5] h (oI P) Qx := by
  replace k : oI P (some (vI (f_X11_addOrder h a1 a2 a3 a4 a5))) (g_X11_addOrder h a1 a2 a3 a4 a5) := k
  unfold p_X11_addOrder at hp
  unfold f_X11_addOrder at k
  unfold g_X11_addOrder at k
  unfold x_X11_addOrder at hx
  refine CL.ofF (plainFor_of_name rfl) rfl (Nat.le_of_ble_eq_true rfl) (vc_X11_addOrder_0 (d := d + 6)  ?_)
  by_cases hc : x_X11_checkProduct h a1 = 0
  · refine Or.inl (c_X11_checkProduct  hp.1 hc ?_)
    replace hp := hp.2 hc
    try simp only [if_pos hc] at k
    try simp only [if_pos hc] at hx
    by_cases hc : x_X11_checkArgument h (if a2 < 1 then (0 : Int32) else (if 99 < a2 then (0 : Int32) else 1)) = 0
    · refine Or.inl (c_X11_checkArgument  hp.1 hc ?_)
      replace hp := hp.2 hc
      try simp only [if_pos hc] at k
      try simp only [if_pos hc] at hx
      by_cases hc : x_X11_checkArgument h (if a3 < 0 then (0 : Int32) else (if 9 < a3 then (0 : Int32) else 1)) = 0
      · refine Or.inl (c_X11_checkArgument  hp.1 hc ?_)
        replace hp := hp.2 hc
        try simp only [if_pos hc] at k
        try simp only [if_pos hc] at hx
        by_cases hc : x_X11_checkArgument h (if a4 < 0 then (0 : Int32) else (if 999 < a4 then (0 : Int32) else 1)) = 0
        · refine Or.inl (c_X11_checkArgument  hp.1 hc ?_)
          replace hp := hp.2 hc
          try simp only [if_pos hc] at k
          try simp only [if_pos hc] at hx
          by_cases hc : x_X11_checkState h (if 20 ≤ (h.1 6 (h.2.2 11 0 7) 0) then (0 : Int32) else 1) = 0
          · refine Or.inl (c_X11_checkState  hp.1 hc ?_)
            replace hp := hp.2 hc
            try simp only [if_pos hc] at k
            try simp only [if_pos hc] at hx
            refine c_X3_record  hp.1 ?_
            replace hp := hp.2
            refine c_X6_enter  hp.1 ?_
            replace hp := hp.2
            exact k
          · simp only [if_neg hc] at hx
            exact absurd hx hc
        · simp only [if_neg hc] at hx
          exact absurd hx hc
      · simp only [if_neg hc] at hx
        exact absurd hx hc
    · simp only [if_neg hc] at hx
      exact absurd hx hc
  · simp only [if_neg hc] at hx
    exact absurd hx hc
set_option maxHeartbeats 4000000 in
theorem t_X11_addOrder {d : Nat} {h : Hp} {Qx : String → Hp → Prop} {a1 : Int32} {a2 : Int32} {a3 : Int32} {a4 : Int32} {a5 : Int32}  (hp : p_X11_addOrder h a1 a2 a3 a4 a5) (hx : ¬ x_X11_addOrder h a1 a2 a3 a4 a5 = 0) (k : Qx (oa_ex (x_X11_addOrder h a1 a2 a3 a4 a5)) (g_X11_addOrder h a1 a2 a3 a4 a5)) : CL 1 (d + 7) mX11_addOrder [vR 11 0, vI a1, vI a2, vI a3, vI a4, vI a5] h (fun _ _ => False) Qx := by
  unfold p_X11_addOrder at hp
  unfold g_X11_addOrder at k
  unfold x_X11_addOrder at hx
  unfold x_X11_addOrder at k
  refine CL.ofF (plainFor_of_name rfl) rfl (Nat.le_of_ble_eq_true rfl) (vc_X11_addOrder_0 (d := d + 6)  ?_)
  by_cases hc : x_X11_checkProduct h a1 = 0
  · refine Or.inl (c_X11_checkProduct  hp.1 hc ?_)
    replace hp := hp.2 hc
    try simp only [if_pos hc] at k
    try simp only [if_pos hc] at hx
    by_cases hc : x_X11_checkArgument h (if a2 < 1 then (0 : Int32) else (if 99 < a2 then (0 : Int32) else 1)) = 0
    · refine Or.inl (c_X11_checkArgument  hp.1 hc ?_)
      replace hp := hp.2 hc
      try simp only [if_pos hc] at k
      try simp only [if_pos hc] at hx
      by_cases hc : x_X11_checkArgument h (if a3 < 0 then (0 : Int32) else (if 9 < a3 then (0 : Int32) else 1)) = 0
      · refine Or.inl (c_X11_checkArgument  hp.1 hc ?_)
        replace hp := hp.2 hc
        try simp only [if_pos hc] at k
        try simp only [if_pos hc] at hx
        by_cases hc : x_X11_checkArgument h (if a4 < 0 then (0 : Int32) else (if 999 < a4 then (0 : Int32) else 1)) = 0
        · refine Or.inl (c_X11_checkArgument  hp.1 hc ?_)
          replace hp := hp.2 hc
          try simp only [if_pos hc] at k
          try simp only [if_pos hc] at hx
          by_cases hc : x_X11_checkState h (if 20 ≤ (h.1 6 (h.2.2 11 0 7) 0) then (0 : Int32) else 1) = 0
          · refine Or.inl (c_X11_checkState  hp.1 hc ?_)
            replace hp := hp.2 hc
            try simp only [if_pos hc] at k
            try simp only [if_pos hc] at hx
            refine c_X3_record  hp.1 ?_
            replace hp := hp.2
            refine c_X6_enter  hp.1 ?_
            replace hp := hp.2
            exact (hx (by first | rfl | trivial)).elim
          · try simp only [if_neg hc] at k
            exact Or.inr (t_X11_checkState  hp.1 hc k)
        · try simp only [if_neg hc] at k
          exact Or.inr (t_X11_checkArgument  hp.1 hc k)
      · try simp only [if_neg hc] at k
        exact Or.inr (t_X11_checkArgument  hp.1 hc k)
    · try simp only [if_neg hc] at k
      exact Or.inr (t_X11_checkArgument  hp.1 hc k)
  · try simp only [if_neg hc] at k
    exact Or.inr (t_X11_checkProduct  hp.1 hc k)
def p_X11_cancel (h : Hp) (a1 : Int32) : Prop := p_X11_checkOrder h a1 ∧ (x_X11_checkOrder h a1 = 0 → (p_X11_isClosed h a1 ∧ (p_X11_checkState h (if ¬ (f_X11_isClosed h a1) = 0 then (0 : Int32) else 1) ∧ (x_X11_checkState h (if ¬ (f_X11_isClosed h a1) = 0 then (0 : Int32) else 1) = 0 → (p_X3_record h (h.2.2 11 0 7) ∧ (p_X6_reservedOf (g_X3_record h (h.2.2 11 0 7)) ((g_X3_record h (h.2.2 11 0 7)).2.2 11 0 7) a1 ∧ (p_X5_changeReserved (g_X3_record h (h.2.2 11 0 7)) ((g_X3_record h (h.2.2 11 0 7)).2.2 11 0 7) ((g_X3_record h (h.2.2 11 0 7)).2.2 11 0 6) a1 (-(f_X6_reservedOf (g_X3_record h (h.2.2 11 0 7)) ((g_X3_record h (h.2.2 11 0 7)).2.2 11 0 7) a1)) ∧ (p_X6_markCancelled (g_X5_changeReserved (g_X3_record h (h.2.2 11 0 7)) ((g_X3_record h (h.2.2 11 0 7)).2.2 11 0 7) ((g_X3_record h (h.2.2 11 0 7)).2.2 11 0 6) a1 (-(f_X6_reservedOf (g_X3_record h (h.2.2 11 0 7)) ((g_X3_record h (h.2.2 11 0 7)).2.2 11 0 7) a1))) ((g_X5_changeReserved (g_X3_record h (h.2.2 11 0 7)) ((g_X3_record h (h.2.2 11 0 7)).2.2 11 0 7) ((g_X3_record h (h.2.2 11 0 7)).2.2 11 0 6) a1 (-(f_X6_reservedOf (g_X3_record h (h.2.2 11 0 7)) ((g_X3_record h (h.2.2 11 0 7)).2.2 11 0 7) a1))).2.2 11 0 7) a1 ∧ True))))))))
def f_X11_cancel (h : Hp) (a1 : Int32) : Int32 := if x_X11_checkOrder h a1 = 0 then (if x_X11_checkState h (if ¬ (f_X11_isClosed h a1) = 0 then (0 : Int32) else 1) = 0 then (f_X6_reservedOf (g_X3_record h (h.2.2 11 0 7)) ((g_X3_record h (h.2.2 11 0 7)).2.2 11 0 7) a1) else 0) else 0
def g_X11_cancel (h : Hp) (a1 : Int32) : Hp := if x_X11_checkOrder h a1 = 0 then (if x_X11_checkState h (if ¬ (f_X11_isClosed h a1) = 0 then (0 : Int32) else 1) = 0 then (g_X6_markCancelled (g_X5_changeReserved (g_X3_record h (h.2.2 11 0 7)) ((g_X3_record h (h.2.2 11 0 7)).2.2 11 0 7) ((g_X3_record h (h.2.2 11 0 7)).2.2 11 0 6) a1 (-(f_X6_reservedOf (g_X3_record h (h.2.2 11 0 7)) ((g_X3_record h (h.2.2 11 0 7)).2.2 11 0 7) a1))) ((g_X5_changeReserved (g_X3_record h (h.2.2 11 0 7)) ((g_X3_record h (h.2.2 11 0 7)).2.2 11 0 7) ((g_X3_record h (h.2.2 11 0 7)).2.2 11 0 6) a1 (-(f_X6_reservedOf (g_X3_record h (h.2.2 11 0 7)) ((g_X3_record h (h.2.2 11 0 7)).2.2 11 0 7) a1))).2.2 11 0 7) a1) else h) else h
def x_X11_cancel (h : Hp) (a1 : Int32) : Nat := if x_X11_checkOrder h a1 = 0 then (if x_X11_checkState h (if ¬ (f_X11_isClosed h a1) = 0 then (0 : Int32) else 1) = 0 then 0 else x_X11_checkState h (if ¬ (f_X11_isClosed h a1) = 0 then (0 : Int32) else 1)) else x_X11_checkOrder h a1
set_option maxHeartbeats 4000000 in
theorem c_X11_cancel {d : Nat} {h : Hp} {P : Int32 → Hp → Prop} {Qx : String → Hp → Prop} {a1 : Int32}  (hp : p_X11_cancel h a1) (hx : x_X11_cancel h a1 = 0) (k : P (f_X11_cancel h a1) (g_X11_cancel h a1)) : CL 0 (d + 7) mX11_cancel [vR 11 0, vI a1] h (oI P) Qx := by
  replace k : oI P (some (vI (f_X11_cancel h a1))) (g_X11_cancel h a1) := k
  unfold p_X11_cancel at hp
  unfold f_X11_cancel at k
  unfold g_X11_cancel at k
  unfold x_X11_cancel at hx
  refine CL.ofF (plainFor_of_name rfl) rfl (Nat.le_of_ble_eq_true rfl) (vc_X11_cancel_0 (d := d + 6)  ?_)
  by_cases hc : x_X11_checkOrder h a1 = 0
  · refine Or.inl (c_X11_checkOrder  hp.1 hc ?_)
    replace hp := hp.2 hc
    try simp only [if_pos hc] at k
    try simp only [if_pos hc] at hx
    refine c_X11_isClosed  hp.1 ?_
    replace hp := hp.2
    by_cases hc : x_X11_checkState h (if ¬ (f_X11_isClosed h a1) = 0 then (0 : Int32) else 1) = 0
    · refine Or.inl (c_X11_checkState  hp.1 hc ?_)
      replace hp := hp.2 hc
      try simp only [if_pos hc] at k
      try simp only [if_pos hc] at hx
      refine c_X3_record  hp.1 ?_
      replace hp := hp.2
      refine c_X6_reservedOf  hp.1 ?_
      replace hp := hp.2
      refine c_X5_changeReserved  hp.1 ?_
      replace hp := hp.2
      refine c_X6_markCancelled  hp.1 ?_
      replace hp := hp.2
      exact k
    · simp only [if_neg hc] at hx
      exact absurd hx hc
  · simp only [if_neg hc] at hx
    exact absurd hx hc
set_option maxHeartbeats 4000000 in
theorem t_X11_cancel {d : Nat} {h : Hp} {Qx : String → Hp → Prop} {a1 : Int32}  (hp : p_X11_cancel h a1) (hx : ¬ x_X11_cancel h a1 = 0) (k : Qx (oa_ex (x_X11_cancel h a1)) (g_X11_cancel h a1)) : CL 1 (d + 7) mX11_cancel [vR 11 0, vI a1] h (fun _ _ => False) Qx := by
  unfold p_X11_cancel at hp
  unfold g_X11_cancel at k
  unfold x_X11_cancel at hx
  unfold x_X11_cancel at k
  refine CL.ofF (plainFor_of_name rfl) rfl (Nat.le_of_ble_eq_true rfl) (vc_X11_cancel_0 (d := d + 6)  ?_)
  by_cases hc : x_X11_checkOrder h a1 = 0
  · refine Or.inl (c_X11_checkOrder  hp.1 hc ?_)
    replace hp := hp.2 hc
    try simp only [if_pos hc] at k
    try simp only [if_pos hc] at hx
    refine c_X11_isClosed  hp.1 ?_
    replace hp := hp.2
    by_cases hc : x_X11_checkState h (if ¬ (f_X11_isClosed h a1) = 0 then (0 : Int32) else 1) = 0
    · refine Or.inl (c_X11_checkState  hp.1 hc ?_)
      replace hp := hp.2 hc
      try simp only [if_pos hc] at k
      try simp only [if_pos hc] at hx
      refine c_X3_record  hp.1 ?_
      replace hp := hp.2
      refine c_X6_reservedOf  hp.1 ?_
      replace hp := hp.2
      refine c_X5_changeReserved  hp.1 ?_
      replace hp := hp.2
      refine c_X6_markCancelled  hp.1 ?_
      replace hp := hp.2
      exact (hx (by first | rfl | trivial)).elim
    · try simp only [if_neg hc] at k
      exact Or.inr (t_X11_checkState  hp.1 hc k)
  · try simp only [if_neg hc] at k
    exact Or.inr (t_X11_checkOrder  hp.1 hc k)
