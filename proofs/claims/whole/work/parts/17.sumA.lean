def pw_X0_setQuotas_2 : Nat → Hp → Int32 → Int32 → Prop
  | 0, _, _, _ => False
  | n + 1, h, x1, x2 => ((12 ≤ x2) → True) ∧ ((¬ 12 ≤ x2) → ((vp_in x2 12) ∧ ((vp_in x2 12) ∧ (pw_X0_setQuotas_2 n (hp_i h 14 0 x2.toNatClampNeg (((h.1 13 0 x2.toNatClampNeg) * x1) / 100)) x1 (x2 + 1)))))
def gw_X0_setQuotas_2 : Nat → Hp → Int32 → Int32 → Hp
  | 0, h, _, _ => h
  | n + 1, h, x1, x2 => if 12 ≤ x2 then h else (gw_X0_setQuotas_2 n (hp_i h 14 0 x2.toNatClampNeg (((h.1 13 0 x2.toNatClampNeg) * x1) / 100)) x1 (x2 + 1))
set_option maxHeartbeats 4000000 in
theorem lw_X0_setQuotas_2 {X : WD → State → Prop} {d rb : Nat} {Qr : Option AV → Hp → Prop} {Qx : String → Hp → Prop}   : ∀ (n : Nat) (h : Hp) (x1 : Int32) (x2 : Int32), pw_X0_setQuotas_2 n h x1 x2 → Qr none (gw_X0_setQuotas_2 n h x1 x2) → AW X (d + 1) rb mX0_setQuotas 2 [(0, vR 0 0), (1, vI x1), (2, vI x2)] [] h Qr Qx := by
  intro n
  induction n with
  | zero => intro h x1 x2 hp; exact hp.elim
  | succ n ih =>
    intro h x1 x2 hp k
    rw [pw_X0_setQuotas_2] at hp
    rw [gw_X0_setQuotas_2] at k
    refine vc_X0_setQuotas_2 (d := d + 0)  ?_
    refine ⟨fun c => ?_, fun c => ?_⟩
    · replace hp := hp.1 c
      try simp only [if_pos c] at k
      exact k
    · replace hp := hp.2 c
      try simp only [if_neg c] at k
      refine ⟨hp.1, ?_⟩
      replace hp := hp.2
      refine ⟨hp.1, ?_⟩
      replace hp := hp.2
      exact ih _ _ _ hp k
def p_X0_setQuotas (h : Hp) (a1 : Int32) : Prop := pw_X0_setQuotas_2 oa_N h a1 0
def g_X0_setQuotas (h : Hp) (a1 : Int32) : Hp := gw_X0_setQuotas_2 oa_N h a1 0
set_option maxHeartbeats 4000000 in
theorem c_X0_setQuotas {d : Nat} {h : Hp} {P : Hp → Prop} {Qx : String → Hp → Prop} {a1 : Int32}  (hp : p_X0_setQuotas h a1) (k : P  (g_X0_setQuotas h a1)) : CL 0 (d + 1) mX0_setQuotas [vR 0 0, vI a1] h (oV P) Qx := by
  replace k : oV P none (g_X0_setQuotas h a1) := k
  unfold p_X0_setQuotas at hp
  unfold g_X0_setQuotas at k
  refine CL.ofF (plainFor_of_name rfl) rfl (Nat.le_of_ble_eq_true rfl) (vc_X0_setQuotas_0 (d := d + 0)  ?_)
  exact lw_X0_setQuotas_2  _ _ _ _ hp k
def p_X1_clear (h : Hp) (i0 : Nat) : Prop := True
def g_X1_clear (h : Hp) (i0 : Nat) : Hp := hp_i (hp_i (hp_i h 1 i0 0 0) 1 i0 1 0) 1 i0 2 0
set_option maxHeartbeats 4000000 in
theorem c_X1_clear {d : Nat} {h : Hp} {P : Hp → Prop} {Qx : String → Hp → Prop} {i0 : Nat}  (hp : p_X1_clear h i0) (k : P  (g_X1_clear h i0)) : CL 0 (d + 1) mX1_clear [vR 1 i0] h (oV P) Qx := by
  replace k : oV P none (g_X1_clear h i0) := k
  unfold p_X1_clear at hp
  unfold g_X1_clear at k
  refine CL.ofF (plainFor_of_name rfl) rfl (Nat.le_of_ble_eq_true rfl) (vc_X1_clear_0 (d := d + 0)  ?_)
  exact k
def p_X1_addPart (h : Hp) (i0 : Nat) (a1 : Int64) (a3 : Int32) : Prop := ((12 ≤ (h.1 1 i0 0)) → True) ∧ ((¬ 12 ≤ (h.1 1 i0 0)) → ((vp_in (h.1 1 i0 0) 12) ∧ ((vp_in (h.1 1 i0 0) 12) ∧ True)))
def g_X1_addPart (h : Hp) (i0 : Nat) (a1 : Int64) (a3 : Int32) : Hp := if 12 ≤ (h.1 1 i0 0) then h else (hp_i (hp_i (hp_l h 19 i0 ((h.1 1 i0 0).toNatClampNeg) a1) 20 i0 ((h.1 1 i0 0).toNatClampNeg) a3) 1 i0 0 ((h.1 1 i0 0) + 1))
set_option maxHeartbeats 4000000 in
theorem c_X1_addPart {d : Nat} {h : Hp} {P : Hp → Prop} {Qx : String → Hp → Prop} {i0 : Nat} {a1 : Int64} {a3 : Int32}  (hp : p_X1_addPart h i0 a1 a3) (k : P  (g_X1_addPart h i0 a1 a3)) : CL 0 (d + 1) mX1_addPart [vR 1 i0, vJ a1, vI a3] h (oV P) Qx := by
  replace k : oV P none (g_X1_addPart h i0 a1 a3) := k
  unfold p_X1_addPart at hp
  unfold g_X1_addPart at k
  refine CL.ofF (plainFor_of_name rfl) rfl (Nat.le_of_ble_eq_true rfl) (vc_X1_addPart_0 (d := d + 0)  ?_)
  refine ⟨fun c => ?_, fun c => ?_⟩
  · replace hp := hp.1 c
    try simp only [if_pos c] at k
    exact k
  · replace hp := hp.2 c
    try simp only [if_neg c] at k
    refine ⟨hp.1, ?_⟩
    replace hp := hp.2
    refine ⟨hp.1, ?_⟩
    replace hp := hp.2
    exact k
def p_X1_addRung (h : Hp) (i0 : Nat) (a1 : Int32) (a2 : Int32) (a3 : Int32) : Prop := ((6 ≤ (h.1 1 i0 2)) → True) ∧ ((¬ 6 ≤ (h.1 1 i0 2)) → ((vp_in (h.1 1 i0 2) 6) ∧ ((vp_in (h.1 1 i0 2) 6) ∧ ((vp_in (h.1 1 i0 2) 6) ∧ True))))
def g_X1_addRung (h : Hp) (i0 : Nat) (a1 : Int32) (a2 : Int32) (a3 : Int32) : Hp := if 6 ≤ (h.1 1 i0 2) then h else (hp_i (hp_i (hp_i (hp_i h 30 i0 ((h.1 1 i0 2).toNatClampNeg) a1) 31 i0 ((h.1 1 i0 2).toNatClampNeg) a2) 32 i0 ((h.1 1 i0 2).toNatClampNeg) a3) 1 i0 2 ((h.1 1 i0 2) + 1))
set_option maxHeartbeats 4000000 in
theorem c_X1_addRung {d : Nat} {h : Hp} {P : Hp → Prop} {Qx : String → Hp → Prop} {i0 : Nat} {a1 : Int32} {a2 : Int32} {a3 : Int32}  (hp : p_X1_addRung h i0 a1 a2 a3) (k : P  (g_X1_addRung h i0 a1 a2 a3)) : CL 0 (d + 1) mX1_addRung [vR 1 i0, vI a1, vI a2, vI a3] h (oV P) Qx := by
  replace k : oV P none (g_X1_addRung h i0 a1 a2 a3) := k
  unfold p_X1_addRung at hp
  unfold g_X1_addRung at k
  refine CL.ofF (plainFor_of_name rfl) rfl (Nat.le_of_ble_eq_true rfl) (vc_X1_addRung_0 (d := d + 0)  ?_)
  refine ⟨fun c => ?_, fun c => ?_⟩
  · replace hp := hp.1 c
    try simp only [if_pos c] at k
    exact k
  · replace hp := hp.2 c
    try simp only [if_neg c] at k
    refine ⟨hp.1, ?_⟩
    replace hp := hp.2
    refine ⟨hp.1, ?_⟩
    replace hp := hp.2
    refine ⟨hp.1, ?_⟩
    replace hp := hp.2
    exact k
def p_X1_linesOfBegun (h : Hp) (i0 : Nat) : Prop := ((8 ≤ (h.1 1 i0 1)) → True) ∧ ((¬ 8 ≤ (h.1 1 i0 1)) → ((vp_in (h.1 1 i0 1) 8) ∧ True))
def f_X1_linesOfBegun (h : Hp) (i0 : Nat) : Int32 := if 8 ≤ (h.1 1 i0 1) then 6 else (h.1 23 i0 ((h.1 1 i0 1).toNatClampNeg))
set_option maxHeartbeats 4000000 in
theorem c_X1_linesOfBegun {d : Nat} {h : Hp} {P : Int32 → Hp → Prop} {Qx : String → Hp → Prop} {i0 : Nat}  (hp : p_X1_linesOfBegun h i0) (k : P (f_X1_linesOfBegun h i0) h) : CL 0 (d + 1) mX1_linesOfBegun [vR 1 i0] h (oI P) Qx := by
  replace k : oI P (some (vI (f_X1_linesOfBegun h i0))) h := k
  unfold p_X1_linesOfBegun at hp
  unfold f_X1_linesOfBegun at k
  refine CL.ofF (plainFor_of_name rfl) rfl (Nat.le_of_ble_eq_true rfl) (vc_X1_linesOfBegun_0 (d := d + 0)  ?_)
  refine ⟨fun c => ?_, fun c => ?_⟩
  · replace hp := hp.1 c
    try simp only [if_pos c] at k
    exact k
  · replace hp := hp.2 c
    try simp only [if_neg c] at k
    refine ⟨hp.1, ?_⟩
    replace hp := hp.2
    exact k
def pw_X1_begunHas_2 : Nat → Hp → Nat → Int32 → Int32 → Prop
  | 0, _, _, _, _ => False
  | n + 1, h, i0, x1, x2 => p_X1_linesOfBegun h i0 ∧ ((((f_X1_linesOfBegun h i0) ≤ x2) → True) ∧ ((¬ (f_X1_linesOfBegun h i0) ≤ x2) → (((8 ≤ (h.1 1 i0 1)) → (pw_X1_begunHas_2 n h i0 x1 (x2 + 1))) ∧ ((¬ 8 ≤ (h.1 1 i0 1)) → ((vp_in (h.1 1 i0 1) 8) ∧ ((vp_in x2 6) ∧ (((¬ (h.1 25 (8 * i0 + (h.1 1 i0 1).toNatClampNeg) x2.toNatClampNeg) = x1) → (pw_X1_begunHas_2 n h i0 x1 (x2 + 1))) ∧ (((h.1 25 (8 * i0 + (h.1 1 i0 1).toNatClampNeg) x2.toNatClampNeg) = x1) → True))))))))
def fw_X1_begunHas_2 : Nat → Hp → Nat → Int32 → Int32 → Int32
  | 0, _, _, _, _ => 0
  | n + 1, h, i0, x1, x2 => if (f_X1_linesOfBegun h i0) ≤ x2 then 0 else (if 8 ≤ (h.1 1 i0 1) then (fw_X1_begunHas_2 n h i0 x1 (x2 + 1)) else (if ¬ (h.1 25 (8 * i0 + (h.1 1 i0 1).toNatClampNeg) x2.toNatClampNeg) = x1 then (fw_X1_begunHas_2 n h i0 x1 (x2 + 1)) else 1))
set_option maxHeartbeats 4000000 in
theorem lw_X1_begunHas_2 {X : WD → State → Prop} {d rb : Nat} {Qr : Option AV → Hp → Prop} {Qx : String → Hp → Prop}   : ∀ (n : Nat) (h : Hp) (i0 : Nat) (x1 : Int32) (x2 : Int32), pw_X1_begunHas_2 n h i0 x1 x2 → Qr (some (vI (fw_X1_begunHas_2 n h i0 x1 x2))) h → AW X (d + 2) rb mX1_begunHas 2 [(0, vR 1 i0), (1, vI x1), (2, vI x2)] [] h Qr Qx := by
  intro n
  induction n with
  | zero => intro h i0 x1 x2 hp; exact hp.elim
  | succ n ih =>
    intro h i0 x1 x2 hp k
    rw [pw_X1_begunHas_2] at hp
    rw [fw_X1_begunHas_2] at k
    refine vc_X1_begunHas_2 (d := d + 1)  ?_
    refine c_X1_linesOfBegun  hp.1 ?_
    replace hp := hp.2
    refine ⟨fun c => ?_, fun c => ?_⟩
    · replace hp := hp.1 c
      try simp only [if_pos c] at k
      exact k
    · replace hp := hp.2 c
      try simp only [if_neg c] at k
      refine ⟨fun c => ?_, fun c => ?_⟩
      · replace hp := hp.1 c
        try simp only [if_pos c] at k
        exact ih _ _ _ _ hp k
      · replace hp := hp.2 c
        try simp only [if_neg c] at k
        refine ⟨hp.1, ?_⟩
        replace hp := hp.2
        refine ⟨hp.1, ?_⟩
        replace hp := hp.2
        refine ⟨fun c => ?_, fun c => ?_⟩
        · replace hp := hp.1 c
          try simp only [if_pos c] at k
          exact ih _ _ _ _ hp k
        · replace hp := hp.2 c
          try simp only [if_neg (oa_nn c)] at k
          exact k
def p_X1_begunHas (h : Hp) (i0 : Nat) (a1 : Int32) : Prop := pw_X1_begunHas_2 oa_N h i0 a1 0
def f_X1_begunHas (h : Hp) (i0 : Nat) (a1 : Int32) : Int32 := fw_X1_begunHas_2 oa_N h i0 a1 0
set_option maxHeartbeats 4000000 in
theorem c_X1_begunHas {d : Nat} {h : Hp} {P : Int32 → Hp → Prop} {Qx : String → Hp → Prop} {i0 : Nat} {a1 : Int32}  (hp : p_X1_begunHas h i0 a1) (k : P (f_X1_begunHas h i0 a1) h) : CL 0 (d + 2) mX1_begunHas [vR 1 i0, vI a1] h (oI P) Qx := by
  replace k : oI P (some (vI (f_X1_begunHas h i0 a1))) h := k
  unfold p_X1_begunHas at hp
  unfold f_X1_begunHas at k
  refine CL.ofF (plainFor_of_name rfl) rfl (Nat.le_of_ble_eq_true rfl) (vc_X1_begunHas_0 (d := d + 1)  ?_)
  exact lw_X1_begunHas_2  _ _ _ _ _ hp k
def p_X1_endProduct (h : Hp) (i0 : Nat) : Prop := True
def g_X1_endProduct (h : Hp) (i0 : Nat) : Hp := if 8 ≤ (h.1 1 i0 1) then h else (hp_i h 1 i0 1 ((h.1 1 i0 1) + 1))
set_option maxHeartbeats 4000000 in
theorem c_X1_endProduct {d : Nat} {h : Hp} {P : Hp → Prop} {Qx : String → Hp → Prop} {i0 : Nat}  (hp : p_X1_endProduct h i0) (k : P  (g_X1_endProduct h i0)) : CL 0 (d + 1) mX1_endProduct [vR 1 i0] h (oV P) Qx := by
  replace k : oV P none (g_X1_endProduct h i0) := k
  unfold p_X1_endProduct at hp
  unfold g_X1_endProduct at k
  refine CL.ofF (plainFor_of_name rfl) rfl (Nat.le_of_ble_eq_true rfl) (vc_X1_endProduct_0 (d := d + 0)  ?_)
  refine ⟨fun c => ?_, fun c => ?_⟩
  · skip
    try simp only [if_pos c] at k
    exact k
  · skip
    try simp only [if_neg c] at k
    exact k
def pw_X1_partNamed_2 : Nat → Hp → Nat → Int64 → Int32 → Prop
  | 0, _, _, _, _ => False
  | n + 1, h, i0, x1, x3 => (((h.1 1 i0 0) ≤ x3) → True) ∧ ((¬ (h.1 1 i0 0) ≤ x3) → ((vp_in x3 12) ∧ (((¬ (lg_cmp (h.2.1 19 i0 x3.toNatClampNeg) x1) = 0) → (pw_X1_partNamed_2 n h i0 x1 (x3 + 1))) ∧ (((lg_cmp (h.2.1 19 i0 x3.toNatClampNeg) x1) = 0) → True))))
def fw_X1_partNamed_2 : Nat → Hp → Nat → Int64 → Int32 → Int32
  | 0, _, _, _, _ => 0
  | n + 1, h, i0, x1, x3 => if (h.1 1 i0 0) ≤ x3 then (-1) else (if ¬ (lg_cmp (h.2.1 19 i0 x3.toNatClampNeg) x1) = 0 then (fw_X1_partNamed_2 n h i0 x1 (x3 + 1)) else x3)
set_option maxHeartbeats 4000000 in
theorem lw_X1_partNamed_2 {X : WD → State → Prop} {d rb : Nat} {Qr : Option AV → Hp → Prop} {Qx : String → Hp → Prop}   : ∀ (n : Nat) (h : Hp) (i0 : Nat) (x1 : Int64) (x3 : Int32), pw_X1_partNamed_2 n h i0 x1 x3 → Qr (some (vI (fw_X1_partNamed_2 n h i0 x1 x3))) h → AW X (d + 1) rb mX1_partNamed 2 [(0, vR 1 i0), (1, vJ x1), (3, vI x3)] [] h Qr Qx := by
  intro n
  induction n with
  | zero => intro h i0 x1 x3 hp; exact hp.elim
  | succ n ih =>
    intro h i0 x1 x3 hp k
    rw [pw_X1_partNamed_2] at hp
    rw [fw_X1_partNamed_2] at k
    refine vc_X1_partNamed_2 (d := d + 0)  ?_
    refine ⟨fun c => ?_, fun c => ?_⟩
    · replace hp := hp.1 c
      try simp only [if_pos c] at k
      exact k
    · replace hp := hp.2 c
      try simp only [if_neg c] at k
      refine ⟨hp.1, ?_⟩
      replace hp := hp.2
      refine ⟨fun c => ?_, fun c => ?_⟩
      · replace hp := hp.1 c
        try simp only [if_pos c] at k
        exact ih _ _ _ _ hp k
      · replace hp := hp.2 c
        try simp only [if_neg (oa_nn c)] at k
        exact k
def p_X1_partNamed (h : Hp) (i0 : Nat) (a1 : Int64) : Prop := pw_X1_partNamed_2 oa_N h i0 a1 0
def f_X1_partNamed (h : Hp) (i0 : Nat) (a1 : Int64) : Int32 := fw_X1_partNamed_2 oa_N h i0 a1 0
set_option maxHeartbeats 4000000 in
theorem c_X1_partNamed {d : Nat} {h : Hp} {P : Int32 → Hp → Prop} {Qx : String → Hp → Prop} {i0 : Nat} {a1 : Int64}  (hp : p_X1_partNamed h i0 a1) (k : P (f_X1_partNamed h i0 a1) h) : CL 0 (d + 1) mX1_partNamed [vR 1 i0, vJ a1] h (oI P) Qx := by
  replace k : oI P (some (vI (f_X1_partNamed h i0 a1))) h := k
  unfold p_X1_partNamed at hp
  unfold f_X1_partNamed at k
  refine CL.ofF (plainFor_of_name rfl) rfl (Nat.le_of_ble_eq_true rfl) (vc_X1_partNamed_0 (d := d + 0)  ?_)
  exact lw_X1_partNamed_2  _ _ _ _ _ hp k
def pw_X1_productNamed_2 : Nat → Hp → Nat → Int64 → Int32 → Prop
  | 0, _, _, _, _ => False
  | n + 1, h, i0, x1, x3 => (((h.1 1 i0 1) ≤ x3) → True) ∧ ((¬ (h.1 1 i0 1) ≤ x3) → ((vp_in x3 8) ∧ (((¬ (lg_cmp (h.2.1 21 i0 x3.toNatClampNeg) x1) = 0) → (pw_X1_productNamed_2 n h i0 x1 (x3 + 1))) ∧ (((lg_cmp (h.2.1 21 i0 x3.toNatClampNeg) x1) = 0) → True))))
def fw_X1_productNamed_2 : Nat → Hp → Nat → Int64 → Int32 → Int32
  | 0, _, _, _, _ => 0
  | n + 1, h, i0, x1, x3 => if (h.1 1 i0 1) ≤ x3 then (-1) else (if ¬ (lg_cmp (h.2.1 21 i0 x3.toNatClampNeg) x1) = 0 then (fw_X1_productNamed_2 n h i0 x1 (x3 + 1)) else x3)
set_option maxHeartbeats 4000000 in
theorem lw_X1_productNamed_2 {X : WD → State → Prop} {d rb : Nat} {Qr : Option AV → Hp → Prop} {Qx : String → Hp → Prop}   : ∀ (n : Nat) (h : Hp) (i0 : Nat) (x1 : Int64) (x3 : Int32), pw_X1_productNamed_2 n h i0 x1 x3 → Qr (some (vI (fw_X1_productNamed_2 n h i0 x1 x3))) h → AW X (d + 1) rb mX1_productNamed 2 [(0, vR 1 i0), (1, vJ x1), (3, vI x3)] [] h Qr Qx := by
  intro n
  induction n with
  | zero => intro h i0 x1 x3 hp; exact hp.elim
  | succ n ih =>
    intro h i0 x1 x3 hp k
    rw [pw_X1_productNamed_2] at hp
    rw [fw_X1_productNamed_2] at k
    refine vc_X1_productNamed_2 (d := d + 0)  ?_
    refine ⟨fun c => ?_, fun c => ?_⟩
    · replace hp := hp.1 c
      try simp only [if_pos c] at k
      exact k
    · replace hp := hp.2 c
      try simp only [if_neg c] at k
      refine ⟨hp.1, ?_⟩
      replace hp := hp.2
      refine ⟨fun c => ?_, fun c => ?_⟩
      · replace hp := hp.1 c
        try simp only [if_pos c] at k
        exact ih _ _ _ _ hp k
      · replace hp := hp.2 c
        try simp only [if_neg (oa_nn c)] at k
        exact k
def p_X1_productNamed (h : Hp) (i0 : Nat) (a1 : Int64) : Prop := pw_X1_productNamed_2 oa_N h i0 a1 0
def f_X1_productNamed (h : Hp) (i0 : Nat) (a1 : Int64) : Int32 := fw_X1_productNamed_2 oa_N h i0 a1 0
set_option maxHeartbeats 4000000 in
theorem c_X1_productNamed {d : Nat} {h : Hp} {P : Int32 → Hp → Prop} {Qx : String → Hp → Prop} {i0 : Nat} {a1 : Int64}  (hp : p_X1_productNamed h i0 a1) (k : P (f_X1_productNamed h i0 a1) h) : CL 0 (d + 1) mX1_productNamed [vR 1 i0, vJ a1] h (oI P) Qx := by
  replace k : oI P (some (vI (f_X1_productNamed h i0 a1))) h := k
  unfold p_X1_productNamed at hp
  unfold f_X1_productNamed at k
  refine CL.ofF (plainFor_of_name rfl) rfl (Nat.le_of_ble_eq_true rfl) (vc_X1_productNamed_0 (d := d + 0)  ?_)
  exact lw_X1_productNamed_2  _ _ _ _ _ hp k
def p_X1_itemNamed (h : Hp) (i0 : Nat) (a1 : Int64) : Prop := p_X1_productNamed h i0 a1 ∧ (((¬ (f_X1_productNamed h i0 a1) = (-1)) → True) ∧ (((f_X1_productNamed h i0 a1) = (-1)) → (p_X1_partNamed h i0 a1 ∧ True)))
def f_X1_itemNamed (h : Hp) (i0 : Nat) (a1 : Int64) : Int32 := if ¬ (f_X1_productNamed h i0 a1) = (-1) then (100 + (f_X1_productNamed h i0 a1)) else (f_X1_partNamed h i0 a1)
set_option maxHeartbeats 4000000 in
theorem c_X1_itemNamed {d : Nat} {h : Hp} {P : Int32 → Hp → Prop} {Qx : String → Hp → Prop} {i0 : Nat} {a1 : Int64}  (hp : p_X1_itemNamed h i0 a1) (k : P (f_X1_itemNamed h i0 a1) h) : CL 0 (d + 2) mX1_itemNamed [vR 1 i0, vJ a1] h (oI P) Qx := by
  replace k : oI P (some (vI (f_X1_itemNamed h i0 a1))) h := k
  unfold p_X1_itemNamed at hp
  unfold f_X1_itemNamed at k
  refine CL.ofF (plainFor_of_name rfl) rfl (Nat.le_of_ble_eq_true rfl) (vc_X1_itemNamed_0 (d := d + 1)  ?_)
  refine c_X1_productNamed  hp.1 ?_
  replace hp := hp.2
  refine ⟨fun c => ?_, fun c => ?_⟩
  · replace hp := hp.1 c
    try simp only [if_pos c] at k
    exact k
  · replace hp := hp.2 c
    try simp only [if_neg (oa_nn c)] at k
    refine c_X1_partNamed  hp.1 ?_
    replace hp := hp.2
    exact k
def p_X1_needOf (h : Hp) (i0 : Nat) (a1 : Int32) (a2 : Int32) : Prop := (((if a1 < 0 then (0 : Int32) else (if (h.1 1 i0 1) ≤ a1 then (0 : Int32) else (if a2 < 0 then (0 : Int32) else (if (h.1 1 i0 0) ≤ a2 then (0 : Int32) else 1)))) = 0) → True) ∧ ((¬ (if a1 < 0 then (0 : Int32) else (if (h.1 1 i0 1) ≤ a1 then (0 : Int32) else (if a2 < 0 then (0 : Int32) else (if (h.1 1 i0 0) ≤ a2 then (0 : Int32) else 1)))) = 0) → ((vp_in a1 8) ∧ ((vp_in a2 12) ∧ True)))
def f_X1_needOf (h : Hp) (i0 : Nat) (a1 : Int32) (a2 : Int32) : Int32 := if (if a1 < 0 then (0 : Int32) else (if (h.1 1 i0 1) ≤ a1 then (0 : Int32) else (if a2 < 0 then (0 : Int32) else (if (h.1 1 i0 0) ≤ a2 then (0 : Int32) else 1)))) = 0 then 0 else (h.1 29 (8 * i0 + a1.toNatClampNeg) a2.toNatClampNeg)
set_option maxHeartbeats 4000000 in
theorem c_X1_needOf {d : Nat} {h : Hp} {P : Int32 → Hp → Prop} {Qx : String → Hp → Prop} {i0 : Nat} {a1 : Int32} {a2 : Int32}  (hp : p_X1_needOf h i0 a1 a2) (k : P (f_X1_needOf h i0 a1 a2) h) : CL 0 (d + 1) mX1_needOf [vR 1 i0, vI a1, vI a2] h (oI P) Qx := by
  replace k : oI P (some (vI (f_X1_needOf h i0 a1 a2))) h := k
  unfold p_X1_needOf at hp
  unfold f_X1_needOf at k
  refine CL.ofF (plainFor_of_name rfl) rfl (Nat.le_of_ble_eq_true rfl) (vc_X1_needOf_0 (d := d + 0)  ?_)
  refine ⟨fun c => ?_, fun c => ?_⟩
  · replace hp := hp.1 c
    try simp only [if_pos c] at k
    exact k
  · replace hp := hp.2 c
    try simp only [if_neg c] at k
    refine ⟨hp.1, ?_⟩
    replace hp := hp.2
    refine ⟨hp.1, ?_⟩
    replace hp := hp.2
    exact k
def pw_X1_tightestPart_8 : Nat → Hp → Nat → Int32 → Nat → Nat → Nat → Int32 → Int32 → Int32 → Prop
  | 0, _, _, _, _, _, _, _, _, _ => False
  | n + 1, h, i0, x1, t2, i2, n2, x3, x4, x5 => (((h.1 1 i0 0) ≤ x5) → True) ∧ ((¬ (h.1 1 i0 0) ≤ x5) → ((((Int32.ofNat n2) ≤ x5) → True) ∧ ((¬ (Int32.ofNat n2) ≤ x5) → (p_X1_needOf h i0 x1 x5 ∧ ((((f_X1_needOf h i0 x1 x5) ≤ 0) → (pw_X1_tightestPart_8 n h i0 x1 t2 i2 n2 x3 x4 (x5 + 1))) ∧ ((¬ (f_X1_needOf h i0 x1 x5) ≤ 0) → (((x3 = (-1)) → ((vp_in x5 n2) ∧ ((¬ (f_X1_needOf h i0 x1 x5) = 0) ∧ (pw_X1_tightestPart_8 n h i0 x1 t2 i2 n2 x5 ((h.1 t2 i2 x5.toNatClampNeg) / (f_X1_needOf h i0 x1 x5)) (x5 + 1))))) ∧ ((¬ x3 = (-1)) → ((vp_in x5 n2) ∧ ((¬ (f_X1_needOf h i0 x1 x5) = 0) ∧ (((x4 ≤ ((h.1 t2 i2 x5.toNatClampNeg) / (f_X1_needOf h i0 x1 x5))) → (pw_X1_tightestPart_8 n h i0 x1 t2 i2 n2 x3 x4 (x5 + 1))) ∧ ((¬ x4 ≤ ((h.1 t2 i2 x5.toNatClampNeg) / (f_X1_needOf h i0 x1 x5))) → ((vp_in x5 n2) ∧ ((¬ (f_X1_needOf h i0 x1 x5) = 0) ∧ (pw_X1_tightestPart_8 n h i0 x1 t2 i2 n2 x5 ((h.1 t2 i2 x5.toNatClampNeg) / (f_X1_needOf h i0 x1 x5)) (x5 + 1))))))))))))))))
def fw_X1_tightestPart_8 : Nat → Hp → Nat → Int32 → Nat → Nat → Nat → Int32 → Int32 → Int32 → Int32
  | 0, _, _, _, _, _, _, _, _, _ => 0
  | n + 1, h, i0, x1, t2, i2, n2, x3, x4, x5 => if (h.1 1 i0 0) ≤ x5 then x3 else (if (Int32.ofNat n2) ≤ x5 then x3 else (if (f_X1_needOf h i0 x1 x5) ≤ 0 then (fw_X1_tightestPart_8 n h i0 x1 t2 i2 n2 x3 x4 (x5 + 1)) else (if x3 = (-1) then (fw_X1_tightestPart_8 n h i0 x1 t2 i2 n2 x5 ((h.1 t2 i2 x5.toNatClampNeg) / (f_X1_needOf h i0 x1 x5)) (x5 + 1)) else (if x4 ≤ ((h.1 t2 i2 x5.toNatClampNeg) / (f_X1_needOf h i0 x1 x5)) then (fw_X1_tightestPart_8 n h i0 x1 t2 i2 n2 x3 x4 (x5 + 1)) else (fw_X1_tightestPart_8 n h i0 x1 t2 i2 n2 x5 ((h.1 t2 i2 x5.toNatClampNeg) / (f_X1_needOf h i0 x1 x5)) (x5 + 1))))))
set_option maxHeartbeats 4000000 in
theorem lw_X1_tightestPart_8 {X : WD → State → Prop} {d rb : Nat} {Qr : Option AV → Hp → Prop} {Qx : String → Hp → Prop} {t2 i2 n2 : Nat} {f2 : List (Nat × Nat)} (ht2 : t2 < oa_nT) (hk2 : oa_kd t2 = (1, n2, f2)) : ∀ (n : Nat) (h : Hp) (i0 : Nat) (x1 : Int32) (x3 : Int32) (x4 : Int32) (x5 : Int32), pw_X1_tightestPart_8 n h i0 x1 t2 i2 n2 x3 x4 x5 → Qr (some (vI (fw_X1_tightestPart_8 n h i0 x1 t2 i2 n2 x3 x4 x5))) h → AW X (d + 2) rb mX1_tightestPart 8 [(0, vR 1 i0), (1, vI x1), (2, vR t2 i2), (3, vI x3), (4, vI x4), (5, vI x5)] [] h Qr Qx := by
  intro n
  induction n with
  | zero => intro h i0 x1 x3 x4 x5 hp; exact hp.elim
  | succ n ih =>
    intro h i0 x1 x3 x4 x5 hp k
    rw [pw_X1_tightestPart_8] at hp
    rw [fw_X1_tightestPart_8] at k
    refine vc_X1_tightestPart_8 (d := d + 1) ht2 hk2 ?_
    refine ⟨fun c => ?_, fun c => ?_⟩
    · replace hp := hp.1 c
      try simp only [if_pos c] at k
      exact k
    · replace hp := hp.2 c
      try simp only [if_neg c] at k
      refine ⟨fun c => ?_, fun c => ?_⟩
      · replace hp := hp.1 c
        try simp only [if_pos c] at k
        exact k
      · replace hp := hp.2 c
        try simp only [if_neg c] at k
        refine c_X1_needOf  hp.1 ?_
        replace hp := hp.2
        refine ⟨fun c => ?_, fun c => ?_⟩
        · replace hp := hp.1 c
          try simp only [if_pos c] at k
          exact ih _ _ _ _ _ _ hp k
        · replace hp := hp.2 c
          try simp only [if_neg c] at k
          refine ⟨fun c => ?_, fun c => ?_⟩
          · replace hp := hp.1 c
            try simp only [if_pos c] at k
            refine ⟨hp.1, ?_⟩
            replace hp := hp.2
            refine ⟨hp.1, ?_⟩
            replace hp := hp.2
            exact ih _ _ _ _ _ _ hp k
          · replace hp := hp.2 c
            try simp only [if_neg c] at k
            refine ⟨hp.1, ?_⟩
            replace hp := hp.2
            refine ⟨hp.1, ?_⟩
            replace hp := hp.2
            refine ⟨fun c => ?_, fun c => ?_⟩
            · replace hp := hp.1 c
              try simp only [if_pos c] at k
              exact ih _ _ _ _ _ _ hp k
            · replace hp := hp.2 c
              try simp only [if_neg c] at k
              refine ⟨hp.1, ?_⟩
              replace hp := hp.2
              refine ⟨hp.1, ?_⟩
              replace hp := hp.2
              exact ih _ _ _ _ _ _ hp k
def p_X1_tightestPart (h : Hp) (i0 : Nat) (a1 : Int32) (t2 : Nat) (i2 : Nat) (n2 : Nat) : Prop := pw_X1_tightestPart_8 oa_N h i0 a1 t2 i2 n2 (-1) 0 0
def f_X1_tightestPart (h : Hp) (i0 : Nat) (a1 : Int32) (t2 : Nat) (i2 : Nat) (n2 : Nat) : Int32 := fw_X1_tightestPart_8 oa_N h i0 a1 t2 i2 n2 (-1) 0 0
set_option maxHeartbeats 4000000 in
theorem c_X1_tightestPart {d : Nat} {h : Hp} {P : Int32 → Hp → Prop} {Qx : String → Hp → Prop} {i0 : Nat} {a1 : Int32} {t2 i2 n2 : Nat} {f2 : List (Nat × Nat)} (ht2 : t2 < oa_nT) (hk2 : oa_kd t2 = (1, n2, f2)) (hp : p_X1_tightestPart h i0 a1 t2 i2 n2) (k : P (f_X1_tightestPart h i0 a1 t2 i2 n2) h) : CL 0 (d + 2) mX1_tightestPart [vR 1 i0, vI a1, vR t2 i2] h (oI P) Qx := by
  replace k : oI P (some (vI (f_X1_tightestPart h i0 a1 t2 i2 n2))) h := k
  unfold p_X1_tightestPart at hp
  unfold f_X1_tightestPart at k
  refine CL.ofF (plainFor_of_name rfl) rfl (Nat.le_of_ble_eq_true rfl) (vc_X1_tightestPart_0 (d := d + 1) ht2 hk2 ?_)
  exact lw_X1_tightestPart_8 ht2 hk2 _ _ _ _ _ _ _ hp k
def pw_X1_takePieces_3 : Nat → Hp → Nat → Int32 → Int32 → Nat → Nat → Nat → Int32 → Prop
  | 0, _, _, _, _, _, _, _, _ => False
  | n + 1, h, i0, x1, x2, t3, i3, n3, x4 => (((h.1 1 i0 0) ≤ x4) → True) ∧ ((¬ (h.1 1 i0 0) ≤ x4) → ((((Int32.ofNat n3) ≤ x4) → True) ∧ ((¬ (Int32.ofNat n3) ≤ x4) → ((vp_in x4 n3) ∧ (p_X1_needOf h i0 x1 x4 ∧ ((vp_in x4 n3) ∧ (pw_X1_takePieces_3 n (hp_i h t3 i3 x4.toNatClampNeg ((h.1 t3 i3 x4.toNatClampNeg) - (x2 * (f_X1_needOf h i0 x1 x4)))) i0 x1 x2 t3 i3 n3 (x4 + 1))))))))
def gw_X1_takePieces_3 : Nat → Hp → Nat → Int32 → Int32 → Nat → Nat → Nat → Int32 → Hp
  | 0, h, _, _, _, _, _, _, _ => h
  | n + 1, h, i0, x1, x2, t3, i3, n3, x4 => if (h.1 1 i0 0) ≤ x4 then h else (if (Int32.ofNat n3) ≤ x4 then h else (gw_X1_takePieces_3 n (hp_i h t3 i3 x4.toNatClampNeg ((h.1 t3 i3 x4.toNatClampNeg) - (x2 * (f_X1_needOf h i0 x1 x4)))) i0 x1 x2 t3 i3 n3 (x4 + 1)))
set_option maxHeartbeats 4000000 in
theorem lw_X1_takePieces_3 {X : WD → State → Prop} {d rb : Nat} {Qr : Option AV → Hp → Prop} {Qx : String → Hp → Prop} {t3 i3 n3 : Nat} {f3 : List (Nat × Nat)} (ht3 : t3 < oa_nT) (hk3 : oa_kd t3 = (1, n3, f3)) : ∀ (n : Nat) (h : Hp) (i0 : Nat) (x1 : Int32) (x2 : Int32) (x4 : Int32), pw_X1_takePieces_3 n h i0 x1 x2 t3 i3 n3 x4 → Qr none (gw_X1_takePieces_3 n h i0 x1 x2 t3 i3 n3 x4) → AW X (d + 2) rb mX1_takePieces 3 [(0, vR 1 i0), (1, vI x1), (2, vI x2), (3, vR t3 i3), (4, vI x4)] [] h Qr Qx := by
  intro n
  induction n with
  | zero => intro h i0 x1 x2 x4 hp; exact hp.elim
  | succ n ih =>
    intro h i0 x1 x2 x4 hp k
    rw [pw_X1_takePieces_3] at hp
    rw [gw_X1_takePieces_3] at k
    refine vc_X1_takePieces_3 (d := d + 1) ht3 hk3 ?_
    refine ⟨fun c => ?_, fun c => ?_⟩
    · replace hp := hp.1 c
      try simp only [if_pos c] at k
      exact k
    · replace hp := hp.2 c
      try simp only [if_neg c] at k
      refine ⟨fun c => ?_, fun c => ?_⟩
      · replace hp := hp.1 c
        try simp only [if_pos c] at k
        exact k
      · replace hp := hp.2 c
        try simp only [if_neg c] at k
        refine ⟨hp.1, ?_⟩
        replace hp := hp.2
        refine c_X1_needOf  hp.1 ?_
        replace hp := hp.2
        refine ⟨hp.1, ?_⟩
        replace hp := hp.2
        exact ih _ _ _ _ _ hp k
def p_X1_takePieces (h : Hp) (i0 : Nat) (a1 : Int32) (a2 : Int32) (t3 : Nat) (i3 : Nat) (n3 : Nat) : Prop := pw_X1_takePieces_3 oa_N h i0 a1 a2 t3 i3 n3 0
def g_X1_takePieces (h : Hp) (i0 : Nat) (a1 : Int32) (a2 : Int32) (t3 : Nat) (i3 : Nat) (n3 : Nat) : Hp := gw_X1_takePieces_3 oa_N h i0 a1 a2 t3 i3 n3 0
set_option maxHeartbeats 4000000 in
theorem c_X1_takePieces {d : Nat} {h : Hp} {P : Hp → Prop} {Qx : String → Hp → Prop} {i0 : Nat} {a1 : Int32} {a2 : Int32} {t3 i3 n3 : Nat} {f3 : List (Nat × Nat)} (ht3 : t3 < oa_nT) (hk3 : oa_kd t3 = (1, n3, f3)) (hp : p_X1_takePieces h i0 a1 a2 t3 i3 n3) (k : P  (g_X1_takePieces h i0 a1 a2 t3 i3 n3)) : CL 0 (d + 2) mX1_takePieces [vR 1 i0, vI a1, vI a2, vR t3 i3] h (oV P) Qx := by
  replace k : oV P none (g_X1_takePieces h i0 a1 a2 t3 i3 n3) := k
  unfold p_X1_takePieces at hp
  unfold g_X1_takePieces at k
  refine CL.ofF (plainFor_of_name rfl) rfl (Nat.le_of_ble_eq_true rfl) (vc_X1_takePieces_0 (d := d + 1) ht3 hk3 ?_)
  exact lw_X1_takePieces_3 ht3 hk3 _ _ _ _ _ _ hp k
def p_X3_forget (h : Hp)  : Prop := True
def g_X3_forget (h : Hp)  : Hp := hp_i h 3 0 0 0
set_option maxHeartbeats 4000000 in
theorem c_X3_forget {d : Nat} {h : Hp} {P : Hp → Prop} {Qx : String → Hp → Prop}   (hp : p_X3_forget h ) (k : P  (g_X3_forget h )) : CL 0 (d + 1) mX3_forget [vR 3 0] h (oV P) Qx := by
  replace k : oV P none (g_X3_forget h ) := k
  unfold p_X3_forget at hp
  unfold g_X3_forget at k
  refine CL.ofF (plainFor_of_name rfl) rfl (Nat.le_of_ble_eq_true rfl) (vc_X3_forget_0 (d := d + 0)  ?_)
  exact k
def p_X4_hasRoomFor (h : Hp) (a1 : Int32) : Prop := ((if 900 < ((h.1 4 0 0) + a1) then (0 : Int32) else 1) = 0 ∨ (if 900 < ((h.1 4 0 0) + a1) then (0 : Int32) else 1) = 1) ∧ True
def f_X4_hasRoomFor (h : Hp) (a1 : Int32) : Int32 := if 900 < ((h.1 4 0 0) + a1) then (0 : Int32) else 1
set_option maxHeartbeats 4000000 in
theorem c_X4_hasRoomFor {d : Nat} {h : Hp} {P : Int32 → Hp → Prop} {Qx : String → Hp → Prop} {a1 : Int32}  (hp : p_X4_hasRoomFor h a1) (k : P (f_X4_hasRoomFor h a1) h) : CL 0 (d + 1) mX4_hasRoomFor [vR 4 0, vI a1] h (oI P) Qx := by
  replace k : oI P (some (vI (f_X4_hasRoomFor h a1))) h := k
  unfold p_X4_hasRoomFor at hp
  unfold f_X4_hasRoomFor at k
  refine CL.ofF (plainFor_of_name rfl) rfl (Nat.le_of_ble_eq_true rfl) (vc_X4_hasRoomFor_0 (d := d + 0)  ?_)
  refine ⟨hp.1, ?_⟩
  replace hp := hp.2
  exact k
def p_X4_shorten (h : Hp) (a1 : Int32) : Prop := True
def f_X4_shorten (h : Hp) (a1 : Int32) : Int32 := if a1 < 0 then 0 else (if a1 ≤ (h.1 4 0 0) then 1 else 0)
def g_X4_shorten (h : Hp) (a1 : Int32) : Hp := if a1 < 0 then h else (if a1 ≤ (h.1 4 0 0) then (hp_i h 4 0 0 a1) else h)
set_option maxHeartbeats 4000000 in
theorem c_X4_shorten {d : Nat} {h : Hp} {P : Int32 → Hp → Prop} {Qx : String → Hp → Prop} {a1 : Int32}  (hp : p_X4_shorten h a1) (k : P (f_X4_shorten h a1) (g_X4_shorten h a1)) : CL 0 (d + 1) mX4_shorten [vR 4 0, vI a1] h (oI P) Qx := by
  replace k : oI P (some (vI (f_X4_shorten h a1))) (g_X4_shorten h a1) := k
  unfold p_X4_shorten at hp
  unfold f_X4_shorten at k
  unfold g_X4_shorten at k
  refine CL.ofF (plainFor_of_name rfl) rfl (Nat.le_of_ble_eq_true rfl) (vc_X4_shorten_0 (d := d + 0)  ?_)
  refine ⟨fun c => ?_, fun c => ?_⟩
  · skip
    try simp only [if_pos c] at k
    exact k
  · skip
    try simp only [if_neg c] at k
    refine ⟨fun c => ?_, fun c => ?_⟩
    · skip
      try simp only [if_pos c] at k
      exact k
    · skip
      try simp only [if_neg c] at k
      exact k
def p_X4_signAt (h : Hp) (a1 : Int32) : Prop := ((a1 < 0) → True) ∧ ((¬ a1 < 0) → ((((h.1 4 0 0) ≤ a1) → True) ∧ ((¬ (h.1 4 0 0) ≤ a1) → (((900 ≤ a1) → True) ∧ ((¬ 900 ≤ a1) → ((vp_in a1 900) ∧ True))))))
def f_X4_signAt (h : Hp) (a1 : Int32) : Int32 := if a1 < 0 then (-1) else (if (h.1 4 0 0) ≤ a1 then (-1) else (if 900 ≤ a1 then (-1) else ((h.1 35 0 a1.toNatClampNeg) &&& 255)))
set_option maxHeartbeats 4000000 in
theorem c_X4_signAt {d : Nat} {h : Hp} {P : Int32 → Hp → Prop} {Qx : String → Hp → Prop} {a1 : Int32}  (hp : p_X4_signAt h a1) (k : P (f_X4_signAt h a1) h) : CL 0 (d + 1) mX4_signAt [vR 4 0, vI a1] h (oI P) Qx := by
  replace k : oI P (some (vI (f_X4_signAt h a1))) h := k
  unfold p_X4_signAt at hp
  unfold f_X4_signAt at k
  refine CL.ofF (plainFor_of_name rfl) rfl (Nat.le_of_ble_eq_true rfl) (vc_X4_signAt_0 (d := d + 0)  ?_)
  refine ⟨fun c => ?_, fun c => ?_⟩
  · replace hp := hp.1 c
    try simp only [if_pos c] at k
    exact k
  · replace hp := hp.2 c
    try simp only [if_neg c] at k
    refine ⟨fun c => ?_, fun c => ?_⟩
    · replace hp := hp.1 c
      try simp only [if_pos c] at k
      exact k
    · replace hp := hp.2 c
      try simp only [if_neg c] at k
      refine ⟨fun c => ?_, fun c => ?_⟩
      · replace hp := hp.1 c
        try simp only [if_pos c] at k
        exact k
      · replace hp := hp.2 c
        try simp only [if_neg c] at k
        refine ⟨hp.1, ?_⟩
        replace hp := hp.2
        exact k
def pw_X6_copyFrom_100 : Nat → Hp → Nat → Nat → Int32 → Prop
  | 0, _, _, _, _ => False
  | n + 1, h, i0, i1, x2 => ((20 ≤ x2) → True) ∧ ((¬ 20 ≤ x2) → ((vp_in x2 20) ∧ ((vp_in x2 20) ∧ ((vp_in x2 20) ∧ ((vp_in x2 20) ∧ (pw_X6_copyFrom_100 n (hp_i (hp_i h 40 i0 x2.toNatClampNeg (h.1 40 i1 x2.toNatClampNeg)) 41 i0 x2.toNatClampNeg (h.1 41 i1 x2.toNatClampNeg)) i0 i1 (x2 + 1)))))))
def gw_X6_copyFrom_100 : Nat → Hp → Nat → Nat → Int32 → Hp
  | 0, h, _, _, _ => h
  | n + 1, h, i0, i1, x2 => if 20 ≤ x2 then h else (gw_X6_copyFrom_100 n (hp_i (hp_i h 40 i0 x2.toNatClampNeg (h.1 40 i1 x2.toNatClampNeg)) 41 i0 x2.toNatClampNeg (h.1 41 i1 x2.toNatClampNeg)) i0 i1 (x2 + 1))
set_option maxHeartbeats 4000000 in
theorem lw_X6_copyFrom_100 {X : WD → State → Prop} {d rb : Nat} {Qr : Option AV → Hp → Prop} {Qx : String → Hp → Prop}   : ∀ (n : Nat) (h : Hp) (i0 : Nat) (i1 : Nat) (x2 : Int32), pw_X6_copyFrom_100 n h i0 i1 x2 → Qr none (gw_X6_copyFrom_100 n h i0 i1 x2) → AW X (d + 1) rb mX6_copyFrom 100 [(0, vR 6 i0), (1, vR 6 i1), (2, vI x2)] [] h Qr Qx := by
  intro n
  induction n with
  | zero => intro h i0 i1 x2 hp; exact hp.elim
  | succ n ih =>
    intro h i0 i1 x2 hp k
    rw [pw_X6_copyFrom_100] at hp
    rw [gw_X6_copyFrom_100] at k
    refine vc_X6_copyFrom_100 (d := d + 0)  ?_
    refine ⟨fun c => ?_, fun c => ?_⟩
    · replace hp := hp.1 c
      try simp only [if_pos c] at k
      exact k
    · replace hp := hp.2 c
      try simp only [if_neg c] at k
      refine ⟨hp.1, ?_⟩
      replace hp := hp.2
      refine ⟨hp.1, ?_⟩
      replace hp := hp.2
      refine ⟨hp.1, ?_⟩
      replace hp := hp.2
      refine ⟨hp.1, ?_⟩
      replace hp := hp.2
      exact ih _ _ _ _ hp k
def p_X6_copyFrom (h : Hp) (i0 : Nat) (i1 : Nat) : Prop := pw_X6_copyFrom_100 oa_N (hp_a (hp_a (hp_a (hp_a (hp_a (hp_a (hp_i h 6 i0 0 (h.1 6 i1 0)) 36 i0 (va_cpy (h.1 36 i1) (h.1 36 i0) 0 0 20)) 37 i0 (va_cpy (h.1 37 i1) (h.1 37 i0) 0 0 20)) 38 i0 (va_cpy (h.1 38 i1) (h.1 38 i0) 0 0 20)) 39 i0 (va_cpy (h.1 39 i1) (h.1 39 i0) 0 0 20)) 42 i0 (va_cpy (h.1 42 i1) (h.1 42 i0) 0 0 20)) 43 i0 (va_cpy (h.1 43 i1) (h.1 43 i0) 0 0 20)) i0 i1 0
def g_X6_copyFrom (h : Hp) (i0 : Nat) (i1 : Nat) : Hp := gw_X6_copyFrom_100 oa_N (hp_a (hp_a (hp_a (hp_a (hp_a (hp_a (hp_i h 6 i0 0 (h.1 6 i1 0)) 36 i0 (va_cpy (h.1 36 i1) (h.1 36 i0) 0 0 20)) 37 i0 (va_cpy (h.1 37 i1) (h.1 37 i0) 0 0 20)) 38 i0 (va_cpy (h.1 38 i1) (h.1 38 i0) 0 0 20)) 39 i0 (va_cpy (h.1 39 i1) (h.1 39 i0) 0 0 20)) 42 i0 (va_cpy (h.1 42 i1) (h.1 42 i0) 0 0 20)) 43 i0 (va_cpy (h.1 43 i1) (h.1 43 i0) 0 0 20)) i0 i1 0
set_option maxHeartbeats 4000000 in
theorem c_X6_copyFrom {d : Nat} {h : Hp} {P : Hp → Prop} {Qx : String → Hp → Prop} {i0 : Nat} {i1 : Nat}  (hp : p_X6_copyFrom h i0 i1) (k : P  (g_X6_copyFrom h i0 i1)) : CL 0 (d + 1) mX6_copyFrom [vR 6 i0, vR 6 i1] h (oV P) Qx := by
  replace k : oV P none (g_X6_copyFrom h i0 i1) := k
  unfold p_X6_copyFrom at hp
  unfold g_X6_copyFrom at k
  refine CL.ofF (plainFor_of_name rfl) rfl (Nat.le_of_ble_eq_true rfl) (vc_X6_copyFrom_0 (d := d + 0)  ?_)
  exact lw_X6_copyFrom_100  _ _ _ _ _ hp k
def p_X6_enter (h : Hp) (i0 : Nat) (a1 : Int32) (a2 : Int32) (a3 : Int32) (a4 : Int32) (a5 : Int32) : Prop := (((h.1 6 i0 0) < 20) → ((vp_in (h.1 6 i0 0) 20) ∧ ((vp_in (h.1 6 i0 0) 20) ∧ ((vp_in (h.1 6 i0 0) 20) ∧ ((vp_in (h.1 6 i0 0) 20) ∧ ((vp_in (h.1 6 i0 0) 20) ∧ (a5 = 0 ∨ a5 = 1) ∧ ((vp_in (h.1 6 i0 0) 20) ∧ ((vp_in (h.1 6 i0 0) 20) ∧ ((vp_in (h.1 6 i0 0) 20) ∧ True))))))))) ∧ ((¬ (h.1 6 i0 0) < 20) → True)
def f_X6_enter (h : Hp) (i0 : Nat) (a1 : Int32) (a2 : Int32) (a3 : Int32) (a4 : Int32) (a5 : Int32) : Int32 := if (h.1 6 i0 0) < 20 then (((hp_i (hp_i (hp_i (hp_i (hp_i (hp_i (hp_i (hp_i (hp_i h 36 i0 ((h.1 6 i0 0).toNatClampNeg) a1) 37 i0 ((h.1 6 i0 0).toNatClampNeg) a2) 38 i0 ((h.1 6 i0 0).toNatClampNeg) a3) 39 i0 ((h.1 6 i0 0).toNatClampNeg) a4) 40 i0 ((h.1 6 i0 0).toNatClampNeg) a5) 41 i0 ((h.1 6 i0 0).toNatClampNeg) 0) 42 i0 ((h.1 6 i0 0).toNatClampNeg) 0) 43 i0 ((h.1 6 i0 0).toNatClampNeg) 0) 6 i0 0 ((h.1 6 i0 0) + 1)).1 6 i0 0) - 1) else (-1)
def g_X6_enter (h : Hp) (i0 : Nat) (a1 : Int32) (a2 : Int32) (a3 : Int32) (a4 : Int32) (a5 : Int32) : Hp := if (h.1 6 i0 0) < 20 then (hp_i (hp_i (hp_i (hp_i (hp_i (hp_i (hp_i (hp_i (hp_i h 36 i0 ((h.1 6 i0 0).toNatClampNeg) a1) 37 i0 ((h.1 6 i0 0).toNatClampNeg) a2) 38 i0 ((h.1 6 i0 0).toNatClampNeg) a3) 39 i0 ((h.1 6 i0 0).toNatClampNeg) a4) 40 i0 ((h.1 6 i0 0).toNatClampNeg) a5) 41 i0 ((h.1 6 i0 0).toNatClampNeg) 0) 42 i0 ((h.1 6 i0 0).toNatClampNeg) 0) 43 i0 ((h.1 6 i0 0).toNatClampNeg) 0) 6 i0 0 ((h.1 6 i0 0) + 1)) else h
set_option maxHeartbeats 4000000 in
theorem c_X6_enter {d : Nat} {h : Hp} {P : Int32 → Hp → Prop} {Qx : String → Hp → Prop} {i0 : Nat} {a1 : Int32} {a2 : Int32} {a3 : Int32} {a4 : Int32} {a5 : Int32}  (hp : p_X6_enter h i0 a1 a2 a3 a4 a5) (k : P (f_X6_enter h i0 a1 a2 a3 a4 a5) (g_X6_enter h i0 a1 a2 a3 a4 a5)) : CL 0 (d + 1) mX6_enter [vR 6 i0, vI a1, vI a2, vI a3, vI a4, vI a5] h (oI P) Qx := by
  replace k : oI P (some (vI (f_X6_enter h i0 a1 a2 a3 a4 a5))) (g_X6_enter h i0 a1 a2 a3 a4 a5) := k
  unfold p_X6_enter at hp
  unfold f_X6_enter at k
  unfold g_X6_enter at k
  refine CL.ofF (plainFor_of_name rfl) rfl (Nat.le_of_ble_eq_true rfl) (vc_X6_enter_0 (d := d + 0)  ?_)
  refine ⟨fun c => ?_, fun c => ?_⟩
  · replace hp := hp.1 c
    try simp only [if_pos c] at k
    refine ⟨hp.1, ?_⟩
    replace hp := hp.2
    refine ⟨hp.1, ?_⟩
    replace hp := hp.2
    refine ⟨hp.1, ?_⟩
    replace hp := hp.2
    refine ⟨hp.1, ?_⟩
    replace hp := hp.2
    refine ⟨hp.1, ?_⟩
    replace hp := hp.2
    refine ⟨hp.1, ?_⟩
    replace hp := hp.2
    refine ⟨hp.1, ?_⟩
    replace hp := hp.2
    refine ⟨hp.1, ?_⟩
    replace hp := hp.2
    refine ⟨hp.1, ?_⟩
    replace hp := hp.2
    exact k
  · replace hp := hp.2 c
    try simp only [if_neg c] at k
    exact k
def p_X7_hasLine (h : Hp)  : Prop := ((if (h.1 9 0 0) = 0 then (0 : Int32) else 1) = 0 ∨ (if (h.1 9 0 0) = 0 then (0 : Int32) else 1) = 1) ∧ True
def f_X7_hasLine (h : Hp)  : Int32 := if (h.1 9 0 0) = 0 then (0 : Int32) else 1
set_option maxHeartbeats 4000000 in
theorem c_X7_hasLine {d : Nat} {h : Hp} {P : Int32 → Hp → Prop} {Qx : String → Hp → Prop}   (hp : p_X7_hasLine h ) (k : P (f_X7_hasLine h ) h) : CL 0 (d + 1) mX7_hasLine [vR 7 0] h (oI P) Qx := by
  replace k : oI P (some (vI (f_X7_hasLine h ))) h := k
  unfold p_X7_hasLine at hp
  unfold f_X7_hasLine at k
  refine CL.ofF (plainFor_of_name rfl) rfl (Nat.le_of_ble_eq_true rfl) (vc_X7_hasLine_0 (d := d + 0)  ?_)
  refine ⟨hp.1, ?_⟩
  replace hp := hp.2
  exact k
def p_X7_swapCatalog (h : Hp) (i1 : Nat) : Prop := ((¬ (h.1 1 (h.2.2 7 0 3) 2) = 0) → True) ∧ (((h.1 1 (h.2.2 7 0 3) 2) = 0) → (p_X1_addRung h (h.2.2 7 0 3) 0 9 100 ∧ True))
def f_X7_swapCatalog (h : Hp) (i1 : Nat) : Nat := if ¬ (h.1 1 (h.2.2 7 0 3) 2) = 0 then (h.2.2 7 0 3) else (h.2.2 7 0 3)
def g_X7_swapCatalog (h : Hp) (i1 : Nat) : Hp := if ¬ (h.1 1 (h.2.2 7 0 3) 2) = 0 then (hp_r h 7 0 3 i1) else (hp_r (g_X1_addRung h (h.2.2 7 0 3) 0 9 100) 7 0 3 i1)
set_option maxHeartbeats 4000000 in
theorem c_X7_swapCatalog {d : Nat} {h : Hp} {P : Nat → Hp → Prop} {Qx : String → Hp → Prop} {i1 : Nat}  (hp : p_X7_swapCatalog h i1) (k : P (f_X7_swapCatalog h i1) (g_X7_swapCatalog h i1)) : CL 0 (d + 2) mX7_swapCatalog [vR 7 0, vR 1 i1] h (oR 1 P) Qx := by
  replace k : oR 1 P (some (vR 1 (f_X7_swapCatalog h i1))) (g_X7_swapCatalog h i1) := ⟨rfl, k⟩
  unfold p_X7_swapCatalog at hp
  unfold f_X7_swapCatalog at k
  unfold g_X7_swapCatalog at k
  refine CL.ofF (plainFor_of_name rfl) rfl (Nat.le_of_ble_eq_true rfl) (vc_X7_swapCatalog_0 (d := d + 1)  ?_)
  refine ⟨fun c => ?_, fun c => ?_⟩
  · replace hp := hp.1 c
    try simp only [if_pos c] at k
    exact k
  · replace hp := hp.2 c
    try simp only [if_neg (oa_nn c)] at k
    refine c_X1_addRung  hp.1 ?_
    replace hp := hp.2
    exact k
def p_X7_swapLedger (h : Hp) (i1 : Nat) : Prop := True
def f_X7_swapLedger (h : Hp) (i1 : Nat) : Nat := h.2.2 7 0 4
def g_X7_swapLedger (h : Hp) (i1 : Nat) : Hp := hp_r h 7 0 4 i1
set_option maxHeartbeats 4000000 in
theorem c_X7_swapLedger {d : Nat} {h : Hp} {P : Nat → Hp → Prop} {Qx : String → Hp → Prop} {i1 : Nat}  (hp : p_X7_swapLedger h i1) (k : P (f_X7_swapLedger h i1) (g_X7_swapLedger h i1)) : CL 0 (d + 1) mX7_swapLedger [vR 7 0, vR 5 i1] h (oR 5 P) Qx := by
  replace k : oR 5 P (some (vR 5 (f_X7_swapLedger h i1))) (g_X7_swapLedger h i1) := ⟨rfl, k⟩
  unfold p_X7_swapLedger at hp
  unfold f_X7_swapLedger at k
  unfold g_X7_swapLedger at k
  refine CL.ofF (plainFor_of_name rfl) rfl (Nat.le_of_ble_eq_true rfl) (vc_X7_swapLedger_0 (d := d + 0)  ?_)
  exact k
def p_X7_fail (h : Hp) (a1 : Int32) : Prop := True
def f_X7_fail (h : Hp) (a1 : Int32) : Int32 := 0
def g_X7_fail (h : Hp) (a1 : Int32) : Hp := hp_i (hp_i h 7 0 0 (h.1 9 0 1)) 7 0 1 a1
set_option maxHeartbeats 4000000 in
theorem c_X7_fail {d : Nat} {h : Hp} {P : Int32 → Hp → Prop} {Qx : String → Hp → Prop} {a1 : Int32}  (hp : p_X7_fail h a1) (k : P (f_X7_fail h a1) (g_X7_fail h a1)) : CL 0 (d + 1) mX7_fail [vR 7 0, vI a1] h (oI P) Qx := by
  replace k : oI P (some (vI (f_X7_fail h a1))) (g_X7_fail h a1) := k
  unfold p_X7_fail at hp
  unfold f_X7_fail at k
  unfold g_X7_fail at k
  refine CL.ofF (plainFor_of_name rfl) rfl (Nat.le_of_ble_eq_true rfl) (vc_X7_fail_0 (d := d + 0)  ?_)
  exact k
def p_X8_copyFrom (h : Hp) (i0 : Nat) (i1 : Nat) : Prop := True
def g_X8_copyFrom (h : Hp) (i0 : Nat) (i1 : Nat) : Hp := hp_a (hp_a (hp_a (hp_a h 44 i0 (va_cpy (h.1 44 i1) (h.1 44 i0) 0 0 5)) 45 i0 (va_cpy (h.1 45 i1) (h.1 45 i0) 0 0 16)) 46 i0 (va_cpy (h.1 46 i1) (h.1 46 i0) 0 0 16)) 47 i0 (va_cpy (h.1 47 i1) (h.1 47 i0) 0 0 16)
set_option maxHeartbeats 4000000 in
theorem c_X8_copyFrom {d : Nat} {h : Hp} {P : Hp → Prop} {Qx : String → Hp → Prop} {i0 : Nat} {i1 : Nat}  (hp : p_X8_copyFrom h i0 i1) (k : P  (g_X8_copyFrom h i0 i1)) : CL 0 (d + 1) mX8_copyFrom [vR 8 i0, vR 8 i1] h (oV P) Qx := by
  replace k : oV P none (g_X8_copyFrom h i0 i1) := k
  unfold p_X8_copyFrom at hp
  unfold g_X8_copyFrom at k
  refine CL.ofF (plainFor_of_name rfl) rfl (Nat.le_of_ble_eq_true rfl) (vc_X8_copyFrom_0 (d := d + 0)  ?_)
  exact k
def p_X8_addBought (h : Hp) (i0 : Nat) (a1 : Int32) : Prop := True
def g_X8_addBought (h : Hp) (i0 : Nat) (a1 : Int32) : Hp := hp_i h 44 i0 4 ((h.1 44 i0 4) + a1)
set_option maxHeartbeats 4000000 in
theorem c_X8_addBought {d : Nat} {h : Hp} {P : Hp → Prop} {Qx : String → Hp → Prop} {i0 : Nat} {a1 : Int32}  (hp : p_X8_addBought h i0 a1) (k : P  (g_X8_addBought h i0 a1)) : CL 0 (d + 1) mX8_addBought [vR 8 i0, vI a1] h (oV P) Qx := by
  replace k : oV P none (g_X8_addBought h i0 a1) := k
  unfold p_X8_addBought at hp
  unfold g_X8_addBought at k
  refine CL.ofF (plainFor_of_name rfl) rfl (Nat.le_of_ble_eq_true rfl) (vc_X8_addBought_0 (d := d + 0)  ?_)
  exact k
def p_X9_isSpace (h : Hp) (a0 : Int32) : Prop := ((if a0 = 32 then (1 : Int32) else (if a0 = 9 then (1 : Int32) else (if ¬ a0 = 10 then (0 : Int32) else 1))) = 0 ∨ (if a0 = 32 then (1 : Int32) else (if a0 = 9 then (1 : Int32) else (if ¬ a0 = 10 then (0 : Int32) else 1))) = 1) ∧ True
def f_X9_isSpace (h : Hp) (a0 : Int32) : Int32 := if a0 = 32 then (1 : Int32) else (if a0 = 9 then (1 : Int32) else (if ¬ a0 = 10 then (0 : Int32) else 1))
set_option maxHeartbeats 4000000 in
theorem c_X9_isSpace {d : Nat} {h : Hp} {P : Int32 → Hp → Prop} {Qx : String → Hp → Prop} {a0 : Int32}  (hp : p_X9_isSpace h a0) (k : P (f_X9_isSpace h a0) h) : CL 0 (d + 1) mX9_isSpace [vI a0] h (oI P) Qx := by
  replace k : oI P (some (vI (f_X9_isSpace h a0))) h := k
  unfold p_X9_isSpace at hp
  unfold f_X9_isSpace at k
  refine CL.ofF (plainFor_of_name rfl) rfl (Nat.le_of_ble_eq_true rfl) (vc_X9_isSpace_0 (d := d + 0)  ?_)
  refine ⟨hp.1, ?_⟩
  replace hp := hp.2
  exact k
def p_X9_kindOf (h : Hp) (a0 : Int32) : Prop := True
def f_X9_kindOf (h : Hp) (a0 : Int32) : Int32 := if ¬ a0 = (-1) then (if a0 < 97 then (if a0 < 48 then (3 : Int32) else (if 57 < a0 then (3 : Int32) else 2)) else (if 122 < a0 then (if a0 < 48 then (3 : Int32) else (if 57 < a0 then (3 : Int32) else 2)) else 1)) else 0
set_option maxHeartbeats 4000000 in
theorem c_X9_kindOf {d : Nat} {h : Hp} {P : Int32 → Hp → Prop} {Qx : String → Hp → Prop} {a0 : Int32}  (hp : p_X9_kindOf h a0) (k : P (f_X9_kindOf h a0) h) : CL 0 (d + 1) mX9_kindOf [vI a0] h (oI P) Qx := by
  replace k : oI P (some (vI (f_X9_kindOf h a0))) h := k
  unfold p_X9_kindOf at hp
  unfold f_X9_kindOf at k
  refine CL.ofF (plainFor_of_name rfl) rfl (Nat.le_of_ble_eq_true rfl) (vc_X9_kindOf_0 (d := d + 0)  ?_)
  refine ⟨fun c => ?_, fun c => ?_⟩
  · skip
    try simp only [if_pos c] at k
    refine ⟨fun c => ?_, fun c => ?_⟩
    · skip
      try simp only [if_pos c] at k
      exact k
    · skip
      try simp only [if_neg c] at k
      refine ⟨fun c => ?_, fun c => ?_⟩
      · skip
        try simp only [if_pos c] at k
        exact k
      · skip
        try simp only [if_neg c] at k
        exact k
  · skip
    try simp only [if_neg (oa_nn c)] at k
    exact k
def pw_X9_isWord_28 : Nat → Hp → Nat → Int32 → Prop
  | 0, _, _, _ => False
  | n + 1, h, j1, x2 => p_J0_length_8abf5 h j1 ∧ ((((f_J0_length_8abf5 h j1) ≤ x2) → True) ∧ ((¬ (f_J0_length_8abf5 h j1) ≤ x2) → (p_X4_signAt h ((h.1 9 0 1) + x2) ∧ (p_J0_charAt_5068e h j1 x2 ∧ ((((f_X4_signAt h ((h.1 9 0 1) + x2)) = (f_J0_charAt_5068e h j1 x2)) → (pw_X9_isWord_28 n h j1 (x2 + 1))) ∧ ((¬ (f_X4_signAt h ((h.1 9 0 1) + x2)) = (f_J0_charAt_5068e h j1 x2)) → True))))))
def fw_X9_isWord_28 : Nat → Hp → Nat → Int32 → Int32
  | 0, _, _, _ => 0
  | n + 1, h, j1, x2 => if (f_J0_length_8abf5 h j1) ≤ x2 then 1 else (if (f_X4_signAt h ((h.1 9 0 1) + x2)) = (f_J0_charAt_5068e h j1 x2) then (fw_X9_isWord_28 n h j1 (x2 + 1)) else 0)
set_option maxHeartbeats 4000000 in
theorem lw_X9_isWord_28 {X : WD → State → Prop} {d rb : Nat} {Qr : Option AV → Hp → Prop} {Qx : String → Hp → Prop} {j1 : Nat} (hj1 : j1 < 36) : ∀ (n : Nat) (h : Hp) (x2 : Int32), pw_X9_isWord_28 n h j1 x2 → Qr (some (vI (fw_X9_isWord_28 n h j1 x2))) h → AW X (d + 6) rb mX9_isWord 28 [(0, vR 9 0), (1, vR (1000 + j1) 0), (2, vI x2)] [] h Qr Qx := by
  intro n
  induction n with
  | zero => intro h x2 hp; exact hp.elim
  | succ n ih =>
    intro h x2 hp k
    rw [pw_X9_isWord_28] at hp
    rw [fw_X9_isWord_28] at k
    refine vc_X9_isWord_28 (d := d + 5) hj1 ?_
    refine c_J0_length_8abf5  hp.1 ?_
    replace hp := hp.2
    refine ⟨fun c => ?_, fun c => ?_⟩
    · replace hp := hp.1 c
      try simp only [if_pos c] at k
      exact k
    · replace hp := hp.2 c
      try simp only [if_neg c] at k
      refine c_X4_signAt  hp.1 ?_
      replace hp := hp.2
      refine c_J0_charAt_5068e  hp.1 ?_
      replace hp := hp.2
      refine ⟨fun c => ?_, fun c => ?_⟩
      · replace hp := hp.1 c
        try simp only [if_pos c] at k
        exact ih _ _ hp k
      · replace hp := hp.2 c
        try simp only [if_neg c] at k
        exact k
def p_X9_isWord (h : Hp) (j1 : Nat) : Prop := ((¬ (h.1 9 0 0) = 1) → True) ∧ (((h.1 9 0 0) = 1) → (p_J0_length_8abf5 h j1 ∧ (((((h.1 9 0 3) - (h.1 9 0 1)) = (f_J0_length_8abf5 h j1)) → (pw_X9_isWord_28 oa_N h j1 0)) ∧ ((¬ ((h.1 9 0 3) - (h.1 9 0 1)) = (f_J0_length_8abf5 h j1)) → True))))
def f_X9_isWord (h : Hp) (j1 : Nat) : Int32 := if ¬ (h.1 9 0 0) = 1 then 0 else (if ((h.1 9 0 3) - (h.1 9 0 1)) = (f_J0_length_8abf5 h j1) then (fw_X9_isWord_28 oa_N h j1 0) else 0)
set_option maxHeartbeats 4000000 in
theorem c_X9_isWord {d : Nat} {h : Hp} {P : Int32 → Hp → Prop} {Qx : String → Hp → Prop} {j1 : Nat} (hj1 : j1 < 36) (hp : p_X9_isWord h j1) (k : P (f_X9_isWord h j1) h) : CL 0 (d + 6) mX9_isWord [vR 9 0, vR (1000 + j1) 0] h (oI P) Qx := by
  replace k : oI P (some (vI (f_X9_isWord h j1))) h := k
  unfold p_X9_isWord at hp
  unfold f_X9_isWord at k
  refine CL.ofF (plainFor_of_name rfl) rfl (Nat.le_of_ble_eq_true rfl) (vc_X9_isWord_0 (d := d + 5) hj1 ?_)
  refine ⟨fun c => ?_, fun c => ?_⟩
  · replace hp := hp.1 c
    try simp only [if_pos c] at k
    exact k
  · replace hp := hp.2 c
    try simp only [if_neg (oa_nn c)] at k
    refine c_J0_length_8abf5  hp.1 ?_
    replace hp := hp.2
    refine ⟨fun c => ?_, fun c => ?_⟩
    · replace hp := hp.1 c
      try simp only [if_pos c] at k
      exact lw_X9_isWord_28 hj1 _ _ _ hp k
    · replace hp := hp.2 c
      try simp only [if_neg c] at k
      exact k
def p_X9_isSemicolon (h : Hp)  : Prop := ((¬ (h.1 9 0 0) = 3) → True) ∧ (((h.1 9 0 0) = 3) → (p_X4_signAt h (h.1 9 0 1) ∧ (((if ¬ (f_X4_signAt h (h.1 9 0 1)) = 59 then (0 : Int32) else 1) = 0 ∨ (if ¬ (f_X4_signAt h (h.1 9 0 1)) = 59 then (0 : Int32) else 1) = 1) ∧ True)))
def f_X9_isSemicolon (h : Hp)  : Int32 := if ¬ (h.1 9 0 0) = 3 then 0 else (if ¬ (f_X4_signAt h (h.1 9 0 1)) = 59 then (0 : Int32) else 1)
set_option maxHeartbeats 4000000 in
theorem c_X9_isSemicolon {d : Nat} {h : Hp} {P : Int32 → Hp → Prop} {Qx : String → Hp → Prop}   (hp : p_X9_isSemicolon h ) (k : P (f_X9_isSemicolon h ) h) : CL 0 (d + 2) mX9_isSemicolon [vR 9 0] h (oI P) Qx := by
  replace k : oI P (some (vI (f_X9_isSemicolon h ))) h := k
  unfold p_X9_isSemicolon at hp
  unfold f_X9_isSemicolon at k
  refine CL.ofF (plainFor_of_name rfl) rfl (Nat.le_of_ble_eq_true rfl) (vc_X9_isSemicolon_0 (d := d + 1)  ?_)
  refine ⟨fun c => ?_, fun c => ?_⟩
  · replace hp := hp.1 c
    try simp only [if_pos c] at k
    exact k
  · replace hp := hp.2 c
    try simp only [if_neg (oa_nn c)] at k
    refine c_X4_signAt  hp.1 ?_
    replace hp := hp.2
    refine ⟨hp.1, ?_⟩
    replace hp := hp.2
    exact k
def p_X9_isName (h : Hp)  : Prop := ((if ¬ (h.1 9 0 0) = 1 then (0 : Int32) else (if 8 < ((h.1 9 0 3) - (h.1 9 0 1)) then (0 : Int32) else 1)) = 0 ∨ (if ¬ (h.1 9 0 0) = 1 then (0 : Int32) else (if 8 < ((h.1 9 0 3) - (h.1 9 0 1)) then (0 : Int32) else 1)) = 1) ∧ True
def f_X9_isName (h : Hp)  : Int32 := if ¬ (h.1 9 0 0) = 1 then (0 : Int32) else (if 8 < ((h.1 9 0 3) - (h.1 9 0 1)) then (0 : Int32) else 1)
set_option maxHeartbeats 4000000 in
theorem c_X9_isName {d : Nat} {h : Hp} {P : Int32 → Hp → Prop} {Qx : String → Hp → Prop}   (hp : p_X9_isName h ) (k : P (f_X9_isName h ) h) : CL 0 (d + 1) mX9_isName [vR 9 0] h (oI P) Qx := by
  replace k : oI P (some (vI (f_X9_isName h ))) h := k
  unfold p_X9_isName at hp
  unfold f_X9_isName at k
  refine CL.ofF (plainFor_of_name rfl) rfl (Nat.le_of_ble_eq_true rfl) (vc_X9_isName_0 (d := d + 0)  ?_)
  refine ⟨hp.1, ?_⟩
  replace hp := hp.2
  exact k
def pw_X9_name_7 : Nat → Hp → Int64 → Int32 → Prop
  | 0, _, _, _ => False
  | n + 1, h, x1, x3 => (((h.1 9 0 3) ≤ x3) → True) ∧ ((¬ (h.1 9 0 3) ≤ x3) → (p_X4_signAt h x3 ∧ (pw_X9_name_7 n h ((x1 <<< ((8 : Int32).toInt64 &&& 63)) ||| (f_X4_signAt h x3).toInt64) (x3 + 1))))
def fw_X9_name_7 : Nat → Hp → Int64 → Int32 → Int64
  | 0, _, _, _ => 0
  | n + 1, h, x1, x3 => if (h.1 9 0 3) ≤ x3 then x1 else (fw_X9_name_7 n h ((x1 <<< ((8 : Int32).toInt64 &&& 63)) ||| (f_X4_signAt h x3).toInt64) (x3 + 1))
set_option maxHeartbeats 4000000 in
theorem lw_X9_name_7 {X : WD → State → Prop} {d rb : Nat} {Qr : Option AV → Hp → Prop} {Qx : String → Hp → Prop}   : ∀ (n : Nat) (h : Hp) (x1 : Int64) (x3 : Int32), pw_X9_name_7 n h x1 x3 → Qr (some (vJ (fw_X9_name_7 n h x1 x3))) h → AW X (d + 2) rb mX9_name 7 [(0, vR 9 0), (1, vJ x1), (3, vI x3)] [] h Qr Qx := by
  intro n
  induction n with
  | zero => intro h x1 x3 hp; exact hp.elim
  | succ n ih =>
    intro h x1 x3 hp k
    rw [pw_X9_name_7] at hp
    rw [fw_X9_name_7] at k
    refine vc_X9_name_7 (d := d + 1)  ?_
    refine ⟨fun c => ?_, fun c => ?_⟩
    · replace hp := hp.1 c
      try simp only [if_pos c] at k
      exact k
    · replace hp := hp.2 c
      try simp only [if_neg c] at k
      refine c_X4_signAt  hp.1 ?_
      replace hp := hp.2
      exact ih _ _ _ hp k
def p_X9_name (h : Hp)  : Prop := pw_X9_name_7 oa_N h 0 (h.1 9 0 1)
def f_X9_name (h : Hp)  : Int64 := fw_X9_name_7 oa_N h 0 (h.1 9 0 1)
set_option maxHeartbeats 4000000 in
theorem c_X9_name {d : Nat} {h : Hp} {P : Int64 → Hp → Prop} {Qx : String → Hp → Prop}   (hp : p_X9_name h ) (k : P (f_X9_name h ) h) : CL 0 (d + 2) mX9_name [vR 9 0] h (oJ P) Qx := by
  replace k : oJ P (some (vJ (f_X9_name h ))) h := k
  unfold p_X9_name at hp
  unfold f_X9_name at k
  refine CL.ofF (plainFor_of_name rfl) rfl (Nat.le_of_ble_eq_true rfl) (vc_X9_name_0 (d := d + 1)  ?_)
  exact lw_X9_name_7  _ _ _ _ hp k
def pw_X9_value_22 : Nat → Hp → Int32 → Int32 → Prop
  | 0, _, _, _ => False
  | n + 1, h, x1, x2 => (((h.1 9 0 3) ≤ x2) → True) ∧ ((¬ (h.1 9 0 3) ≤ x2) → (p_X4_signAt h x2 ∧ (pw_X9_value_22 n h (((x1 * 10) + (f_X4_signAt h x2)) - 48) (x2 + 1))))
def fw_X9_value_22 : Nat → Hp → Int32 → Int32 → Int32
  | 0, _, _, _ => 0
  | n + 1, h, x1, x2 => if (h.1 9 0 3) ≤ x2 then x1 else (fw_X9_value_22 n h (((x1 * 10) + (f_X4_signAt h x2)) - 48) (x2 + 1))
set_option maxHeartbeats 4000000 in
theorem lw_X9_value_22 {X : WD → State → Prop} {d rb : Nat} {Qr : Option AV → Hp → Prop} {Qx : String → Hp → Prop}   : ∀ (n : Nat) (h : Hp) (x1 : Int32) (x2 : Int32), pw_X9_value_22 n h x1 x2 → Qr (some (vI (fw_X9_value_22 n h x1 x2))) h → AW X (d + 2) rb mX9_value 22 [(0, vR 9 0), (1, vI x1), (2, vI x2)] [] h Qr Qx := by
  intro n
  induction n with
  | zero => intro h x1 x2 hp; exact hp.elim
  | succ n ih =>
    intro h x1 x2 hp k
    rw [pw_X9_value_22] at hp
    rw [fw_X9_value_22] at k
    refine vc_X9_value_22 (d := d + 1)  ?_
    refine ⟨fun c => ?_, fun c => ?_⟩
    · replace hp := hp.1 c
      try simp only [if_pos c] at k
      exact k
    · replace hp := hp.2 c
      try simp only [if_neg c] at k
      refine c_X4_signAt  hp.1 ?_
      replace hp := hp.2
      exact ih _ _ _ hp k
def p_X9_value (h : Hp)  : Prop := ((((h.1 9 0 3) - (h.1 9 0 1)) ≤ 4) → (pw_X9_value_22 oa_N h 0 (h.1 9 0 1))) ∧ ((¬ ((h.1 9 0 3) - (h.1 9 0 1)) ≤ 4) → True)
def f_X9_value (h : Hp)  : Int32 := if ((h.1 9 0 3) - (h.1 9 0 1)) ≤ 4 then (fw_X9_value_22 oa_N h 0 (h.1 9 0 1)) else (-1)
set_option maxHeartbeats 4000000 in
theorem c_X9_value {d : Nat} {h : Hp} {P : Int32 → Hp → Prop} {Qx : String → Hp → Prop}   (hp : p_X9_value h ) (k : P (f_X9_value h ) h) : CL 0 (d + 2) mX9_value [vR 9 0] h (oI P) Qx := by
  replace k : oI P (some (vI (f_X9_value h ))) h := k
  unfold p_X9_value at hp
  unfold f_X9_value at k
  refine CL.ofF (plainFor_of_name rfl) rfl (Nat.le_of_ble_eq_true rfl) (vc_X9_value_0 (d := d + 1)  ?_)
  refine ⟨fun c => ?_, fun c => ?_⟩
  · replace hp := hp.1 c
    try simp only [if_pos c] at k
    exact lw_X9_value_22  _ _ _ _ hp k
  · replace hp := hp.2 c
    try simp only [if_neg c] at k
    exact k
def p_X10_copyFrom (h : Hp) (i0 : Nat) (i1 : Nat) : Prop := True
def g_X10_copyFrom (h : Hp) (i0 : Nat) (i1 : Nat) : Hp := hp_a (hp_a (hp_a (hp_a (hp_a (hp_i (hp_i h 10 i0 0 (h.1 10 i1 0)) 10 i0 1 ((hp_i h 10 i0 0 (h.1 10 i1 0)).1 10 i1 1)) 48 i0 (va_cpy (h.1 48 i1) (h.1 48 i0) 0 0 12)) 49 i0 (va_cpy (h.1 49 i1) (h.1 49 i0) 0 0 12)) 50 i0 (va_cpy (h.1 50 i1) (h.1 50 i0) 0 0 20)) 51 i0 (va_cpy (h.1 51 i1) (h.1 51 i0) 0 0 20)) 52 i0 (va_cpy (h.1 52 i1) (h.1 52 i0) 0 0 20)
set_option maxHeartbeats 4000000 in
theorem c_X10_copyFrom {d : Nat} {h : Hp} {P : Hp → Prop} {Qx : String → Hp → Prop} {i0 : Nat} {i1 : Nat}  (hp : p_X10_copyFrom h i0 i1) (k : P  (g_X10_copyFrom h i0 i1)) : CL 0 (d + 1) mX10_copyFrom [vR 10 i0, vR 10 i1] h (oV P) Qx := by
  replace k : oV P none (g_X10_copyFrom h i0 i1) := k
  unfold p_X10_copyFrom at hp
  unfold g_X10_copyFrom at k
  refine CL.ofF (plainFor_of_name rfl) rfl (Nat.le_of_ble_eq_true rfl) (vc_X10_copyFrom_0 (d := d + 0)  ?_)
  exact k
def p_X10_addArrival (h : Hp) (i0 : Nat) (a1 : Int32) (a2 : Int32) (a3 : Int32) : Prop := ((20 ≤ (h.1 10 i0 1)) → True) ∧ ((¬ 20 ≤ (h.1 10 i0 1)) → ((vp_in (h.1 10 i0 1) 20) ∧ ((vp_in (h.1 10 i0 1) 20) ∧ ((vp_in (h.1 10 i0 1) 20) ∧ True))))
def f_X10_addArrival (h : Hp) (i0 : Nat) (a1 : Int32) (a2 : Int32) (a3 : Int32) : Int32 := if 20 ≤ (h.1 10 i0 1) then ((h.1 10 i0 0) + a3) else ((h.1 10 i0 0) + a3)
def g_X10_addArrival (h : Hp) (i0 : Nat) (a1 : Int32) (a2 : Int32) (a3 : Int32) : Hp := if 20 ≤ (h.1 10 i0 1) then h else (hp_i (hp_i (hp_i (hp_i h 50 i0 ((h.1 10 i0 1).toNatClampNeg) a1) 51 i0 ((h.1 10 i0 1).toNatClampNeg) a2) 52 i0 ((h.1 10 i0 1).toNatClampNeg) ((h.1 10 i0 0) + a3)) 10 i0 1 ((h.1 10 i0 1) + 1))
set_option maxHeartbeats 4000000 in
theorem c_X10_addArrival {d : Nat} {h : Hp} {P : Int32 → Hp → Prop} {Qx : String → Hp → Prop} {i0 : Nat} {a1 : Int32} {a2 : Int32} {a3 : Int32}  (hp : p_X10_addArrival h i0 a1 a2 a3) (k : P (f_X10_addArrival h i0 a1 a2 a3) (g_X10_addArrival h i0 a1 a2 a3)) : CL 0 (d + 1) mX10_addArrival [vR 10 i0, vI a1, vI a2, vI a3] h (oI P) Qx := by
  replace k : oI P (some (vI (f_X10_addArrival h i0 a1 a2 a3))) (g_X10_addArrival h i0 a1 a2 a3) := k
  unfold p_X10_addArrival at hp
  unfold f_X10_addArrival at k
  unfold g_X10_addArrival at k
  refine CL.ofF (plainFor_of_name rfl) rfl (Nat.le_of_ble_eq_true rfl) (vc_X10_addArrival_0 (d := d + 0)  ?_)
  refine ⟨fun c => ?_, fun c => ?_⟩
  · replace hp := hp.1 c
    try simp only [if_pos c] at k
    exact k
  · replace hp := hp.2 c
    try simp only [if_neg c] at k
    refine ⟨hp.1, ?_⟩
    replace hp := hp.2
    refine ⟨hp.1, ?_⟩
    replace hp := hp.2
    refine ⟨hp.1, ?_⟩
    replace hp := hp.2
    exact k
def pw_X10_arrivingUntil_5 : Nat → Hp → Nat → Int32 → Int32 → Int32 → Int32 → Prop
  | 0, _, _, _, _, _, _ => False
  | n + 1, h, i0, x1, x2, x3, x4 => (((h.1 10 i0 1) ≤ x4) → True) ∧ ((¬ (h.1 10 i0 1) ≤ x4) → ((vp_in x4 20) ∧ (((¬ (h.1 50 i0 x4.toNatClampNeg) = x1) → (pw_X10_arrivingUntil_5 n h i0 x1 x2 x3 (x4 + 1))) ∧ (((h.1 50 i0 x4.toNatClampNeg) = x1) → ((vp_in x4 20) ∧ (((x2 < (h.1 52 i0 x4.toNatClampNeg)) → (pw_X10_arrivingUntil_5 n h i0 x1 x2 x3 (x4 + 1))) ∧ ((¬ x2 < (h.1 52 i0 x4.toNatClampNeg)) → ((vp_in x4 20) ∧ (pw_X10_arrivingUntil_5 n h i0 x1 x2 (x3 + (h.1 51 i0 x4.toNatClampNeg)) (x4 + 1))))))))))
def fw_X10_arrivingUntil_5 : Nat → Hp → Nat → Int32 → Int32 → Int32 → Int32 → Int32
  | 0, _, _, _, _, _, _ => 0
  | n + 1, h, i0, x1, x2, x3, x4 => if (h.1 10 i0 1) ≤ x4 then x3 else (if ¬ (h.1 50 i0 x4.toNatClampNeg) = x1 then (fw_X10_arrivingUntil_5 n h i0 x1 x2 x3 (x4 + 1)) else (if x2 < (h.1 52 i0 x4.toNatClampNeg) then (fw_X10_arrivingUntil_5 n h i0 x1 x2 x3 (x4 + 1)) else (fw_X10_arrivingUntil_5 n h i0 x1 x2 (x3 + (h.1 51 i0 x4.toNatClampNeg)) (x4 + 1))))
set_option maxHeartbeats 4000000 in
theorem lw_X10_arrivingUntil_5 {X : WD → State → Prop} {d rb : Nat} {Qr : Option AV → Hp → Prop} {Qx : String → Hp → Prop}   : ∀ (n : Nat) (h : Hp) (i0 : Nat) (x1 : Int32) (x2 : Int32) (x3 : Int32) (x4 : Int32), pw_X10_arrivingUntil_5 n h i0 x1 x2 x3 x4 → Qr (some (vI (fw_X10_arrivingUntil_5 n h i0 x1 x2 x3 x4))) h → AW X (d + 1) rb mX10_arrivingUntil 5 [(0, vR 10 i0), (1, vI x1), (2, vI x2), (3, vI x3), (4, vI x4)] [] h Qr Qx := by
  intro n
  induction n with
  | zero => intro h i0 x1 x2 x3 x4 hp; exact hp.elim
  | succ n ih =>
    intro h i0 x1 x2 x3 x4 hp k
    rw [pw_X10_arrivingUntil_5] at hp
    rw [fw_X10_arrivingUntil_5] at k
    refine vc_X10_arrivingUntil_5 (d := d + 0)  ?_
    refine ⟨fun c => ?_, fun c => ?_⟩
    · replace hp := hp.1 c
      try simp only [if_pos c] at k
      exact k
    · replace hp := hp.2 c
      try simp only [if_neg c] at k
      refine ⟨hp.1, ?_⟩
      replace hp := hp.2
      refine ⟨fun c => ?_, fun c => ?_⟩
      · replace hp := hp.1 c
        try simp only [if_pos c] at k
        exact ih _ _ _ _ _ _ hp k
      · replace hp := hp.2 c
        try simp only [if_neg (oa_nn c)] at k
        refine ⟨hp.1, ?_⟩
        replace hp := hp.2
        refine ⟨fun c => ?_, fun c => ?_⟩
        · replace hp := hp.1 c
          try simp only [if_pos c] at k
          exact ih _ _ _ _ _ _ hp k
        · replace hp := hp.2 c
          try simp only [if_neg c] at k
          refine ⟨hp.1, ?_⟩
          replace hp := hp.2
          exact ih _ _ _ _ _ _ hp k
def p_X10_arrivingUntil (h : Hp) (i0 : Nat) (a1 : Int32) (a2 : Int32) : Prop := pw_X10_arrivingUntil_5 oa_N h i0 a1 a2 0 0
def f_X10_arrivingUntil (h : Hp) (i0 : Nat) (a1 : Int32) (a2 : Int32) : Int32 := fw_X10_arrivingUntil_5 oa_N h i0 a1 a2 0 0
set_option maxHeartbeats 4000000 in
theorem c_X10_arrivingUntil {d : Nat} {h : Hp} {P : Int32 → Hp → Prop} {Qx : String → Hp → Prop} {i0 : Nat} {a1 : Int32} {a2 : Int32}  (hp : p_X10_arrivingUntil h i0 a1 a2) (k : P (f_X10_arrivingUntil h i0 a1 a2) h) : CL 0 (d + 1) mX10_arrivingUntil [vR 10 i0, vI a1, vI a2] h (oI P) Qx := by
  replace k : oI P (some (vI (f_X10_arrivingUntil h i0 a1 a2))) h := k
  unfold p_X10_arrivingUntil at hp
  unfold f_X10_arrivingUntil at k
  refine CL.ofF (plainFor_of_name rfl) rfl (Nat.le_of_ble_eq_true rfl) (vc_X10_arrivingUntil_0 (d := d + 0)  ?_)
  exact lw_X10_arrivingUntil_5  _ _ _ _ _ _ _ hp k
def pw_X10_earliestArrival_4 : Nat → Hp → Nat → Int32 → Int32 → Int32 → Prop
  | 0, _, _, _, _, _ => False
  | n + 1, h, i0, x1, x2, x3 => (((h.1 10 i0 1) ≤ x3) → True) ∧ ((¬ (h.1 10 i0 1) ≤ x3) → ((vp_in x3 20) ∧ (((¬ (h.1 50 i0 x3.toNatClampNeg) = x1) → (pw_X10_earliestArrival_4 n h i0 x1 x2 (x3 + 1))) ∧ (((h.1 50 i0 x3.toNatClampNeg) = x1) → (((x2 = (-1)) → ((vp_in x3 20) ∧ (pw_X10_earliestArrival_4 n h i0 x1 (h.1 52 i0 x3.toNatClampNeg) (x3 + 1)))) ∧ ((¬ x2 = (-1)) → ((vp_in x3 20) ∧ (((x2 ≤ (h.1 52 i0 x3.toNatClampNeg)) → (pw_X10_earliestArrival_4 n h i0 x1 x2 (x3 + 1))) ∧ ((¬ x2 ≤ (h.1 52 i0 x3.toNatClampNeg)) → ((vp_in x3 20) ∧ (pw_X10_earliestArrival_4 n h i0 x1 (h.1 52 i0 x3.toNatClampNeg) (x3 + 1))))))))))))
def fw_X10_earliestArrival_4 : Nat → Hp → Nat → Int32 → Int32 → Int32 → Int32
  | 0, _, _, _, _, _ => 0
  | n + 1, h, i0, x1, x2, x3 => if (h.1 10 i0 1) ≤ x3 then x2 else (if ¬ (h.1 50 i0 x3.toNatClampNeg) = x1 then (fw_X10_earliestArrival_4 n h i0 x1 x2 (x3 + 1)) else (if x2 = (-1) then (fw_X10_earliestArrival_4 n h i0 x1 (h.1 52 i0 x3.toNatClampNeg) (x3 + 1)) else (if x2 ≤ (h.1 52 i0 x3.toNatClampNeg) then (fw_X10_earliestArrival_4 n h i0 x1 x2 (x3 + 1)) else (fw_X10_earliestArrival_4 n h i0 x1 (h.1 52 i0 x3.toNatClampNeg) (x3 + 1)))))
set_option maxHeartbeats 4000000 in
theorem lw_X10_earliestArrival_4 {X : WD → State → Prop} {d rb : Nat} {Qr : Option AV → Hp → Prop} {Qx : String → Hp → Prop}   : ∀ (n : Nat) (h : Hp) (i0 : Nat) (x1 : Int32) (x2 : Int32) (x3 : Int32), pw_X10_earliestArrival_4 n h i0 x1 x2 x3 → Qr (some (vI (fw_X10_earliestArrival_4 n h i0 x1 x2 x3))) h → AW X (d + 1) rb mX10_earliestArrival 4 [(0, vR 10 i0), (1, vI x1), (2, vI x2), (3, vI x3)] [] h Qr Qx := by
  intro n
  induction n with
  | zero => intro h i0 x1 x2 x3 hp; exact hp.elim
  | succ n ih =>
    intro h i0 x1 x2 x3 hp k
    rw [pw_X10_earliestArrival_4] at hp
    rw [fw_X10_earliestArrival_4] at k
    refine vc_X10_earliestArrival_4 (d := d + 0)  ?_
    refine ⟨fun c => ?_, fun c => ?_⟩
    · replace hp := hp.1 c
      try simp only [if_pos c] at k
      exact k
    · replace hp := hp.2 c
      try simp only [if_neg c] at k
      refine ⟨hp.1, ?_⟩
      replace hp := hp.2
      refine ⟨fun c => ?_, fun c => ?_⟩
      · replace hp := hp.1 c
        try simp only [if_pos c] at k
        exact ih _ _ _ _ _ hp k
      · replace hp := hp.2 c
        try simp only [if_neg (oa_nn c)] at k
        refine ⟨fun c => ?_, fun c => ?_⟩
        · replace hp := hp.1 c
          try simp only [if_pos c] at k
          refine ⟨hp.1, ?_⟩
          replace hp := hp.2
          exact ih _ _ _ _ _ hp k
        · replace hp := hp.2 c
          try simp only [if_neg c] at k
          refine ⟨hp.1, ?_⟩
          replace hp := hp.2
          refine ⟨fun c => ?_, fun c => ?_⟩
          · replace hp := hp.1 c
            try simp only [if_pos c] at k
            exact ih _ _ _ _ _ hp k
          · replace hp := hp.2 c
            try simp only [if_neg c] at k
            refine ⟨hp.1, ?_⟩
            replace hp := hp.2
            exact ih _ _ _ _ _ hp k
def p_X10_earliestArrival (h : Hp) (i0 : Nat) (a1 : Int32) : Prop := pw_X10_earliestArrival_4 oa_N h i0 a1 (-1) 0
def f_X10_earliestArrival (h : Hp) (i0 : Nat) (a1 : Int32) : Int32 := fw_X10_earliestArrival_4 oa_N h i0 a1 (-1) 0
set_option maxHeartbeats 4000000 in
theorem c_X10_earliestArrival {d : Nat} {h : Hp} {P : Int32 → Hp → Prop} {Qx : String → Hp → Prop} {i0 : Nat} {a1 : Int32}  (hp : p_X10_earliestArrival h i0 a1) (k : P (f_X10_earliestArrival h i0 a1) h) : CL 0 (d + 1) mX10_earliestArrival [vR 10 i0, vI a1] h (oI P) Qx := by
  replace k : oI P (some (vI (f_X10_earliestArrival h i0 a1))) h := k
  unfold p_X10_earliestArrival at hp
  unfold f_X10_earliestArrival at k
  refine CL.ofF (plainFor_of_name rfl) rfl (Nat.le_of_ble_eq_true rfl) (vc_X10_earliestArrival_0 (d := d + 0)  ?_)
  exact lw_X10_earliestArrival_4  _ _ _ _ _ _ hp k
def p_X11_truncate (h : Hp) (a1 : Int32) : Prop := p_X4_shorten h a1 ∧ (((f_X4_shorten h a1) = 0 ∨ (f_X4_shorten h a1) = 1) ∧ True)
def f_X11_truncate (h : Hp) (a1 : Int32) : Int32 := (f_X4_shorten h a1)
def g_X11_truncate (h : Hp) (a1 : Int32) : Hp := (g_X4_shorten h a1)
set_option maxHeartbeats 4000000 in
theorem c_X11_truncate {d : Nat} {h : Hp} {P : Int32 → Hp → Prop} {Qx : String → Hp → Prop} {a1 : Int32}  (hp : p_X11_truncate h a1) (k : P (f_X11_truncate h a1) (g_X11_truncate h a1)) : CL 0 (d + 2) mX11_truncate [vR 11 0, vI a1] h (oI P) Qx := by
  replace k : oI P (some (vI (f_X11_truncate h a1))) (g_X11_truncate h a1) := k
  unfold p_X11_truncate at hp
  unfold f_X11_truncate at k
  unfold g_X11_truncate at k
  refine CL.ofF (plainFor_of_name rfl) rfl (Nat.le_of_ble_eq_true rfl) (vc_X11_truncate_0 (d := d + 1)  ?_)
  refine c_X4_shorten  hp.1 ?_
  replace hp := hp.2
  refine ⟨hp.1, ?_⟩
  replace hp := hp.2
  exact k
def p_X11_errorOffset (h : Hp)  : Prop := True
def f_X11_errorOffset (h : Hp)  : Int32 := h.1 7 0 0
set_option maxHeartbeats 4000000 in
theorem c_X11_errorOffset {d : Nat} {h : Hp} {P : Int32 → Hp → Prop} {Qx : String → Hp → Prop}   (hp : p_X11_errorOffset h ) (k : P (f_X11_errorOffset h ) h) : CL 0 (d + 1) mX11_errorOffset [vR 11 0] h (oI P) Qx := by
  replace k : oI P (some (vI (f_X11_errorOffset h ))) h := k
  unfold p_X11_errorOffset at hp
  unfold f_X11_errorOffset at k
  refine CL.ofF (plainFor_of_name rfl) rfl (Nat.le_of_ble_eq_true rfl) (vc_X11_errorOffset_0 (d := d + 0)  ?_)
  exact k
def p_X11_errorKind (h : Hp)  : Prop := True
def f_X11_errorKind (h : Hp)  : Int32 := h.1 7 0 1
set_option maxHeartbeats 4000000 in
theorem c_X11_errorKind {d : Nat} {h : Hp} {P : Int32 → Hp → Prop} {Qx : String → Hp → Prop}   (hp : p_X11_errorKind h ) (k : P (f_X11_errorKind h ) h) : CL 0 (d + 1) mX11_errorKind [vR 11 0] h (oI P) Qx := by
  replace k : oI P (some (vI (f_X11_errorKind h ))) h := k
  unfold p_X11_errorKind at hp
  unfold f_X11_errorKind at k
  refine CL.ofF (plainFor_of_name rfl) rfl (Nat.le_of_ble_eq_true rfl) (vc_X11_errorKind_0 (d := d + 0)  ?_)
  exact k
def p_X11_count (h : Hp) (a1 : Int32) : Prop := ((a1 < 0 ∨ 4 < a1) → True) ∧ ((a1 = 0) → True) ∧ ((a1 = 1) → True) ∧ ((a1 = 2) → True) ∧ ((a1 = 3) → True) ∧ ((a1 = 4) → True)
def f_X11_count (h : Hp) (a1 : Int32) : Int32 := if (a1 < 0 ∨ 4 < a1) then (-1) else if a1 = 0 then (h.1 1 (h.2.2 11 0 6) 0) else if a1 = 1 then (h.1 1 (h.2.2 11 0 6) 1) else if a1 = 2 then (h.1 6 (h.2.2 11 0 7) 0) else if a1 = 3 then (h.1 1 (h.2.2 11 0 6) 2) else (h.1 10 (h.2.2 11 0 7) 1)
set_option maxHeartbeats 4000000 in
theorem c_X11_count {d : Nat} {h : Hp} {P : Int32 → Hp → Prop} {Qx : String → Hp → Prop} {a1 : Int32}  (hp : p_X11_count h a1) (k : P (f_X11_count h a1) h) : CL 0 (d + 1) mX11_count [vR 11 0, vI a1] h (oI P) Qx := by
  replace k : oI P (some (vI (f_X11_count h a1))) h := k
  unfold p_X11_count at hp
  unfold f_X11_count at k
  refine CL.ofF (plainFor_of_name rfl) rfl (Nat.le_of_ble_eq_true rfl) (vc_X11_count_0 (d := d + 0)  ?_)
  refine ⟨fun c => ?_, fun c => ?_, fun c => ?_, fun c => ?_, fun c => ?_, fun c => ?_⟩
  · replace hp := hp.1 c
    try simp only [if_pos c] at k
    exact k
  · replace hp := hp.2.1 c
    try simp only [if_neg (show ¬ (a1 < 0 ∨ 4 < a1) by rw [c]; decide), if_pos c] at k
    exact k
  · replace hp := hp.2.2.1 c
    try simp only [if_neg (show ¬ (a1 < 0 ∨ 4 < a1) by rw [c]; decide), if_neg (show ¬ a1 = 0 by rw [c]; decide), if_pos c] at k
    exact k
  · replace hp := hp.2.2.2.1 c
    try simp only [if_neg (show ¬ (a1 < 0 ∨ 4 < a1) by rw [c]; decide), if_neg (show ¬ a1 = 0 by rw [c]; decide), if_neg (show ¬ a1 = 1 by rw [c]; decide), if_pos c] at k
    exact k
  · replace hp := hp.2.2.2.2.1 c
    try simp only [if_neg (show ¬ (a1 < 0 ∨ 4 < a1) by rw [c]; decide), if_neg (show ¬ a1 = 0 by rw [c]; decide), if_neg (show ¬ a1 = 1 by rw [c]; decide), if_neg (show ¬ a1 = 2 by rw [c]; decide), if_pos c] at k
    exact k
  · replace hp := hp.2.2.2.2.2 c
    try simp only [if_neg (show ¬ (a1 < 0 ∨ 4 < a1) by rw [c]; decide), if_neg (show ¬ a1 = 0 by rw [c]; decide), if_neg (show ¬ a1 = 1 by rw [c]; decide), if_neg (show ¬ a1 = 2 by rw [c]; decide), if_neg (show ¬ a1 = 3 by rw [c]; decide)] at k
    exact k
def p_X11_day (h : Hp)  : Prop := True
def f_X11_day (h : Hp)  : Int32 := h.1 10 (h.2.2 11 0 7) 0
set_option maxHeartbeats 4000000 in
theorem c_X11_day {d : Nat} {h : Hp} {P : Int32 → Hp → Prop} {Qx : String → Hp → Prop}   (hp : p_X11_day h ) (k : P (f_X11_day h ) h) : CL 0 (d + 1) mX11_day [vR 11 0] h (oI P) Qx := by
  replace k : oI P (some (vI (f_X11_day h ))) h := k
  unfold p_X11_day at hp
  unfold f_X11_day at k
  refine CL.ofF (plainFor_of_name rfl) rfl (Nat.le_of_ble_eq_true rfl) (vc_X11_day_0 (d := d + 0)  ?_)
  exact k
def p_X11_undoDepth (h : Hp)  : Prop := True
def f_X11_undoDepth (h : Hp)  : Int32 := h.1 3 0 0
set_option maxHeartbeats 4000000 in
theorem c_X11_undoDepth {d : Nat} {h : Hp} {P : Int32 → Hp → Prop} {Qx : String → Hp → Prop}   (hp : p_X11_undoDepth h ) (k : P (f_X11_undoDepth h ) h) : CL 0 (d + 1) mX11_undoDepth [vR 11 0] h (oI P) Qx := by
  replace k : oI P (some (vI (f_X11_undoDepth h ))) h := k
  unfold p_X11_undoDepth at hp
  unfold f_X11_undoDepth at k
  refine CL.ofF (plainFor_of_name rfl) rfl (Nat.le_of_ble_eq_true rfl) (vc_X11_undoDepth_0 (d := d + 0)  ?_)
  exact k
def p_X11_checkArgument (h : Hp) (a0 : Int32) : Prop := True
def x_X11_checkArgument (h : Hp) (a0 : Int32) : Nat := if ¬ a0 = 0 then 0 else 2
set_option maxHeartbeats 4000000 in
theorem c_X11_checkArgument {d : Nat} {h : Hp} {P : Hp → Prop} {Qx : String → Hp → Prop} {a0 : Int32}  (hp : p_X11_checkArgument h a0) (hx : x_X11_checkArgument h a0 = 0) (k : P  h) : CL 0 (d + 6) mX11_checkArgument [vI a0] h (oV P) Qx := by
  replace k : oV P none h := k
  unfold p_X11_checkArgument at hp
  unfold x_X11_checkArgument at hx
  refine CL.ofF (plainFor_of_name rfl) rfl (Nat.le_of_ble_eq_true rfl) (vc_X11_checkArgument_0 (d := d + 5)  ?_)
  refine ⟨fun c => ?_, fun c => ?_⟩
  · skip
    try simp only [if_pos c] at k
    try simp only [if_pos c] at hx
    exact k
  · skip
    try simp only [if_neg (oa_nn c)] at k
    try simp only [if_neg (oa_nn c)] at hx
    exact absurd hx (by decide)
set_option maxHeartbeats 4000000 in
theorem t_X11_checkArgument {d : Nat} {h : Hp} {Qx : String → Hp → Prop} {a0 : Int32}  (hp : p_X11_checkArgument h a0) (hx : ¬ x_X11_checkArgument h a0 = 0) (k : Qx (oa_ex (x_X11_checkArgument h a0)) h) : CL 1 (d + 6) mX11_checkArgument [vI a0] h (fun _ _ => False) Qx := by
  unfold p_X11_checkArgument at hp
  unfold x_X11_checkArgument at hx
  unfold x_X11_checkArgument at k
  refine CL.ofF (plainFor_of_name rfl) rfl (Nat.le_of_ble_eq_true rfl) (vc_X11_checkArgument_0 (d := d + 5)  ?_)
  refine ⟨fun c => ?_, fun c => ?_⟩
  · skip
    try simp only [if_pos c] at k
    try simp only [if_pos c] at hx
    exact (hx (by first | rfl | trivial)).elim
  · skip
    try simp only [if_neg (oa_nn c)] at k
    try simp only [if_neg (oa_nn c)] at hx
    exact vc_X11_checkArgument_4 (d := d + 0) k
def p_X11_checkState (h : Hp) (a0 : Int32) : Prop := True
def x_X11_checkState (h : Hp) (a0 : Int32) : Nat := if ¬ a0 = 0 then 0 else 3
set_option maxHeartbeats 4000000 in
theorem c_X11_checkState {d : Nat} {h : Hp} {P : Hp → Prop} {Qx : String → Hp → Prop} {a0 : Int32}  (hp : p_X11_checkState h a0) (hx : x_X11_checkState h a0 = 0) (k : P  h) : CL 0 (d + 6) mX11_checkState [vI a0] h (oV P) Qx := by
  replace k : oV P none h := k
  unfold p_X11_checkState at hp
  unfold x_X11_checkState at hx
  refine CL.ofF (plainFor_of_name rfl) rfl (Nat.le_of_ble_eq_true rfl) (vc_X11_checkState_0 (d := d + 5)  ?_)
  refine ⟨fun c => ?_, fun c => ?_⟩
  · skip
    try simp only [if_pos c] at k
    try simp only [if_pos c] at hx
    exact k
  · skip
    try simp only [if_neg (oa_nn c)] at k
    try simp only [if_neg (oa_nn c)] at hx
    exact absurd hx (by decide)
set_option maxHeartbeats 4000000 in
theorem t_X11_checkState {d : Nat} {h : Hp} {Qx : String → Hp → Prop} {a0 : Int32}  (hp : p_X11_checkState h a0) (hx : ¬ x_X11_checkState h a0 = 0) (k : Qx (oa_ex (x_X11_checkState h a0)) h) : CL 1 (d + 6) mX11_checkState [vI a0] h (fun _ _ => False) Qx := by
  unfold p_X11_checkState at hp
  unfold x_X11_checkState at hx
  unfold x_X11_checkState at k
  refine CL.ofF (plainFor_of_name rfl) rfl (Nat.le_of_ble_eq_true rfl) (vc_X11_checkState_0 (d := d + 5)  ?_)
  refine ⟨fun c => ?_, fun c => ?_⟩
  · skip
    try simp only [if_pos c] at k
    try simp only [if_pos c] at hx
    exact (hx (by first | rfl | trivial)).elim
  · skip
    try simp only [if_neg (oa_nn c)] at k
    try simp only [if_neg (oa_nn c)] at hx
    exact vc_X11_checkState_4 (d := d + 0) k
def p_X11_isInside (h : Hp) (a0 : Int32) (a1 : Int32) : Prop := ((if a0 < 0 then (0 : Int32) else (if a1 ≤ a0 then (0 : Int32) else 1)) = 0 ∨ (if a0 < 0 then (0 : Int32) else (if a1 ≤ a0 then (0 : Int32) else 1)) = 1) ∧ True
def f_X11_isInside (h : Hp) (a0 : Int32) (a1 : Int32) : Int32 := if a0 < 0 then (0 : Int32) else (if a1 ≤ a0 then (0 : Int32) else 1)
set_option maxHeartbeats 4000000 in
theorem c_X11_isInside {d : Nat} {h : Hp} {P : Int32 → Hp → Prop} {Qx : String → Hp → Prop} {a0 : Int32} {a1 : Int32}  (hp : p_X11_isInside h a0 a1) (k : P (f_X11_isInside h a0 a1) h) : CL 0 (d + 1) mX11_isInside [vI a0, vI a1] h (oI P) Qx := by
  replace k : oI P (some (vI (f_X11_isInside h a0 a1))) h := k
  unfold p_X11_isInside at hp
  unfold f_X11_isInside at k
  refine CL.ofF (plainFor_of_name rfl) rfl (Nat.le_of_ble_eq_true rfl) (vc_X11_isInside_0 (d := d + 0)  ?_)
  refine ⟨hp.1, ?_⟩
  replace hp := hp.2
  exact k
def p_X12_thrown (h : Hp)  : Prop := True
def f_X12_thrown (h : Hp)  : Int32 := h.1 12 0 0
set_option maxHeartbeats 4000000 in
theorem c_X12_thrown {d : Nat} {h : Hp} {P : Int32 → Hp → Prop} {Qx : String → Hp → Prop}   (hp : p_X12_thrown h ) (k : P (f_X12_thrown h ) h) : CL 0 (d + 1) mX12_thrown [vR 12 0] h (oI P) Qx := by
  replace k : oI P (some (vI (f_X12_thrown h ))) h := k
  unfold p_X12_thrown at hp
  unfold f_X12_thrown at k
  refine CL.ofF (plainFor_of_name rfl) rfl (Nat.le_of_ble_eq_true rfl) (vc_X12_thrown_0 (d := d + 0)  ?_)
  exact k
def p_X12_throwsIf (h : Hp) (a1 : Int32) (a2 : Int32) : Prop := ((a1 = 0) → ((a1 = 0 ∨ a1 = 1) ∧ True)) ∧ ((¬ a1 = 0) → ((a1 = 0 ∨ a1 = 1) ∧ True))
def f_X12_throwsIf (h : Hp) (a1 : Int32) (a2 : Int32) : Int32 := if a1 = 0 then a1 else a1
def g_X12_throwsIf (h : Hp) (a1 : Int32) (a2 : Int32) : Hp := if a1 = 0 then h else (hp_i h 12 0 0 a2)
set_option maxHeartbeats 4000000 in
theorem c_X12_throwsIf {d : Nat} {h : Hp} {P : Int32 → Hp → Prop} {Qx : String → Hp → Prop} {a1 : Int32} {a2 : Int32}  (hp : p_X12_throwsIf h a1 a2) (k : P (f_X12_throwsIf h a1 a2) (g_X12_throwsIf h a1 a2)) : CL 0 (d + 1) mX12_throwsIf [vR 12 0, vI a1, vI a2] h (oI P) Qx := by
  replace k : oI P (some (vI (f_X12_throwsIf h a1 a2))) (g_X12_throwsIf h a1 a2) := k
  unfold p_X12_throwsIf at hp
  unfold f_X12_throwsIf at k
  unfold g_X12_throwsIf at k
  refine CL.ofF (plainFor_of_name rfl) rfl (Nat.le_of_ble_eq_true rfl) (vc_X12_throwsIf_0 (d := d + 0)  ?_)
  refine ⟨fun c => ?_, fun c => ?_⟩
  · replace hp := hp.1 c
    try simp only [if_pos c] at k
    refine ⟨hp.1, ?_⟩
    replace hp := hp.2
    exact k
  · replace hp := hp.2 c
    try simp only [if_neg c] at k
    refine ⟨hp.1, ?_⟩
    replace hp := hp.2
    exact k
def p_X12_in (h : Hp) (a0 : Int32) (a1 : Int32) (a2 : Int32) : Prop := ((if a0 < a1 then (0 : Int32) else (if a2 < a0 then (0 : Int32) else 1)) = 0 ∨ (if a0 < a1 then (0 : Int32) else (if a2 < a0 then (0 : Int32) else 1)) = 1) ∧ True
def f_X12_in (h : Hp) (a0 : Int32) (a1 : Int32) (a2 : Int32) : Int32 := if a0 < a1 then (0 : Int32) else (if a2 < a0 then (0 : Int32) else 1)
set_option maxHeartbeats 4000000 in
theorem c_X12_in {d : Nat} {h : Hp} {P : Int32 → Hp → Prop} {Qx : String → Hp → Prop} {a0 : Int32} {a1 : Int32} {a2 : Int32}  (hp : p_X12_in h a0 a1 a2) (k : P (f_X12_in h a0 a1 a2) h) : CL 0 (d + 1) mX12_in [vI a0, vI a1, vI a2] h (oI P) Qx := by
  replace k : oI P (some (vI (f_X12_in h a0 a1 a2))) h := k
  unfold p_X12_in at hp
  unfold f_X12_in at k
  refine CL.ofF (plainFor_of_name rfl) rfl (Nat.le_of_ble_eq_true rfl) (vc_X12_in_0 (d := d + 0)  ?_)
  refine ⟨hp.1, ?_⟩
  replace hp := hp.2
  exact k
def pw_X12_append_60 : Nat → Hp → Int32 → Int32 → Int32 → Int32 → Int32 → Int32 → Prop
  | 0, _, _, _, _, _, _, _ => False
  | n + 1, h, x1, x2, x3, x4, x5, x6 => ((20 ≤ x6) → True) ∧ ((¬ 20 ≤ x6) → ((vp_in (x6 / 4) 5) ∧ ((vp_in ((h.1 12 0 3) + x6) 900) ∧ (pw_X12_append_60 n (hp_i h 54 0 (((h.1 12 0 3) + x6).toNatClampNeg) (vp_nar .byte (((h.1 55 0 ((x6 / 4).toNatClampNeg)) >>> ((24 - (8 * (x6 - x6 / 4 * 4))) &&& 31)).toInt8.toInt32))) x1 x2 x3 x4 x5 (x6 + 1)))))
def fw_X12_append_60 : Nat → Hp → Int32 → Int32 → Int32 → Int32 → Int32 → Int32 → Int32
  | 0, _, _, _, _, _, _, _ => 0
  | n + 1, h, x1, x2, x3, x4, x5, x6 => if 20 ≤ x6 then ((hp_i h 12 0 3 ((h.1 12 0 3) + 20)).1 12 0 3) else (fw_X12_append_60 n (hp_i h 54 0 (((h.1 12 0 3) + x6).toNatClampNeg) (vp_nar .byte (((h.1 55 0 ((x6 / 4).toNatClampNeg)) >>> ((24 - (8 * (x6 - x6 / 4 * 4))) &&& 31)).toInt8.toInt32))) x1 x2 x3 x4 x5 (x6 + 1))
def gw_X12_append_60 : Nat → Hp → Int32 → Int32 → Int32 → Int32 → Int32 → Int32 → Hp
  | 0, h, _, _, _, _, _, _ => h
  | n + 1, h, x1, x2, x3, x4, x5, x6 => if 20 ≤ x6 then (hp_i h 12 0 3 ((h.1 12 0 3) + 20)) else (gw_X12_append_60 n (hp_i h 54 0 (((h.1 12 0 3) + x6).toNatClampNeg) (vp_nar .byte (((h.1 55 0 ((x6 / 4).toNatClampNeg)) >>> ((24 - (8 * (x6 - x6 / 4 * 4))) &&& 31)).toInt8.toInt32))) x1 x2 x3 x4 x5 (x6 + 1))
set_option maxHeartbeats 4000000 in
theorem lw_X12_append_60 {X : WD → State → Prop} {d rb : Nat} {Qr : Option AV → Hp → Prop} {Qx : String → Hp → Prop}   : ∀ (n : Nat) (h : Hp) (x1 : Int32) (x2 : Int32) (x3 : Int32) (x4 : Int32) (x5 : Int32) (x6 : Int32), pw_X12_append_60 n h x1 x2 x3 x4 x5 x6 → Qr (some (vI (fw_X12_append_60 n h x1 x2 x3 x4 x5 x6))) (gw_X12_append_60 n h x1 x2 x3 x4 x5 x6) → AW X (d + 1) rb mX12_append 60 [(0, vR 12 0), (1, vI x1), (2, vI x2), (3, vI x3), (4, vI x4), (5, vI x5), (6, vI x6)] [] h Qr Qx := by
  intro n
  induction n with
  | zero => intro h x1 x2 x3 x4 x5 x6 hp; exact hp.elim
  | succ n ih =>
    intro h x1 x2 x3 x4 x5 x6 hp k
    rw [pw_X12_append_60] at hp
    rw [fw_X12_append_60] at k
    rw [gw_X12_append_60] at k
    refine vc_X12_append_60 (d := d + 0)  ?_
    refine ⟨fun c => ?_, fun c => ?_⟩
    · replace hp := hp.1 c
      try simp only [if_pos c] at k
      exact k
    · replace hp := hp.2 c
      try simp only [if_neg c] at k
      refine ⟨hp.1, ?_⟩
      replace hp := hp.2
      refine ⟨hp.1, ?_⟩
      replace hp := hp.2
      exact ih _ _ _ _ _ _ _ hp k
def p_X12_append (h : Hp) (a1 : Int32) (a2 : Int32) (a3 : Int32) (a4 : Int32) (a5 : Int32) : Prop := (((((hp_i h 12 0 0 0).1 12 0 3) + 20) ≤ 900) → (pw_X12_append_60 oa_N (hp_i (hp_i (hp_i (hp_i (hp_i (hp_i h 12 0 0 0) 55 0 0 a1) 55 0 1 a2) 55 0 2 a3) 55 0 3 a4) 55 0 4 a5) a1 a2 a3 a4 a5 0)) ∧ ((¬ (((hp_i h 12 0 0 0).1 12 0 3) + 20) ≤ 900) → True)
def f_X12_append (h : Hp) (a1 : Int32) (a2 : Int32) (a3 : Int32) (a4 : Int32) (a5 : Int32) : Int32 := if (((hp_i h 12 0 0 0).1 12 0 3) + 20) ≤ 900 then (fw_X12_append_60 oa_N (hp_i (hp_i (hp_i (hp_i (hp_i (hp_i h 12 0 0 0) 55 0 0 a1) 55 0 1 a2) 55 0 2 a3) 55 0 3 a4) 55 0 4 a5) a1 a2 a3 a4 a5 0) else (-1)
def g_X12_append (h : Hp) (a1 : Int32) (a2 : Int32) (a3 : Int32) (a4 : Int32) (a5 : Int32) : Hp := if (((hp_i h 12 0 0 0).1 12 0 3) + 20) ≤ 900 then (gw_X12_append_60 oa_N (hp_i (hp_i (hp_i (hp_i (hp_i (hp_i h 12 0 0 0) 55 0 0 a1) 55 0 1 a2) 55 0 2 a3) 55 0 3 a4) 55 0 4 a5) a1 a2 a3 a4 a5 0) else (hp_i h 12 0 0 0)
set_option maxHeartbeats 4000000 in
theorem c_X12_append {d : Nat} {h : Hp} {P : Int32 → Hp → Prop} {Qx : String → Hp → Prop} {a1 : Int32} {a2 : Int32} {a3 : Int32} {a4 : Int32} {a5 : Int32}  (hp : p_X12_append h a1 a2 a3 a4 a5) (k : P (f_X12_append h a1 a2 a3 a4 a5) (g_X12_append h a1 a2 a3 a4 a5)) : CL 0 (d + 1) mX12_append [vR 12 0, vI a1, vI a2, vI a3, vI a4, vI a5] h (oI P) Qx := by
  replace k : oI P (some (vI (f_X12_append h a1 a2 a3 a4 a5))) (g_X12_append h a1 a2 a3 a4 a5) := k
  unfold p_X12_append at hp
  unfold f_X12_append at k
  unfold g_X12_append at k
  refine CL.ofF (plainFor_of_name rfl) rfl (Nat.le_of_ble_eq_true rfl) (vc_X12_append_0 (d := d + 0)  ?_)
  refine ⟨fun c => ?_, fun c => ?_⟩
  · replace hp := hp.1 c
    try simp only [if_pos c] at k
    exact lw_X12_append_60  _ _ _ _ _ _ _ _ hp k
  · replace hp := hp.2 c
    try simp only [if_neg c] at k
    exact k
def p_X12_truncate (h : Hp) (a1 : Int32) : Prop := True
def f_X12_truncate (h : Hp) (a1 : Int32) : Int32 := if a1 < 0 then 0 else (if a1 ≤ ((hp_i h 12 0 0 0).1 12 0 3) then 1 else 0)
def g_X12_truncate (h : Hp) (a1 : Int32) : Hp := if a1 < 0 then (hp_i h 12 0 0 0) else (if a1 ≤ ((hp_i h 12 0 0 0).1 12 0 3) then (hp_i (hp_i h 12 0 0 0) 12 0 3 a1) else (hp_i h 12 0 0 0))
set_option maxHeartbeats 4000000 in
theorem c_X12_truncate {d : Nat} {h : Hp} {P : Int32 → Hp → Prop} {Qx : String → Hp → Prop} {a1 : Int32}  (hp : p_X12_truncate h a1) (k : P (f_X12_truncate h a1) (g_X12_truncate h a1)) : CL 0 (d + 1) mX12_truncate [vR 12 0, vI a1] h (oI P) Qx := by
  replace k : oI P (some (vI (f_X12_truncate h a1))) (g_X12_truncate h a1) := k
  unfold p_X12_truncate at hp
  unfold f_X12_truncate at k
  unfold g_X12_truncate at k
  refine CL.ofF (plainFor_of_name rfl) rfl (Nat.le_of_ble_eq_true rfl) (vc_X12_truncate_0 (d := d + 0)  ?_)
  refine ⟨fun c => ?_, fun c => ?_⟩
  · skip
    try simp only [if_pos c] at k
    exact k
  · skip
    try simp only [if_neg c] at k
    refine ⟨fun c => ?_, fun c => ?_⟩
    · skip
      try simp only [if_pos c] at k
      exact k
    · skip
      try simp only [if_neg c] at k
      exact k
def p_X12_errorOffset (h : Hp)  : Prop := True
def f_X12_errorOffset (h : Hp)  : Int32 := (hp_i h 12 0 0 0).1 12 0 9
def g_X12_errorOffset (h : Hp)  : Hp := hp_i h 12 0 0 0
set_option maxHeartbeats 4000000 in
theorem c_X12_errorOffset {d : Nat} {h : Hp} {P : Int32 → Hp → Prop} {Qx : String → Hp → Prop}   (hp : p_X12_errorOffset h ) (k : P (f_X12_errorOffset h ) (g_X12_errorOffset h )) : CL 0 (d + 1) mX12_errorOffset [vR 12 0] h (oI P) Qx := by
  replace k : oI P (some (vI (f_X12_errorOffset h ))) (g_X12_errorOffset h ) := k
  unfold p_X12_errorOffset at hp
  unfold f_X12_errorOffset at k
  unfold g_X12_errorOffset at k
  refine CL.ofF (plainFor_of_name rfl) rfl (Nat.le_of_ble_eq_true rfl) (vc_X12_errorOffset_0 (d := d + 0)  ?_)
  exact k
def p_X12_errorKind (h : Hp)  : Prop := True
def f_X12_errorKind (h : Hp)  : Int32 := (hp_i h 12 0 0 0).1 12 0 10
def g_X12_errorKind (h : Hp)  : Hp := hp_i h 12 0 0 0
set_option maxHeartbeats 4000000 in
theorem c_X12_errorKind {d : Nat} {h : Hp} {P : Int32 → Hp → Prop} {Qx : String → Hp → Prop}   (hp : p_X12_errorKind h ) (k : P (f_X12_errorKind h ) (g_X12_errorKind h )) : CL 0 (d + 1) mX12_errorKind [vR 12 0] h (oI P) Qx := by
  replace k : oI P (some (vI (f_X12_errorKind h ))) (g_X12_errorKind h ) := k
  unfold p_X12_errorKind at hp
  unfold f_X12_errorKind at k
  unfold g_X12_errorKind at k
  refine CL.ofF (plainFor_of_name rfl) rfl (Nat.le_of_ble_eq_true rfl) (vc_X12_errorKind_0 (d := d + 0)  ?_)
  exact k
def p_X12_hasFailed (h : Hp)  : Prop := ((if (h.1 12 0 7) = (-1) then (0 : Int32) else 1) = 0 ∨ (if (h.1 12 0 7) = (-1) then (0 : Int32) else 1) = 1) ∧ True
def f_X12_hasFailed (h : Hp)  : Int32 := if (h.1 12 0 7) = (-1) then (0 : Int32) else 1
set_option maxHeartbeats 4000000 in
theorem c_X12_hasFailed {d : Nat} {h : Hp} {P : Int32 → Hp → Prop} {Qx : String → Hp → Prop}   (hp : p_X12_hasFailed h ) (k : P (f_X12_hasFailed h ) h) : CL 0 (d + 1) mX12_hasFailed [vR 12 0] h (oI P) Qx := by
  replace k : oI P (some (vI (f_X12_hasFailed h ))) h := k
  unfold p_X12_hasFailed at hp
  unfold f_X12_hasFailed at k
  refine CL.ofF (plainFor_of_name rfl) rfl (Nat.le_of_ble_eq_true rfl) (vc_X12_hasFailed_0 (d := d + 0)  ?_)
  refine ⟨hp.1, ?_⟩
  replace hp := hp.2
  exact k
def p_X12_isAt (h : Hp) (a1 : Int32) (a2 : Int32) : Prop := (((h.1 12 0 6) ≤ (h.1 12 0 4)) → True) ∧ ((¬ (h.1 12 0 6) ≤ (h.1 12 0 4)) → ((vp_in (h.1 12 0 4) 900) ∧ ((((h.1 54 0 ((h.1 12 0 4).toNatClampNeg)) < a1) → True) ∧ ((¬ (h.1 54 0 ((h.1 12 0 4).toNatClampNeg)) < a1) → ((vp_in (h.1 12 0 4) 900) ∧ (((if a2 < (h.1 54 0 ((h.1 12 0 4).toNatClampNeg)) then (0 : Int32) else 1) = 0 ∨ (if a2 < (h.1 54 0 ((h.1 12 0 4).toNatClampNeg)) then (0 : Int32) else 1) = 1) ∧ True))))))
def f_X12_isAt (h : Hp) (a1 : Int32) (a2 : Int32) : Int32 := if (h.1 12 0 6) ≤ (h.1 12 0 4) then 0 else (if (h.1 54 0 ((h.1 12 0 4).toNatClampNeg)) < a1 then 0 else (if a2 < (h.1 54 0 ((h.1 12 0 4).toNatClampNeg)) then (0 : Int32) else 1))
set_option maxHeartbeats 4000000 in
theorem c_X12_isAt {d : Nat} {h : Hp} {P : Int32 → Hp → Prop} {Qx : String → Hp → Prop} {a1 : Int32} {a2 : Int32}  (hp : p_X12_isAt h a1 a2) (k : P (f_X12_isAt h a1 a2) h) : CL 0 (d + 1) mX12_isAt [vR 12 0, vI a1, vI a2] h (oI P) Qx := by
  replace k : oI P (some (vI (f_X12_isAt h a1 a2))) h := k
  unfold p_X12_isAt at hp
  unfold f_X12_isAt at k
  refine CL.ofF (plainFor_of_name rfl) rfl (Nat.le_of_ble_eq_true rfl) (vc_X12_isAt_0 (d := d + 0)  ?_)
  refine ⟨fun c => ?_, fun c => ?_⟩
  · replace hp := hp.1 c
    try simp only [if_pos c] at k
    exact k
  · replace hp := hp.2 c
    try simp only [if_neg c] at k
    refine ⟨hp.1, ?_⟩
    replace hp := hp.2
    refine ⟨fun c => ?_, fun c => ?_⟩
    · replace hp := hp.1 c
      try simp only [if_pos c] at k
      exact k
    · replace hp := hp.2 c
      try simp only [if_neg c] at k
      refine ⟨hp.1, ?_⟩
      replace hp := hp.2
      refine ⟨hp.1, ?_⟩
      replace hp := hp.2
      exact k
def pw_X12_blanks_0 : Nat → Hp → Prop
  | 0, _ => False
  | n + 1, h => p_X12_isAt h 9 10 ∧ (((¬ (f_X12_isAt h 9 10) = 0) → (pw_X12_blanks_0 n (hp_i h 12 0 4 ((h.1 12 0 4) + 1)) )) ∧ (((f_X12_isAt h 9 10) = 0) → (p_X12_isAt h 32 32 ∧ ((((f_X12_isAt h 32 32) = 0) → True) ∧ ((¬ (f_X12_isAt h 32 32) = 0) → (pw_X12_blanks_0 n (hp_i h 12 0 4 ((h.1 12 0 4) + 1)) ))))))
def gw_X12_blanks_0 : Nat → Hp → Hp
  | 0, h => h
  | n + 1, h => if ¬ (f_X12_isAt h 9 10) = 0 then (gw_X12_blanks_0 n (hp_i h 12 0 4 ((h.1 12 0 4) + 1)) ) else (if (f_X12_isAt h 32 32) = 0 then (hp_i h 12 0 5 (h.1 12 0 4)) else (gw_X12_blanks_0 n (hp_i h 12 0 4 ((h.1 12 0 4) + 1)) ))
set_option maxHeartbeats 4000000 in
theorem lw_X12_blanks_0 {X : WD → State → Prop} {d rb : Nat} {Qr : Option AV → Hp → Prop} {Qx : String → Hp → Prop}   : ∀ (n : Nat) (h : Hp) , pw_X12_blanks_0 n h  → Qr none (gw_X12_blanks_0 n h ) → AW X (d + 2) rb mX12_blanks 0 [(0, vR 12 0)] [] h Qr Qx := by
  intro n
  induction n with
  | zero => intro h  hp; exact hp.elim
  | succ n ih =>
    intro h  hp k
    rw [pw_X12_blanks_0] at hp
    rw [gw_X12_blanks_0] at k
    refine vc_X12_blanks_0 (d := d + 1)  ?_
    refine c_X12_isAt  hp.1 ?_
    replace hp := hp.2
    refine ⟨fun c => ?_, fun c => ?_⟩
    · replace hp := hp.1 c
      try simp only [if_pos c] at k
      exact ih _  hp k
    · replace hp := hp.2 c
      try simp only [if_neg (oa_nn c)] at k
      refine c_X12_isAt  hp.1 ?_
      replace hp := hp.2
      refine ⟨fun c => ?_, fun c => ?_⟩
      · replace hp := hp.1 c
        try simp only [if_pos c] at k
        exact k
      · replace hp := hp.2 c
        try simp only [if_neg c] at k
        exact ih _  hp k
def p_X12_blanks (h : Hp)  : Prop := p_X12_isAt h 9 10 ∧ (((¬ (f_X12_isAt h 9 10) = 0) → (pw_X12_blanks_0 oa_N (hp_i h 12 0 4 ((h.1 12 0 4) + 1)) )) ∧ (((f_X12_isAt h 9 10) = 0) → (p_X12_isAt h 32 32 ∧ ((((f_X12_isAt h 32 32) = 0) → True) ∧ ((¬ (f_X12_isAt h 32 32) = 0) → (pw_X12_blanks_0 oa_N (hp_i h 12 0 4 ((h.1 12 0 4) + 1)) ))))))
def g_X12_blanks (h : Hp)  : Hp := if ¬ (f_X12_isAt h 9 10) = 0 then (gw_X12_blanks_0 oa_N (hp_i h 12 0 4 ((h.1 12 0 4) + 1)) ) else (if (f_X12_isAt h 32 32) = 0 then (hp_i h 12 0 5 (h.1 12 0 4)) else (gw_X12_blanks_0 oa_N (hp_i h 12 0 4 ((h.1 12 0 4) + 1)) ))
set_option maxHeartbeats 4000000 in
theorem c_X12_blanks {d : Nat} {h : Hp} {P : Hp → Prop} {Qx : String → Hp → Prop}   (hp : p_X12_blanks h ) (k : P  (g_X12_blanks h )) : CL 0 (d + 2) mX12_blanks [vR 12 0] h (oV P) Qx := by
  replace k : oV P none (g_X12_blanks h ) := k
  unfold p_X12_blanks at hp
  unfold g_X12_blanks at k
  refine CL.ofF (plainFor_of_name rfl) rfl (Nat.le_of_ble_eq_true rfl) (vc_X12_blanks_0 (d := d + 1)  ?_)
  refine c_X12_isAt  hp.1 ?_
  replace hp := hp.2
  refine ⟨fun c => ?_, fun c => ?_⟩
  · replace hp := hp.1 c
    try simp only [if_pos c] at k
    exact lw_X12_blanks_0  _ _  hp k
  · replace hp := hp.2 c
    try simp only [if_neg (oa_nn c)] at k
    refine c_X12_isAt  hp.1 ?_
    replace hp := hp.2
    refine ⟨fun c => ?_, fun c => ?_⟩
    · replace hp := hp.1 c
      try simp only [if_pos c] at k
      exact k
    · replace hp := hp.2 c
      try simp only [if_neg c] at k
      exact lw_X12_blanks_0  _ _  hp k
def p_X12_must (h : Hp) (a1 : Int32) (a2 : Int32) : Prop := ((¬ a1 = 0) → True) ∧ ((a1 = 0) → (p_X12_hasFailed h ∧ True))
def g_X12_must (h : Hp) (a1 : Int32) (a2 : Int32) : Hp := if ¬ a1 = 0 then h else (if (f_X12_hasFailed h) = 0 then (hp_i (hp_i h 12 0 7 (h.1 12 0 5)) 12 0 8 a2) else h)
set_option maxHeartbeats 4000000 in
theorem c_X12_must {d : Nat} {h : Hp} {P : Hp → Prop} {Qx : String → Hp → Prop} {a1 : Int32} {a2 : Int32}  (hp : p_X12_must h a1 a2) (k : P  (g_X12_must h a1 a2)) : CL 0 (d + 2) mX12_must [vR 12 0, vI a1, vI a2] h (oV P) Qx := by
  replace k : oV P none (g_X12_must h a1 a2) := k
  unfold p_X12_must at hp
  unfold g_X12_must at k
  refine CL.ofF (plainFor_of_name rfl) rfl (Nat.le_of_ble_eq_true rfl) (vc_X12_must_0 (d := d + 1)  ?_)
  refine ⟨fun c => ?_, fun c => ?_⟩
  · replace hp := hp.1 c
    try simp only [if_pos c] at k
    exact k
  · replace hp := hp.2 c
    try simp only [if_neg (oa_nn c)] at k
    refine c_X12_hasFailed  hp.1 ?_
    replace hp := hp.2
    refine ⟨fun c => ?_, fun c => ?_⟩
    · skip
      try simp only [if_pos c] at k
      exact k
    · skip
      try simp only [if_neg c] at k
      exact k
def pw_X12_letters_9 : Nat → Hp → Int32 → Prop
  | 0, _, _ => False
  | n + 1, h, x1 => (((h.1 12 0 6) ≤ x1) → True) ∧ ((¬ (h.1 12 0 6) ≤ x1) → ((vp_in x1 900) ∧ ((((h.1 54 0 x1.toNatClampNeg) < 97) → True) ∧ ((¬ (h.1 54 0 x1.toNatClampNeg) < 97) → ((vp_in x1 900) ∧ (((122 < (h.1 54 0 x1.toNatClampNeg)) → True) ∧ ((¬ 122 < (h.1 54 0 x1.toNatClampNeg)) → (pw_X12_letters_9 n h (x1 + 1)))))))))
def fw_X12_letters_9 : Nat → Hp → Int32 → Int32
  | 0, _, _ => 0
  | n + 1, h, x1 => if (h.1 12 0 6) ≤ x1 then (x1 - (h.1 12 0 4)) else (if (h.1 54 0 x1.toNatClampNeg) < 97 then (x1 - (h.1 12 0 4)) else (if 122 < (h.1 54 0 x1.toNatClampNeg) then (x1 - (h.1 12 0 4)) else (fw_X12_letters_9 n h (x1 + 1))))
def gw_X12_letters_9 : Nat → Hp → Int32 → Hp
  | 0, h, _ => h
  | n + 1, h, x1 => if (h.1 12 0 6) ≤ x1 then h else (if (h.1 54 0 x1.toNatClampNeg) < 97 then h else (if 122 < (h.1 54 0 x1.toNatClampNeg) then h else (gw_X12_letters_9 n h (x1 + 1))))
set_option maxHeartbeats 4000000 in
theorem lw_X12_letters_9 {X : WD → State → Prop} {d rb : Nat} {Qr : Option AV → Hp → Prop} {Qx : String → Hp → Prop}   : ∀ (n : Nat) (h : Hp) (x1 : Int32), pw_X12_letters_9 n h x1 → Qr (some (vI (fw_X12_letters_9 n h x1))) (gw_X12_letters_9 n h x1) → AW X (d + 3) rb mX12_letters 9 [(0, vR 12 0), (1, vI x1)] [] h Qr Qx := by
  intro n
  induction n with
  | zero => intro h x1 hp; exact hp.elim
  | succ n ih =>
    intro h x1 hp k
    rw [pw_X12_letters_9] at hp
    rw [fw_X12_letters_9] at k
    rw [gw_X12_letters_9] at k
    refine vc_X12_letters_9 (d := d + 2)  ?_
    refine ⟨fun c => ?_, fun c => ?_⟩
    · replace hp := hp.1 c
      try simp only [if_pos c] at k
      exact k
    · replace hp := hp.2 c
      try simp only [if_neg c] at k
      refine ⟨hp.1, ?_⟩
      replace hp := hp.2
      refine ⟨fun c => ?_, fun c => ?_⟩
      · replace hp := hp.1 c
        try simp only [if_pos c] at k
        exact k
      · replace hp := hp.2 c
        try simp only [if_neg c] at k
        refine ⟨hp.1, ?_⟩
        replace hp := hp.2
        refine ⟨fun c => ?_, fun c => ?_⟩
        · replace hp := hp.1 c
          try simp only [if_pos c] at k
          exact k
        · replace hp := hp.2 c
          try simp only [if_neg c] at k
          exact ih _ _ hp k
def p_X12_letters (h : Hp)  : Prop := p_X12_blanks h ∧ (pw_X12_letters_9 oa_N (g_X12_blanks h) ((g_X12_blanks h).1 12 0 4))
def f_X12_letters (h : Hp)  : Int32 := fw_X12_letters_9 oa_N (g_X12_blanks h) ((g_X12_blanks h).1 12 0 4)
def g_X12_letters (h : Hp)  : Hp := gw_X12_letters_9 oa_N (g_X12_blanks h) ((g_X12_blanks h).1 12 0 4)
set_option maxHeartbeats 4000000 in
theorem c_X12_letters {d : Nat} {h : Hp} {P : Int32 → Hp → Prop} {Qx : String → Hp → Prop}   (hp : p_X12_letters h ) (k : P (f_X12_letters h ) (g_X12_letters h )) : CL 0 (d + 3) mX12_letters [vR 12 0] h (oI P) Qx := by
  replace k : oI P (some (vI (f_X12_letters h ))) (g_X12_letters h ) := k
  unfold p_X12_letters at hp
  unfold f_X12_letters at k
  unfold g_X12_letters at k
  refine CL.ofF (plainFor_of_name rfl) rfl (Nat.le_of_ble_eq_true rfl) (vc_X12_letters_0 (d := d + 2)  ?_)
  refine c_X12_blanks  hp.1 ?_
  replace hp := hp.2
  exact lw_X12_letters_9  _ _ _ hp k
def pw_X12_isWord_26 : Nat → Hp → Nat → Int32 → Int32 → Prop
  | 0, _, _, _, _ => False
  | n + 1, h, j1, x2, x3 => ((x2 = 0) → ((x2 = 0 ∨ x2 = 1) ∧ True)) ∧ ((¬ x2 = 0) → (p_J0_length_8abf5 h j1 ∧ ((((f_J0_length_8abf5 h j1) ≤ x3) → ((x2 = 0 ∨ x2 = 1) ∧ True)) ∧ ((¬ (f_J0_length_8abf5 h j1) ≤ x3) → ((vp_in ((h.1 12 0 4) + x3) 900) ∧ (p_J0_charAt_5068e h j1 x3 ∧ (pw_X12_isWord_26 n h j1 (if ¬ (h.1 54 0 (((h.1 12 0 4) + x3).toNatClampNeg)) = (f_J0_charAt_5068e h j1 x3) then (0 : Int32) else 1) (x3 + 1))))))))
def fw_X12_isWord_26 : Nat → Hp → Nat → Int32 → Int32 → Int32
  | 0, _, _, _, _ => 0
  | n + 1, h, j1, x2, x3 => if x2 = 0 then x2 else (if (f_J0_length_8abf5 h j1) ≤ x3 then x2 else (fw_X12_isWord_26 n h j1 (if ¬ (h.1 54 0 (((h.1 12 0 4) + x3).toNatClampNeg)) = (f_J0_charAt_5068e h j1 x3) then (0 : Int32) else 1) (x3 + 1)))
def gw_X12_isWord_26 : Nat → Hp → Nat → Int32 → Int32 → Hp
  | 0, h, _, _, _ => h
  | n + 1, h, j1, x2, x3 => if x2 = 0 then h else (if (f_J0_length_8abf5 h j1) ≤ x3 then h else (gw_X12_isWord_26 n h j1 (if ¬ (h.1 54 0 (((h.1 12 0 4) + x3).toNatClampNeg)) = (f_J0_charAt_5068e h j1 x3) then (0 : Int32) else 1) (x3 + 1)))
set_option maxHeartbeats 4000000 in
theorem lw_X12_isWord_26 {X : WD → State → Prop} {d rb : Nat} {Qr : Option AV → Hp → Prop} {Qx : String → Hp → Prop} {j1 : Nat} (hj1 : j1 < 36) : ∀ (n : Nat) (h : Hp) (x2 : Int32) (x3 : Int32), pw_X12_isWord_26 n h j1 x2 x3 → Qr (some (vI (fw_X12_isWord_26 n h j1 x2 x3))) (gw_X12_isWord_26 n h j1 x2 x3) → AW X (d + 6) rb mX12_isWord 26 [(0, vR 12 0), (1, vR (1000 + j1) 0), (2, vI x2), (3, vI x3)] [] h Qr Qx := by
  intro n
  induction n with
  | zero => intro h x2 x3 hp; exact hp.elim
  | succ n ih =>
    intro h x2 x3 hp k
    rw [pw_X12_isWord_26] at hp
    rw [fw_X12_isWord_26] at k
    rw [gw_X12_isWord_26] at k
    refine vc_X12_isWord_26 (d := d + 5) hj1 ?_
    refine ⟨fun c => ?_, fun c => ?_⟩
    · replace hp := hp.1 c
      try simp only [if_pos c] at k
      refine ⟨hp.1, ?_⟩
      replace hp := hp.2
      exact k
    · replace hp := hp.2 c
      try simp only [if_neg c] at k
      refine c_J0_length_8abf5  hp.1 ?_
      replace hp := hp.2
      refine ⟨fun c => ?_, fun c => ?_⟩
      · replace hp := hp.1 c
        try simp only [if_pos c] at k
        refine ⟨hp.1, ?_⟩
        replace hp := hp.2
        exact k
      · replace hp := hp.2 c
        try simp only [if_neg c] at k
        refine ⟨hp.1, ?_⟩
        replace hp := hp.2
        refine c_J0_charAt_5068e  hp.1 ?_
        replace hp := hp.2
        exact ih _ _ _ hp k
def p_X12_isWord (h : Hp) (j1 : Nat) : Prop := p_X12_hasFailed h ∧ (((¬ (f_X12_hasFailed h) = 0) → (pw_X12_isWord_26 oa_N h j1 0 0)) ∧ (((f_X12_hasFailed h) = 0) → (p_X12_letters h ∧ (p_J0_length_8abf5 (g_X12_letters h) j1 ∧ (pw_X12_isWord_26 oa_N (g_X12_letters h) j1 (if ¬ (f_X12_letters h) = (f_J0_length_8abf5 (g_X12_letters h) j1) then (0 : Int32) else 1) 0)))))
def f_X12_isWord (h : Hp) (j1 : Nat) : Int32 := if ¬ (f_X12_hasFailed h) = 0 then (fw_X12_isWord_26 oa_N h j1 0 0) else (fw_X12_isWord_26 oa_N (g_X12_letters h) j1 (if ¬ (f_X12_letters h) = (f_J0_length_8abf5 (g_X12_letters h) j1) then (0 : Int32) else 1) 0)
def g_X12_isWord (h : Hp) (j1 : Nat) : Hp := if ¬ (f_X12_hasFailed h) = 0 then (gw_X12_isWord_26 oa_N h j1 0 0) else (gw_X12_isWord_26 oa_N (g_X12_letters h) j1 (if ¬ (f_X12_letters h) = (f_J0_length_8abf5 (g_X12_letters h) j1) then (0 : Int32) else 1) 0)
set_option maxHeartbeats 4000000 in
theorem c_X12_isWord {d : Nat} {h : Hp} {P : Int32 → Hp → Prop} {Qx : String → Hp → Prop} {j1 : Nat} (hj1 : j1 < 36) (hp : p_X12_isWord h j1) (k : P (f_X12_isWord h j1) (g_X12_isWord h j1)) : CL 0 (d + 6) mX12_isWord [vR 12 0, vR (1000 + j1) 0] h (oI P) Qx := by
  replace k : oI P (some (vI (f_X12_isWord h j1))) (g_X12_isWord h j1) := k
  unfold p_X12_isWord at hp
  unfold f_X12_isWord at k
  unfold g_X12_isWord at k
  refine CL.ofF (plainFor_of_name rfl) rfl (Nat.le_of_ble_eq_true rfl) (vc_X12_isWord_0 (d := d + 5) hj1 ?_)
  refine c_X12_hasFailed  hp.1 ?_
  replace hp := hp.2
  refine ⟨fun c => ?_, fun c => ?_⟩
  · replace hp := hp.1 c
    try simp only [if_pos c] at k
    exact lw_X12_isWord_26 hj1 _ _ _ _ hp k
  · replace hp := hp.2 c
    try simp only [if_neg (oa_nn c)] at k
    refine c_X12_letters  hp.1 ?_
    replace hp := hp.2
    refine c_J0_length_8abf5  hp.1 ?_
    replace hp := hp.2
    exact lw_X12_isWord_26 hj1 _ _ _ _ hp k
def p_X12_takes (h : Hp) (j1 : Nat) : Prop := p_X12_isWord h j1 ∧ ((((f_X12_isWord h j1) = 0) → (((f_X12_isWord h j1) = 0 ∨ (f_X12_isWord h j1) = 1) ∧ True)) ∧ ((¬ (f_X12_isWord h j1) = 0) → (p_J0_length_8abf5 (g_X12_isWord h j1) j1 ∧ (((f_X12_isWord h j1) = 0 ∨ (f_X12_isWord h j1) = 1) ∧ True))))
def f_X12_takes (h : Hp) (j1 : Nat) : Int32 := if (f_X12_isWord h j1) = 0 then (f_X12_isWord h j1) else (f_X12_isWord h j1)
def g_X12_takes (h : Hp) (j1 : Nat) : Hp := if (f_X12_isWord h j1) = 0 then (g_X12_isWord h j1) else (hp_i (g_X12_isWord h j1) 12 0 4 (((g_X12_isWord h j1).1 12 0 4) + (f_J0_length_8abf5 (g_X12_isWord h j1) j1)))
set_option maxHeartbeats 4000000 in
theorem c_X12_takes {d : Nat} {h : Hp} {P : Int32 → Hp → Prop} {Qx : String → Hp → Prop} {j1 : Nat} (hj1 : j1 < 36) (hp : p_X12_takes h j1) (k : P (f_X12_takes h j1) (g_X12_takes h j1)) : CL 0 (d + 7) mX12_takes [vR 12 0, vR (1000 + j1) 0] h (oI P) Qx := by
  replace k : oI P (some (vI (f_X12_takes h j1))) (g_X12_takes h j1) := k
  unfold p_X12_takes at hp
  unfold f_X12_takes at k
  unfold g_X12_takes at k
  refine CL.ofF (plainFor_of_name rfl) rfl (Nat.le_of_ble_eq_true rfl) (vc_X12_takes_0 (d := d + 6) hj1 ?_)
  refine c_X12_isWord hj1 hp.1 ?_
  replace hp := hp.2
  refine ⟨fun c => ?_, fun c => ?_⟩
  · replace hp := hp.1 c
    try simp only [if_pos c] at k
    refine ⟨hp.1, ?_⟩
    replace hp := hp.2
    exact k
  · replace hp := hp.2 c
    try simp only [if_neg c] at k
    refine c_J0_length_8abf5  hp.1 ?_
    replace hp := hp.2
    refine ⟨hp.1, ?_⟩
    replace hp := hp.2
    exact k
def pw_X12_number_28 : Nat → Hp → Int32 → Int32 → Int32 → Prop
  | 0, _, _, _, _ => False
  | n + 1, h, x1, x2, x3 => p_X12_isAt h 48 57 ∧ ((((f_X12_isAt h 48 57) = 0) → (((4 < ((h.1 12 0 4) - (h.1 12 0 5))) → (p_X12_must h 0 2 ∧ (p_X12_hasFailed (g_X12_must h 0 2) ∧ True))) ∧ ((¬ 4 < ((h.1 12 0 4) - (h.1 12 0 5))) → (p_X12_in h x3 x1 x2 ∧ (p_X12_must h (if (f_X12_in h x3 x1 x2) = 0 then (0 : Int32) else 1) 2 ∧ (p_X12_hasFailed (g_X12_must h (if (f_X12_in h x3 x1 x2) = 0 then (0 : Int32) else 1) 2) ∧ True)))))) ∧ ((¬ (f_X12_isAt h 48 57) = 0) → (((4 ≤ ((h.1 12 0 4) - (h.1 12 0 5))) → (pw_X12_number_28 n (hp_i h 12 0 4 ((h.1 12 0 4) + 1)) x1 x2 x3)) ∧ ((¬ 4 ≤ ((h.1 12 0 4) - (h.1 12 0 5))) → ((vp_in (h.1 12 0 4) 900) ∧ (pw_X12_number_28 n (hp_i h 12 0 4 ((h.1 12 0 4) + 1)) x1 x2 (((10 * x3) + (h.1 54 0 ((h.1 12 0 4).toNatClampNeg))) - 48)))))))
def fw_X12_number_28 : Nat → Hp → Int32 → Int32 → Int32 → Int32
  | 0, _, _, _, _ => 0
  | n + 1, h, x1, x2, x3 => if (f_X12_isAt h 48 57) = 0 then (if 4 < ((h.1 12 0 4) - (h.1 12 0 5)) then (if (f_X12_hasFailed (g_X12_must h 0 2)) = 0 then (x3 : Int32) else x1) else (if (f_X12_hasFailed (g_X12_must h (if (f_X12_in h x3 x1 x2) = 0 then (0 : Int32) else 1) 2)) = 0 then (x3 : Int32) else x1)) else (if 4 ≤ ((h.1 12 0 4) - (h.1 12 0 5)) then (fw_X12_number_28 n (hp_i h 12 0 4 ((h.1 12 0 4) + 1)) x1 x2 x3) else (fw_X12_number_28 n (hp_i h 12 0 4 ((h.1 12 0 4) + 1)) x1 x2 (((10 * x3) + (h.1 54 0 ((h.1 12 0 4).toNatClampNeg))) - 48)))
def gw_X12_number_28 : Nat → Hp → Int32 → Int32 → Int32 → Hp
  | 0, h, _, _, _ => h
  | n + 1, h, x1, x2, x3 => if (f_X12_isAt h 48 57) = 0 then (if 4 < ((h.1 12 0 4) - (h.1 12 0 5)) then (g_X12_must h 0 2) else (g_X12_must h (if (f_X12_in h x3 x1 x2) = 0 then (0 : Int32) else 1) 2)) else (if 4 ≤ ((h.1 12 0 4) - (h.1 12 0 5)) then (gw_X12_number_28 n (hp_i h 12 0 4 ((h.1 12 0 4) + 1)) x1 x2 x3) else (gw_X12_number_28 n (hp_i h 12 0 4 ((h.1 12 0 4) + 1)) x1 x2 (((10 * x3) + (h.1 54 0 ((h.1 12 0 4).toNatClampNeg))) - 48)))
set_option maxHeartbeats 4000000 in
theorem lw_X12_number_28 {X : WD → State → Prop} {d rb : Nat} {Qr : Option AV → Hp → Prop} {Qx : String → Hp → Prop}   : ∀ (n : Nat) (h : Hp) (x1 : Int32) (x2 : Int32) (x3 : Int32), pw_X12_number_28 n h x1 x2 x3 → Qr (some (vI (fw_X12_number_28 n h x1 x2 x3))) (gw_X12_number_28 n h x1 x2 x3) → AW X (d + 3) rb mX12_number 28 [(0, vR 12 0), (1, vI x1), (2, vI x2), (3, vI x3)] [] h Qr Qx := by
  intro n
  induction n with
  | zero => intro h x1 x2 x3 hp; exact hp.elim
  | succ n ih =>
    intro h x1 x2 x3 hp k
    rw [pw_X12_number_28] at hp
    rw [fw_X12_number_28] at k
    rw [gw_X12_number_28] at k
    refine vc_X12_number_28 (d := d + 2)  ?_
    refine c_X12_isAt  hp.1 ?_
    replace hp := hp.2
    refine ⟨fun c => ?_, fun c => ?_⟩
    · replace hp := hp.1 c
      try simp only [if_pos c] at k
      refine ⟨fun c => ?_, fun c => ?_⟩
      · replace hp := hp.1 c
        try simp only [if_pos c] at k
        refine c_X12_must  hp.1 ?_
        replace hp := hp.2
        refine c_X12_hasFailed  hp.1 ?_
        replace hp := hp.2
        exact k
      · replace hp := hp.2 c
        try simp only [if_neg c] at k
        refine c_X12_in  hp.1 ?_
        replace hp := hp.2
        refine c_X12_must  hp.1 ?_
        replace hp := hp.2
        refine c_X12_hasFailed  hp.1 ?_
        replace hp := hp.2
        exact k
    · replace hp := hp.2 c
      try simp only [if_neg c] at k
      refine ⟨fun c => ?_, fun c => ?_⟩
      · replace hp := hp.1 c
        try simp only [if_pos c] at k
        exact ih _ _ _ _ hp k
      · replace hp := hp.2 c
        try simp only [if_neg c] at k
        refine ⟨hp.1, ?_⟩
        replace hp := hp.2
        exact ih _ _ _ _ hp k
def p_X12_number (h : Hp) (a1 : Int32) (a2 : Int32) : Prop := p_X12_hasFailed h ∧ ((((f_X12_hasFailed h) = 0) → (p_X12_blanks h ∧ (p_X12_isAt (g_X12_blanks h) 48 57 ∧ (p_X12_must (g_X12_blanks h) (f_X12_isAt (g_X12_blanks h) 48 57) 1 ∧ (pw_X12_number_28 oa_N (g_X12_must (g_X12_blanks h) (f_X12_isAt (g_X12_blanks h) 48 57) 1) a1 a2 0))))) ∧ ((¬ (f_X12_hasFailed h) = 0) → True))
def f_X12_number (h : Hp) (a1 : Int32) (a2 : Int32) : Int32 := if (f_X12_hasFailed h) = 0 then (fw_X12_number_28 oa_N (g_X12_must (g_X12_blanks h) (f_X12_isAt (g_X12_blanks h) 48 57) 1) a1 a2 0) else a1
def g_X12_number (h : Hp) (a1 : Int32) (a2 : Int32) : Hp := if (f_X12_hasFailed h) = 0 then (gw_X12_number_28 oa_N (g_X12_must (g_X12_blanks h) (f_X12_isAt (g_X12_blanks h) 48 57) 1) a1 a2 0) else h
set_option maxHeartbeats 4000000 in
theorem c_X12_number {d : Nat} {h : Hp} {P : Int32 → Hp → Prop} {Qx : String → Hp → Prop} {a1 : Int32} {a2 : Int32}  (hp : p_X12_number h a1 a2) (k : P (f_X12_number h a1 a2) (g_X12_number h a1 a2)) : CL 0 (d + 3) mX12_number [vR 12 0, vI a1, vI a2] h (oI P) Qx := by
  replace k : oI P (some (vI (f_X12_number h a1 a2))) (g_X12_number h a1 a2) := k
  unfold p_X12_number at hp
  unfold f_X12_number at k
  unfold g_X12_number at k
  refine CL.ofF (plainFor_of_name rfl) rfl (Nat.le_of_ble_eq_true rfl) (vc_X12_number_0 (d := d + 2)  ?_)
  refine c_X12_hasFailed  hp.1 ?_
  replace hp := hp.2
  refine ⟨fun c => ?_, fun c => ?_⟩
  · replace hp := hp.1 c
    try simp only [if_pos c] at k
    refine c_X12_blanks  hp.1 ?_
    replace hp := hp.2
    refine c_X12_isAt  hp.1 ?_
    replace hp := hp.2
    refine c_X12_must  hp.1 ?_
    replace hp := hp.2
    exact lw_X12_number_28  _ _ _ _ _ hp k
  · replace hp := hp.2 c
    try simp only [if_neg c] at k
    exact k
def p_X12_usualRung (h : Hp)  : Prop := True
def g_X12_usualRung (h : Hp)  : Hp := hp_i (hp_i (hp_i (hp_i h 57 0 2 1) 57 0 388 0) 57 0 389 9) 57 0 390 100
set_option maxHeartbeats 4000000 in
theorem c_X12_usualRung {d : Nat} {h : Hp} {P : Hp → Prop} {Qx : String → Hp → Prop}   (hp : p_X12_usualRung h ) (k : P  (g_X12_usualRung h )) : CL 0 (d + 1) mX12_usualRung [vR 12 0] h (oV P) Qx := by
  replace k : oV P none (g_X12_usualRung h ) := k
  unfold p_X12_usualRung at hp
  unfold g_X12_usualRung at k
  refine CL.ofF (plainFor_of_name rfl) rfl (Nat.le_of_ble_eq_true rfl) (vc_X12_usualRung_0 (d := d + 0)  ?_)
  exact k
def pi_X12_named_78 : Nat → Hp → Int32 → Int32 → Int32 → Int32 → Prop
  | 0, _, _, _, _, _ => False
  | n + 1, h, x1, x2, x3, x4 => ((8 ≤ x4) → True) ∧ ((¬ 8 ≤ x4) → (((x3 = 0) → (pi_X12_named_78 n h x1 x2 0 (x4 + 1))) ∧ ((¬ x3 = 0) → ((vp_in ((4 + (8 * x2)) + x4) 506) ∧ (((x1 ≤ x4) → (pi_X12_named_78 n h x1 x2 (if ¬ (h.1 57 0 (((4 + (8 * x2)) + x4).toNatClampNeg)) = 0 then (0 : Int32) else 1) (x4 + 1))) ∧ ((¬ x1 ≤ x4) → ((vp_in ((h.1 12 0 4) + x4) 900) ∧ (pi_X12_named_78 n h x1 x2 (if ¬ (h.1 57 0 (((4 + (8 * x2)) + x4).toNatClampNeg)) = (h.1 54 0 (((h.1 12 0 4) + x4).toNatClampNeg)) then (0 : Int32) else 1) (x4 + 1)))))))))
def iw_x3_X12_named_78 : Nat → Hp → Int32 → Int32 → Int32 → Int32 → Int32
  | 0, _, _, _, x3, _ => x3
  | n + 1, h, x1, x2, x3, x4 => if 8 ≤ x4 then x3 else (if x3 = 0 then (iw_x3_X12_named_78 n h x1 x2 0 (x4 + 1)) else (if x1 ≤ x4 then (iw_x3_X12_named_78 n h x1 x2 (if ¬ (h.1 57 0 (((4 + (8 * x2)) + x4).toNatClampNeg)) = 0 then (0 : Int32) else 1) (x4 + 1)) else (iw_x3_X12_named_78 n h x1 x2 (if ¬ (h.1 57 0 (((4 + (8 * x2)) + x4).toNatClampNeg)) = (h.1 54 0 (((h.1 12 0 4) + x4).toNatClampNeg)) then (0 : Int32) else 1) (x4 + 1))))
def iw_x4_X12_named_78 : Nat → Hp → Int32 → Int32 → Int32 → Int32 → Int32
  | 0, _, _, _, _, x4 => x4
  | n + 1, h, x1, x2, x3, x4 => if 8 ≤ x4 then x4 else (if x3 = 0 then (iw_x4_X12_named_78 n h x1 x2 0 (x4 + 1)) else (if x1 ≤ x4 then (iw_x4_X12_named_78 n h x1 x2 (if ¬ (h.1 57 0 (((4 + (8 * x2)) + x4).toNatClampNeg)) = 0 then (0 : Int32) else 1) (x4 + 1)) else (iw_x4_X12_named_78 n h x1 x2 (if ¬ (h.1 57 0 (((4 + (8 * x2)) + x4).toNatClampNeg)) = (h.1 54 0 (((h.1 12 0 4) + x4).toNatClampNeg)) then (0 : Int32) else 1) (x4 + 1))))
set_option maxHeartbeats 4000000 in
theorem li_X12_named_78 {X : WD → State → Prop} {d rb : Nat} {Qr : Option AV → Hp → Prop} {Qx : String → Hp → Prop}   : ∀ (n : Nat) (h : Hp) (x1 : Int32) (x2 : Int32) (x3 : Int32) (x4 : Int32), pi_X12_named_78 n h x1 x2 x3 x4 → AW X (d + 4) rb mX12_named 140 [(0, vR 12 0), (1, vI x1), (2, vI x2), (3, vI (iw_x3_X12_named_78 n h x1 x2 x3 x4)), (4, vI (iw_x4_X12_named_78 n h x1 x2 x3 x4))] [] h Qr Qx → AW X (d + 4) rb mX12_named 78 [(0, vR 12 0), (1, vI x1), (2, vI x2), (3, vI x3), (4, vI x4)] [] h Qr Qx := by
  intro n
  induction n with
  | zero => intro h x1 x2 x3 x4 hp; exact hp.elim
  | succ n ih =>
    intro h x1 x2 x3 x4 hp k
    rw [pi_X12_named_78] at hp
    simp only [iw_x3_X12_named_78, iw_x4_X12_named_78] at k
    refine vc_X12_named_78 (d := d + 3)  ?_
    refine ⟨fun c => ?_, fun c => ?_⟩
    · replace hp := hp.1 c
      try simp only [if_pos c] at k
      exact k
    · replace hp := hp.2 c
      try simp only [if_neg c] at k
      refine ⟨fun c => ?_, fun c => ?_⟩
      · replace hp := hp.1 c
        try simp only [if_pos c] at k
        exact ih _ _ _ _ _ hp k
      · replace hp := hp.2 c
        try simp only [if_neg c] at k
        refine ⟨hp.1, ?_⟩
        replace hp := hp.2
        refine ⟨fun c => ?_, fun c => ?_⟩
        · replace hp := hp.1 c
          try simp only [if_pos c] at k
          exact ih _ _ _ _ _ hp k
        · replace hp := hp.2 c
          try simp only [if_neg c] at k
          refine ⟨hp.1, ?_⟩
          replace hp := hp.2
          exact ih _ _ _ _ _ hp k
def pw_X12_named_19 : Nat → Hp → Int32 → Int32 → Prop
  | 0, _, _, _ => False
  | n + 1, h, x1, x2 => ((20 ≤ x2) → True) ∧ ((¬ 20 ≤ x2) → (p_X12_hasFailed h ∧ (((¬ (f_X12_hasFailed h) = 0) → True) ∧ (((f_X12_hasFailed h) = 0) → (((12 ≤ x2) → (pi_X12_named_78 oa_N h x1 x2 (if (h.1 57 0 1) ≤ (x2 - 12) then (0 : Int32) else 1) 0 ∧ ((((iw_x3_X12_named_78 oa_N h x1 x2 (if (h.1 57 0 1) ≤ (x2 - 12) then (0 : Int32) else 1) 0) = 0) → (pw_X12_named_19 n h x1 (x2 + 1))) ∧ ((¬ (iw_x3_X12_named_78 oa_N h x1 x2 (if (h.1 57 0 1) ≤ (x2 - 12) then (0 : Int32) else 1) 0) = 0) → True)))) ∧ ((¬ 12 ≤ x2) → (pi_X12_named_78 oa_N h x1 x2 (if (h.1 57 0 0) ≤ x2 then (0 : Int32) else 1) 0 ∧ ((((iw_x3_X12_named_78 oa_N h x1 x2 (if (h.1 57 0 0) ≤ x2 then (0 : Int32) else 1) 0) = 0) → (pw_X12_named_19 n h x1 (x2 + 1))) ∧ ((¬ (iw_x3_X12_named_78 oa_N h x1 x2 (if (h.1 57 0 0) ≤ x2 then (0 : Int32) else 1) 0) = 0) → True)))))))))
def fw_X12_named_19 : Nat → Hp → Int32 → Int32 → Int32
  | 0, _, _, _ => 0
  | n + 1, h, x1, x2 => if 20 ≤ x2 then (-1) else (if ¬ (f_X12_hasFailed h) = 0 then (-1) else (if 12 ≤ x2 then (if (iw_x3_X12_named_78 oa_N h x1 x2 (if (h.1 57 0 1) ≤ (x2 - 12) then (0 : Int32) else 1) 0) = 0 then (fw_X12_named_19 n h x1 (x2 + 1)) else x2) else (if (iw_x3_X12_named_78 oa_N h x1 x2 (if (h.1 57 0 0) ≤ x2 then (0 : Int32) else 1) 0) = 0 then (fw_X12_named_19 n h x1 (x2 + 1)) else x2)))
def gw_X12_named_19 : Nat → Hp → Int32 → Int32 → Hp
  | 0, h, _, _ => h
  | n + 1, h, x1, x2 => if 20 ≤ x2 then h else (if ¬ (f_X12_hasFailed h) = 0 then h else (if 12 ≤ x2 then (if (iw_x3_X12_named_78 oa_N h x1 x2 (if (h.1 57 0 1) ≤ (x2 - 12) then (0 : Int32) else 1) 0) = 0 then (gw_X12_named_19 n h x1 (x2 + 1)) else h) else (if (iw_x3_X12_named_78 oa_N h x1 x2 (if (h.1 57 0 0) ≤ x2 then (0 : Int32) else 1) 0) = 0 then (gw_X12_named_19 n h x1 (x2 + 1)) else h)))
set_option maxHeartbeats 4000000 in
theorem lw_X12_named_19 {X : WD → State → Prop} {d rb : Nat} {Qr : Option AV → Hp → Prop} {Qx : String → Hp → Prop}   : ∀ (n : Nat) (h : Hp) (x1 : Int32) (x2 : Int32), pw_X12_named_19 n h x1 x2 → Qr (some (vI (fw_X12_named_19 n h x1 x2))) (gw_X12_named_19 n h x1 x2) → AW X (d + 4) rb mX12_named 19 [(0, vR 12 0), (1, vI x1), (2, vI x2)] [] h Qr Qx := by
  intro n
  induction n with
  | zero => intro h x1 x2 hp; exact hp.elim
  | succ n ih =>
    intro h x1 x2 hp k
    rw [pw_X12_named_19] at hp
    rw [fw_X12_named_19] at k
    rw [gw_X12_named_19] at k
    refine vc_X12_named_19 (d := d + 3)  ?_
    refine ⟨fun c => ?_, fun c => ?_⟩
    · replace hp := hp.1 c
      try simp only [if_pos c] at k
      exact k
    · replace hp := hp.2 c
      try simp only [if_neg c] at k
      refine c_X12_hasFailed  hp.1 ?_
      replace hp := hp.2
      refine ⟨fun c => ?_, fun c => ?_⟩
      · replace hp := hp.1 c
        try simp only [if_pos c] at k
        exact k
      · replace hp := hp.2 c
        try simp only [if_neg (oa_nn c)] at k
        refine ⟨fun c => ?_, fun c => ?_⟩
        · replace hp := hp.1 c
          try simp only [if_pos c] at k
          refine li_X12_named_78  _ _ _ _ _ _ hp.1 ?_
          replace hp := hp.2
          refine vc_X12_named_140 (d := d + 3)  ?_
          refine ⟨fun c => ?_, fun c => ?_⟩
          · replace hp := hp.1 c
            try simp only [if_pos c] at k
            exact ih _ _ _ hp k
          · replace hp := hp.2 c
            try simp only [if_neg c] at k
            exact k
        · replace hp := hp.2 c
          try simp only [if_neg c] at k
          refine li_X12_named_78  _ _ _ _ _ _ hp.1 ?_
          replace hp := hp.2
          refine vc_X12_named_140 (d := d + 3)  ?_
          refine ⟨fun c => ?_, fun c => ?_⟩
          · replace hp := hp.1 c
            try simp only [if_pos c] at k
            exact ih _ _ _ hp k
          · replace hp := hp.2 c
            try simp only [if_neg c] at k
            exact k
def p_X12_named (h : Hp)  : Prop := p_X12_letters h ∧ (p_X12_in (g_X12_letters h) (f_X12_letters h) 1 8 ∧ (p_X12_must (g_X12_letters h) (f_X12_in (g_X12_letters h) (f_X12_letters h) 1 8) 1 ∧ (pw_X12_named_19 oa_N (g_X12_must (g_X12_letters h) (f_X12_in (g_X12_letters h) (f_X12_letters h) 1 8) 1) (f_X12_letters h) 0)))
def f_X12_named (h : Hp)  : Int32 := fw_X12_named_19 oa_N (g_X12_must (g_X12_letters h) (f_X12_in (g_X12_letters h) (f_X12_letters h) 1 8) 1) (f_X12_letters h) 0
def g_X12_named (h : Hp)  : Hp := gw_X12_named_19 oa_N (g_X12_must (g_X12_letters h) (f_X12_in (g_X12_letters h) (f_X12_letters h) 1 8) 1) (f_X12_letters h) 0
set_option maxHeartbeats 4000000 in
theorem c_X12_named {d : Nat} {h : Hp} {P : Int32 → Hp → Prop} {Qx : String → Hp → Prop}   (hp : p_X12_named h ) (k : P (f_X12_named h ) (g_X12_named h )) : CL 0 (d + 4) mX12_named [vR 12 0] h (oI P) Qx := by
  replace k : oI P (some (vI (f_X12_named h ))) (g_X12_named h ) := k
  unfold p_X12_named at hp
  unfold f_X12_named at k
  unfold g_X12_named at k
  refine CL.ofF (plainFor_of_name rfl) rfl (Nat.le_of_ble_eq_true rfl) (vc_X12_named_0 (d := d + 3)  ?_)
  refine c_X12_letters  hp.1 ?_
  replace hp := hp.2
  refine c_X12_in  hp.1 ?_
  replace hp := hp.2
  refine c_X12_must  hp.1 ?_
  replace hp := hp.2
  exact lw_X12_named_19  _ _ _ _ hp k
def pw_X12_newName_47 : Nat → Hp → Int32 → Int32 → Int32 → Int32 → Prop
  | 0, _, _, _, _, _ => False
  | n + 1, h, x1, x2, x3, x4 => ((8 ≤ x4) → True) ∧ ((¬ 8 ≤ x4) → (((x3 ≤ x4) → ((vp_in ((4 + (8 * x1)) + x4) 506) ∧ (pw_X12_newName_47 n (hp_i h 57 0 (((4 + (8 * x1)) + x4).toNatClampNeg) 0) x1 x2 x3 (x4 + 1)))) ∧ ((¬ x3 ≤ x4) → ((vp_in ((h.1 12 0 4) + x4) 900) ∧ ((vp_in ((4 + (8 * x1)) + x4) 506) ∧ (pw_X12_newName_47 n (hp_i h 57 0 (((4 + (8 * x1)) + x4).toNatClampNeg) (h.1 54 0 (((h.1 12 0 4) + x4).toNatClampNeg))) x1 x2 x3 (x4 + 1)))))))
def gw_X12_newName_47 : Nat → Hp → Int32 → Int32 → Int32 → Int32 → Hp
  | 0, h, _, _, _, _ => h
  | n + 1, h, x1, x2, x3, x4 => if 8 ≤ x4 then (hp_i h 12 0 4 ((h.1 12 0 4) + x3)) else (if x3 ≤ x4 then (gw_X12_newName_47 n (hp_i h 57 0 (((4 + (8 * x1)) + x4).toNatClampNeg) 0) x1 x2 x3 (x4 + 1)) else (gw_X12_newName_47 n (hp_i h 57 0 (((4 + (8 * x1)) + x4).toNatClampNeg) (h.1 54 0 (((h.1 12 0 4) + x4).toNatClampNeg))) x1 x2 x3 (x4 + 1)))
set_option maxHeartbeats 4000000 in
theorem lw_X12_newName_47 {X : WD → State → Prop} {d rb : Nat} {Qr : Option AV → Hp → Prop} {Qx : String → Hp → Prop}   : ∀ (n : Nat) (h : Hp) (x1 : Int32) (x2 : Int32) (x3 : Int32) (x4 : Int32), pw_X12_newName_47 n h x1 x2 x3 x4 → Qr none (gw_X12_newName_47 n h x1 x2 x3 x4) → AW X (d + 5) rb mX12_newName 47 [(0, vR 12 0), (1, vI x1), (2, vI x2), (3, vI x3), (4, vI x4)] [] h Qr Qx := by
  intro n
  induction n with
  | zero => intro h x1 x2 x3 x4 hp; exact hp.elim
  | succ n ih =>
    intro h x1 x2 x3 x4 hp k
    rw [pw_X12_newName_47] at hp
    rw [gw_X12_newName_47] at k
    refine vc_X12_newName_47 (d := d + 4)  ?_
    refine ⟨fun c => ?_, fun c => ?_⟩
    · replace hp := hp.1 c
      try simp only [if_pos c] at k
      exact k
    · replace hp := hp.2 c
      try simp only [if_neg c] at k
      refine ⟨fun c => ?_, fun c => ?_⟩
      · replace hp := hp.1 c
        try simp only [if_pos c] at k
        refine ⟨hp.1, ?_⟩
        replace hp := hp.2
        exact ih _ _ _ _ _ hp k
      · replace hp := hp.2 c
        try simp only [if_neg c] at k
        refine ⟨hp.1, ?_⟩
        replace hp := hp.2
        refine ⟨hp.1, ?_⟩
        replace hp := hp.2
        exact ih _ _ _ _ _ hp k
def p_X12_newName (h : Hp) (a1 : Int32) : Prop := p_X12_hasFailed h ∧ ((((f_X12_hasFailed h) = 0) → (p_X12_named h ∧ (p_X12_must (g_X12_named h) (if ¬ (f_X12_named h) = (-1) then (0 : Int32) else 1) 3 ∧ (p_X12_hasFailed (g_X12_must (g_X12_named h) (if ¬ (f_X12_named h) = (-1) then (0 : Int32) else 1) 3) ∧ ((((f_X12_hasFailed (g_X12_must (g_X12_named h) (if ¬ (f_X12_named h) = (-1) then (0 : Int32) else 1) 3)) = 0) → (p_X12_letters (g_X12_must (g_X12_named h) (if ¬ (f_X12_named h) = (-1) then (0 : Int32) else 1) 3) ∧ (pw_X12_newName_47 oa_N (g_X12_letters (g_X12_must (g_X12_named h) (if ¬ (f_X12_named h) = (-1) then (0 : Int32) else 1) 3)) a1 (f_X12_named h) (f_X12_letters (g_X12_must (g_X12_named h) (if ¬ (f_X12_named h) = (-1) then (0 : Int32) else 1) 3)) 0))) ∧ ((¬ (f_X12_hasFailed (g_X12_must (g_X12_named h) (if ¬ (f_X12_named h) = (-1) then (0 : Int32) else 1) 3)) = 0) → True)))))) ∧ ((¬ (f_X12_hasFailed h) = 0) → (p_X12_must h 1 3 ∧ (p_X12_hasFailed (g_X12_must h 1 3) ∧ ((((f_X12_hasFailed (g_X12_must h 1 3)) = 0) → (p_X12_letters (g_X12_must h 1 3) ∧ (pw_X12_newName_47 oa_N (g_X12_letters (g_X12_must h 1 3)) a1 (-1) (f_X12_letters (g_X12_must h 1 3)) 0))) ∧ ((¬ (f_X12_hasFailed (g_X12_must h 1 3)) = 0) → True))))))
def g_X12_newName (h : Hp) (a1 : Int32) : Hp := if (f_X12_hasFailed h) = 0 then (if (f_X12_hasFailed (g_X12_must (g_X12_named h) (if ¬ (f_X12_named h) = (-1) then (0 : Int32) else 1) 3)) = 0 then (gw_X12_newName_47 oa_N (g_X12_letters (g_X12_must (g_X12_named h) (if ¬ (f_X12_named h) = (-1) then (0 : Int32) else 1) 3)) a1 (f_X12_named h) (f_X12_letters (g_X12_must (g_X12_named h) (if ¬ (f_X12_named h) = (-1) then (0 : Int32) else 1) 3)) 0) else (g_X12_must (g_X12_named h) (if ¬ (f_X12_named h) = (-1) then (0 : Int32) else 1) 3)) else (if (f_X12_hasFailed (g_X12_must h 1 3)) = 0 then (gw_X12_newName_47 oa_N (g_X12_letters (g_X12_must h 1 3)) a1 (-1) (f_X12_letters (g_X12_must h 1 3)) 0) else (g_X12_must h 1 3))
set_option maxHeartbeats 4000000 in
theorem c_X12_newName {d : Nat} {h : Hp} {P : Hp → Prop} {Qx : String → Hp → Prop} {a1 : Int32}  (hp : p_X12_newName h a1) (k : P  (g_X12_newName h a1)) : CL 0 (d + 5) mX12_newName [vR 12 0, vI a1] h (oV P) Qx := by
  replace k : oV P none (g_X12_newName h a1) := k
  unfold p_X12_newName at hp
  unfold g_X12_newName at k
  refine CL.ofF (plainFor_of_name rfl) rfl (Nat.le_of_ble_eq_true rfl) (vc_X12_newName_0 (d := d + 4)  ?_)
  refine c_X12_hasFailed  hp.1 ?_
  replace hp := hp.2
  refine ⟨fun c => ?_, fun c => ?_⟩
  · replace hp := hp.1 c
    try simp only [if_pos c] at k
    refine c_X12_named  hp.1 ?_
    replace hp := hp.2
    refine c_X12_must  hp.1 ?_
    replace hp := hp.2
    refine c_X12_hasFailed  hp.1 ?_
    replace hp := hp.2
    refine ⟨fun c => ?_, fun c => ?_⟩
    · replace hp := hp.1 c
      try simp only [if_pos c] at k
      refine c_X12_letters  hp.1 ?_
      replace hp := hp.2
      exact lw_X12_newName_47  _ _ _ _ _ _ hp k
    · replace hp := hp.2 c
      try simp only [if_neg c] at k
      exact k
  · replace hp := hp.2 c
    try simp only [if_neg c] at k
    refine c_X12_must  hp.1 ?_
    replace hp := hp.2
    refine c_X12_hasFailed  hp.1 ?_
    replace hp := hp.2
    refine ⟨fun c => ?_, fun c => ?_⟩
    · replace hp := hp.1 c
      try simp only [if_pos c] at k
      refine c_X12_letters  hp.1 ?_
      replace hp := hp.2
      exact lw_X12_newName_47  _ _ _ _ _ _ hp k
    · replace hp := hp.2 c
      try simp only [if_neg c] at k
      exact k
def p_X12_part (h : Hp)  : Prop := p_X12_must h (if 12 ≤ (h.1 57 0 0) then (0 : Int32) else 1) 4 ∧ (p_X12_hasFailed (g_X12_must h (if 12 ≤ (h.1 57 0 0) then (0 : Int32) else 1) 4) ∧ ((((f_X12_hasFailed (g_X12_must h (if 12 ≤ (h.1 57 0 0) then (0 : Int32) else 1) 4)) = 0) → (p_X12_newName (hp_i (g_X12_must h (if 12 ≤ (h.1 57 0 0) then (0 : Int32) else 1) 4) 12 0 4 (((g_X12_must h (if 12 ≤ (h.1 57 0 0) then (0 : Int32) else 1) 4).1 12 0 4) + 4)) (h.1 57 0 0) ∧ (p_X12_number (g_X12_newName (hp_i (g_X12_must h (if 12 ≤ (h.1 57 0 0) then (0 : Int32) else 1) 4) 12 0 4 (((g_X12_must h (if 12 ≤ (h.1 57 0 0) then (0 : Int32) else 1) 4).1 12 0 4) + 4)) (h.1 57 0 0)) 0 9999 ∧ ((vp_in (164 + (h.1 57 0 0)) 506) ∧ (p_X12_number (hp_i (g_X12_number (g_X12_newName (hp_i (g_X12_must h (if 12 ≤ (h.1 57 0 0) then (0 : Int32) else 1) 4) 12 0 4 (((g_X12_must h (if 12 ≤ (h.1 57 0 0) then (0 : Int32) else 1) 4).1 12 0 4) + 4)) (h.1 57 0 0)) 0 9999) 57 0 ((164 + (h.1 57 0 0)).toNatClampNeg) (f_X12_number (g_X12_newName (hp_i (g_X12_must h (if 12 ≤ (h.1 57 0 0) then (0 : Int32) else 1) 4) 12 0 4 (((g_X12_must h (if 12 ≤ (h.1 57 0 0) then (0 : Int32) else 1) 4).1 12 0 4) + 4)) (h.1 57 0 0)) 0 9999)) 1 60 ∧ ((vp_in (176 + (h.1 57 0 0)) 506) ∧ True)))))) ∧ ((¬ (f_X12_hasFailed (g_X12_must h (if 12 ≤ (h.1 57 0 0) then (0 : Int32) else 1) 4)) = 0) → True)))
def g_X12_part (h : Hp)  : Hp := if (f_X12_hasFailed (g_X12_must h (if 12 ≤ (h.1 57 0 0) then (0 : Int32) else 1) 4)) = 0 then (hp_i (hp_i (g_X12_number (hp_i (g_X12_number (g_X12_newName (hp_i (g_X12_must h (if 12 ≤ (h.1 57 0 0) then (0 : Int32) else 1) 4) 12 0 4 (((g_X12_must h (if 12 ≤ (h.1 57 0 0) then (0 : Int32) else 1) 4).1 12 0 4) + 4)) (h.1 57 0 0)) 0 9999) 57 0 ((164 + (h.1 57 0 0)).toNatClampNeg) (f_X12_number (g_X12_newName (hp_i (g_X12_must h (if 12 ≤ (h.1 57 0 0) then (0 : Int32) else 1) 4) 12 0 4 (((g_X12_must h (if 12 ≤ (h.1 57 0 0) then (0 : Int32) else 1) 4).1 12 0 4) + 4)) (h.1 57 0 0)) 0 9999)) 1 60) 57 0 ((176 + (h.1 57 0 0)).toNatClampNeg) (f_X12_number (hp_i (g_X12_number (g_X12_newName (hp_i (g_X12_must h (if 12 ≤ (h.1 57 0 0) then (0 : Int32) else 1) 4) 12 0 4 (((g_X12_must h (if 12 ≤ (h.1 57 0 0) then (0 : Int32) else 1) 4).1 12 0 4) + 4)) (h.1 57 0 0)) 0 9999) 57 0 ((164 + (h.1 57 0 0)).toNatClampNeg) (f_X12_number (g_X12_newName (hp_i (g_X12_must h (if 12 ≤ (h.1 57 0 0) then (0 : Int32) else 1) 4) 12 0 4 (((g_X12_must h (if 12 ≤ (h.1 57 0 0) then (0 : Int32) else 1) 4).1 12 0 4) + 4)) (h.1 57 0 0)) 0 9999)) 1 60)) 57 0 0 (((hp_i (g_X12_number (hp_i (g_X12_number (g_X12_newName (hp_i (g_X12_must h (if 12 ≤ (h.1 57 0 0) then (0 : Int32) else 1) 4) 12 0 4 (((g_X12_must h (if 12 ≤ (h.1 57 0 0) then (0 : Int32) else 1) 4).1 12 0 4) + 4)) (h.1 57 0 0)) 0 9999) 57 0 ((164 + (h.1 57 0 0)).toNatClampNeg) (f_X12_number (g_X12_newName (hp_i (g_X12_must h (if 12 ≤ (h.1 57 0 0) then (0 : Int32) else 1) 4) 12 0 4 (((g_X12_must h (if 12 ≤ (h.1 57 0 0) then (0 : Int32) else 1) 4).1 12 0 4) + 4)) (h.1 57 0 0)) 0 9999)) 1 60) 57 0 ((176 + (h.1 57 0 0)).toNatClampNeg) (f_X12_number (hp_i (g_X12_number (g_X12_newName (hp_i (g_X12_must h (if 12 ≤ (h.1 57 0 0) then (0 : Int32) else 1) 4) 12 0 4 (((g_X12_must h (if 12 ≤ (h.1 57 0 0) then (0 : Int32) else 1) 4).1 12 0 4) + 4)) (h.1 57 0 0)) 0 9999) 57 0 ((164 + (h.1 57 0 0)).toNatClampNeg) (f_X12_number (g_X12_newName (hp_i (g_X12_must h (if 12 ≤ (h.1 57 0 0) then (0 : Int32) else 1) 4) 12 0 4 (((g_X12_must h (if 12 ≤ (h.1 57 0 0) then (0 : Int32) else 1) 4).1 12 0 4) + 4)) (h.1 57 0 0)) 0 9999)) 1 60)).1 57 0 0) + 1)) else (g_X12_must h (if 12 ≤ (h.1 57 0 0) then (0 : Int32) else 1) 4)
set_option maxHeartbeats 4000000 in
theorem c_X12_part {d : Nat} {h : Hp} {P : Hp → Prop} {Qx : String → Hp → Prop}   (hp : p_X12_part h ) (k : P  (g_X12_part h )) : CL 0 (d + 6) mX12_part [vR 12 0] h (oV P) Qx := by
  replace k : oV P none (g_X12_part h ) := k
  unfold p_X12_part at hp
  unfold g_X12_part at k
  refine CL.ofF (plainFor_of_name rfl) rfl (Nat.le_of_ble_eq_true rfl) (vc_X12_part_0 (d := d + 5)  ?_)
  refine c_X12_must  hp.1 ?_
  replace hp := hp.2
  refine c_X12_hasFailed  hp.1 ?_
  replace hp := hp.2
  refine ⟨fun c => ?_, fun c => ?_⟩
  · replace hp := hp.1 c
    try simp only [if_pos c] at k
    refine c_X12_newName  hp.1 ?_
    replace hp := hp.2
    refine c_X12_number  hp.1 ?_
    replace hp := hp.2
    refine ⟨hp.1, ?_⟩
    replace hp := hp.2
    refine c_X12_number  hp.1 ?_
    replace hp := hp.2
    refine ⟨hp.1, ?_⟩
    replace hp := hp.2
    exact k
  · replace hp := hp.2 c
    try simp only [if_neg c] at k
    exact k
def p_X12_blanks0 (h : Hp)  : Prop := p_X12_hasFailed h ∧ (((¬ (f_X12_hasFailed h) = 0) → True) ∧ (((f_X12_hasFailed h) = 0) → (p_X12_blanks h ∧ True)))
def g_X12_blanks0 (h : Hp)  : Hp := if ¬ (f_X12_hasFailed h) = 0 then h else (g_X12_blanks h)
set_option maxHeartbeats 4000000 in
theorem c_X12_blanks0 {d : Nat} {h : Hp} {P : Hp → Prop} {Qx : String → Hp → Prop}   (hp : p_X12_blanks0 h ) (k : P  (g_X12_blanks0 h )) : CL 0 (d + 3) mX12_blanks0 [vR 12 0] h (oV P) Qx := by
  replace k : oV P none (g_X12_blanks0 h ) := k
  unfold p_X12_blanks0 at hp
  unfold g_X12_blanks0 at k
  refine CL.ofF (plainFor_of_name rfl) rfl (Nat.le_of_ble_eq_true rfl) (vc_X12_blanks0_0 (d := d + 2)  ?_)
  refine c_X12_hasFailed  hp.1 ?_
  replace hp := hp.2
  refine ⟨fun c => ?_, fun c => ?_⟩
  · replace hp := hp.1 c
    try simp only [if_pos c] at k
    exact k
  · replace hp := hp.2 c
    try simp only [if_neg (oa_nn c)] at k
    refine c_X12_blanks  hp.1 ?_
    replace hp := hp.2
    exact k
def pw_X12_line_118 : Nat → Hp → Int32 → Int32 → Int32 → Int32 → Int32 → Prop
  | 0, _, _, _, _, _, _ => False
  | n + 1, h, x1, x2, x3, x4, x5 => ((12 ≤ x5) → (p_X12_hasFailed h ∧ ((((f_X12_hasFailed h) = 0) → (p_X12_letters h ∧ ((vp_in ((196 + (6 * x1)) + x2) 506) ∧ ((vp_in ((244 + (6 * x1)) + x2) 506) ∧ True)))) ∧ ((¬ (f_X12_hasFailed h) = 0) → True)))) ∧ ((¬ 12 ≤ x5) → (p_X12_hasFailed h ∧ (((¬ (f_X12_hasFailed h) = 0) → (p_X12_hasFailed h ∧ ((((f_X12_hasFailed h) = 0) → (p_X12_letters h ∧ ((vp_in ((196 + (6 * x1)) + x2) 506) ∧ ((vp_in ((244 + (6 * x1)) + x2) 506) ∧ True)))) ∧ ((¬ (f_X12_hasFailed h) = 0) → True)))) ∧ (((f_X12_hasFailed h) = 0) → ((vp_in ((292 + (12 * x1)) + x5) 506) ∧ (((12 ≤ x4) → ((vp_in ((292 + (12 * (x4 - 12))) + x5) 506) ∧ ((vp_in ((292 + (12 * x1)) + x5) 506) ∧ ((vp_in ((292 + (12 * x1)) + x5) 506) ∧ (p_X12_must (hp_i h 57 0 (((292 + (12 * x1)) + x5).toNatClampNeg) ((h.1 57 0 (((292 + (12 * x1)) + x5).toNatClampNeg)) + (x3 * (h.1 57 0 (((292 + (12 * (x4 - 12))) + x5).toNatClampNeg))))) (if 9999 < ((hp_i h 57 0 (((292 + (12 * x1)) + x5).toNatClampNeg) ((h.1 57 0 (((292 + (12 * x1)) + x5).toNatClampNeg)) + (x3 * (h.1 57 0 (((292 + (12 * (x4 - 12))) + x5).toNatClampNeg))))).1 57 0 (((292 + (12 * x1)) + x5).toNatClampNeg)) then (0 : Int32) else 1) 5 ∧ (pw_X12_line_118 n (g_X12_must (hp_i h 57 0 (((292 + (12 * x1)) + x5).toNatClampNeg) ((h.1 57 0 (((292 + (12 * x1)) + x5).toNatClampNeg)) + (x3 * (h.1 57 0 (((292 + (12 * (x4 - 12))) + x5).toNatClampNeg))))) (if 9999 < ((hp_i h 57 0 (((292 + (12 * x1)) + x5).toNatClampNeg) ((h.1 57 0 (((292 + (12 * x1)) + x5).toNatClampNeg)) + (x3 * (h.1 57 0 (((292 + (12 * (x4 - 12))) + x5).toNatClampNeg))))).1 57 0 (((292 + (12 * x1)) + x5).toNatClampNeg)) then (0 : Int32) else 1) 5) x1 x2 x3 x4 (x5 + 1))))))) ∧ ((¬ 12 ≤ x4) → ((vp_in ((292 + (12 * x1)) + x5) 506) ∧ ((vp_in ((292 + (12 * x1)) + x5) 506) ∧ (p_X12_must (hp_i h 57 0 (((292 + (12 * x1)) + x5).toNatClampNeg) ((h.1 57 0 (((292 + (12 * x1)) + x5).toNatClampNeg)) + (x3 * (if ¬ x4 = x5 then (0 : Int32) else 1)))) (if 9999 < ((hp_i h 57 0 (((292 + (12 * x1)) + x5).toNatClampNeg) ((h.1 57 0 (((292 + (12 * x1)) + x5).toNatClampNeg)) + (x3 * (if ¬ x4 = x5 then (0 : Int32) else 1)))).1 57 0 (((292 + (12 * x1)) + x5).toNatClampNeg)) then (0 : Int32) else 1) 5 ∧ (pw_X12_line_118 n (g_X12_must (hp_i h 57 0 (((292 + (12 * x1)) + x5).toNatClampNeg) ((h.1 57 0 (((292 + (12 * x1)) + x5).toNatClampNeg)) + (x3 * (if ¬ x4 = x5 then (0 : Int32) else 1)))) (if 9999 < ((hp_i h 57 0 (((292 + (12 * x1)) + x5).toNatClampNeg) ((h.1 57 0 (((292 + (12 * x1)) + x5).toNatClampNeg)) + (x3 * (if ¬ x4 = x5 then (0 : Int32) else 1)))).1 57 0 (((292 + (12 * x1)) + x5).toNatClampNeg)) then (0 : Int32) else 1) 5) x1 x2 x3 x4 (x5 + 1))))))))))))
def gw_X12_line_118 : Nat → Hp → Int32 → Int32 → Int32 → Int32 → Int32 → Hp
  | 0, h, _, _, _, _, _ => h
  | n + 1, h, x1, x2, x3, x4, x5 => if 12 ≤ x5 then (if (f_X12_hasFailed h) = 0 then (hp_i (hp_i (hp_i (g_X12_letters h) 12 0 4 ((h.1 12 0 4) + (f_X12_letters h))) 57 0 (((196 + (6 * x1)) + x2).toNatClampNeg) x4) 57 0 (((244 + (6 * x1)) + x2).toNatClampNeg) x3) else h) else (if ¬ (f_X12_hasFailed h) = 0 then (if (f_X12_hasFailed h) = 0 then (hp_i (hp_i (hp_i (g_X12_letters h) 12 0 4 ((h.1 12 0 4) + (f_X12_letters h))) 57 0 (((196 + (6 * x1)) + x2).toNatClampNeg) x4) 57 0 (((244 + (6 * x1)) + x2).toNatClampNeg) x3) else h) else (if 12 ≤ x4 then (gw_X12_line_118 n (g_X12_must (hp_i h 57 0 (((292 + (12 * x1)) + x5).toNatClampNeg) ((h.1 57 0 (((292 + (12 * x1)) + x5).toNatClampNeg)) + (x3 * (h.1 57 0 (((292 + (12 * (x4 - 12))) + x5).toNatClampNeg))))) (if 9999 < ((hp_i h 57 0 (((292 + (12 * x1)) + x5).toNatClampNeg) ((h.1 57 0 (((292 + (12 * x1)) + x5).toNatClampNeg)) + (x3 * (h.1 57 0 (((292 + (12 * (x4 - 12))) + x5).toNatClampNeg))))).1 57 0 (((292 + (12 * x1)) + x5).toNatClampNeg)) then (0 : Int32) else 1) 5) x1 x2 x3 x4 (x5 + 1)) else (gw_X12_line_118 n (g_X12_must (hp_i h 57 0 (((292 + (12 * x1)) + x5).toNatClampNeg) ((h.1 57 0 (((292 + (12 * x1)) + x5).toNatClampNeg)) + (x3 * (if ¬ x4 = x5 then (0 : Int32) else 1)))) (if 9999 < ((hp_i h 57 0 (((292 + (12 * x1)) + x5).toNatClampNeg) ((h.1 57 0 (((292 + (12 * x1)) + x5).toNatClampNeg)) + (x3 * (if ¬ x4 = x5 then (0 : Int32) else 1)))).1 57 0 (((292 + (12 * x1)) + x5).toNatClampNeg)) then (0 : Int32) else 1) 5) x1 x2 x3 x4 (x5 + 1))))
set_option maxHeartbeats 4000000 in
theorem lw_X12_line_118 {X : WD → State → Prop} {d rb : Nat} {Qr : Option AV → Hp → Prop} {Qx : String → Hp → Prop}   : ∀ (n : Nat) (h : Hp) (x1 : Int32) (x2 : Int32) (x3 : Int32) (x4 : Int32) (x5 : Int32), pw_X12_line_118 n h x1 x2 x3 x4 x5 → Qr none (gw_X12_line_118 n h x1 x2 x3 x4 x5) → AW X (d + 5) rb mX12_line 118 [(0, vR 12 0), (1, vI x1), (2, vI x2), (3, vI x3), (4, vI x4), (5, vI x5)] [] h Qr Qx := by
  intro n
  induction n with
  | zero => intro h x1 x2 x3 x4 x5 hp; exact hp.elim
  | succ n ih =>
    intro h x1 x2 x3 x4 x5 hp k
    rw [pw_X12_line_118] at hp
    rw [gw_X12_line_118] at k
    refine vc_X12_line_118 (d := d + 4)  ?_
    refine ⟨fun c => ?_, fun c => ?_⟩
    · replace hp := hp.1 c
      try simp only [if_pos c] at k
      refine c_X12_hasFailed  hp.1 ?_
      replace hp := hp.2
      refine ⟨fun c => ?_, fun c => ?_⟩
      · replace hp := hp.1 c
        try simp only [if_pos c] at k
        refine c_X12_letters  hp.1 ?_
        replace hp := hp.2
        refine ⟨hp.1, ?_⟩
        replace hp := hp.2
        refine ⟨hp.1, ?_⟩
        replace hp := hp.2
        exact k
      · replace hp := hp.2 c
        try simp only [if_neg c] at k
        exact k
    · replace hp := hp.2 c
      try simp only [if_neg c] at k
      refine c_X12_hasFailed  hp.1 ?_
      replace hp := hp.2
      refine ⟨fun c => ?_, fun c => ?_⟩
      · replace hp := hp.1 c
        try simp only [if_pos c] at k
        refine c_X12_hasFailed  hp.1 ?_
        replace hp := hp.2
        refine ⟨fun c => ?_, fun c => ?_⟩
        · replace hp := hp.1 c
          try simp only [if_pos c] at k
          refine c_X12_letters  hp.1 ?_
          replace hp := hp.2
          refine ⟨hp.1, ?_⟩
          replace hp := hp.2
          refine ⟨hp.1, ?_⟩
          replace hp := hp.2
          exact k
        · replace hp := hp.2 c
          try simp only [if_neg c] at k
          exact k
      · replace hp := hp.2 c
        try simp only [if_neg (oa_nn c)] at k
        refine ⟨hp.1, ?_⟩
        replace hp := hp.2
        refine ⟨fun c => ?_, fun c => ?_⟩
        · replace hp := hp.1 c
          try simp only [if_pos c] at k
          refine ⟨hp.1, ?_⟩
          replace hp := hp.2
          refine ⟨hp.1, ?_⟩
          replace hp := hp.2
          refine ⟨hp.1, ?_⟩
          replace hp := hp.2
          refine c_X12_must  hp.1 ?_
          replace hp := hp.2
          exact ih _ _ _ _ _ _ hp k
        · replace hp := hp.2 c
          try simp only [if_neg c] at k
          refine ⟨hp.1, ?_⟩
          replace hp := hp.2
          refine ⟨hp.1, ?_⟩
          replace hp := hp.2
          refine c_X12_must  hp.1 ?_
          replace hp := hp.2
          exact ih _ _ _ _ _ _ hp k
def pw_X12_line_72 : Nat → Hp → Int32 → Int32 → Int32 → Int32 → Int32 → Prop
  | 0, _, _, _, _, _, _ => False
  | n + 1, h, x1, x2, x3, x4, x5 => ((x2 ≤ x5) → (pw_X12_line_118 oa_N h x1 x2 x3 x4 0)) ∧ ((¬ x2 ≤ x5) → ((vp_in ((196 + (6 * x1)) + x5) 506) ∧ (p_X12_must h (if (h.1 57 0 (((196 + (6 * x1)) + x5).toNatClampNeg)) = x4 then (0 : Int32) else 1) 3 ∧ (pw_X12_line_72 n (g_X12_must h (if (h.1 57 0 (((196 + (6 * x1)) + x5).toNatClampNeg)) = x4 then (0 : Int32) else 1) 3) x1 x2 x3 x4 (x5 + 1)))))
def gw_X12_line_72 : Nat → Hp → Int32 → Int32 → Int32 → Int32 → Int32 → Hp
  | 0, h, _, _, _, _, _ => h
  | n + 1, h, x1, x2, x3, x4, x5 => if x2 ≤ x5 then (gw_X12_line_118 oa_N h x1 x2 x3 x4 0) else (gw_X12_line_72 n (g_X12_must h (if (h.1 57 0 (((196 + (6 * x1)) + x5).toNatClampNeg)) = x4 then (0 : Int32) else 1) 3) x1 x2 x3 x4 (x5 + 1))
set_option maxHeartbeats 4000000 in
theorem lw_X12_line_72 {X : WD → State → Prop} {d rb : Nat} {Qr : Option AV → Hp → Prop} {Qx : String → Hp → Prop}   : ∀ (n : Nat) (h : Hp) (x1 : Int32) (x2 : Int32) (x3 : Int32) (x4 : Int32) (x5 : Int32), pw_X12_line_72 n h x1 x2 x3 x4 x5 → Qr none (gw_X12_line_72 n h x1 x2 x3 x4 x5) → AW X (d + 5) rb mX12_line 72 [(0, vR 12 0), (1, vI x1), (2, vI x2), (3, vI x3), (4, vI x4), (5, vI x5)] [] h Qr Qx := by
  intro n
  induction n with
  | zero => intro h x1 x2 x3 x4 x5 hp; exact hp.elim
  | succ n ih =>
    intro h x1 x2 x3 x4 x5 hp k
    rw [pw_X12_line_72] at hp
    rw [gw_X12_line_72] at k
    refine vc_X12_line_72 (d := d + 4)  ?_
    refine ⟨fun c => ?_, fun c => ?_⟩
    · replace hp := hp.1 c
      try simp only [if_pos c] at k
      exact lw_X12_line_118  _ _ _ _ _ _ _ hp k
    · replace hp := hp.2 c
      try simp only [if_neg c] at k
      refine ⟨hp.1, ?_⟩
      replace hp := hp.2
      refine c_X12_must  hp.1 ?_
      replace hp := hp.2
      exact ih _ _ _ _ _ _ hp k
def p_X12_line (h : Hp) (a1 : Int32) (a2 : Int32) : Prop := p_X12_blanks h ∧ (((a2 < 6) → (p_X12_must (g_X12_blanks h) 1 4 ∧ (p_X12_number (g_X12_must (g_X12_blanks h) 1 4) 1 20 ∧ (p_X12_hasFailed (g_X12_number (g_X12_must (g_X12_blanks h) 1 4) 1 20) ∧ ((((f_X12_hasFailed (g_X12_number (g_X12_must (g_X12_blanks h) 1 4) 1 20)) = 0) → (p_X12_named (g_X12_number (g_X12_must (g_X12_blanks h) 1 4) 1 20) ∧ (p_X12_must (g_X12_named (g_X12_number (g_X12_must (g_X12_blanks h) 1 4) 1 20)) (if (f_X12_named (g_X12_number (g_X12_must (g_X12_blanks h) 1 4) 1 20)) = (-1) then (0 : Int32) else 1) 3 ∧ (pw_X12_line_72 oa_N (g_X12_must (g_X12_named (g_X12_number (g_X12_must (g_X12_blanks h) 1 4) 1 20)) (if (f_X12_named (g_X12_number (g_X12_must (g_X12_blanks h) 1 4) 1 20)) = (-1) then (0 : Int32) else 1) 3) a1 a2 (f_X12_number (g_X12_must (g_X12_blanks h) 1 4) 1 20) (f_X12_named (g_X12_number (g_X12_must (g_X12_blanks h) 1 4) 1 20)) 0)))) ∧ ((¬ (f_X12_hasFailed (g_X12_number (g_X12_must (g_X12_blanks h) 1 4) 1 20)) = 0) → True)))))) ∧ ((¬ a2 < 6) → (p_X12_isAt (g_X12_blanks h) 48 57 ∧ (p_X12_must (g_X12_blanks h) (if ¬ (f_X12_isAt (g_X12_blanks h) 48 57) = 0 then (0 : Int32) else 1) 4 ∧ (p_X12_number (g_X12_must (g_X12_blanks h) (if ¬ (f_X12_isAt (g_X12_blanks h) 48 57) = 0 then (0 : Int32) else 1) 4) 1 20 ∧ (p_X12_hasFailed (g_X12_number (g_X12_must (g_X12_blanks h) (if ¬ (f_X12_isAt (g_X12_blanks h) 48 57) = 0 then (0 : Int32) else 1) 4) 1 20) ∧ ((((f_X12_hasFailed (g_X12_number (g_X12_must (g_X12_blanks h) (if ¬ (f_X12_isAt (g_X12_blanks h) 48 57) = 0 then (0 : Int32) else 1) 4) 1 20)) = 0) → (p_X12_named (g_X12_number (g_X12_must (g_X12_blanks h) (if ¬ (f_X12_isAt (g_X12_blanks h) 48 57) = 0 then (0 : Int32) else 1) 4) 1 20) ∧ (p_X12_must (g_X12_named (g_X12_number (g_X12_must (g_X12_blanks h) (if ¬ (f_X12_isAt (g_X12_blanks h) 48 57) = 0 then (0 : Int32) else 1) 4) 1 20)) (if (f_X12_named (g_X12_number (g_X12_must (g_X12_blanks h) (if ¬ (f_X12_isAt (g_X12_blanks h) 48 57) = 0 then (0 : Int32) else 1) 4) 1 20)) = (-1) then (0 : Int32) else 1) 3 ∧ (pw_X12_line_72 oa_N (g_X12_must (g_X12_named (g_X12_number (g_X12_must (g_X12_blanks h) (if ¬ (f_X12_isAt (g_X12_blanks h) 48 57) = 0 then (0 : Int32) else 1) 4) 1 20)) (if (f_X12_named (g_X12_number (g_X12_must (g_X12_blanks h) (if ¬ (f_X12_isAt (g_X12_blanks h) 48 57) = 0 then (0 : Int32) else 1) 4) 1 20)) = (-1) then (0 : Int32) else 1) 3) a1 a2 (f_X12_number (g_X12_must (g_X12_blanks h) (if ¬ (f_X12_isAt (g_X12_blanks h) 48 57) = 0 then (0 : Int32) else 1) 4) 1 20) (f_X12_named (g_X12_number (g_X12_must (g_X12_blanks h) (if ¬ (f_X12_isAt (g_X12_blanks h) 48 57) = 0 then (0 : Int32) else 1) 4) 1 20)) 0)))) ∧ ((¬ (f_X12_hasFailed (g_X12_number (g_X12_must (g_X12_blanks h) (if ¬ (f_X12_isAt (g_X12_blanks h) 48 57) = 0 then (0 : Int32) else 1) 4) 1 20)) = 0) → True))))))))
def g_X12_line (h : Hp) (a1 : Int32) (a2 : Int32) : Hp := if a2 < 6 then (if (f_X12_hasFailed (g_X12_number (g_X12_must (g_X12_blanks h) 1 4) 1 20)) = 0 then (gw_X12_line_72 oa_N (g_X12_must (g_X12_named (g_X12_number (g_X12_must (g_X12_blanks h) 1 4) 1 20)) (if (f_X12_named (g_X12_number (g_X12_must (g_X12_blanks h) 1 4) 1 20)) = (-1) then (0 : Int32) else 1) 3) a1 a2 (f_X12_number (g_X12_must (g_X12_blanks h) 1 4) 1 20) (f_X12_named (g_X12_number (g_X12_must (g_X12_blanks h) 1 4) 1 20)) 0) else (g_X12_number (g_X12_must (g_X12_blanks h) 1 4) 1 20)) else (if (f_X12_hasFailed (g_X12_number (g_X12_must (g_X12_blanks h) (if ¬ (f_X12_isAt (g_X12_blanks h) 48 57) = 0 then (0 : Int32) else 1) 4) 1 20)) = 0 then (gw_X12_line_72 oa_N (g_X12_must (g_X12_named (g_X12_number (g_X12_must (g_X12_blanks h) (if ¬ (f_X12_isAt (g_X12_blanks h) 48 57) = 0 then (0 : Int32) else 1) 4) 1 20)) (if (f_X12_named (g_X12_number (g_X12_must (g_X12_blanks h) (if ¬ (f_X12_isAt (g_X12_blanks h) 48 57) = 0 then (0 : Int32) else 1) 4) 1 20)) = (-1) then (0 : Int32) else 1) 3) a1 a2 (f_X12_number (g_X12_must (g_X12_blanks h) (if ¬ (f_X12_isAt (g_X12_blanks h) 48 57) = 0 then (0 : Int32) else 1) 4) 1 20) (f_X12_named (g_X12_number (g_X12_must (g_X12_blanks h) (if ¬ (f_X12_isAt (g_X12_blanks h) 48 57) = 0 then (0 : Int32) else 1) 4) 1 20)) 0) else (g_X12_number (g_X12_must (g_X12_blanks h) (if ¬ (f_X12_isAt (g_X12_blanks h) 48 57) = 0 then (0 : Int32) else 1) 4) 1 20))
set_option maxHeartbeats 4000000 in
theorem c_X12_line {d : Nat} {h : Hp} {P : Hp → Prop} {Qx : String → Hp → Prop} {a1 : Int32} {a2 : Int32}  (hp : p_X12_line h a1 a2) (k : P  (g_X12_line h a1 a2)) : CL 0 (d + 5) mX12_line [vR 12 0, vI a1, vI a2] h (oV P) Qx := by
  replace k : oV P none (g_X12_line h a1 a2) := k
  unfold p_X12_line at hp
  unfold g_X12_line at k
  refine CL.ofF (plainFor_of_name rfl) rfl (Nat.le_of_ble_eq_true rfl) (vc_X12_line_0 (d := d + 4)  ?_)
  refine c_X12_blanks  hp.1 ?_
  replace hp := hp.2
  refine ⟨fun c => ?_, fun c => ?_⟩
  · replace hp := hp.1 c
    try simp only [if_pos c] at k
    refine c_X12_must  hp.1 ?_
    replace hp := hp.2
    refine c_X12_number  hp.1 ?_
    replace hp := hp.2
    refine c_X12_hasFailed  hp.1 ?_
    replace hp := hp.2
    refine ⟨fun c => ?_, fun c => ?_⟩
    · replace hp := hp.1 c
      try simp only [if_pos c] at k
      refine c_X12_named  hp.1 ?_
      replace hp := hp.2
      refine c_X12_must  hp.1 ?_
      replace hp := hp.2
      exact lw_X12_line_72  _ _ _ _ _ _ _ hp k
    · replace hp := hp.2 c
      try simp only [if_neg c] at k
      exact k
  · replace hp := hp.2 c
    try simp only [if_neg c] at k
    refine c_X12_isAt  hp.1 ?_
    replace hp := hp.2
    refine c_X12_must  hp.1 ?_
    replace hp := hp.2
    refine c_X12_number  hp.1 ?_
    replace hp := hp.2
    refine c_X12_hasFailed  hp.1 ?_
    replace hp := hp.2
    refine ⟨fun c => ?_, fun c => ?_⟩
    · replace hp := hp.1 c
      try simp only [if_pos c] at k
      refine c_X12_named  hp.1 ?_
      replace hp := hp.2
      refine c_X12_must  hp.1 ?_
      replace hp := hp.2
      exact lw_X12_line_72  _ _ _ _ _ _ _ hp k
    · replace hp := hp.2 c
      try simp only [if_neg c] at k
      exact k
def p_X12_rung (h : Hp)  : Prop := p_X12_must h (if 6 ≤ (h.1 12 0 13) then (0 : Int32) else 1) 4 ∧ (p_X12_hasFailed (g_X12_must h (if 6 ≤ (h.1 12 0 13) then (0 : Int32) else 1) 4) ∧ ((((f_X12_hasFailed (g_X12_must h (if 6 ≤ (h.1 12 0 13) then (0 : Int32) else 1) 4)) = 0) → (p_X12_number (hp_i (g_X12_must h (if 6 ≤ (h.1 12 0 13) then (0 : Int32) else 1) 4) 12 0 4 (((g_X12_must h (if 6 ≤ (h.1 12 0 13) then (0 : Int32) else 1) 4).1 12 0 4) + 4)) 0 9 ∧ ((vp_in (388 + (3 * ((hp_i (g_X12_must h (if 6 ≤ (h.1 12 0 13) then (0 : Int32) else 1) 4) 12 0 4 (((g_X12_must h (if 6 ≤ (h.1 12 0 13) then (0 : Int32) else 1) 4).1 12 0 4) + 4)).1 12 0 13))) 506) ∧ ((vp_in (388 + (3 * ((hp_i (g_X12_must h (if 6 ≤ (h.1 12 0 13) then (0 : Int32) else 1) 4) 12 0 4 (((g_X12_must h (if 6 ≤ (h.1 12 0 13) then (0 : Int32) else 1) 4).1 12 0 4) + 4)).1 12 0 13))) 506) ∧ (p_X12_number (hp_i (g_X12_number (hp_i (g_X12_must h (if 6 ≤ (h.1 12 0 13) then (0 : Int32) else 1) 4) 12 0 4 (((g_X12_must h (if 6 ≤ (h.1 12 0 13) then (0 : Int32) else 1) 4).1 12 0 4) + 4)) 0 9) 57 0 ((388 + (3 * ((hp_i (g_X12_must h (if 6 ≤ (h.1 12 0 13) then (0 : Int32) else 1) 4) 12 0 4 (((g_X12_must h (if 6 ≤ (h.1 12 0 13) then (0 : Int32) else 1) 4).1 12 0 4) + 4)).1 12 0 13))).toNatClampNeg) (f_X12_number (hp_i (g_X12_must h (if 6 ≤ (h.1 12 0 13) then (0 : Int32) else 1) 4) 12 0 4 (((g_X12_must h (if 6 ≤ (h.1 12 0 13) then (0 : Int32) else 1) 4).1 12 0 4) + 4)) 0 9)) ((hp_i (g_X12_number (hp_i (g_X12_must h (if 6 ≤ (h.1 12 0 13) then (0 : Int32) else 1) 4) 12 0 4 (((g_X12_must h (if 6 ≤ (h.1 12 0 13) then (0 : Int32) else 1) 4).1 12 0 4) + 4)) 0 9) 57 0 ((388 + (3 * ((hp_i (g_X12_must h (if 6 ≤ (h.1 12 0 13) then (0 : Int32) else 1) 4) 12 0 4 (((g_X12_must h (if 6 ≤ (h.1 12 0 13) then (0 : Int32) else 1) 4).1 12 0 4) + 4)).1 12 0 13))).toNatClampNeg) (f_X12_number (hp_i (g_X12_must h (if 6 ≤ (h.1 12 0 13) then (0 : Int32) else 1) 4) 12 0 4 (((g_X12_must h (if 6 ≤ (h.1 12 0 13) then (0 : Int32) else 1) 4).1 12 0 4) + 4)) 0 9)).1 57 0 ((388 + (3 * ((hp_i (g_X12_must h (if 6 ≤ (h.1 12 0 13) then (0 : Int32) else 1) 4) 12 0 4 (((g_X12_must h (if 6 ≤ (h.1 12 0 13) then (0 : Int32) else 1) 4).1 12 0 4) + 4)).1 12 0 13))).toNatClampNeg)) 9 ∧ ((vp_in ((388 + (3 * ((hp_i (g_X12_must h (if 6 ≤ (h.1 12 0 13) then (0 : Int32) else 1) 4) 12 0 4 (((g_X12_must h (if 6 ≤ (h.1 12 0 13) then (0 : Int32) else 1) 4).1 12 0 4) + 4)).1 12 0 13))) + 1) 506) ∧ (p_X12_number (hp_i (g_X12_number (hp_i (g_X12_number (hp_i (g_X12_must h (if 6 ≤ (h.1 12 0 13) then (0 : Int32) else 1) 4) 12 0 4 (((g_X12_must h (if 6 ≤ (h.1 12 0 13) then (0 : Int32) else 1) 4).1 12 0 4) + 4)) 0 9) 57 0 ((388 + (3 * ((hp_i (g_X12_must h (if 6 ≤ (h.1 12 0 13) then (0 : Int32) else 1) 4) 12 0 4 (((g_X12_must h (if 6 ≤ (h.1 12 0 13) then (0 : Int32) else 1) 4).1 12 0 4) + 4)).1 12 0 13))).toNatClampNeg) (f_X12_number (hp_i (g_X12_must h (if 6 ≤ (h.1 12 0 13) then (0 : Int32) else 1) 4) 12 0 4 (((g_X12_must h (if 6 ≤ (h.1 12 0 13) then (0 : Int32) else 1) 4).1 12 0 4) + 4)) 0 9)) ((hp_i (g_X12_number (hp_i (g_X12_must h (if 6 ≤ (h.1 12 0 13) then (0 : Int32) else 1) 4) 12 0 4 (((g_X12_must h (if 6 ≤ (h.1 12 0 13) then (0 : Int32) else 1) 4).1 12 0 4) + 4)) 0 9) 57 0 ((388 + (3 * ((hp_i (g_X12_must h (if 6 ≤ (h.1 12 0 13) then (0 : Int32) else 1) 4) 12 0 4 (((g_X12_must h (if 6 ≤ (h.1 12 0 13) then (0 : Int32) else 1) 4).1 12 0 4) + 4)).1 12 0 13))).toNatClampNeg) (f_X12_number (hp_i (g_X12_must h (if 6 ≤ (h.1 12 0 13) then (0 : Int32) else 1) 4) 12 0 4 (((g_X12_must h (if 6 ≤ (h.1 12 0 13) then (0 : Int32) else 1) 4).1 12 0 4) + 4)) 0 9)).1 57 0 ((388 + (3 * ((hp_i (g_X12_must h (if 6 ≤ (h.1 12 0 13) then (0 : Int32) else 1) 4) 12 0 4 (((g_X12_must h (if 6 ≤ (h.1 12 0 13) then (0 : Int32) else 1) 4).1 12 0 4) + 4)).1 12 0 13))).toNatClampNeg)) 9) 57 0 (((388 + (3 * ((hp_i (g_X12_must h (if 6 ≤ (h.1 12 0 13) then (0 : Int32) else 1) 4) 12 0 4 (((g_X12_must h (if 6 ≤ (h.1 12 0 13) then (0 : Int32) else 1) 4).1 12 0 4) + 4)).1 12 0 13))) + 1).toNatClampNeg) (f_X12_number (hp_i (g_X12_number (hp_i (g_X12_must h (if 6 ≤ (h.1 12 0 13) then (0 : Int32) else 1) 4) 12 0 4 (((g_X12_must h (if 6 ≤ (h.1 12 0 13) then (0 : Int32) else 1) 4).1 12 0 4) + 4)) 0 9) 57 0 ((388 + (3 * ((hp_i (g_X12_must h (if 6 ≤ (h.1 12 0 13) then (0 : Int32) else 1) 4) 12 0 4 (((g_X12_must h (if 6 ≤ (h.1 12 0 13) then (0 : Int32) else 1) 4).1 12 0 4) + 4)).1 12 0 13))).toNatClampNeg) (f_X12_number (hp_i (g_X12_must h (if 6 ≤ (h.1 12 0 13) then (0 : Int32) else 1) 4) 12 0 4 (((g_X12_must h (if 6 ≤ (h.1 12 0 13) then (0 : Int32) else 1) 4).1 12 0 4) + 4)) 0 9)) ((hp_i (g_X12_number (hp_i (g_X12_must h (if 6 ≤ (h.1 12 0 13) then (0 : Int32) else 1) 4) 12 0 4 (((g_X12_must h (if 6 ≤ (h.1 12 0 13) then (0 : Int32) else 1) 4).1 12 0 4) + 4)) 0 9) 57 0 ((388 + (3 * ((hp_i (g_X12_must h (if 6 ≤ (h.1 12 0 13) then (0 : Int32) else 1) 4) 12 0 4 (((g_X12_must h (if 6 ≤ (h.1 12 0 13) then (0 : Int32) else 1) 4).1 12 0 4) + 4)).1 12 0 13))).toNatClampNeg) (f_X12_number (hp_i (g_X12_must h (if 6 ≤ (h.1 12 0 13) then (0 : Int32) else 1) 4) 12 0 4 (((g_X12_must h (if 6 ≤ (h.1 12 0 13) then (0 : Int32) else 1) 4).1 12 0 4) + 4)) 0 9)).1 57 0 ((388 + (3 * ((hp_i (g_X12_must h (if 6 ≤ (h.1 12 0 13) then (0 : Int32) else 1) 4) 12 0 4 (((g_X12_must h (if 6 ≤ (h.1 12 0 13) then (0 : Int32) else 1) 4).1 12 0 4) + 4)).1 12 0 13))).toNatClampNeg)) 9)) 1 100 ∧ ((vp_in ((388 + (3 * ((hp_i (g_X12_must h (if 6 ≤ (h.1 12 0 13) then (0 : Int32) else 1) 4) 12 0 4 (((g_X12_must h (if 6 ≤ (h.1 12 0 13) then (0 : Int32) else 1) 4).1 12 0 4) + 4)).1 12 0 13))) + 2) 506) ∧ True)))))))) ∧ ((¬ (f_X12_hasFailed (g_X12_must h (if 6 ≤ (h.1 12 0 13) then (0 : Int32) else 1) 4)) = 0) → True)))
def g_X12_rung (h : Hp)  : Hp := if (f_X12_hasFailed (g_X12_must h (if 6 ≤ (h.1 12 0 13) then (0 : Int32) else 1) 4)) = 0 then (hp_i (hp_i (hp_i (g_X12_number (hp_i (g_X12_number (hp_i (g_X12_number (hp_i (g_X12_must h (if 6 ≤ (h.1 12 0 13) then (0 : Int32) else 1) 4) 12 0 4 (((g_X12_must h (if 6 ≤ (h.1 12 0 13) then (0 : Int32) else 1) 4).1 12 0 4) + 4)) 0 9) 57 0 ((388 + (3 * ((hp_i (g_X12_must h (if 6 ≤ (h.1 12 0 13) then (0 : Int32) else 1) 4) 12 0 4 (((g_X12_must h (if 6 ≤ (h.1 12 0 13) then (0 : Int32) else 1) 4).1 12 0 4) + 4)).1 12 0 13))).toNatClampNeg) (f_X12_number (hp_i (g_X12_must h (if 6 ≤ (h.1 12 0 13) then (0 : Int32) else 1) 4) 12 0 4 (((g_X12_must h (if 6 ≤ (h.1 12 0 13) then (0 : Int32) else 1) 4).1 12 0 4) + 4)) 0 9)) ((hp_i (g_X12_number (hp_i (g_X12_must h (if 6 ≤ (h.1 12 0 13) then (0 : Int32) else 1) 4) 12 0 4 (((g_X12_must h (if 6 ≤ (h.1 12 0 13) then (0 : Int32) else 1) 4).1 12 0 4) + 4)) 0 9) 57 0 ((388 + (3 * ((hp_i (g_X12_must h (if 6 ≤ (h.1 12 0 13) then (0 : Int32) else 1) 4) 12 0 4 (((g_X12_must h (if 6 ≤ (h.1 12 0 13) then (0 : Int32) else 1) 4).1 12 0 4) + 4)).1 12 0 13))).toNatClampNeg) (f_X12_number (hp_i (g_X12_must h (if 6 ≤ (h.1 12 0 13) then (0 : Int32) else 1) 4) 12 0 4 (((g_X12_must h (if 6 ≤ (h.1 12 0 13) then (0 : Int32) else 1) 4).1 12 0 4) + 4)) 0 9)).1 57 0 ((388 + (3 * ((hp_i (g_X12_must h (if 6 ≤ (h.1 12 0 13) then (0 : Int32) else 1) 4) 12 0 4 (((g_X12_must h (if 6 ≤ (h.1 12 0 13) then (0 : Int32) else 1) 4).1 12 0 4) + 4)).1 12 0 13))).toNatClampNeg)) 9) 57 0 (((388 + (3 * ((hp_i (g_X12_must h (if 6 ≤ (h.1 12 0 13) then (0 : Int32) else 1) 4) 12 0 4 (((g_X12_must h (if 6 ≤ (h.1 12 0 13) then (0 : Int32) else 1) 4).1 12 0 4) + 4)).1 12 0 13))) + 1).toNatClampNeg) (f_X12_number (hp_i (g_X12_number (hp_i (g_X12_must h (if 6 ≤ (h.1 12 0 13) then (0 : Int32) else 1) 4) 12 0 4 (((g_X12_must h (if 6 ≤ (h.1 12 0 13) then (0 : Int32) else 1) 4).1 12 0 4) + 4)) 0 9) 57 0 ((388 + (3 * ((hp_i (g_X12_must h (if 6 ≤ (h.1 12 0 13) then (0 : Int32) else 1) 4) 12 0 4 (((g_X12_must h (if 6 ≤ (h.1 12 0 13) then (0 : Int32) else 1) 4).1 12 0 4) + 4)).1 12 0 13))).toNatClampNeg) (f_X12_number (hp_i (g_X12_must h (if 6 ≤ (h.1 12 0 13) then (0 : Int32) else 1) 4) 12 0 4 (((g_X12_must h (if 6 ≤ (h.1 12 0 13) then (0 : Int32) else 1) 4).1 12 0 4) + 4)) 0 9)) ((hp_i (g_X12_number (hp_i (g_X12_must h (if 6 ≤ (h.1 12 0 13) then (0 : Int32) else 1) 4) 12 0 4 (((g_X12_must h (if 6 ≤ (h.1 12 0 13) then (0 : Int32) else 1) 4).1 12 0 4) + 4)) 0 9) 57 0 ((388 + (3 * ((hp_i (g_X12_must h (if 6 ≤ (h.1 12 0 13) then (0 : Int32) else 1) 4) 12 0 4 (((g_X12_must h (if 6 ≤ (h.1 12 0 13) then (0 : Int32) else 1) 4).1 12 0 4) + 4)).1 12 0 13))).toNatClampNeg) (f_X12_number (hp_i (g_X12_must h (if 6 ≤ (h.1 12 0 13) then (0 : Int32) else 1) 4) 12 0 4 (((g_X12_must h (if 6 ≤ (h.1 12 0 13) then (0 : Int32) else 1) 4).1 12 0 4) + 4)) 0 9)).1 57 0 ((388 + (3 * ((hp_i (g_X12_must h (if 6 ≤ (h.1 12 0 13) then (0 : Int32) else 1) 4) 12 0 4 (((g_X12_must h (if 6 ≤ (h.1 12 0 13) then (0 : Int32) else 1) 4).1 12 0 4) + 4)).1 12 0 13))).toNatClampNeg)) 9)) 1 100) 57 0 (((388 + (3 * ((hp_i (g_X12_must h (if 6 ≤ (h.1 12 0 13) then (0 : Int32) else 1) 4) 12 0 4 (((g_X12_must h (if 6 ≤ (h.1 12 0 13) then (0 : Int32) else 1) 4).1 12 0 4) + 4)).1 12 0 13))) + 2).toNatClampNeg) (f_X12_number (hp_i (g_X12_number (hp_i (g_X12_number (hp_i (g_X12_must h (if 6 ≤ (h.1 12 0 13) then (0 : Int32) else 1) 4) 12 0 4 (((g_X12_must h (if 6 ≤ (h.1 12 0 13) then (0 : Int32) else 1) 4).1 12 0 4) + 4)) 0 9) 57 0 ((388 + (3 * ((hp_i (g_X12_must h (if 6 ≤ (h.1 12 0 13) then (0 : Int32) else 1) 4) 12 0 4 (((g_X12_must h (if 6 ≤ (h.1 12 0 13) then (0 : Int32) else 1) 4).1 12 0 4) + 4)).1 12 0 13))).toNatClampNeg) (f_X12_number (hp_i (g_X12_must h (if 6 ≤ (h.1 12 0 13) then (0 : Int32) else 1) 4) 12 0 4 (((g_X12_must h (if 6 ≤ (h.1 12 0 13) then (0 : Int32) else 1) 4).1 12 0 4) + 4)) 0 9)) ((hp_i (g_X12_number (hp_i (g_X12_must h (if 6 ≤ (h.1 12 0 13) then (0 : Int32) else 1) 4) 12 0 4 (((g_X12_must h (if 6 ≤ (h.1 12 0 13) then (0 : Int32) else 1) 4).1 12 0 4) + 4)) 0 9) 57 0 ((388 + (3 * ((hp_i (g_X12_must h (if 6 ≤ (h.1 12 0 13) then (0 : Int32) else 1) 4) 12 0 4 (((g_X12_must h (if 6 ≤ (h.1 12 0 13) then (0 : Int32) else 1) 4).1 12 0 4) + 4)).1 12 0 13))).toNatClampNeg) (f_X12_number (hp_i (g_X12_must h (if 6 ≤ (h.1 12 0 13) then (0 : Int32) else 1) 4) 12 0 4 (((g_X12_must h (if 6 ≤ (h.1 12 0 13) then (0 : Int32) else 1) 4).1 12 0 4) + 4)) 0 9)).1 57 0 ((388 + (3 * ((hp_i (g_X12_must h (if 6 ≤ (h.1 12 0 13) then (0 : Int32) else 1) 4) 12 0 4 (((g_X12_must h (if 6 ≤ (h.1 12 0 13) then (0 : Int32) else 1) 4).1 12 0 4) + 4)).1 12 0 13))).toNatClampNeg)) 9) 57 0 (((388 + (3 * ((hp_i (g_X12_must h (if 6 ≤ (h.1 12 0 13) then (0 : Int32) else 1) 4) 12 0 4 (((g_X12_must h (if 6 ≤ (h.1 12 0 13) then (0 : Int32) else 1) 4).1 12 0 4) + 4)).1 12 0 13))) + 1).toNatClampNeg) (f_X12_number (hp_i (g_X12_number (hp_i (g_X12_must h (if 6 ≤ (h.1 12 0 13) then (0 : Int32) else 1) 4) 12 0 4 (((g_X12_must h (if 6 ≤ (h.1 12 0 13) then (0 : Int32) else 1) 4).1 12 0 4) + 4)) 0 9) 57 0 ((388 + (3 * ((hp_i (g_X12_must h (if 6 ≤ (h.1 12 0 13) then (0 : Int32) else 1) 4) 12 0 4 (((g_X12_must h (if 6 ≤ (h.1 12 0 13) then (0 : Int32) else 1) 4).1 12 0 4) + 4)).1 12 0 13))).toNatClampNeg) (f_X12_number (hp_i (g_X12_must h (if 6 ≤ (h.1 12 0 13) then (0 : Int32) else 1) 4) 12 0 4 (((g_X12_must h (if 6 ≤ (h.1 12 0 13) then (0 : Int32) else 1) 4).1 12 0 4) + 4)) 0 9)) ((hp_i (g_X12_number (hp_i (g_X12_must h (if 6 ≤ (h.1 12 0 13) then (0 : Int32) else 1) 4) 12 0 4 (((g_X12_must h (if 6 ≤ (h.1 12 0 13) then (0 : Int32) else 1) 4).1 12 0 4) + 4)) 0 9) 57 0 ((388 + (3 * ((hp_i (g_X12_must h (if 6 ≤ (h.1 12 0 13) then (0 : Int32) else 1) 4) 12 0 4 (((g_X12_must h (if 6 ≤ (h.1 12 0 13) then (0 : Int32) else 1) 4).1 12 0 4) + 4)).1 12 0 13))).toNatClampNeg) (f_X12_number (hp_i (g_X12_must h (if 6 ≤ (h.1 12 0 13) then (0 : Int32) else 1) 4) 12 0 4 (((g_X12_must h (if 6 ≤ (h.1 12 0 13) then (0 : Int32) else 1) 4).1 12 0 4) + 4)) 0 9)).1 57 0 ((388 + (3 * ((hp_i (g_X12_must h (if 6 ≤ (h.1 12 0 13) then (0 : Int32) else 1) 4) 12 0 4 (((g_X12_must h (if 6 ≤ (h.1 12 0 13) then (0 : Int32) else 1) 4).1 12 0 4) + 4)).1 12 0 13))).toNatClampNeg)) 9)) 1 100)) 12 0 13 (((g_X12_number (hp_i (g_X12_number (hp_i (g_X12_number (hp_i (g_X12_must h (if 6 ≤ (h.1 12 0 13) then (0 : Int32) else 1) 4) 12 0 4 (((g_X12_must h (if 6 ≤ (h.1 12 0 13) then (0 : Int32) else 1) 4).1 12 0 4) + 4)) 0 9) 57 0 ((388 + (3 * ((hp_i (g_X12_must h (if 6 ≤ (h.1 12 0 13) then (0 : Int32) else 1) 4) 12 0 4 (((g_X12_must h (if 6 ≤ (h.1 12 0 13) then (0 : Int32) else 1) 4).1 12 0 4) + 4)).1 12 0 13))).toNatClampNeg) (f_X12_number (hp_i (g_X12_must h (if 6 ≤ (h.1 12 0 13) then (0 : Int32) else 1) 4) 12 0 4 (((g_X12_must h (if 6 ≤ (h.1 12 0 13) then (0 : Int32) else 1) 4).1 12 0 4) + 4)) 0 9)) ((hp_i (g_X12_number (hp_i (g_X12_must h (if 6 ≤ (h.1 12 0 13) then (0 : Int32) else 1) 4) 12 0 4 (((g_X12_must h (if 6 ≤ (h.1 12 0 13) then (0 : Int32) else 1) 4).1 12 0 4) + 4)) 0 9) 57 0 ((388 + (3 * ((hp_i (g_X12_must h (if 6 ≤ (h.1 12 0 13) then (0 : Int32) else 1) 4) 12 0 4 (((g_X12_must h (if 6 ≤ (h.1 12 0 13) then (0 : Int32) else 1) 4).1 12 0 4) + 4)).1 12 0 13))).toNatClampNeg) (f_X12_number (hp_i (g_X12_must h (if 6 ≤ (h.1 12 0 13) then (0 : Int32) else 1) 4) 12 0 4 (((g_X12_must h (if 6 ≤ (h.1 12 0 13) then (0 : Int32) else 1) 4).1 12 0 4) + 4)) 0 9)).1 57 0 ((388 + (3 * ((hp_i (g_X12_must h (if 6 ≤ (h.1 12 0 13) then (0 : Int32) else 1) 4) 12 0 4 (((g_X12_must h (if 6 ≤ (h.1 12 0 13) then (0 : Int32) else 1) 4).1 12 0 4) + 4)).1 12 0 13))).toNatClampNeg)) 9) 57 0 (((388 + (3 * ((hp_i (g_X12_must h (if 6 ≤ (h.1 12 0 13) then (0 : Int32) else 1) 4) 12 0 4 (((g_X12_must h (if 6 ≤ (h.1 12 0 13) then (0 : Int32) else 1) 4).1 12 0 4) + 4)).1 12 0 13))) + 1).toNatClampNeg) (f_X12_number (hp_i (g_X12_number (hp_i (g_X12_must h (if 6 ≤ (h.1 12 0 13) then (0 : Int32) else 1) 4) 12 0 4 (((g_X12_must h (if 6 ≤ (h.1 12 0 13) then (0 : Int32) else 1) 4).1 12 0 4) + 4)) 0 9) 57 0 ((388 + (3 * ((hp_i (g_X12_must h (if 6 ≤ (h.1 12 0 13) then (0 : Int32) else 1) 4) 12 0 4 (((g_X12_must h (if 6 ≤ (h.1 12 0 13) then (0 : Int32) else 1) 4).1 12 0 4) + 4)).1 12 0 13))).toNatClampNeg) (f_X12_number (hp_i (g_X12_must h (if 6 ≤ (h.1 12 0 13) then (0 : Int32) else 1) 4) 12 0 4 (((g_X12_must h (if 6 ≤ (h.1 12 0 13) then (0 : Int32) else 1) 4).1 12 0 4) + 4)) 0 9)) ((hp_i (g_X12_number (hp_i (g_X12_must h (if 6 ≤ (h.1 12 0 13) then (0 : Int32) else 1) 4) 12 0 4 (((g_X12_must h (if 6 ≤ (h.1 12 0 13) then (0 : Int32) else 1) 4).1 12 0 4) + 4)) 0 9) 57 0 ((388 + (3 * ((hp_i (g_X12_must h (if 6 ≤ (h.1 12 0 13) then (0 : Int32) else 1) 4) 12 0 4 (((g_X12_must h (if 6 ≤ (h.1 12 0 13) then (0 : Int32) else 1) 4).1 12 0 4) + 4)).1 12 0 13))).toNatClampNeg) (f_X12_number (hp_i (g_X12_must h (if 6 ≤ (h.1 12 0 13) then (0 : Int32) else 1) 4) 12 0 4 (((g_X12_must h (if 6 ≤ (h.1 12 0 13) then (0 : Int32) else 1) 4).1 12 0 4) + 4)) 0 9)).1 57 0 ((388 + (3 * ((hp_i (g_X12_must h (if 6 ≤ (h.1 12 0 13) then (0 : Int32) else 1) 4) 12 0 4 (((g_X12_must h (if 6 ≤ (h.1 12 0 13) then (0 : Int32) else 1) 4).1 12 0 4) + 4)).1 12 0 13))).toNatClampNeg)) 9)) 1 100).1 12 0 13) + 1)) 57 0 2 ((hp_i (hp_i (g_X12_number (hp_i (g_X12_number (hp_i (g_X12_number (hp_i (g_X12_must h (if 6 ≤ (h.1 12 0 13) then (0 : Int32) else 1) 4) 12 0 4 (((g_X12_must h (if 6 ≤ (h.1 12 0 13) then (0 : Int32) else 1) 4).1 12 0 4) + 4)) 0 9) 57 0 ((388 + (3 * ((hp_i (g_X12_must h (if 6 ≤ (h.1 12 0 13) then (0 : Int32) else 1) 4) 12 0 4 (((g_X12_must h (if 6 ≤ (h.1 12 0 13) then (0 : Int32) else 1) 4).1 12 0 4) + 4)).1 12 0 13))).toNatClampNeg) (f_X12_number (hp_i (g_X12_must h (if 6 ≤ (h.1 12 0 13) then (0 : Int32) else 1) 4) 12 0 4 (((g_X12_must h (if 6 ≤ (h.1 12 0 13) then (0 : Int32) else 1) 4).1 12 0 4) + 4)) 0 9)) ((hp_i (g_X12_number (hp_i (g_X12_must h (if 6 ≤ (h.1 12 0 13) then (0 : Int32) else 1) 4) 12 0 4 (((g_X12_must h (if 6 ≤ (h.1 12 0 13) then (0 : Int32) else 1) 4).1 12 0 4) + 4)) 0 9) 57 0 ((388 + (3 * ((hp_i (g_X12_must h (if 6 ≤ (h.1 12 0 13) then (0 : Int32) else 1) 4) 12 0 4 (((g_X12_must h (if 6 ≤ (h.1 12 0 13) then (0 : Int32) else 1) 4).1 12 0 4) + 4)).1 12 0 13))).toNatClampNeg) (f_X12_number (hp_i (g_X12_must h (if 6 ≤ (h.1 12 0 13) then (0 : Int32) else 1) 4) 12 0 4 (((g_X12_must h (if 6 ≤ (h.1 12 0 13) then (0 : Int32) else 1) 4).1 12 0 4) + 4)) 0 9)).1 57 0 ((388 + (3 * ((hp_i (g_X12_must h (if 6 ≤ (h.1 12 0 13) then (0 : Int32) else 1) 4) 12 0 4 (((g_X12_must h (if 6 ≤ (h.1 12 0 13) then (0 : Int32) else 1) 4).1 12 0 4) + 4)).1 12 0 13))).toNatClampNeg)) 9) 57 0 (((388 + (3 * ((hp_i (g_X12_must h (if 6 ≤ (h.1 12 0 13) then (0 : Int32) else 1) 4) 12 0 4 (((g_X12_must h (if 6 ≤ (h.1 12 0 13) then (0 : Int32) else 1) 4).1 12 0 4) + 4)).1 12 0 13))) + 1).toNatClampNeg) (f_X12_number (hp_i (g_X12_number (hp_i (g_X12_must h (if 6 ≤ (h.1 12 0 13) then (0 : Int32) else 1) 4) 12 0 4 (((g_X12_must h (if 6 ≤ (h.1 12 0 13) then (0 : Int32) else 1) 4).1 12 0 4) + 4)) 0 9) 57 0 ((388 + (3 * ((hp_i (g_X12_must h (if 6 ≤ (h.1 12 0 13) then (0 : Int32) else 1) 4) 12 0 4 (((g_X12_must h (if 6 ≤ (h.1 12 0 13) then (0 : Int32) else 1) 4).1 12 0 4) + 4)).1 12 0 13))).toNatClampNeg) (f_X12_number (hp_i (g_X12_must h (if 6 ≤ (h.1 12 0 13) then (0 : Int32) else 1) 4) 12 0 4 (((g_X12_must h (if 6 ≤ (h.1 12 0 13) then (0 : Int32) else 1) 4).1 12 0 4) + 4)) 0 9)) ((hp_i (g_X12_number (hp_i (g_X12_must h (if 6 ≤ (h.1 12 0 13) then (0 : Int32) else 1) 4) 12 0 4 (((g_X12_must h (if 6 ≤ (h.1 12 0 13) then (0 : Int32) else 1) 4).1 12 0 4) + 4)) 0 9) 57 0 ((388 + (3 * ((hp_i (g_X12_must h (if 6 ≤ (h.1 12 0 13) then (0 : Int32) else 1) 4) 12 0 4 (((g_X12_must h (if 6 ≤ (h.1 12 0 13) then (0 : Int32) else 1) 4).1 12 0 4) + 4)).1 12 0 13))).toNatClampNeg) (f_X12_number (hp_i (g_X12_must h (if 6 ≤ (h.1 12 0 13) then (0 : Int32) else 1) 4) 12 0 4 (((g_X12_must h (if 6 ≤ (h.1 12 0 13) then (0 : Int32) else 1) 4).1 12 0 4) + 4)) 0 9)).1 57 0 ((388 + (3 * ((hp_i (g_X12_must h (if 6 ≤ (h.1 12 0 13) then (0 : Int32) else 1) 4) 12 0 4 (((g_X12_must h (if 6 ≤ (h.1 12 0 13) then (0 : Int32) else 1) 4).1 12 0 4) + 4)).1 12 0 13))).toNatClampNeg)) 9)) 1 100) 57 0 (((388 + (3 * ((hp_i (g_X12_must h (if 6 ≤ (h.1 12 0 13) then (0 : Int32) else 1) 4) 12 0 4 (((g_X12_must h (if 6 ≤ (h.1 12 0 13) then (0 : Int32) else 1) 4).1 12 0 4) + 4)).1 12 0 13))) + 2).toNatClampNeg) (f_X12_number (hp_i (g_X12_number (hp_i (g_X12_number (hp_i (g_X12_must h (if 6 ≤ (h.1 12 0 13) then (0 : Int32) else 1) 4) 12 0 4 (((g_X12_must h (if 6 ≤ (h.1 12 0 13) then (0 : Int32) else 1) 4).1 12 0 4) + 4)) 0 9) 57 0 ((388 + (3 * ((hp_i (g_X12_must h (if 6 ≤ (h.1 12 0 13) then (0 : Int32) else 1) 4) 12 0 4 (((g_X12_must h (if 6 ≤ (h.1 12 0 13) then (0 : Int32) else 1) 4).1 12 0 4) + 4)).1 12 0 13))).toNatClampNeg) (f_X12_number (hp_i (g_X12_must h (if 6 ≤ (h.1 12 0 13) then (0 : Int32) else 1) 4) 12 0 4 (((g_X12_must h (if 6 ≤ (h.1 12 0 13) then (0 : Int32) else 1) 4).1 12 0 4) + 4)) 0 9)) ((hp_i (g_X12_number (hp_i (g_X12_must h (if 6 ≤ (h.1 12 0 13) then (0 : Int32) else 1) 4) 12 0 4 (((g_X12_must h (if 6 ≤ (h.1 12 0 13) then (0 : Int32) else 1) 4).1 12 0 4) + 4)) 0 9) 57 0 ((388 + (3 * ((hp_i (g_X12_must h (if 6 ≤ (h.1 12 0 13) then (0 : Int32) else 1) 4) 12 0 4 (((g_X12_must h (if 6 ≤ (h.1 12 0 13) then (0 : Int32) else 1) 4).1 12 0 4) + 4)).1 12 0 13))).toNatClampNeg) (f_X12_number (hp_i (g_X12_must h (if 6 ≤ (h.1 12 0 13) then (0 : Int32) else 1) 4) 12 0 4 (((g_X12_must h (if 6 ≤ (h.1 12 0 13) then (0 : Int32) else 1) 4).1 12 0 4) + 4)) 0 9)).1 57 0 ((388 + (3 * ((hp_i (g_X12_must h (if 6 ≤ (h.1 12 0 13) then (0 : Int32) else 1) 4) 12 0 4 (((g_X12_must h (if 6 ≤ (h.1 12 0 13) then (0 : Int32) else 1) 4).1 12 0 4) + 4)).1 12 0 13))).toNatClampNeg)) 9) 57 0 (((388 + (3 * ((hp_i (g_X12_must h (if 6 ≤ (h.1 12 0 13) then (0 : Int32) else 1) 4) 12 0 4 (((g_X12_must h (if 6 ≤ (h.1 12 0 13) then (0 : Int32) else 1) 4).1 12 0 4) + 4)).1 12 0 13))) + 1).toNatClampNeg) (f_X12_number (hp_i (g_X12_number (hp_i (g_X12_must h (if 6 ≤ (h.1 12 0 13) then (0 : Int32) else 1) 4) 12 0 4 (((g_X12_must h (if 6 ≤ (h.1 12 0 13) then (0 : Int32) else 1) 4).1 12 0 4) + 4)) 0 9) 57 0 ((388 + (3 * ((hp_i (g_X12_must h (if 6 ≤ (h.1 12 0 13) then (0 : Int32) else 1) 4) 12 0 4 (((g_X12_must h (if 6 ≤ (h.1 12 0 13) then (0 : Int32) else 1) 4).1 12 0 4) + 4)).1 12 0 13))).toNatClampNeg) (f_X12_number (hp_i (g_X12_must h (if 6 ≤ (h.1 12 0 13) then (0 : Int32) else 1) 4) 12 0 4 (((g_X12_must h (if 6 ≤ (h.1 12 0 13) then (0 : Int32) else 1) 4).1 12 0 4) + 4)) 0 9)) ((hp_i (g_X12_number (hp_i (g_X12_must h (if 6 ≤ (h.1 12 0 13) then (0 : Int32) else 1) 4) 12 0 4 (((g_X12_must h (if 6 ≤ (h.1 12 0 13) then (0 : Int32) else 1) 4).1 12 0 4) + 4)) 0 9) 57 0 ((388 + (3 * ((hp_i (g_X12_must h (if 6 ≤ (h.1 12 0 13) then (0 : Int32) else 1) 4) 12 0 4 (((g_X12_must h (if 6 ≤ (h.1 12 0 13) then (0 : Int32) else 1) 4).1 12 0 4) + 4)).1 12 0 13))).toNatClampNeg) (f_X12_number (hp_i (g_X12_must h (if 6 ≤ (h.1 12 0 13) then (0 : Int32) else 1) 4) 12 0 4 (((g_X12_must h (if 6 ≤ (h.1 12 0 13) then (0 : Int32) else 1) 4).1 12 0 4) + 4)) 0 9)).1 57 0 ((388 + (3 * ((hp_i (g_X12_must h (if 6 ≤ (h.1 12 0 13) then (0 : Int32) else 1) 4) 12 0 4 (((g_X12_must h (if 6 ≤ (h.1 12 0 13) then (0 : Int32) else 1) 4).1 12 0 4) + 4)).1 12 0 13))).toNatClampNeg)) 9)) 1 100)) 12 0 13 (((g_X12_number (hp_i (g_X12_number (hp_i (g_X12_number (hp_i (g_X12_must h (if 6 ≤ (h.1 12 0 13) then (0 : Int32) else 1) 4) 12 0 4 (((g_X12_must h (if 6 ≤ (h.1 12 0 13) then (0 : Int32) else 1) 4).1 12 0 4) + 4)) 0 9) 57 0 ((388 + (3 * ((hp_i (g_X12_must h (if 6 ≤ (h.1 12 0 13) then (0 : Int32) else 1) 4) 12 0 4 (((g_X12_must h (if 6 ≤ (h.1 12 0 13) then (0 : Int32) else 1) 4).1 12 0 4) + 4)).1 12 0 13))).toNatClampNeg) (f_X12_number (hp_i (g_X12_must h (if 6 ≤ (h.1 12 0 13) then (0 : Int32) else 1) 4) 12 0 4 (((g_X12_must h (if 6 ≤ (h.1 12 0 13) then (0 : Int32) else 1) 4).1 12 0 4) + 4)) 0 9)) ((hp_i (g_X12_number (hp_i (g_X12_must h (if 6 ≤ (h.1 12 0 13) then (0 : Int32) else 1) 4) 12 0 4 (((g_X12_must h (if 6 ≤ (h.1 12 0 13) then (0 : Int32) else 1) 4).1 12 0 4) + 4)) 0 9) 57 0 ((388 + (3 * ((hp_i (g_X12_must h (if 6 ≤ (h.1 12 0 13) then (0 : Int32) else 1) 4) 12 0 4 (((g_X12_must h (if 6 ≤ (h.1 12 0 13) then (0 : Int32) else 1) 4).1 12 0 4) + 4)).1 12 0 13))).toNatClampNeg) (f_X12_number (hp_i (g_X12_must h (if 6 ≤ (h.1 12 0 13) then (0 : Int32) else 1) 4) 12 0 4 (((g_X12_must h (if 6 ≤ (h.1 12 0 13) then (0 : Int32) else 1) 4).1 12 0 4) + 4)) 0 9)).1 57 0 ((388 + (3 * ((hp_i (g_X12_must h (if 6 ≤ (h.1 12 0 13) then (0 : Int32) else 1) 4) 12 0 4 (((g_X12_must h (if 6 ≤ (h.1 12 0 13) then (0 : Int32) else 1) 4).1 12 0 4) + 4)).1 12 0 13))).toNatClampNeg)) 9) 57 0 (((388 + (3 * ((hp_i (g_X12_must h (if 6 ≤ (h.1 12 0 13) then (0 : Int32) else 1) 4) 12 0 4 (((g_X12_must h (if 6 ≤ (h.1 12 0 13) then (0 : Int32) else 1) 4).1 12 0 4) + 4)).1 12 0 13))) + 1).toNatClampNeg) (f_X12_number (hp_i (g_X12_number (hp_i (g_X12_must h (if 6 ≤ (h.1 12 0 13) then (0 : Int32) else 1) 4) 12 0 4 (((g_X12_must h (if 6 ≤ (h.1 12 0 13) then (0 : Int32) else 1) 4).1 12 0 4) + 4)) 0 9) 57 0 ((388 + (3 * ((hp_i (g_X12_must h (if 6 ≤ (h.1 12 0 13) then (0 : Int32) else 1) 4) 12 0 4 (((g_X12_must h (if 6 ≤ (h.1 12 0 13) then (0 : Int32) else 1) 4).1 12 0 4) + 4)).1 12 0 13))).toNatClampNeg) (f_X12_number (hp_i (g_X12_must h (if 6 ≤ (h.1 12 0 13) then (0 : Int32) else 1) 4) 12 0 4 (((g_X12_must h (if 6 ≤ (h.1 12 0 13) then (0 : Int32) else 1) 4).1 12 0 4) + 4)) 0 9)) ((hp_i (g_X12_number (hp_i (g_X12_must h (if 6 ≤ (h.1 12 0 13) then (0 : Int32) else 1) 4) 12 0 4 (((g_X12_must h (if 6 ≤ (h.1 12 0 13) then (0 : Int32) else 1) 4).1 12 0 4) + 4)) 0 9) 57 0 ((388 + (3 * ((hp_i (g_X12_must h (if 6 ≤ (h.1 12 0 13) then (0 : Int32) else 1) 4) 12 0 4 (((g_X12_must h (if 6 ≤ (h.1 12 0 13) then (0 : Int32) else 1) 4).1 12 0 4) + 4)).1 12 0 13))).toNatClampNeg) (f_X12_number (hp_i (g_X12_must h (if 6 ≤ (h.1 12 0 13) then (0 : Int32) else 1) 4) 12 0 4 (((g_X12_must h (if 6 ≤ (h.1 12 0 13) then (0 : Int32) else 1) 4).1 12 0 4) + 4)) 0 9)).1 57 0 ((388 + (3 * ((hp_i (g_X12_must h (if 6 ≤ (h.1 12 0 13) then (0 : Int32) else 1) 4) 12 0 4 (((g_X12_must h (if 6 ≤ (h.1 12 0 13) then (0 : Int32) else 1) 4).1 12 0 4) + 4)).1 12 0 13))).toNatClampNeg)) 9)) 1 100).1 12 0 13) + 1)).1 12 0 13)) else (g_X12_must h (if 6 ≤ (h.1 12 0 13) then (0 : Int32) else 1) 4)
set_option maxHeartbeats 4000000 in
theorem c_X12_rung {d : Nat} {h : Hp} {P : Hp → Prop} {Qx : String → Hp → Prop}   (hp : p_X12_rung h ) (k : P  (g_X12_rung h )) : CL 0 (d + 4) mX12_rung [vR 12 0] h (oV P) Qx := by
  replace k : oV P none (g_X12_rung h ) := k
  unfold p_X12_rung at hp
  unfold g_X12_rung at k
  refine CL.ofF (plainFor_of_name rfl) rfl (Nat.le_of_ble_eq_true rfl) (vc_X12_rung_0 (d := d + 3)  ?_)
  refine c_X12_must  hp.1 ?_
  replace hp := hp.2
  refine c_X12_hasFailed  hp.1 ?_
  replace hp := hp.2
  refine ⟨fun c => ?_, fun c => ?_⟩
  · replace hp := hp.1 c
    try simp only [if_pos c] at k
    refine c_X12_number  hp.1 ?_
    replace hp := hp.2
    refine ⟨hp.1, ?_⟩
    replace hp := hp.2
    refine ⟨hp.1, ?_⟩
    replace hp := hp.2
    refine c_X12_number  hp.1 ?_
    replace hp := hp.2
    refine ⟨hp.1, ?_⟩
    replace hp := hp.2
    refine c_X12_number  hp.1 ?_
    replace hp := hp.2
    refine ⟨hp.1, ?_⟩
    replace hp := hp.2
    exact k
  · replace hp := hp.2 c
    try simp only [if_neg c] at k
    exact k
def pi_X12_takesOver_108 : Nat → Hp → Int32 → Int32 → Prop
  | 0, _, _, _ => False
  | n + 1, h, x1, x2 => ((5 ≤ x2) → True) ∧ ((¬ 5 ≤ x2) → ((vp_in ((406 + (5 * x1)) + x2) 506) ∧ ((vp_in ((93 + (8 * x1)) + x2) 301) ∧ (pi_X12_takesOver_108 n (hp_i h 58 0 (((93 + (8 * x1)) + x2).toNatClampNeg) (h.1 56 0 (((406 + (5 * x1)) + x2).toNatClampNeg))) x1 (x2 + 1)))))
def iw_x2_X12_takesOver_108 : Nat → Hp → Int32 → Int32 → Int32
  | 0, _, _, x2 => x2
  | n + 1, h, x1, x2 => if 5 ≤ x2 then x2 else (iw_x2_X12_takesOver_108 n (hp_i h 58 0 (((93 + (8 * x1)) + x2).toNatClampNeg) (h.1 56 0 (((406 + (5 * x1)) + x2).toNatClampNeg))) x1 (x2 + 1))
def iw_h_X12_takesOver_108 : Nat → Hp → Int32 → Int32 → Hp
  | 0, h, _, _ => h
  | n + 1, h, x1, x2 => if 5 ≤ x2 then h else (iw_h_X12_takesOver_108 n (hp_i h 58 0 (((93 + (8 * x1)) + x2).toNatClampNeg) (h.1 56 0 (((406 + (5 * x1)) + x2).toNatClampNeg))) x1 (x2 + 1))
set_option maxHeartbeats 4000000 in
theorem li_X12_takesOver_108 {X : WD → State → Prop} {d rb : Nat} {Qr : Option AV → Hp → Prop} {Qx : String → Hp → Prop}   : ∀ (n : Nat) (h : Hp) (x1 : Int32) (x2 : Int32), pi_X12_takesOver_108 n h x1 x2 → AW X (d + 1) rb mX12_takesOver 147 [(0, vR 12 0), (1, vI x1), (2, vI (iw_x2_X12_takesOver_108 n h x1 x2))] [] (iw_h_X12_takesOver_108 n h x1 x2) Qr Qx → AW X (d + 1) rb mX12_takesOver 108 [(0, vR 12 0), (1, vI x1), (2, vI x2)] [] h Qr Qx := by
  intro n
  induction n with
  | zero => intro h x1 x2 hp; exact hp.elim
  | succ n ih =>
    intro h x1 x2 hp k
    rw [pi_X12_takesOver_108] at hp
    simp only [iw_x2_X12_takesOver_108, iw_h_X12_takesOver_108] at k
    refine vc_X12_takesOver_108 (d := d + 0)  ?_
    refine ⟨fun c => ?_, fun c => ?_⟩
    · replace hp := hp.1 c
      try simp only [if_pos c] at k
      exact k
    · replace hp := hp.2 c
      try simp only [if_neg c] at k
      refine ⟨hp.1, ?_⟩
      replace hp := hp.2
      refine ⟨hp.1, ?_⟩
      replace hp := hp.2
      exact ih _ _ _ hp k
def pw_X12_takesOver_96 : Nat → Hp → Int32 → Prop
  | 0, _, _ => False
  | n + 1, h, x1 => (((h.1 56 0 3) ≤ x1) → True) ∧ ((¬ (h.1 56 0 3) ≤ x1) → (pi_X12_takesOver_108 oa_N h x1 0 ∧ (pw_X12_takesOver_96 n (iw_h_X12_takesOver_108 oa_N h x1 0) (x1 + 1))))
def gw_X12_takesOver_96 : Nat → Hp → Int32 → Hp
  | 0, h, _ => h
  | n + 1, h, x1 => if (h.1 56 0 3) ≤ x1 then (hp_i h 12 0 16 0) else (gw_X12_takesOver_96 n (iw_h_X12_takesOver_108 oa_N h x1 0) (x1 + 1))
set_option maxHeartbeats 4000000 in
theorem lw_X12_takesOver_96 {X : WD → State → Prop} {d rb : Nat} {Qr : Option AV → Hp → Prop} {Qx : String → Hp → Prop}   : ∀ (n : Nat) (h : Hp) (x1 : Int32), pw_X12_takesOver_96 n h x1 → Qr none (gw_X12_takesOver_96 n h x1) → AW X (d + 1) rb mX12_takesOver 96 [(0, vR 12 0), (1, vI x1)] [] h Qr Qx := by
  intro n
  induction n with
  | zero => intro h x1 hp; exact hp.elim
  | succ n ih =>
    intro h x1 hp k
    rw [pw_X12_takesOver_96] at hp
    rw [gw_X12_takesOver_96] at k
    refine vc_X12_takesOver_96 (d := d + 0)  ?_
    refine ⟨fun c => ?_, fun c => ?_⟩
    · replace hp := hp.1 c
      try simp only [if_pos c] at k
      exact k
    · replace hp := hp.2 c
      try simp only [if_neg c] at k
      refine li_X12_takesOver_108  _ _ _ _ hp.1 ?_
      replace hp := hp.2
      refine vc_X12_takesOver_147 (d := d + 0)  ?_
      exact ih _ _ hp k
def pw_X12_takesOver_51 : Nat → Hp → Int32 → Prop
  | 0, _, _ => False
  | n + 1, h, x1 => ((12 ≤ x1) → (pw_X12_takesOver_96 oa_N (hp_i h 58 0 1 (h.1 56 0 3)) 0)) ∧ ((¬ 12 ≤ x1) → ((vp_in (164 + x1) 506) ∧ ((vp_in (9 + x1) 301) ∧ (pw_X12_takesOver_51 n (hp_i h 58 0 ((9 + x1).toNatClampNeg) (h.1 56 0 ((164 + x1).toNatClampNeg))) (x1 + 1)))))
def gw_X12_takesOver_51 : Nat → Hp → Int32 → Hp
  | 0, h, _ => h
  | n + 1, h, x1 => if 12 ≤ x1 then (gw_X12_takesOver_96 oa_N (hp_i h 58 0 1 (h.1 56 0 3)) 0) else (gw_X12_takesOver_51 n (hp_i h 58 0 ((9 + x1).toNatClampNeg) (h.1 56 0 ((164 + x1).toNatClampNeg))) (x1 + 1))
set_option maxHeartbeats 4000000 in
theorem lw_X12_takesOver_51 {X : WD → State → Prop} {d rb : Nat} {Qr : Option AV → Hp → Prop} {Qx : String → Hp → Prop}   : ∀ (n : Nat) (h : Hp) (x1 : Int32), pw_X12_takesOver_51 n h x1 → Qr none (gw_X12_takesOver_51 n h x1) → AW X (d + 1) rb mX12_takesOver 51 [(0, vR 12 0), (1, vI x1)] [] h Qr Qx := by
  intro n
  induction n with
  | zero => intro h x1 hp; exact hp.elim
  | succ n ih =>
    intro h x1 hp k
    rw [pw_X12_takesOver_51] at hp
    rw [gw_X12_takesOver_51] at k
    refine vc_X12_takesOver_51 (d := d + 0)  ?_
    refine ⟨fun c => ?_, fun c => ?_⟩
    · replace hp := hp.1 c
      try simp only [if_pos c] at k
      exact lw_X12_takesOver_96  _ _ _ hp k
    · replace hp := hp.2 c
      try simp only [if_neg c] at k
      refine ⟨hp.1, ?_⟩
      replace hp := hp.2
      refine ⟨hp.1, ?_⟩
      replace hp := hp.2
      exact ih _ _ hp k
def pw_X12_takesOver_29 : Nat → Hp → Int32 → Prop
  | 0, _, _ => False
  | n + 1, h, x1 => ((301 ≤ x1) → (pw_X12_takesOver_51 oa_N h 0)) ∧ ((¬ 301 ≤ x1) → ((vp_in x1 301) ∧ (pw_X12_takesOver_29 n (hp_i h 58 0 x1.toNatClampNeg 0) (x1 + 1))))
def gw_X12_takesOver_29 : Nat → Hp → Int32 → Hp
  | 0, h, _ => h
  | n + 1, h, x1 => if 301 ≤ x1 then (gw_X12_takesOver_51 oa_N h 0) else (gw_X12_takesOver_29 n (hp_i h 58 0 x1.toNatClampNeg 0) (x1 + 1))
set_option maxHeartbeats 4000000 in
theorem lw_X12_takesOver_29 {X : WD → State → Prop} {d rb : Nat} {Qr : Option AV → Hp → Prop} {Qx : String → Hp → Prop}   : ∀ (n : Nat) (h : Hp) (x1 : Int32), pw_X12_takesOver_29 n h x1 → Qr none (gw_X12_takesOver_29 n h x1) → AW X (d + 1) rb mX12_takesOver 29 [(0, vR 12 0), (1, vI x1)] [] h Qr Qx := by
  intro n
  induction n with
  | zero => intro h x1 hp; exact hp.elim
  | succ n ih =>
    intro h x1 hp k
    rw [pw_X12_takesOver_29] at hp
    rw [gw_X12_takesOver_29] at k
    refine vc_X12_takesOver_29 (d := d + 0)  ?_
    refine ⟨fun c => ?_, fun c => ?_⟩
    · replace hp := hp.1 c
      try simp only [if_pos c] at k
      exact lw_X12_takesOver_51  _ _ _ hp k
    · replace hp := hp.2 c
      try simp only [if_neg c] at k
      refine ⟨hp.1, ?_⟩
      replace hp := hp.2
      exact ih _ _ hp k
def pw_X12_takesOver_2 : Nat → Hp → Int32 → Prop
  | 0, _, _ => False
  | n + 1, h, x1 => ((506 ≤ x1) → (pw_X12_takesOver_29 oa_N h 0)) ∧ ((¬ 506 ≤ x1) → ((vp_in x1 506) ∧ ((vp_in x1 506) ∧ (pw_X12_takesOver_2 n (hp_i h 56 0 x1.toNatClampNeg (h.1 57 0 x1.toNatClampNeg)) (x1 + 1)))))
def gw_X12_takesOver_2 : Nat → Hp → Int32 → Hp
  | 0, h, _ => h
  | n + 1, h, x1 => if 506 ≤ x1 then (gw_X12_takesOver_29 oa_N h 0) else (gw_X12_takesOver_2 n (hp_i h 56 0 x1.toNatClampNeg (h.1 57 0 x1.toNatClampNeg)) (x1 + 1))
set_option maxHeartbeats 4000000 in
theorem lw_X12_takesOver_2 {X : WD → State → Prop} {d rb : Nat} {Qr : Option AV → Hp → Prop} {Qx : String → Hp → Prop}   : ∀ (n : Nat) (h : Hp) (x1 : Int32), pw_X12_takesOver_2 n h x1 → Qr none (gw_X12_takesOver_2 n h x1) → AW X (d + 1) rb mX12_takesOver 2 [(0, vR 12 0), (1, vI x1)] [] h Qr Qx := by
  intro n
  induction n with
  | zero => intro h x1 hp; exact hp.elim
  | succ n ih =>
    intro h x1 hp k
    rw [pw_X12_takesOver_2] at hp
    rw [gw_X12_takesOver_2] at k
    refine vc_X12_takesOver_2 (d := d + 0)  ?_
    refine ⟨fun c => ?_, fun c => ?_⟩
    · replace hp := hp.1 c
      try simp only [if_pos c] at k
      exact lw_X12_takesOver_29  _ _ _ hp k
    · replace hp := hp.2 c
      try simp only [if_neg c] at k
      refine ⟨hp.1, ?_⟩
      replace hp := hp.2
      refine ⟨hp.1, ?_⟩
      replace hp := hp.2
      exact ih _ _ hp k
def p_X12_takesOver (h : Hp)  : Prop := pw_X12_takesOver_2 oa_N h 0
def g_X12_takesOver (h : Hp)  : Hp := gw_X12_takesOver_2 oa_N h 0
set_option maxHeartbeats 4000000 in
theorem c_X12_takesOver {d : Nat} {h : Hp} {P : Hp → Prop} {Qx : String → Hp → Prop}   (hp : p_X12_takesOver h ) (k : P  (g_X12_takesOver h )) : CL 0 (d + 1) mX12_takesOver [vR 12 0] h (oV P) Qx := by
  replace k : oV P none (g_X12_takesOver h ) := k
  unfold p_X12_takesOver at hp
  unfold g_X12_takesOver at k
  refine CL.ofF (plainFor_of_name rfl) rfl (Nat.le_of_ble_eq_true rfl) (vc_X12_takesOver_0 (d := d + 0)  ?_)
  exact lw_X12_takesOver_2  _ _ _ hp k
def pw_X12_keeps_54 : Nat → Hp → Int32 → Prop
  | 0, _, _ => False
  | n + 1, h, x1 => ((301 ≤ x1) → True) ∧ ((¬ 301 ≤ x1) → ((vp_in x1 301) ∧ ((vp_in ((301 * (h.1 12 0 16)) + x1) 3612) ∧ (pw_X12_keeps_54 n (hp_i h 59 0 (((301 * (h.1 12 0 16)) + x1).toNatClampNeg) (h.1 58 0 x1.toNatClampNeg)) (x1 + 1)))))
def gw_X12_keeps_54 : Nat → Hp → Int32 → Hp
  | 0, h, _ => h
  | n + 1, h, x1 => if 301 ≤ x1 then (hp_i h 12 0 16 ((h.1 12 0 16) + 1)) else (gw_X12_keeps_54 n (hp_i h 59 0 (((301 * (h.1 12 0 16)) + x1).toNatClampNeg) (h.1 58 0 x1.toNatClampNeg)) (x1 + 1))
set_option maxHeartbeats 4000000 in
theorem lw_X12_keeps_54 {X : WD → State → Prop} {d rb : Nat} {Qr : Option AV → Hp → Prop} {Qx : String → Hp → Prop}   : ∀ (n : Nat) (h : Hp) (x1 : Int32), pw_X12_keeps_54 n h x1 → Qr none (gw_X12_keeps_54 n h x1) → AW X (d + 1) rb mX12_keeps 54 [(0, vR 12 0), (1, vI x1)] [] h Qr Qx := by
  intro n
  induction n with
  | zero => intro h x1 hp; exact hp.elim
  | succ n ih =>
    intro h x1 hp k
    rw [pw_X12_keeps_54] at hp
    rw [gw_X12_keeps_54] at k
    refine vc_X12_keeps_54 (d := d + 0)  ?_
    refine ⟨fun c => ?_, fun c => ?_⟩
    · replace hp := hp.1 c
      try simp only [if_pos c] at k
      exact k
    · replace hp := hp.2 c
      try simp only [if_neg c] at k
      refine ⟨hp.1, ?_⟩
      replace hp := hp.2
      refine ⟨hp.1, ?_⟩
      replace hp := hp.2
      exact ih _ _ hp k
def pw_X12_keeps_13 : Nat → Hp → Int32 → Prop
  | 0, _, _ => False
  | n + 1, h, x1 => ((3612 ≤ x1) → (pw_X12_keeps_54 oa_N (hp_i h 12 0 16 ((h.1 12 0 16) - 1)) 0)) ∧ ((¬ 3612 ≤ x1) → ((vp_in x1 3612) ∧ ((vp_in (x1 - 301) 3612) ∧ (pw_X12_keeps_13 n (hp_i h 59 0 ((x1 - 301).toNatClampNeg) (h.1 59 0 x1.toNatClampNeg)) (x1 + 1)))))
def gw_X12_keeps_13 : Nat → Hp → Int32 → Hp
  | 0, h, _ => h
  | n + 1, h, x1 => if 3612 ≤ x1 then (gw_X12_keeps_54 oa_N (hp_i h 12 0 16 ((h.1 12 0 16) - 1)) 0) else (gw_X12_keeps_13 n (hp_i h 59 0 ((x1 - 301).toNatClampNeg) (h.1 59 0 x1.toNatClampNeg)) (x1 + 1))
set_option maxHeartbeats 4000000 in
theorem lw_X12_keeps_13 {X : WD → State → Prop} {d rb : Nat} {Qr : Option AV → Hp → Prop} {Qx : String → Hp → Prop}   : ∀ (n : Nat) (h : Hp) (x1 : Int32), pw_X12_keeps_13 n h x1 → Qr none (gw_X12_keeps_13 n h x1) → AW X (d + 1) rb mX12_keeps 13 [(0, vR 12 0), (1, vI x1)] [] h Qr Qx := by
  intro n
  induction n with
  | zero => intro h x1 hp; exact hp.elim
  | succ n ih =>
    intro h x1 hp k
    rw [pw_X12_keeps_13] at hp
    rw [gw_X12_keeps_13] at k
    refine vc_X12_keeps_13 (d := d + 0)  ?_
    refine ⟨fun c => ?_, fun c => ?_⟩
    · replace hp := hp.1 c
      try simp only [if_pos c] at k
      exact lw_X12_keeps_54  _ _ _ hp k
    · replace hp := hp.2 c
      try simp only [if_neg c] at k
      refine ⟨hp.1, ?_⟩
      replace hp := hp.2
      refine ⟨hp.1, ?_⟩
      replace hp := hp.2
      exact ih _ _ hp k
def p_X12_keeps (h : Hp)  : Prop := ((¬ (h.1 12 0 16) = 12) → (pw_X12_keeps_54 oa_N h 0)) ∧ (((h.1 12 0 16) = 12) → (pw_X12_keeps_13 oa_N h 301))
def g_X12_keeps (h : Hp)  : Hp := if ¬ (h.1 12 0 16) = 12 then (gw_X12_keeps_54 oa_N h 0) else (gw_X12_keeps_13 oa_N h 301)
set_option maxHeartbeats 4000000 in
theorem c_X12_keeps {d : Nat} {h : Hp} {P : Hp → Prop} {Qx : String → Hp → Prop}   (hp : p_X12_keeps h ) (k : P  (g_X12_keeps h )) : CL 0 (d + 1) mX12_keeps [vR 12 0] h (oV P) Qx := by
  replace k : oV P none (g_X12_keeps h ) := k
  unfold p_X12_keeps at hp
  unfold g_X12_keeps at k
  refine CL.ofF (plainFor_of_name rfl) rfl (Nat.le_of_ble_eq_true rfl) (vc_X12_keeps_0 (d := d + 0)  ?_)
  refine ⟨fun c => ?_, fun c => ?_⟩
  · replace hp := hp.1 c
    try simp only [if_pos c] at k
    exact lw_X12_keeps_54  _ _ _ hp k
  · replace hp := hp.2 c
    try simp only [if_neg (oa_nn c)] at k
    exact lw_X12_keeps_13  _ _ _ hp k
def pw_X12_undo_26 : Nat → Hp → Int32 → Prop
  | 0, _, _ => False
  | n + 1, h, x1 => ((301 ≤ x1) → True) ∧ ((¬ 301 ≤ x1) → ((vp_in ((301 * (h.1 12 0 16)) + x1) 3612) ∧ ((vp_in x1 301) ∧ (pw_X12_undo_26 n (hp_i h 58 0 x1.toNatClampNeg (h.1 59 0 (((301 * (h.1 12 0 16)) + x1).toNatClampNeg))) (x1 + 1)))))
def fw_X12_undo_26 : Nat → Hp → Int32 → Int32
  | 0, _, _ => 0
  | n + 1, h, x1 => if 301 ≤ x1 then (h.1 12 0 16) else (fw_X12_undo_26 n (hp_i h 58 0 x1.toNatClampNeg (h.1 59 0 (((301 * (h.1 12 0 16)) + x1).toNatClampNeg))) (x1 + 1))
def gw_X12_undo_26 : Nat → Hp → Int32 → Hp
  | 0, h, _ => h
  | n + 1, h, x1 => if 301 ≤ x1 then h else (gw_X12_undo_26 n (hp_i h 58 0 x1.toNatClampNeg (h.1 59 0 (((301 * (h.1 12 0 16)) + x1).toNatClampNeg))) (x1 + 1))
set_option maxHeartbeats 4000000 in
theorem lw_X12_undo_26 {X : WD → State → Prop} {d rb : Nat} {Qr : Option AV → Hp → Prop} {Qx : String → Hp → Prop}   : ∀ (n : Nat) (h : Hp) (x1 : Int32), pw_X12_undo_26 n h x1 → Qr (some (vI (fw_X12_undo_26 n h x1))) (gw_X12_undo_26 n h x1) → AW X (d + 1) rb mX12_undo 26 [(0, vR 12 0), (1, vI x1)] [] h Qr Qx := by
  intro n
  induction n with
  | zero => intro h x1 hp; exact hp.elim
  | succ n ih =>
    intro h x1 hp k
    rw [pw_X12_undo_26] at hp
    rw [fw_X12_undo_26] at k
    rw [gw_X12_undo_26] at k
    refine vc_X12_undo_26 (d := d + 0)  ?_
    refine ⟨fun c => ?_, fun c => ?_⟩
    · replace hp := hp.1 c
      try simp only [if_pos c] at k
      exact k
    · replace hp := hp.2 c
      try simp only [if_neg c] at k
      refine ⟨hp.1, ?_⟩
      replace hp := hp.2
      refine ⟨hp.1, ?_⟩
      replace hp := hp.2
      exact ih _ _ hp k
def p_X12_undo (h : Hp)  : Prop := ((¬ ((hp_i h 12 0 0 0).1 12 0 16) = 0) → (pw_X12_undo_26 oa_N (hp_i (hp_i h 12 0 0 0) 12 0 16 (((hp_i h 12 0 0 0).1 12 0 16) - 1)) 0)) ∧ ((((hp_i h 12 0 0 0).1 12 0 16) = 0) → True)
def f_X12_undo (h : Hp)  : Int32 := if ¬ ((hp_i h 12 0 0 0).1 12 0 16) = 0 then (fw_X12_undo_26 oa_N (hp_i (hp_i h 12 0 0 0) 12 0 16 (((hp_i h 12 0 0 0).1 12 0 16) - 1)) 0) else (-1)
def g_X12_undo (h : Hp)  : Hp := if ¬ ((hp_i h 12 0 0 0).1 12 0 16) = 0 then (gw_X12_undo_26 oa_N (hp_i (hp_i h 12 0 0 0) 12 0 16 (((hp_i h 12 0 0 0).1 12 0 16) - 1)) 0) else (hp_i h 12 0 0 0)
set_option maxHeartbeats 4000000 in
theorem c_X12_undo {d : Nat} {h : Hp} {P : Int32 → Hp → Prop} {Qx : String → Hp → Prop}   (hp : p_X12_undo h ) (k : P (f_X12_undo h ) (g_X12_undo h )) : CL 0 (d + 1) mX12_undo [vR 12 0] h (oI P) Qx := by
  replace k : oI P (some (vI (f_X12_undo h ))) (g_X12_undo h ) := k
  unfold p_X12_undo at hp
  unfold f_X12_undo at k
  unfold g_X12_undo at k
  refine CL.ofF (plainFor_of_name rfl) rfl (Nat.le_of_ble_eq_true rfl) (vc_X12_undo_0 (d := d + 0)  ?_)
  refine ⟨fun c => ?_, fun c => ?_⟩
  · replace hp := hp.1 c
    try simp only [if_pos c] at k
    exact lw_X12_undo_26  _ _ _ hp k
  · replace hp := hp.2 c
    try simp only [if_neg (oa_nn c)] at k
    exact k
def p_X12_undoDepth (h : Hp)  : Prop := True
def f_X12_undoDepth (h : Hp)  : Int32 := (hp_i h 12 0 0 0).1 12 0 16
def g_X12_undoDepth (h : Hp)  : Hp := hp_i h 12 0 0 0
set_option maxHeartbeats 4000000 in
theorem c_X12_undoDepth {d : Nat} {h : Hp} {P : Int32 → Hp → Prop} {Qx : String → Hp → Prop}   (hp : p_X12_undoDepth h ) (k : P (f_X12_undoDepth h ) (g_X12_undoDepth h )) : CL 0 (d + 1) mX12_undoDepth [vR 12 0] h (oI P) Qx := by
  replace k : oI P (some (vI (f_X12_undoDepth h ))) (g_X12_undoDepth h ) := k
  unfold p_X12_undoDepth at hp
  unfold f_X12_undoDepth at k
  unfold g_X12_undoDepth at k
  refine CL.ofF (plainFor_of_name rfl) rfl (Nat.le_of_ble_eq_true rfl) (vc_X12_undoDepth_0 (d := d + 0)  ?_)
  exact k
def p_X12_noPart (h : Hp) (a1 : Int32) : Prop := p_X12_in h a1 0 ((h.1 56 0 0) - 1) ∧ (p_X12_throwsIf h (if ¬ (f_X12_in h a1 0 ((h.1 56 0 0) - 1)) = 0 then (0 : Int32) else 1) 1 ∧ (((f_X12_throwsIf h (if ¬ (f_X12_in h a1 0 ((h.1 56 0 0) - 1)) = 0 then (0 : Int32) else 1) 1) = 0 ∨ (f_X12_throwsIf h (if ¬ (f_X12_in h a1 0 ((h.1 56 0 0) - 1)) = 0 then (0 : Int32) else 1) 1) = 1) ∧ True))
def f_X12_noPart (h : Hp) (a1 : Int32) : Int32 := (f_X12_throwsIf h (if ¬ (f_X12_in h a1 0 ((h.1 56 0 0) - 1)) = 0 then (0 : Int32) else 1) 1)
def g_X12_noPart (h : Hp) (a1 : Int32) : Hp := (g_X12_throwsIf h (if ¬ (f_X12_in h a1 0 ((h.1 56 0 0) - 1)) = 0 then (0 : Int32) else 1) 1)
set_option maxHeartbeats 4000000 in
theorem c_X12_noPart {d : Nat} {h : Hp} {P : Int32 → Hp → Prop} {Qx : String → Hp → Prop} {a1 : Int32}  (hp : p_X12_noPart h a1) (k : P (f_X12_noPart h a1) (g_X12_noPart h a1)) : CL 0 (d + 2) mX12_noPart [vR 12 0, vI a1] h (oI P) Qx := by
  replace k : oI P (some (vI (f_X12_noPart h a1))) (g_X12_noPart h a1) := k
  unfold p_X12_noPart at hp
  unfold f_X12_noPart at k
  unfold g_X12_noPart at k
  refine CL.ofF (plainFor_of_name rfl) rfl (Nat.le_of_ble_eq_true rfl) (vc_X12_noPart_0 (d := d + 1)  ?_)
  refine c_X12_in  hp.1 ?_
  replace hp := hp.2
  refine c_X12_throwsIf  hp.1 ?_
  replace hp := hp.2
  refine ⟨hp.1, ?_⟩
  replace hp := hp.2
  exact k
def p_X12_noProduct (h : Hp) (a1 : Int32) : Prop := p_X12_in h a1 0 ((h.1 56 0 1) - 1) ∧ (p_X12_throwsIf h (if ¬ (f_X12_in h a1 0 ((h.1 56 0 1) - 1)) = 0 then (0 : Int32) else 1) 1 ∧ (((f_X12_throwsIf h (if ¬ (f_X12_in h a1 0 ((h.1 56 0 1) - 1)) = 0 then (0 : Int32) else 1) 1) = 0 ∨ (f_X12_throwsIf h (if ¬ (f_X12_in h a1 0 ((h.1 56 0 1) - 1)) = 0 then (0 : Int32) else 1) 1) = 1) ∧ True))
def f_X12_noProduct (h : Hp) (a1 : Int32) : Int32 := (f_X12_throwsIf h (if ¬ (f_X12_in h a1 0 ((h.1 56 0 1) - 1)) = 0 then (0 : Int32) else 1) 1)
def g_X12_noProduct (h : Hp) (a1 : Int32) : Hp := (g_X12_throwsIf h (if ¬ (f_X12_in h a1 0 ((h.1 56 0 1) - 1)) = 0 then (0 : Int32) else 1) 1)
set_option maxHeartbeats 4000000 in
theorem c_X12_noProduct {d : Nat} {h : Hp} {P : Int32 → Hp → Prop} {Qx : String → Hp → Prop} {a1 : Int32}  (hp : p_X12_noProduct h a1) (k : P (f_X12_noProduct h a1) (g_X12_noProduct h a1)) : CL 0 (d + 2) mX12_noProduct [vR 12 0, vI a1] h (oI P) Qx := by
  replace k : oI P (some (vI (f_X12_noProduct h a1))) (g_X12_noProduct h a1) := k
  unfold p_X12_noProduct at hp
  unfold f_X12_noProduct at k
  unfold g_X12_noProduct at k
  refine CL.ofF (plainFor_of_name rfl) rfl (Nat.le_of_ble_eq_true rfl) (vc_X12_noProduct_0 (d := d + 1)  ?_)
  refine c_X12_in  hp.1 ?_
  replace hp := hp.2
  refine c_X12_throwsIf  hp.1 ?_
  replace hp := hp.2
  refine ⟨hp.1, ?_⟩
  replace hp := hp.2
  exact k
def p_X12_noOrder (h : Hp) (a1 : Int32) : Prop := p_X12_in h a1 0 ((h.1 58 0 1) - 1) ∧ (p_X12_throwsIf h (if ¬ (f_X12_in h a1 0 ((h.1 58 0 1) - 1)) = 0 then (0 : Int32) else 1) 1 ∧ (((f_X12_throwsIf h (if ¬ (f_X12_in h a1 0 ((h.1 58 0 1) - 1)) = 0 then (0 : Int32) else 1) 1) = 0 ∨ (f_X12_throwsIf h (if ¬ (f_X12_in h a1 0 ((h.1 58 0 1) - 1)) = 0 then (0 : Int32) else 1) 1) = 1) ∧ True))
def f_X12_noOrder (h : Hp) (a1 : Int32) : Int32 := (f_X12_throwsIf h (if ¬ (f_X12_in h a1 0 ((h.1 58 0 1) - 1)) = 0 then (0 : Int32) else 1) 1)
def g_X12_noOrder (h : Hp) (a1 : Int32) : Hp := (g_X12_throwsIf h (if ¬ (f_X12_in h a1 0 ((h.1 58 0 1) - 1)) = 0 then (0 : Int32) else 1) 1)
set_option maxHeartbeats 4000000 in
theorem c_X12_noOrder {d : Nat} {h : Hp} {P : Int32 → Hp → Prop} {Qx : String → Hp → Prop} {a1 : Int32}  (hp : p_X12_noOrder h a1) (k : P (f_X12_noOrder h a1) (g_X12_noOrder h a1)) : CL 0 (d + 2) mX12_noOrder [vR 12 0, vI a1] h (oI P) Qx := by
  replace k : oI P (some (vI (f_X12_noOrder h a1))) (g_X12_noOrder h a1) := k
  unfold p_X12_noOrder at hp
  unfold f_X12_noOrder at k
  unfold g_X12_noOrder at k
  refine CL.ofF (plainFor_of_name rfl) rfl (Nat.le_of_ble_eq_true rfl) (vc_X12_noOrder_0 (d := d + 1)  ?_)
  refine c_X12_in  hp.1 ?_
  replace hp := hp.2
  refine c_X12_throwsIf  hp.1 ?_
  replace hp := hp.2
  refine ⟨hp.1, ?_⟩
  replace hp := hp.2
  exact k
def p_X12_needs (h : Hp) (a1 : Int32) (a2 : Int32) : Prop := (vp_in ((292 + (12 * a1)) + a2) 506) ∧ True
def f_X12_needs (h : Hp) (a1 : Int32) (a2 : Int32) : Int32 := h.1 56 0 (((292 + (12 * a1)) + a2).toNatClampNeg)
set_option maxHeartbeats 4000000 in
theorem c_X12_needs {d : Nat} {h : Hp} {P : Int32 → Hp → Prop} {Qx : String → Hp → Prop} {a1 : Int32} {a2 : Int32}  (hp : p_X12_needs h a1 a2) (k : P (f_X12_needs h a1 a2) h) : CL 0 (d + 1) mX12_needs [vR 12 0, vI a1, vI a2] h (oI P) Qx := by
  replace k : oI P (some (vI (f_X12_needs h a1 a2))) h := k
  unfold p_X12_needs at hp
  unfold f_X12_needs at k
  refine CL.ofF (plainFor_of_name rfl) rfl (Nat.le_of_ble_eq_true rfl) (vc_X12_needs_0 (d := d + 0)  ?_)
  refine ⟨hp.1, ?_⟩
  replace hp := hp.2
  exact k
def p_X12_free (h : Hp) (a1 : Int32) : Prop := (vp_in (9 + a1) 301) ∧ ((vp_in (21 + a1) 301) ∧ True)
def f_X12_free (h : Hp) (a1 : Int32) : Int32 := (h.1 58 0 ((9 + a1).toNatClampNeg)) - (h.1 58 0 ((21 + a1).toNatClampNeg))
set_option maxHeartbeats 4000000 in
theorem c_X12_free {d : Nat} {h : Hp} {P : Int32 → Hp → Prop} {Qx : String → Hp → Prop} {a1 : Int32}  (hp : p_X12_free h a1) (k : P (f_X12_free h a1) h) : CL 0 (d + 1) mX12_free [vR 12 0, vI a1] h (oI P) Qx := by
  replace k : oI P (some (vI (f_X12_free h a1))) h := k
  unfold p_X12_free at hp
  unfold f_X12_free at k
  refine CL.ofF (plainFor_of_name rfl) rfl (Nat.le_of_ble_eq_true rfl) (vc_X12_free_0 (d := d + 0)  ?_)
  refine ⟨hp.1, ?_⟩
  replace hp := hp.2
  refine ⟨hp.1, ?_⟩
  replace hp := hp.2
  exact k
def p_X12_of (h : Hp) (a1 : Int32) (a2 : Int32) : Prop := (vp_in ((93 + (8 * a1)) + a2) 301) ∧ True
def f_X12_of (h : Hp) (a1 : Int32) (a2 : Int32) : Int32 := h.1 58 0 (((93 + (8 * a1)) + a2).toNatClampNeg)
set_option maxHeartbeats 4000000 in
theorem c_X12_of {d : Nat} {h : Hp} {P : Int32 → Hp → Prop} {Qx : String → Hp → Prop} {a1 : Int32} {a2 : Int32}  (hp : p_X12_of h a1 a2) (k : P (f_X12_of h a1 a2) h) : CL 0 (d + 1) mX12_of [vR 12 0, vI a1, vI a2] h (oI P) Qx := by
  replace k : oI P (some (vI (f_X12_of h a1 a2))) h := k
  unfold p_X12_of at hp
  unfold f_X12_of at k
  refine CL.ofF (plainFor_of_name rfl) rfl (Nat.le_of_ble_eq_true rfl) (vc_X12_of_0 (d := d + 0)  ?_)
  refine ⟨hp.1, ?_⟩
  replace hp := hp.2
  exact k
def p_X12_grows (h : Hp) (a1 : Int32) (a2 : Int32) (a3 : Int32) : Prop := (vp_in ((93 + (8 * a1)) + a2) 301) ∧ ((vp_in ((93 + (8 * a1)) + a2) 301) ∧ True)
def g_X12_grows (h : Hp) (a1 : Int32) (a2 : Int32) (a3 : Int32) : Hp := hp_i h 58 0 (((93 + (8 * a1)) + a2).toNatClampNeg) ((h.1 58 0 (((93 + (8 * a1)) + a2).toNatClampNeg)) + a3)
set_option maxHeartbeats 4000000 in
theorem c_X12_grows {d : Nat} {h : Hp} {P : Hp → Prop} {Qx : String → Hp → Prop} {a1 : Int32} {a2 : Int32} {a3 : Int32}  (hp : p_X12_grows h a1 a2 a3) (k : P  (g_X12_grows h a1 a2 a3)) : CL 0 (d + 1) mX12_grows [vR 12 0, vI a1, vI a2, vI a3] h (oV P) Qx := by
  replace k : oV P none (g_X12_grows h a1 a2 a3) := k
  unfold p_X12_grows at hp
  unfold g_X12_grows at k
  refine CL.ofF (plainFor_of_name rfl) rfl (Nat.le_of_ble_eq_true rfl) (vc_X12_grows_0 (d := d + 0)  ?_)
  refine ⟨hp.1, ?_⟩
  replace hp := hp.2
  refine ⟨hp.1, ?_⟩
  replace hp := hp.2
  exact k
def p_X12_open (h : Hp) (a1 : Int32) : Prop := p_X12_of h a1 7 ∧ (((¬ (f_X12_of h a1 7) = 1) → (p_X12_of h a1 1 ∧ (p_X12_of h a1 5 ∧ (p_X12_of h a1 6 ∧ True)))) ∧ (((f_X12_of h a1 7) = 1) → True))
def f_X12_open (h : Hp) (a1 : Int32) : Int32 := if ¬ (f_X12_of h a1 7) = 1 then (((f_X12_of h a1 1) - (f_X12_of h a1 5)) - (f_X12_of h a1 6)) else 0
set_option maxHeartbeats 4000000 in
theorem c_X12_open {d : Nat} {h : Hp} {P : Int32 → Hp → Prop} {Qx : String → Hp → Prop} {a1 : Int32}  (hp : p_X12_open h a1) (k : P (f_X12_open h a1) h) : CL 0 (d + 2) mX12_open [vR 12 0, vI a1] h (oI P) Qx := by
  replace k : oI P (some (vI (f_X12_open h a1))) h := k
  unfold p_X12_open at hp
  unfold f_X12_open at k
  refine CL.ofF (plainFor_of_name rfl) rfl (Nat.le_of_ble_eq_true rfl) (vc_X12_open_0 (d := d + 1)  ?_)
  refine c_X12_of  hp.1 ?_
  replace hp := hp.2
  refine ⟨fun c => ?_, fun c => ?_⟩
  · replace hp := hp.1 c
    try simp only [if_pos c] at k
    refine c_X12_of  hp.1 ?_
    replace hp := hp.2
    refine c_X12_of  hp.1 ?_
    replace hp := hp.2
    refine c_X12_of  hp.1 ?_
    replace hp := hp.2
    exact k
  · replace hp := hp.2 c
    try simp only [if_neg (oa_nn c)] at k
    exact k
def p_X12_count (h : Hp) (a1 : Int32) : Prop := ((a1 < 0 ∨ 4 < a1) → True) ∧ ((a1 = 0) → True) ∧ ((a1 = 1) → True) ∧ ((a1 = 2) → True) ∧ ((a1 = 3) → True) ∧ ((a1 = 4) → True)
def f_X12_count (h : Hp) (a1 : Int32) : Int32 := if (a1 < 0 ∨ 4 < a1) then (-1) else if a1 = 0 then (h.1 56 0 0) else if a1 = 1 then (h.1 56 0 1) else if a1 = 2 then (h.1 58 0 1) else if a1 = 3 then (h.1 56 0 2) else (h.1 58 0 2)
def g_X12_count (h : Hp) (a1 : Int32) : Hp := if (a1 < 0 ∨ 4 < a1) then (hp_i h 12 0 0 0) else if a1 = 0 then (hp_i h 12 0 0 0) else if a1 = 1 then (hp_i h 12 0 0 0) else if a1 = 2 then (hp_i h 12 0 0 0) else if a1 = 3 then (hp_i h 12 0 0 0) else (hp_i h 12 0 0 0)
set_option maxHeartbeats 4000000 in
theorem c_X12_count {d : Nat} {h : Hp} {P : Int32 → Hp → Prop} {Qx : String → Hp → Prop} {a1 : Int32}  (hp : p_X12_count h a1) (k : P (f_X12_count h a1) (g_X12_count h a1)) : CL 0 (d + 1) mX12_count [vR 12 0, vI a1] h (oI P) Qx := by
  replace k : oI P (some (vI (f_X12_count h a1))) (g_X12_count h a1) := k
  unfold p_X12_count at hp
  unfold f_X12_count at k
  unfold g_X12_count at k
  refine CL.ofF (plainFor_of_name rfl) rfl (Nat.le_of_ble_eq_true rfl) (vc_X12_count_0 (d := d + 0)  ?_)
  refine ⟨fun c => ?_, fun c => ?_, fun c => ?_, fun c => ?_, fun c => ?_, fun c => ?_⟩
  · replace hp := hp.1 c
    try simp only [if_pos c] at k
    exact k
  · replace hp := hp.2.1 c
    try simp only [if_neg (show ¬ (a1 < 0 ∨ 4 < a1) by rw [c]; decide), if_pos c] at k
    exact k
  · replace hp := hp.2.2.1 c
    try simp only [if_neg (show ¬ (a1 < 0 ∨ 4 < a1) by rw [c]; decide), if_neg (show ¬ a1 = 0 by rw [c]; decide), if_pos c] at k
    exact k
  · replace hp := hp.2.2.2.1 c
    try simp only [if_neg (show ¬ (a1 < 0 ∨ 4 < a1) by rw [c]; decide), if_neg (show ¬ a1 = 0 by rw [c]; decide), if_neg (show ¬ a1 = 1 by rw [c]; decide), if_pos c] at k
    exact k
  · replace hp := hp.2.2.2.2.1 c
    try simp only [if_neg (show ¬ (a1 < 0 ∨ 4 < a1) by rw [c]; decide), if_neg (show ¬ a1 = 0 by rw [c]; decide), if_neg (show ¬ a1 = 1 by rw [c]; decide), if_neg (show ¬ a1 = 2 by rw [c]; decide), if_pos c] at k
    exact k
  · replace hp := hp.2.2.2.2.2 c
    try simp only [if_neg (show ¬ (a1 < 0 ∨ 4 < a1) by rw [c]; decide), if_neg (show ¬ a1 = 0 by rw [c]; decide), if_neg (show ¬ a1 = 1 by rw [c]; decide), if_neg (show ¬ a1 = 2 by rw [c]; decide), if_neg (show ¬ a1 = 3 by rw [c]; decide)] at k
    exact k
def p_X12_lineCount (h : Hp) (a1 : Int32) : Prop := p_X12_noProduct (hp_i h 12 0 0 0) a1 ∧ ((((f_X12_noProduct (hp_i h 12 0 0 0) a1) = 0) → ((vp_in (188 + a1) 506) ∧ True)) ∧ ((¬ (f_X12_noProduct (hp_i h 12 0 0 0) a1) = 0) → True))
def f_X12_lineCount (h : Hp) (a1 : Int32) : Int32 := if (f_X12_noProduct (hp_i h 12 0 0 0) a1) = 0 then ((g_X12_noProduct (hp_i h 12 0 0 0) a1).1 56 0 ((188 + a1).toNatClampNeg)) else 0
def g_X12_lineCount (h : Hp) (a1 : Int32) : Hp := if (f_X12_noProduct (hp_i h 12 0 0 0) a1) = 0 then (g_X12_noProduct (hp_i h 12 0 0 0) a1) else (g_X12_noProduct (hp_i h 12 0 0 0) a1)
set_option maxHeartbeats 4000000 in
theorem c_X12_lineCount {d : Nat} {h : Hp} {P : Int32 → Hp → Prop} {Qx : String → Hp → Prop} {a1 : Int32}  (hp : p_X12_lineCount h a1) (k : P (f_X12_lineCount h a1) (g_X12_lineCount h a1)) : CL 0 (d + 3) mX12_lineCount [vR 12 0, vI a1] h (oI P) Qx := by
  replace k : oI P (some (vI (f_X12_lineCount h a1))) (g_X12_lineCount h a1) := k
  unfold p_X12_lineCount at hp
  unfold f_X12_lineCount at k
  unfold g_X12_lineCount at k
  refine CL.ofF (plainFor_of_name rfl) rfl (Nat.le_of_ble_eq_true rfl) (vc_X12_lineCount_0 (d := d + 2)  ?_)
  refine c_X12_noProduct  hp.1 ?_
  replace hp := hp.2
  refine ⟨fun c => ?_, fun c => ?_⟩
  · replace hp := hp.1 c
    try simp only [if_pos c] at k
    refine ⟨hp.1, ?_⟩
    replace hp := hp.2
    exact k
  · replace hp := hp.2 c
    try simp only [if_neg c] at k
    exact k
def p_X12_lineItem (h : Hp) (a1 : Int32) (a2 : Int32) : Prop := p_X12_noProduct (hp_i h 12 0 0 0) a1 ∧ ((((f_X12_noProduct (hp_i h 12 0 0 0) a1) = 0) → ((vp_in (188 + a1) 506) ∧ (p_X12_in (g_X12_noProduct (hp_i h 12 0 0 0) a1) a2 0 (((g_X12_noProduct (hp_i h 12 0 0 0) a1).1 56 0 ((188 + a1).toNatClampNeg)) - 1) ∧ (((¬ (f_X12_in (g_X12_noProduct (hp_i h 12 0 0 0) a1) a2 0 (((g_X12_noProduct (hp_i h 12 0 0 0) a1).1 56 0 ((188 + a1).toNatClampNeg)) - 1)) = 0) → ((vp_in ((196 + (6 * a1)) + a2) 506) ∧ True)) ∧ (((f_X12_in (g_X12_noProduct (hp_i h 12 0 0 0) a1) a2 0 (((g_X12_noProduct (hp_i h 12 0 0 0) a1).1 56 0 ((188 + a1).toNatClampNeg)) - 1)) = 0) → True))))) ∧ ((¬ (f_X12_noProduct (hp_i h 12 0 0 0) a1) = 0) → True))
def f_X12_lineItem (h : Hp) (a1 : Int32) (a2 : Int32) : Int32 := if (f_X12_noProduct (hp_i h 12 0 0 0) a1) = 0 then (if ¬ (f_X12_in (g_X12_noProduct (hp_i h 12 0 0 0) a1) a2 0 (((g_X12_noProduct (hp_i h 12 0 0 0) a1).1 56 0 ((188 + a1).toNatClampNeg)) - 1)) = 0 then (if 12 ≤ ((g_X12_noProduct (hp_i h 12 0 0 0) a1).1 56 0 (((196 + (6 * a1)) + a2).toNatClampNeg)) then (((100 + ((g_X12_noProduct (hp_i h 12 0 0 0) a1).1 56 0 (((196 + (6 * a1)) + a2).toNatClampNeg))) - 12) : Int32) else ((g_X12_noProduct (hp_i h 12 0 0 0) a1).1 56 0 (((196 + (6 * a1)) + a2).toNatClampNeg))) else (-1)) else 0
def g_X12_lineItem (h : Hp) (a1 : Int32) (a2 : Int32) : Hp := if (f_X12_noProduct (hp_i h 12 0 0 0) a1) = 0 then (if ¬ (f_X12_in (g_X12_noProduct (hp_i h 12 0 0 0) a1) a2 0 (((g_X12_noProduct (hp_i h 12 0 0 0) a1).1 56 0 ((188 + a1).toNatClampNeg)) - 1)) = 0 then (g_X12_noProduct (hp_i h 12 0 0 0) a1) else (g_X12_noProduct (hp_i h 12 0 0 0) a1)) else (g_X12_noProduct (hp_i h 12 0 0 0) a1)
set_option maxHeartbeats 4000000 in
theorem c_X12_lineItem {d : Nat} {h : Hp} {P : Int32 → Hp → Prop} {Qx : String → Hp → Prop} {a1 : Int32} {a2 : Int32}  (hp : p_X12_lineItem h a1 a2) (k : P (f_X12_lineItem h a1 a2) (g_X12_lineItem h a1 a2)) : CL 0 (d + 3) mX12_lineItem [vR 12 0, vI a1, vI a2] h (oI P) Qx := by
  replace k : oI P (some (vI (f_X12_lineItem h a1 a2))) (g_X12_lineItem h a1 a2) := k
  unfold p_X12_lineItem at hp
  unfold f_X12_lineItem at k
  unfold g_X12_lineItem at k
  refine CL.ofF (plainFor_of_name rfl) rfl (Nat.le_of_ble_eq_true rfl) (vc_X12_lineItem_0 (d := d + 2)  ?_)
  refine c_X12_noProduct  hp.1 ?_
  replace hp := hp.2
  refine ⟨fun c => ?_, fun c => ?_⟩
  · replace hp := hp.1 c
    try simp only [if_pos c] at k
    refine ⟨hp.1, ?_⟩
    replace hp := hp.2
    refine c_X12_in  hp.1 ?_
    replace hp := hp.2
    refine ⟨fun c => ?_, fun c => ?_⟩
    · replace hp := hp.1 c
      try simp only [if_pos c] at k
      refine ⟨hp.1, ?_⟩
      replace hp := hp.2
      exact k
    · replace hp := hp.2 c
      try simp only [if_neg (oa_nn c)] at k
      exact k
  · replace hp := hp.2 c
    try simp only [if_neg c] at k
    exact k
def p_X12_lineQuantity (h : Hp) (a1 : Int32) (a2 : Int32) : Prop := p_X12_noProduct (hp_i h 12 0 0 0) a1 ∧ ((((f_X12_noProduct (hp_i h 12 0 0 0) a1) = 0) → ((vp_in (188 + a1) 506) ∧ (p_X12_in (g_X12_noProduct (hp_i h 12 0 0 0) a1) a2 0 (((g_X12_noProduct (hp_i h 12 0 0 0) a1).1 56 0 ((188 + a1).toNatClampNeg)) - 1) ∧ ((((f_X12_in (g_X12_noProduct (hp_i h 12 0 0 0) a1) a2 0 (((g_X12_noProduct (hp_i h 12 0 0 0) a1).1 56 0 ((188 + a1).toNatClampNeg)) - 1)) = 0) → True) ∧ ((¬ (f_X12_in (g_X12_noProduct (hp_i h 12 0 0 0) a1) a2 0 (((g_X12_noProduct (hp_i h 12 0 0 0) a1).1 56 0 ((188 + a1).toNatClampNeg)) - 1)) = 0) → ((vp_in ((244 + (6 * a1)) + a2) 506) ∧ True)))))) ∧ ((¬ (f_X12_noProduct (hp_i h 12 0 0 0) a1) = 0) → True))
def f_X12_lineQuantity (h : Hp) (a1 : Int32) (a2 : Int32) : Int32 := if (f_X12_noProduct (hp_i h 12 0 0 0) a1) = 0 then (if (f_X12_in (g_X12_noProduct (hp_i h 12 0 0 0) a1) a2 0 (((g_X12_noProduct (hp_i h 12 0 0 0) a1).1 56 0 ((188 + a1).toNatClampNeg)) - 1)) = 0 then (-1) else ((g_X12_noProduct (hp_i h 12 0 0 0) a1).1 56 0 (((244 + (6 * a1)) + a2).toNatClampNeg))) else 0
def g_X12_lineQuantity (h : Hp) (a1 : Int32) (a2 : Int32) : Hp := if (f_X12_noProduct (hp_i h 12 0 0 0) a1) = 0 then (if (f_X12_in (g_X12_noProduct (hp_i h 12 0 0 0) a1) a2 0 (((g_X12_noProduct (hp_i h 12 0 0 0) a1).1 56 0 ((188 + a1).toNatClampNeg)) - 1)) = 0 then (g_X12_noProduct (hp_i h 12 0 0 0) a1) else (g_X12_noProduct (hp_i h 12 0 0 0) a1)) else (g_X12_noProduct (hp_i h 12 0 0 0) a1)
set_option maxHeartbeats 4000000 in
theorem c_X12_lineQuantity {d : Nat} {h : Hp} {P : Int32 → Hp → Prop} {Qx : String → Hp → Prop} {a1 : Int32} {a2 : Int32}  (hp : p_X12_lineQuantity h a1 a2) (k : P (f_X12_lineQuantity h a1 a2) (g_X12_lineQuantity h a1 a2)) : CL 0 (d + 3) mX12_lineQuantity [vR 12 0, vI a1, vI a2] h (oI P) Qx := by
  replace k : oI P (some (vI (f_X12_lineQuantity h a1 a2))) (g_X12_lineQuantity h a1 a2) := k
  unfold p_X12_lineQuantity at hp
  unfold f_X12_lineQuantity at k
  unfold g_X12_lineQuantity at k
  refine CL.ofF (plainFor_of_name rfl) rfl (Nat.le_of_ble_eq_true rfl) (vc_X12_lineQuantity_0 (d := d + 2)  ?_)
  refine c_X12_noProduct  hp.1 ?_
  replace hp := hp.2
  refine ⟨fun c => ?_, fun c => ?_⟩
  · replace hp := hp.1 c
    try simp only [if_pos c] at k
    refine ⟨hp.1, ?_⟩
    replace hp := hp.2
    refine c_X12_in  hp.1 ?_
    replace hp := hp.2
    refine ⟨fun c => ?_, fun c => ?_⟩
    · replace hp := hp.1 c
      try simp only [if_pos c] at k
      exact k
    · replace hp := hp.2 c
      try simp only [if_neg c] at k
      refine ⟨hp.1, ?_⟩
      replace hp := hp.2
      exact k
  · replace hp := hp.2 c
    try simp only [if_neg c] at k
    exact k
def p_X12_need (h : Hp) (a1 : Int32) (a2 : Int32) : Prop := p_X12_noProduct (hp_i h 12 0 0 0) a1 ∧ (((¬ (f_X12_noProduct (hp_i h 12 0 0 0) a1) = 0) → True) ∧ (((f_X12_noProduct (hp_i h 12 0 0 0) a1) = 0) → (p_X12_noPart (g_X12_noProduct (hp_i h 12 0 0 0) a1) a2 ∧ ((((f_X12_noPart (g_X12_noProduct (hp_i h 12 0 0 0) a1) a2) = 0) → (p_X12_needs (g_X12_noPart (g_X12_noProduct (hp_i h 12 0 0 0) a1) a2) a1 a2 ∧ True)) ∧ ((¬ (f_X12_noPart (g_X12_noProduct (hp_i h 12 0 0 0) a1) a2) = 0) → True)))))
def f_X12_need (h : Hp) (a1 : Int32) (a2 : Int32) : Int32 := if ¬ (f_X12_noProduct (hp_i h 12 0 0 0) a1) = 0 then 0 else (if (f_X12_noPart (g_X12_noProduct (hp_i h 12 0 0 0) a1) a2) = 0 then (f_X12_needs (g_X12_noPart (g_X12_noProduct (hp_i h 12 0 0 0) a1) a2) a1 a2) else 0)
def g_X12_need (h : Hp) (a1 : Int32) (a2 : Int32) : Hp := if ¬ (f_X12_noProduct (hp_i h 12 0 0 0) a1) = 0 then (g_X12_noProduct (hp_i h 12 0 0 0) a1) else (if (f_X12_noPart (g_X12_noProduct (hp_i h 12 0 0 0) a1) a2) = 0 then (g_X12_noPart (g_X12_noProduct (hp_i h 12 0 0 0) a1) a2) else (g_X12_noPart (g_X12_noProduct (hp_i h 12 0 0 0) a1) a2))
set_option maxHeartbeats 4000000 in
theorem c_X12_need {d : Nat} {h : Hp} {P : Int32 → Hp → Prop} {Qx : String → Hp → Prop} {a1 : Int32} {a2 : Int32}  (hp : p_X12_need h a1 a2) (k : P (f_X12_need h a1 a2) (g_X12_need h a1 a2)) : CL 0 (d + 3) mX12_need [vR 12 0, vI a1, vI a2] h (oI P) Qx := by
  replace k : oI P (some (vI (f_X12_need h a1 a2))) (g_X12_need h a1 a2) := k
  unfold p_X12_need at hp
  unfold f_X12_need at k
  unfold g_X12_need at k
  refine CL.ofF (plainFor_of_name rfl) rfl (Nat.le_of_ble_eq_true rfl) (vc_X12_need_0 (d := d + 2)  ?_)
  refine c_X12_noProduct  hp.1 ?_
  replace hp := hp.2
  refine ⟨fun c => ?_, fun c => ?_⟩
  · replace hp := hp.1 c
    try simp only [if_pos c] at k
    exact k
  · replace hp := hp.2 c
    try simp only [if_neg (oa_nn c)] at k
    refine c_X12_noPart  hp.1 ?_
    replace hp := hp.2
    refine ⟨fun c => ?_, fun c => ?_⟩
    · replace hp := hp.1 c
      try simp only [if_pos c] at k
      refine c_X12_needs  hp.1 ?_
      replace hp := hp.2
      exact k
    · replace hp := hp.2 c
      try simp only [if_neg c] at k
      exact k
def pw_X12_pieces_19 : Nat → Hp → Int32 → Int32 → Int32 → Prop
  | 0, _, _, _, _ => False
  | n + 1, h, x1, x2, x3 => (((h.1 56 0 0) ≤ x3) → True) ∧ ((¬ (h.1 56 0 0) ≤ x3) → (p_X12_needs h x1 x3 ∧ (pw_X12_pieces_19 n h x1 (x2 + (f_X12_needs h x1 x3)) (x3 + 1))))
def fw_X12_pieces_19 : Nat → Hp → Int32 → Int32 → Int32 → Int32
  | 0, _, _, _, _ => 0
  | n + 1, h, x1, x2, x3 => if (h.1 56 0 0) ≤ x3 then x2 else (fw_X12_pieces_19 n h x1 (x2 + (f_X12_needs h x1 x3)) (x3 + 1))
def gw_X12_pieces_19 : Nat → Hp → Int32 → Int32 → Int32 → Hp
  | 0, h, _, _, _ => h
  | n + 1, h, x1, x2, x3 => if (h.1 56 0 0) ≤ x3 then h else (gw_X12_pieces_19 n h x1 (x2 + (f_X12_needs h x1 x3)) (x3 + 1))
set_option maxHeartbeats 4000000 in
theorem lw_X12_pieces_19 {X : WD → State → Prop} {d rb : Nat} {Qr : Option AV → Hp → Prop} {Qx : String → Hp → Prop}   : ∀ (n : Nat) (h : Hp) (x1 : Int32) (x2 : Int32) (x3 : Int32), pw_X12_pieces_19 n h x1 x2 x3 → Qr (some (vI (fw_X12_pieces_19 n h x1 x2 x3))) (gw_X12_pieces_19 n h x1 x2 x3) → AW X (d + 3) rb mX12_pieces 19 [(0, vR 12 0), (1, vI x1), (2, vI x2), (3, vI x3)] [] h Qr Qx := by
  intro n
  induction n with
  | zero => intro h x1 x2 x3 hp; exact hp.elim
  | succ n ih =>
    intro h x1 x2 x3 hp k
    rw [pw_X12_pieces_19] at hp
    rw [fw_X12_pieces_19] at k
    rw [gw_X12_pieces_19] at k
    refine vc_X12_pieces_19 (d := d + 2)  ?_
    refine ⟨fun c => ?_, fun c => ?_⟩
    · replace hp := hp.1 c
      try simp only [if_pos c] at k
      exact k
    · replace hp := hp.2 c
      try simp only [if_neg c] at k
      refine c_X12_needs  hp.1 ?_
      replace hp := hp.2
      exact ih _ _ _ _ hp k
def p_X12_pieces (h : Hp) (a1 : Int32) : Prop := p_X12_noProduct (hp_i h 12 0 0 0) a1 ∧ ((((f_X12_noProduct (hp_i h 12 0 0 0) a1) = 0) → (pw_X12_pieces_19 oa_N (g_X12_noProduct (hp_i h 12 0 0 0) a1) a1 0 0)) ∧ ((¬ (f_X12_noProduct (hp_i h 12 0 0 0) a1) = 0) → True))
def f_X12_pieces (h : Hp) (a1 : Int32) : Int32 := if (f_X12_noProduct (hp_i h 12 0 0 0) a1) = 0 then (fw_X12_pieces_19 oa_N (g_X12_noProduct (hp_i h 12 0 0 0) a1) a1 0 0) else 0
def g_X12_pieces (h : Hp) (a1 : Int32) : Hp := if (f_X12_noProduct (hp_i h 12 0 0 0) a1) = 0 then (gw_X12_pieces_19 oa_N (g_X12_noProduct (hp_i h 12 0 0 0) a1) a1 0 0) else (g_X12_noProduct (hp_i h 12 0 0 0) a1)
set_option maxHeartbeats 4000000 in
theorem c_X12_pieces {d : Nat} {h : Hp} {P : Int32 → Hp → Prop} {Qx : String → Hp → Prop} {a1 : Int32}  (hp : p_X12_pieces h a1) (k : P (f_X12_pieces h a1) (g_X12_pieces h a1)) : CL 0 (d + 3) mX12_pieces [vR 12 0, vI a1] h (oI P) Qx := by
  replace k : oI P (some (vI (f_X12_pieces h a1))) (g_X12_pieces h a1) := k
  unfold p_X12_pieces at hp
  unfold f_X12_pieces at k
  unfold g_X12_pieces at k
  refine CL.ofF (plainFor_of_name rfl) rfl (Nat.le_of_ble_eq_true rfl) (vc_X12_pieces_0 (d := d + 2)  ?_)
  refine c_X12_noProduct  hp.1 ?_
  replace hp := hp.2
  refine ⟨fun c => ?_, fun c => ?_⟩
  · replace hp := hp.1 c
    try simp only [if_pos c] at k
    exact lw_X12_pieces_19  _ _ _ _ _ hp k
  · replace hp := hp.2 c
    try simp only [if_neg c] at k
    exact k
def pw_X12_usedBy_19 : Nat → Hp → Int32 → Int32 → Int32 → Prop
  | 0, _, _, _, _ => False
  | n + 1, h, x1, x2, x3 => (((h.1 56 0 1) ≤ x3) → True) ∧ ((¬ (h.1 56 0 1) ≤ x3) → (p_X12_needs h x3 x1 ∧ ((((f_X12_needs h x3 x1) ≤ 0) → (pw_X12_usedBy_19 n h x1 (x2 ||| 0) (x3 + 1))) ∧ ((¬ (f_X12_needs h x3 x1) ≤ 0) → (pw_X12_usedBy_19 n h x1 (x2 ||| (1 <<< (x3 &&& 31))) (x3 + 1))))))
def fw_X12_usedBy_19 : Nat → Hp → Int32 → Int32 → Int32 → Int32
  | 0, _, _, _, _ => 0
  | n + 1, h, x1, x2, x3 => if (h.1 56 0 1) ≤ x3 then x2 else (if (f_X12_needs h x3 x1) ≤ 0 then (fw_X12_usedBy_19 n h x1 (x2 ||| 0) (x3 + 1)) else (fw_X12_usedBy_19 n h x1 (x2 ||| (1 <<< (x3 &&& 31))) (x3 + 1)))
def gw_X12_usedBy_19 : Nat → Hp → Int32 → Int32 → Int32 → Hp
  | 0, h, _, _, _ => h
  | n + 1, h, x1, x2, x3 => if (h.1 56 0 1) ≤ x3 then h else (if (f_X12_needs h x3 x1) ≤ 0 then (gw_X12_usedBy_19 n h x1 (x2 ||| 0) (x3 + 1)) else (gw_X12_usedBy_19 n h x1 (x2 ||| (1 <<< (x3 &&& 31))) (x3 + 1)))
set_option maxHeartbeats 4000000 in
theorem lw_X12_usedBy_19 {X : WD → State → Prop} {d rb : Nat} {Qr : Option AV → Hp → Prop} {Qx : String → Hp → Prop}   : ∀ (n : Nat) (h : Hp) (x1 : Int32) (x2 : Int32) (x3 : Int32), pw_X12_usedBy_19 n h x1 x2 x3 → Qr (some (vI (fw_X12_usedBy_19 n h x1 x2 x3))) (gw_X12_usedBy_19 n h x1 x2 x3) → AW X (d + 3) rb mX12_usedBy 19 [(0, vR 12 0), (1, vI x1), (2, vI x2), (3, vI x3)] [] h Qr Qx := by
  intro n
  induction n with
  | zero => intro h x1 x2 x3 hp; exact hp.elim
  | succ n ih =>
    intro h x1 x2 x3 hp k
    rw [pw_X12_usedBy_19] at hp
    rw [fw_X12_usedBy_19] at k
    rw [gw_X12_usedBy_19] at k
    refine vc_X12_usedBy_19 (d := d + 2)  ?_
    refine ⟨fun c => ?_, fun c => ?_⟩
    · replace hp := hp.1 c
      try simp only [if_pos c] at k
      exact k
    · replace hp := hp.2 c
      try simp only [if_neg c] at k
      refine c_X12_needs  hp.1 ?_
      replace hp := hp.2
      refine ⟨fun c => ?_, fun c => ?_⟩
      · replace hp := hp.1 c
        try simp only [if_pos c] at k
        exact ih _ _ _ _ hp k
      · replace hp := hp.2 c
        try simp only [if_neg c] at k
        exact ih _ _ _ _ hp k
def p_X12_usedBy (h : Hp) (a1 : Int32) : Prop := p_X12_noPart (hp_i h 12 0 0 0) a1 ∧ ((((f_X12_noPart (hp_i h 12 0 0 0) a1) = 0) → (pw_X12_usedBy_19 oa_N (g_X12_noPart (hp_i h 12 0 0 0) a1) a1 0 0)) ∧ ((¬ (f_X12_noPart (hp_i h 12 0 0 0) a1) = 0) → True))
def f_X12_usedBy (h : Hp) (a1 : Int32) : Int32 := if (f_X12_noPart (hp_i h 12 0 0 0) a1) = 0 then (fw_X12_usedBy_19 oa_N (g_X12_noPart (hp_i h 12 0 0 0) a1) a1 0 0) else 0
def g_X12_usedBy (h : Hp) (a1 : Int32) : Hp := if (f_X12_noPart (hp_i h 12 0 0 0) a1) = 0 then (gw_X12_usedBy_19 oa_N (g_X12_noPart (hp_i h 12 0 0 0) a1) a1 0 0) else (g_X12_noPart (hp_i h 12 0 0 0) a1)
set_option maxHeartbeats 4000000 in
theorem c_X12_usedBy {d : Nat} {h : Hp} {P : Int32 → Hp → Prop} {Qx : String → Hp → Prop} {a1 : Int32}  (hp : p_X12_usedBy h a1) (k : P (f_X12_usedBy h a1) (g_X12_usedBy h a1)) : CL 0 (d + 3) mX12_usedBy [vR 12 0, vI a1] h (oI P) Qx := by
  replace k : oI P (some (vI (f_X12_usedBy h a1))) (g_X12_usedBy h a1) := k
  unfold p_X12_usedBy at hp
  unfold f_X12_usedBy at k
  unfold g_X12_usedBy at k
  refine CL.ofF (plainFor_of_name rfl) rfl (Nat.le_of_ble_eq_true rfl) (vc_X12_usedBy_0 (d := d + 2)  ?_)
  refine c_X12_noPart  hp.1 ?_
  replace hp := hp.2
  refine ⟨fun c => ?_, fun c => ?_⟩
  · replace hp := hp.1 c
    try simp only [if_pos c] at k
    exact lw_X12_usedBy_19  _ _ _ _ _ hp k
  · replace hp := hp.2 c
    try simp only [if_neg c] at k
    exact k
def pw_X12_commonParts_28 : Nat → Hp → Int32 → Int32 → Int32 → Int32 → Prop
  | 0, _, _, _, _, _ => False
  | n + 1, h, x1, x2, x3, x4 => (((h.1 56 0 0) ≤ x4) → True) ∧ ((¬ (h.1 56 0 0) ≤ x4) → (p_X12_needs h x1 x4 ∧ ((((f_X12_needs h x1 x4) ≤ 0) → (pw_X12_commonParts_28 n h x1 x2 (x3 ||| 0) (x4 + 1))) ∧ ((¬ (f_X12_needs h x1 x4) ≤ 0) → (p_X12_needs h x2 x4 ∧ ((((f_X12_needs h x2 x4) ≤ 0) → (pw_X12_commonParts_28 n h x1 x2 (x3 ||| 0) (x4 + 1))) ∧ ((¬ (f_X12_needs h x2 x4) ≤ 0) → (pw_X12_commonParts_28 n h x1 x2 (x3 ||| (1 <<< (x4 &&& 31))) (x4 + 1)))))))))
def fw_X12_commonParts_28 : Nat → Hp → Int32 → Int32 → Int32 → Int32 → Int32
  | 0, _, _, _, _, _ => 0
  | n + 1, h, x1, x2, x3, x4 => if (h.1 56 0 0) ≤ x4 then x3 else (if (f_X12_needs h x1 x4) ≤ 0 then (fw_X12_commonParts_28 n h x1 x2 (x3 ||| 0) (x4 + 1)) else (if (f_X12_needs h x2 x4) ≤ 0 then (fw_X12_commonParts_28 n h x1 x2 (x3 ||| 0) (x4 + 1)) else (fw_X12_commonParts_28 n h x1 x2 (x3 ||| (1 <<< (x4 &&& 31))) (x4 + 1))))
def gw_X12_commonParts_28 : Nat → Hp → Int32 → Int32 → Int32 → Int32 → Hp
  | 0, h, _, _, _, _ => h
  | n + 1, h, x1, x2, x3, x4 => if (h.1 56 0 0) ≤ x4 then h else (if (f_X12_needs h x1 x4) ≤ 0 then (gw_X12_commonParts_28 n h x1 x2 (x3 ||| 0) (x4 + 1)) else (if (f_X12_needs h x2 x4) ≤ 0 then (gw_X12_commonParts_28 n h x1 x2 (x3 ||| 0) (x4 + 1)) else (gw_X12_commonParts_28 n h x1 x2 (x3 ||| (1 <<< (x4 &&& 31))) (x4 + 1))))
set_option maxHeartbeats 4000000 in
theorem lw_X12_commonParts_28 {X : WD → State → Prop} {d rb : Nat} {Qr : Option AV → Hp → Prop} {Qx : String → Hp → Prop}   : ∀ (n : Nat) (h : Hp) (x1 : Int32) (x2 : Int32) (x3 : Int32) (x4 : Int32), pw_X12_commonParts_28 n h x1 x2 x3 x4 → Qr (some (vI (fw_X12_commonParts_28 n h x1 x2 x3 x4))) (gw_X12_commonParts_28 n h x1 x2 x3 x4) → AW X (d + 3) rb mX12_commonParts 28 [(0, vR 12 0), (1, vI x1), (2, vI x2), (3, vI x3), (4, vI x4)] [] h Qr Qx := by
  intro n
  induction n with
  | zero => intro h x1 x2 x3 x4 hp; exact hp.elim
  | succ n ih =>
    intro h x1 x2 x3 x4 hp k
    rw [pw_X12_commonParts_28] at hp
    rw [fw_X12_commonParts_28] at k
    rw [gw_X12_commonParts_28] at k
    refine vc_X12_commonParts_28 (d := d + 2)  ?_
    refine ⟨fun c => ?_, fun c => ?_⟩
    · replace hp := hp.1 c
      try simp only [if_pos c] at k
      exact k
    · replace hp := hp.2 c
      try simp only [if_neg c] at k
      refine c_X12_needs  hp.1 ?_
      replace hp := hp.2
      refine ⟨fun c => ?_, fun c => ?_⟩
      · replace hp := hp.1 c
        try simp only [if_pos c] at k
        exact ih _ _ _ _ _ hp k
      · replace hp := hp.2 c
        try simp only [if_neg c] at k
        refine c_X12_needs  hp.1 ?_
        replace hp := hp.2
        refine ⟨fun c => ?_, fun c => ?_⟩
        · replace hp := hp.1 c
          try simp only [if_pos c] at k
          exact ih _ _ _ _ _ hp k
        · replace hp := hp.2 c
          try simp only [if_neg c] at k
          exact ih _ _ _ _ _ hp k
def p_X12_commonParts (h : Hp) (a1 : Int32) (a2 : Int32) : Prop := p_X12_noProduct (hp_i h 12 0 0 0) a1 ∧ (((¬ (f_X12_noProduct (hp_i h 12 0 0 0) a1) = 0) → True) ∧ (((f_X12_noProduct (hp_i h 12 0 0 0) a1) = 0) → (p_X12_noProduct (g_X12_noProduct (hp_i h 12 0 0 0) a1) a2 ∧ ((((f_X12_noProduct (g_X12_noProduct (hp_i h 12 0 0 0) a1) a2) = 0) → (pw_X12_commonParts_28 oa_N (g_X12_noProduct (g_X12_noProduct (hp_i h 12 0 0 0) a1) a2) a1 a2 0 0)) ∧ ((¬ (f_X12_noProduct (g_X12_noProduct (hp_i h 12 0 0 0) a1) a2) = 0) → True)))))
def f_X12_commonParts (h : Hp) (a1 : Int32) (a2 : Int32) : Int32 := if ¬ (f_X12_noProduct (hp_i h 12 0 0 0) a1) = 0 then 0 else (if (f_X12_noProduct (g_X12_noProduct (hp_i h 12 0 0 0) a1) a2) = 0 then (fw_X12_commonParts_28 oa_N (g_X12_noProduct (g_X12_noProduct (hp_i h 12 0 0 0) a1) a2) a1 a2 0 0) else 0)
def g_X12_commonParts (h : Hp) (a1 : Int32) (a2 : Int32) : Hp := if ¬ (f_X12_noProduct (hp_i h 12 0 0 0) a1) = 0 then (g_X12_noProduct (hp_i h 12 0 0 0) a1) else (if (f_X12_noProduct (g_X12_noProduct (hp_i h 12 0 0 0) a1) a2) = 0 then (gw_X12_commonParts_28 oa_N (g_X12_noProduct (g_X12_noProduct (hp_i h 12 0 0 0) a1) a2) a1 a2 0 0) else (g_X12_noProduct (g_X12_noProduct (hp_i h 12 0 0 0) a1) a2))
set_option maxHeartbeats 4000000 in
theorem c_X12_commonParts {d : Nat} {h : Hp} {P : Int32 → Hp → Prop} {Qx : String → Hp → Prop} {a1 : Int32} {a2 : Int32}  (hp : p_X12_commonParts h a1 a2) (k : P (f_X12_commonParts h a1 a2) (g_X12_commonParts h a1 a2)) : CL 0 (d + 3) mX12_commonParts [vR 12 0, vI a1, vI a2] h (oI P) Qx := by
  replace k : oI P (some (vI (f_X12_commonParts h a1 a2))) (g_X12_commonParts h a1 a2) := k
  unfold p_X12_commonParts at hp
  unfold f_X12_commonParts at k
  unfold g_X12_commonParts at k
  refine CL.ofF (plainFor_of_name rfl) rfl (Nat.le_of_ble_eq_true rfl) (vc_X12_commonParts_0 (d := d + 2)  ?_)
  refine c_X12_noProduct  hp.1 ?_
  replace hp := hp.2
  refine ⟨fun c => ?_, fun c => ?_⟩
  · replace hp := hp.1 c
    try simp only [if_pos c] at k
    exact k
  · replace hp := hp.2 c
    try simp only [if_neg (oa_nn c)] at k
    refine c_X12_noProduct  hp.1 ?_
    replace hp := hp.2
    refine ⟨fun c => ?_, fun c => ?_⟩
    · replace hp := hp.1 c
      try simp only [if_pos c] at k
      exact lw_X12_commonParts_28  _ _ _ _ _ _ hp k
    · replace hp := hp.2 c
      try simp only [if_neg c] at k
      exact k
def p_X12_day (h : Hp)  : Prop := True
def f_X12_day (h : Hp)  : Int32 := h.1 58 0 0
def g_X12_day (h : Hp)  : Hp := hp_i h 12 0 0 0
set_option maxHeartbeats 4000000 in
theorem c_X12_day {d : Nat} {h : Hp} {P : Int32 → Hp → Prop} {Qx : String → Hp → Prop}   (hp : p_X12_day h ) (k : P (f_X12_day h ) (g_X12_day h )) : CL 0 (d + 1) mX12_day [vR 12 0] h (oI P) Qx := by
  replace k : oI P (some (vI (f_X12_day h ))) (g_X12_day h ) := k
  unfold p_X12_day at hp
  unfold f_X12_day at k
  unfold g_X12_day at k
  refine CL.ofF (plainFor_of_name rfl) rfl (Nat.le_of_ble_eq_true rfl) (vc_X12_day_0 (d := d + 0)  ?_)
  exact k
def p_X12_stock (h : Hp) (a1 : Int32) : Prop := p_X12_noPart (hp_i h 12 0 0 0) a1 ∧ ((((f_X12_noPart (hp_i h 12 0 0 0) a1) = 0) → ((vp_in (9 + a1) 301) ∧ True)) ∧ ((¬ (f_X12_noPart (hp_i h 12 0 0 0) a1) = 0) → True))
def f_X12_stock (h : Hp) (a1 : Int32) : Int32 := if (f_X12_noPart (hp_i h 12 0 0 0) a1) = 0 then ((g_X12_noPart (hp_i h 12 0 0 0) a1).1 58 0 ((9 + a1).toNatClampNeg)) else 0
def g_X12_stock (h : Hp) (a1 : Int32) : Hp := if (f_X12_noPart (hp_i h 12 0 0 0) a1) = 0 then (g_X12_noPart (hp_i h 12 0 0 0) a1) else (g_X12_noPart (hp_i h 12 0 0 0) a1)
set_option maxHeartbeats 4000000 in
theorem c_X12_stock {d : Nat} {h : Hp} {P : Int32 → Hp → Prop} {Qx : String → Hp → Prop} {a1 : Int32}  (hp : p_X12_stock h a1) (k : P (f_X12_stock h a1) (g_X12_stock h a1)) : CL 0 (d + 3) mX12_stock [vR 12 0, vI a1] h (oI P) Qx := by
  replace k : oI P (some (vI (f_X12_stock h a1))) (g_X12_stock h a1) := k
  unfold p_X12_stock at hp
  unfold f_X12_stock at k
  unfold g_X12_stock at k
  refine CL.ofF (plainFor_of_name rfl) rfl (Nat.le_of_ble_eq_true rfl) (vc_X12_stock_0 (d := d + 2)  ?_)
  refine c_X12_noPart  hp.1 ?_
  replace hp := hp.2
  refine ⟨fun c => ?_, fun c => ?_⟩
  · replace hp := hp.1 c
    try simp only [if_pos c] at k
    refine ⟨hp.1, ?_⟩
    replace hp := hp.2
    exact k
  · replace hp := hp.2 c
    try simp only [if_neg c] at k
    exact k
def p_X12_reserved (h : Hp) (a1 : Int32) : Prop := p_X12_noPart (hp_i h 12 0 0 0) a1 ∧ ((((f_X12_noPart (hp_i h 12 0 0 0) a1) = 0) → ((vp_in (21 + a1) 301) ∧ True)) ∧ ((¬ (f_X12_noPart (hp_i h 12 0 0 0) a1) = 0) → True))
def f_X12_reserved (h : Hp) (a1 : Int32) : Int32 := if (f_X12_noPart (hp_i h 12 0 0 0) a1) = 0 then ((g_X12_noPart (hp_i h 12 0 0 0) a1).1 58 0 ((21 + a1).toNatClampNeg)) else 0
def g_X12_reserved (h : Hp) (a1 : Int32) : Hp := if (f_X12_noPart (hp_i h 12 0 0 0) a1) = 0 then (g_X12_noPart (hp_i h 12 0 0 0) a1) else (g_X12_noPart (hp_i h 12 0 0 0) a1)
set_option maxHeartbeats 4000000 in
theorem c_X12_reserved {d : Nat} {h : Hp} {P : Int32 → Hp → Prop} {Qx : String → Hp → Prop} {a1 : Int32}  (hp : p_X12_reserved h a1) (k : P (f_X12_reserved h a1) (g_X12_reserved h a1)) : CL 0 (d + 3) mX12_reserved [vR 12 0, vI a1] h (oI P) Qx := by
  replace k : oI P (some (vI (f_X12_reserved h a1))) (g_X12_reserved h a1) := k
  unfold p_X12_reserved at hp
  unfold f_X12_reserved at k
  unfold g_X12_reserved at k
  refine CL.ofF (plainFor_of_name rfl) rfl (Nat.le_of_ble_eq_true rfl) (vc_X12_reserved_0 (d := d + 2)  ?_)
  refine c_X12_noPart  hp.1 ?_
  replace hp := hp.2
  refine ⟨fun c => ?_, fun c => ?_⟩
  · replace hp := hp.1 c
    try simp only [if_pos c] at k
    refine ⟨hp.1, ?_⟩
    replace hp := hp.2
    exact k
  · replace hp := hp.2 c
    try simp only [if_neg c] at k
    exact k
def pw_X12_comesBy_5 : Nat → Hp → Int32 → Int32 → Int32 → Int32 → Prop
  | 0, _, _, _, _, _ => False
  | n + 1, h, x1, x2, x3, x4 => (((h.1 58 0 2) ≤ x4) → True) ∧ ((¬ (h.1 58 0 2) ≤ x4) → ((vp_in (33 + (3 * x4)) 301) ∧ (((¬ (h.1 58 0 ((33 + (3 * x4)).toNatClampNeg)) = x1) → (pw_X12_comesBy_5 n h x1 x2 (x3 + 0) (x4 + 1))) ∧ (((h.1 58 0 ((33 + (3 * x4)).toNatClampNeg)) = x1) → ((vp_in ((33 + (3 * x4)) + 2) 301) ∧ (((x2 < (h.1 58 0 (((33 + (3 * x4)) + 2).toNatClampNeg))) → (pw_X12_comesBy_5 n h x1 x2 (x3 + 0) (x4 + 1))) ∧ ((¬ x2 < (h.1 58 0 (((33 + (3 * x4)) + 2).toNatClampNeg))) → ((vp_in ((33 + (3 * x4)) + 1) 301) ∧ (pw_X12_comesBy_5 n h x1 x2 (x3 + (h.1 58 0 (((33 + (3 * x4)) + 1).toNatClampNeg))) (x4 + 1))))))))))
def fw_X12_comesBy_5 : Nat → Hp → Int32 → Int32 → Int32 → Int32 → Int32
  | 0, _, _, _, _, _ => 0
  | n + 1, h, x1, x2, x3, x4 => if (h.1 58 0 2) ≤ x4 then x3 else (if ¬ (h.1 58 0 ((33 + (3 * x4)).toNatClampNeg)) = x1 then (fw_X12_comesBy_5 n h x1 x2 (x3 + 0) (x4 + 1)) else (if x2 < (h.1 58 0 (((33 + (3 * x4)) + 2).toNatClampNeg)) then (fw_X12_comesBy_5 n h x1 x2 (x3 + 0) (x4 + 1)) else (fw_X12_comesBy_5 n h x1 x2 (x3 + (h.1 58 0 (((33 + (3 * x4)) + 1).toNatClampNeg))) (x4 + 1))))
set_option maxHeartbeats 4000000 in
theorem lw_X12_comesBy_5 {X : WD → State → Prop} {d rb : Nat} {Qr : Option AV → Hp → Prop} {Qx : String → Hp → Prop}   : ∀ (n : Nat) (h : Hp) (x1 : Int32) (x2 : Int32) (x3 : Int32) (x4 : Int32), pw_X12_comesBy_5 n h x1 x2 x3 x4 → Qr (some (vI (fw_X12_comesBy_5 n h x1 x2 x3 x4))) h → AW X (d + 1) rb mX12_comesBy 5 [(0, vR 12 0), (1, vI x1), (2, vI x2), (3, vI x3), (4, vI x4)] [] h Qr Qx := by
  intro n
  induction n with
  | zero => intro h x1 x2 x3 x4 hp; exact hp.elim
  | succ n ih =>
    intro h x1 x2 x3 x4 hp k
    rw [pw_X12_comesBy_5] at hp
    rw [fw_X12_comesBy_5] at k
    refine vc_X12_comesBy_5 (d := d + 0)  ?_
    refine ⟨fun c => ?_, fun c => ?_⟩
    · replace hp := hp.1 c
      try simp only [if_pos c] at k
      exact k
    · replace hp := hp.2 c
      try simp only [if_neg c] at k
      refine ⟨hp.1, ?_⟩
      replace hp := hp.2
      refine ⟨fun c => ?_, fun c => ?_⟩
      · replace hp := hp.1 c
        try simp only [if_pos c] at k
        exact ih _ _ _ _ _ hp k
      · replace hp := hp.2 c
        try simp only [if_neg (oa_nn c)] at k
        refine ⟨hp.1, ?_⟩
        replace hp := hp.2
        refine ⟨fun c => ?_, fun c => ?_⟩
        · replace hp := hp.1 c
          try simp only [if_pos c] at k
          exact ih _ _ _ _ _ hp k
        · replace hp := hp.2 c
          try simp only [if_neg c] at k
          refine ⟨hp.1, ?_⟩
          replace hp := hp.2
          exact ih _ _ _ _ _ hp k
def p_X12_comesBy (h : Hp) (a1 : Int32) (a2 : Int32) : Prop := pw_X12_comesBy_5 oa_N h a1 a2 0 0
def f_X12_comesBy (h : Hp) (a1 : Int32) (a2 : Int32) : Int32 := fw_X12_comesBy_5 oa_N h a1 a2 0 0
set_option maxHeartbeats 4000000 in
theorem c_X12_comesBy {d : Nat} {h : Hp} {P : Int32 → Hp → Prop} {Qx : String → Hp → Prop} {a1 : Int32} {a2 : Int32}  (hp : p_X12_comesBy h a1 a2) (k : P (f_X12_comesBy h a1 a2) h) : CL 0 (d + 1) mX12_comesBy [vR 12 0, vI a1, vI a2] h (oI P) Qx := by
  replace k : oI P (some (vI (f_X12_comesBy h a1 a2))) h := k
  unfold p_X12_comesBy at hp
  unfold f_X12_comesBy at k
  refine CL.ofF (plainFor_of_name rfl) rfl (Nat.le_of_ble_eq_true rfl) (vc_X12_comesBy_0 (d := d + 0)  ?_)
  exact lw_X12_comesBy_5  _ _ _ _ _ _ hp k
def p_X12_arriving (h : Hp) (a1 : Int32) : Prop := p_X12_noPart (hp_i h 12 0 0 0) a1 ∧ ((((f_X12_noPart (hp_i h 12 0 0 0) a1) = 0) → (p_X12_comesBy (g_X12_noPart (hp_i h 12 0 0 0) a1) a1 2147483647 ∧ True)) ∧ ((¬ (f_X12_noPart (hp_i h 12 0 0 0) a1) = 0) → True))
def f_X12_arriving (h : Hp) (a1 : Int32) : Int32 := if (f_X12_noPart (hp_i h 12 0 0 0) a1) = 0 then (f_X12_comesBy (g_X12_noPart (hp_i h 12 0 0 0) a1) a1 2147483647) else 0
def g_X12_arriving (h : Hp) (a1 : Int32) : Hp := if (f_X12_noPart (hp_i h 12 0 0 0) a1) = 0 then (g_X12_noPart (hp_i h 12 0 0 0) a1) else (g_X12_noPart (hp_i h 12 0 0 0) a1)
set_option maxHeartbeats 4000000 in
theorem c_X12_arriving {d : Nat} {h : Hp} {P : Int32 → Hp → Prop} {Qx : String → Hp → Prop} {a1 : Int32}  (hp : p_X12_arriving h a1) (k : P (f_X12_arriving h a1) (g_X12_arriving h a1)) : CL 0 (d + 3) mX12_arriving [vR 12 0, vI a1] h (oI P) Qx := by
  replace k : oI P (some (vI (f_X12_arriving h a1))) (g_X12_arriving h a1) := k
  unfold p_X12_arriving at hp
  unfold f_X12_arriving at k
  unfold g_X12_arriving at k
  refine CL.ofF (plainFor_of_name rfl) rfl (Nat.le_of_ble_eq_true rfl) (vc_X12_arriving_0 (d := d + 2)  ?_)
  refine c_X12_noPart  hp.1 ?_
  replace hp := hp.2
  refine ⟨fun c => ?_, fun c => ?_⟩
  · replace hp := hp.1 c
    try simp only [if_pos c] at k
    refine c_X12_comesBy  hp.1 ?_
    replace hp := hp.2
    exact k
  · replace hp := hp.2 c
    try simp only [if_neg c] at k
    exact k
def pw_X12_nextArrival_19 : Nat → Hp → Int32 → Int32 → Int32 → Prop
  | 0, _, _, _, _ => False
  | n + 1, h, x1, x2, x3 => (((h.1 58 0 2) ≤ x3) → True) ∧ ((¬ (h.1 58 0 2) ≤ x3) → ((vp_in ((33 + (3 * x3)) + 2) 301) ∧ ((vp_in (33 + (3 * x3)) 301) ∧ (((¬ (h.1 58 0 ((33 + (3 * x3)).toNatClampNeg)) = x1) → (pw_X12_nextArrival_19 n h x1 x2 (x3 + 1))) ∧ (((h.1 58 0 ((33 + (3 * x3)).toNatClampNeg)) = x1) → (((x2 = (-1)) → (pw_X12_nextArrival_19 n h x1 (h.1 58 0 (((33 + (3 * x3)) + 2).toNatClampNeg)) (x3 + 1))) ∧ ((¬ x2 = (-1)) → (((x2 ≤ (h.1 58 0 (((33 + (3 * x3)) + 2).toNatClampNeg))) → (pw_X12_nextArrival_19 n h x1 x2 (x3 + 1))) ∧ ((¬ x2 ≤ (h.1 58 0 (((33 + (3 * x3)) + 2).toNatClampNeg))) → (pw_X12_nextArrival_19 n h x1 (h.1 58 0 (((33 + (3 * x3)) + 2).toNatClampNeg)) (x3 + 1)))))))))))
def fw_X12_nextArrival_19 : Nat → Hp → Int32 → Int32 → Int32 → Int32
  | 0, _, _, _, _ => 0
  | n + 1, h, x1, x2, x3 => if (h.1 58 0 2) ≤ x3 then x2 else (if ¬ (h.1 58 0 ((33 + (3 * x3)).toNatClampNeg)) = x1 then (fw_X12_nextArrival_19 n h x1 x2 (x3 + 1)) else (if x2 = (-1) then (fw_X12_nextArrival_19 n h x1 (h.1 58 0 (((33 + (3 * x3)) + 2).toNatClampNeg)) (x3 + 1)) else (if x2 ≤ (h.1 58 0 (((33 + (3 * x3)) + 2).toNatClampNeg)) then (fw_X12_nextArrival_19 n h x1 x2 (x3 + 1)) else (fw_X12_nextArrival_19 n h x1 (h.1 58 0 (((33 + (3 * x3)) + 2).toNatClampNeg)) (x3 + 1)))))
def gw_X12_nextArrival_19 : Nat → Hp → Int32 → Int32 → Int32 → Hp
  | 0, h, _, _, _ => h
  | n + 1, h, x1, x2, x3 => if (h.1 58 0 2) ≤ x3 then h else (if ¬ (h.1 58 0 ((33 + (3 * x3)).toNatClampNeg)) = x1 then (gw_X12_nextArrival_19 n h x1 x2 (x3 + 1)) else (if x2 = (-1) then (gw_X12_nextArrival_19 n h x1 (h.1 58 0 (((33 + (3 * x3)) + 2).toNatClampNeg)) (x3 + 1)) else (if x2 ≤ (h.1 58 0 (((33 + (3 * x3)) + 2).toNatClampNeg)) then (gw_X12_nextArrival_19 n h x1 x2 (x3 + 1)) else (gw_X12_nextArrival_19 n h x1 (h.1 58 0 (((33 + (3 * x3)) + 2).toNatClampNeg)) (x3 + 1)))))
set_option maxHeartbeats 4000000 in
theorem lw_X12_nextArrival_19 {X : WD → State → Prop} {d rb : Nat} {Qr : Option AV → Hp → Prop} {Qx : String → Hp → Prop}   : ∀ (n : Nat) (h : Hp) (x1 : Int32) (x2 : Int32) (x3 : Int32), pw_X12_nextArrival_19 n h x1 x2 x3 → Qr (some (vI (fw_X12_nextArrival_19 n h x1 x2 x3))) (gw_X12_nextArrival_19 n h x1 x2 x3) → AW X (d + 3) rb mX12_nextArrival 19 [(0, vR 12 0), (1, vI x1), (2, vI x2), (3, vI x3)] [] h Qr Qx := by
  intro n
  induction n with
  | zero => intro h x1 x2 x3 hp; exact hp.elim
  | succ n ih =>
    intro h x1 x2 x3 hp k
    rw [pw_X12_nextArrival_19] at hp
    rw [fw_X12_nextArrival_19] at k
    rw [gw_X12_nextArrival_19] at k
    refine vc_X12_nextArrival_19 (d := d + 2)  ?_
    refine ⟨fun c => ?_, fun c => ?_⟩
    · replace hp := hp.1 c
      try simp only [if_pos c] at k
      exact k
    · replace hp := hp.2 c
      try simp only [if_neg c] at k
      refine ⟨hp.1, ?_⟩
      replace hp := hp.2
      refine ⟨hp.1, ?_⟩
      replace hp := hp.2
      refine ⟨fun c => ?_, fun c => ?_⟩
      · replace hp := hp.1 c
        try simp only [if_pos c] at k
        exact ih _ _ _ _ hp k
      · replace hp := hp.2 c
        try simp only [if_neg (oa_nn c)] at k
        refine ⟨fun c => ?_, fun c => ?_⟩
        · replace hp := hp.1 c
          try simp only [if_pos c] at k
          exact ih _ _ _ _ hp k
        · replace hp := hp.2 c
          try simp only [if_neg c] at k
          refine ⟨fun c => ?_, fun c => ?_⟩
          · replace hp := hp.1 c
            try simp only [if_pos c] at k
            exact ih _ _ _ _ hp k
          · replace hp := hp.2 c
            try simp only [if_neg c] at k
            exact ih _ _ _ _ hp k
def p_X12_nextArrival (h : Hp) (a1 : Int32) : Prop := p_X12_noPart (hp_i h 12 0 0 0) a1 ∧ ((((f_X12_noPart (hp_i h 12 0 0 0) a1) = 0) → (pw_X12_nextArrival_19 oa_N (g_X12_noPart (hp_i h 12 0 0 0) a1) a1 (-1) 0)) ∧ ((¬ (f_X12_noPart (hp_i h 12 0 0 0) a1) = 0) → True))
def f_X12_nextArrival (h : Hp) (a1 : Int32) : Int32 := if (f_X12_noPart (hp_i h 12 0 0 0) a1) = 0 then (fw_X12_nextArrival_19 oa_N (g_X12_noPart (hp_i h 12 0 0 0) a1) a1 (-1) 0) else 0
def g_X12_nextArrival (h : Hp) (a1 : Int32) : Hp := if (f_X12_noPart (hp_i h 12 0 0 0) a1) = 0 then (gw_X12_nextArrival_19 oa_N (g_X12_noPart (hp_i h 12 0 0 0) a1) a1 (-1) 0) else (g_X12_noPart (hp_i h 12 0 0 0) a1)
set_option maxHeartbeats 4000000 in
theorem c_X12_nextArrival {d : Nat} {h : Hp} {P : Int32 → Hp → Prop} {Qx : String → Hp → Prop} {a1 : Int32}  (hp : p_X12_nextArrival h a1) (k : P (f_X12_nextArrival h a1) (g_X12_nextArrival h a1)) : CL 0 (d + 3) mX12_nextArrival [vR 12 0, vI a1] h (oI P) Qx := by
  replace k : oI P (some (vI (f_X12_nextArrival h a1))) (g_X12_nextArrival h a1) := k
  unfold p_X12_nextArrival at hp
  unfold f_X12_nextArrival at k
  unfold g_X12_nextArrival at k
  refine CL.ofF (plainFor_of_name rfl) rfl (Nat.le_of_ble_eq_true rfl) (vc_X12_nextArrival_0 (d := d + 2)  ?_)
  refine c_X12_noPart  hp.1 ?_
  replace hp := hp.2
  refine ⟨fun c => ?_, fun c => ?_⟩
  · replace hp := hp.1 c
    try simp only [if_pos c] at k
    exact lw_X12_nextArrival_19  _ _ _ _ _ hp k
  · replace hp := hp.2 c
    try simp only [if_neg c] at k
    exact k
def pw_X12_leastOf_4 : Nat → Hp → Int32 → Int32 → Int32 → Prop
  | 0, _, _, _, _ => False
  | n + 1, h, x1, x2, x3 => (((h.1 56 0 0) ≤ x3) → True) ∧ ((¬ (h.1 56 0 0) ≤ x3) → (p_X12_needs h x1 x3 ∧ ((((f_X12_needs h x1 x3) ≤ 0) → (pw_X12_leastOf_4 n h x1 x2 (x3 + 1))) ∧ ((¬ (f_X12_needs h x1 x3) ≤ 0) → (((x2 = (-1)) → (pw_X12_leastOf_4 n h x1 x3 (x3 + 1))) ∧ ((¬ x2 = (-1)) → (p_X12_free h x3 ∧ (p_X12_needs h x1 x3 ∧ ((¬ (f_X12_needs h x1 x3) = 0) ∧ (p_X12_free h x2 ∧ (p_X12_needs h x1 x2 ∧ ((¬ (f_X12_needs h x1 x2) = 0) ∧ (((((f_X12_free h x2) / (f_X12_needs h x1 x2)) ≤ ((f_X12_free h x3) / (f_X12_needs h x1 x3))) → (pw_X12_leastOf_4 n h x1 x2 (x3 + 1))) ∧ ((¬ ((f_X12_free h x2) / (f_X12_needs h x1 x2)) ≤ ((f_X12_free h x3) / (f_X12_needs h x1 x3))) → (pw_X12_leastOf_4 n h x1 x3 (x3 + 1))))))))))))))))
def fw_X12_leastOf_4 : Nat → Hp → Int32 → Int32 → Int32 → Int32
  | 0, _, _, _, _ => 0
  | n + 1, h, x1, x2, x3 => if (h.1 56 0 0) ≤ x3 then x2 else (if (f_X12_needs h x1 x3) ≤ 0 then (fw_X12_leastOf_4 n h x1 x2 (x3 + 1)) else (if x2 = (-1) then (fw_X12_leastOf_4 n h x1 x3 (x3 + 1)) else (if ((f_X12_free h x2) / (f_X12_needs h x1 x2)) ≤ ((f_X12_free h x3) / (f_X12_needs h x1 x3)) then (fw_X12_leastOf_4 n h x1 x2 (x3 + 1)) else (fw_X12_leastOf_4 n h x1 x3 (x3 + 1)))))
set_option maxHeartbeats 4000000 in
theorem lw_X12_leastOf_4 {X : WD → State → Prop} {d rb : Nat} {Qr : Option AV → Hp → Prop} {Qx : String → Hp → Prop}   : ∀ (n : Nat) (h : Hp) (x1 : Int32) (x2 : Int32) (x3 : Int32), pw_X12_leastOf_4 n h x1 x2 x3 → Qr (some (vI (fw_X12_leastOf_4 n h x1 x2 x3))) h → AW X (d + 2) rb mX12_leastOf 4 [(0, vR 12 0), (1, vI x1), (2, vI x2), (3, vI x3)] [] h Qr Qx := by
  intro n
  induction n with
  | zero => intro h x1 x2 x3 hp; exact hp.elim
  | succ n ih =>
    intro h x1 x2 x3 hp k
    rw [pw_X12_leastOf_4] at hp
    rw [fw_X12_leastOf_4] at k
    refine vc_X12_leastOf_4 (d := d + 1)  ?_
    refine ⟨fun c => ?_, fun c => ?_⟩
    · replace hp := hp.1 c
      try simp only [if_pos c] at k
      exact k
    · replace hp := hp.2 c
      try simp only [if_neg c] at k
      refine c_X12_needs  hp.1 ?_
      replace hp := hp.2
      refine ⟨fun c => ?_, fun c => ?_⟩
      · replace hp := hp.1 c
        try simp only [if_pos c] at k
        exact ih _ _ _ _ hp k
      · replace hp := hp.2 c
        try simp only [if_neg c] at k
        refine ⟨fun c => ?_, fun c => ?_⟩
        · replace hp := hp.1 c
          try simp only [if_pos c] at k
          exact ih _ _ _ _ hp k
        · replace hp := hp.2 c
          try simp only [if_neg c] at k
          refine c_X12_free  hp.1 ?_
          replace hp := hp.2
          refine c_X12_needs  hp.1 ?_
          replace hp := hp.2
          refine ⟨hp.1, ?_⟩
          replace hp := hp.2
          refine c_X12_free  hp.1 ?_
          replace hp := hp.2
          refine c_X12_needs  hp.1 ?_
          replace hp := hp.2
          refine ⟨hp.1, ?_⟩
          replace hp := hp.2
          refine ⟨fun c => ?_, fun c => ?_⟩
          · replace hp := hp.1 c
            try simp only [if_pos c] at k
            exact ih _ _ _ _ hp k
          · replace hp := hp.2 c
            try simp only [if_neg c] at k
            exact ih _ _ _ _ hp k
def p_X12_leastOf (h : Hp) (a1 : Int32) : Prop := pw_X12_leastOf_4 oa_N h a1 (-1) 0
def f_X12_leastOf (h : Hp) (a1 : Int32) : Int32 := fw_X12_leastOf_4 oa_N h a1 (-1) 0
set_option maxHeartbeats 4000000 in
theorem c_X12_leastOf {d : Nat} {h : Hp} {P : Int32 → Hp → Prop} {Qx : String → Hp → Prop} {a1 : Int32}  (hp : p_X12_leastOf h a1) (k : P (f_X12_leastOf h a1) h) : CL 0 (d + 2) mX12_leastOf [vR 12 0, vI a1] h (oI P) Qx := by
  replace k : oI P (some (vI (f_X12_leastOf h a1))) h := k
  unfold p_X12_leastOf at hp
  unfold f_X12_leastOf at k
  refine CL.ofF (plainFor_of_name rfl) rfl (Nat.le_of_ble_eq_true rfl) (vc_X12_leastOf_0 (d := d + 1)  ?_)
  exact lw_X12_leastOf_4  _ _ _ _ _ hp k
def p_X12_builds (h : Hp) (a1 : Int32) : Prop := p_X12_leastOf h a1 ∧ (p_X12_free h (f_X12_leastOf h a1) ∧ (p_X12_leastOf h a1 ∧ (p_X12_needs h a1 (f_X12_leastOf h a1) ∧ ((¬ (f_X12_needs h a1 (f_X12_leastOf h a1)) = 0) ∧ True))))
def f_X12_builds (h : Hp) (a1 : Int32) : Int32 := (f_X12_free h (f_X12_leastOf h a1)) / (f_X12_needs h a1 (f_X12_leastOf h a1))
set_option maxHeartbeats 4000000 in
theorem c_X12_builds {d : Nat} {h : Hp} {P : Int32 → Hp → Prop} {Qx : String → Hp → Prop} {a1 : Int32}  (hp : p_X12_builds h a1) (k : P (f_X12_builds h a1) h) : CL 0 (d + 3) mX12_builds [vR 12 0, vI a1] h (oI P) Qx := by
  replace k : oI P (some (vI (f_X12_builds h a1))) h := k
  unfold p_X12_builds at hp
  unfold f_X12_builds at k
  refine CL.ofF (plainFor_of_name rfl) rfl (Nat.le_of_ble_eq_true rfl) (vc_X12_builds_0 (d := d + 2)  ?_)
  refine c_X12_leastOf  hp.1 ?_
  replace hp := hp.2
  refine c_X12_free  hp.1 ?_
  replace hp := hp.2
  refine c_X12_leastOf  hp.1 ?_
  replace hp := hp.2
  refine c_X12_needs  hp.1 ?_
  replace hp := hp.2
  refine ⟨hp.1, ?_⟩
  replace hp := hp.2
  exact k
def p_X12_buildable (h : Hp) (a1 : Int32) : Prop := p_X12_noProduct (hp_i h 12 0 0 0) a1 ∧ ((((f_X12_noProduct (hp_i h 12 0 0 0) a1) = 0) → (p_X12_builds (g_X12_noProduct (hp_i h 12 0 0 0) a1) a1 ∧ True)) ∧ ((¬ (f_X12_noProduct (hp_i h 12 0 0 0) a1) = 0) → True))
def f_X12_buildable (h : Hp) (a1 : Int32) : Int32 := if (f_X12_noProduct (hp_i h 12 0 0 0) a1) = 0 then (f_X12_builds (g_X12_noProduct (hp_i h 12 0 0 0) a1) a1) else 0
def g_X12_buildable (h : Hp) (a1 : Int32) : Hp := if (f_X12_noProduct (hp_i h 12 0 0 0) a1) = 0 then (g_X12_noProduct (hp_i h 12 0 0 0) a1) else (g_X12_noProduct (hp_i h 12 0 0 0) a1)
set_option maxHeartbeats 4000000 in
theorem c_X12_buildable {d : Nat} {h : Hp} {P : Int32 → Hp → Prop} {Qx : String → Hp → Prop} {a1 : Int32}  (hp : p_X12_buildable h a1) (k : P (f_X12_buildable h a1) (g_X12_buildable h a1)) : CL 0 (d + 4) mX12_buildable [vR 12 0, vI a1] h (oI P) Qx := by
  replace k : oI P (some (vI (f_X12_buildable h a1))) (g_X12_buildable h a1) := k
  unfold p_X12_buildable at hp
  unfold f_X12_buildable at k
  unfold g_X12_buildable at k
  refine CL.ofF (plainFor_of_name rfl) rfl (Nat.le_of_ble_eq_true rfl) (vc_X12_buildable_0 (d := d + 3)  ?_)
  refine c_X12_noProduct  hp.1 ?_
  replace hp := hp.2
  refine ⟨fun c => ?_, fun c => ?_⟩
  · replace hp := hp.1 c
    try simp only [if_pos c] at k
    refine c_X12_builds  hp.1 ?_
    replace hp := hp.2
    exact k
  · replace hp := hp.2 c
    try simp only [if_neg c] at k
    exact k
def p_X12_bottleneck (h : Hp) (a1 : Int32) : Prop := p_X12_noProduct (hp_i h 12 0 0 0) a1 ∧ ((((f_X12_noProduct (hp_i h 12 0 0 0) a1) = 0) → (p_X12_leastOf (g_X12_noProduct (hp_i h 12 0 0 0) a1) a1 ∧ True)) ∧ ((¬ (f_X12_noProduct (hp_i h 12 0 0 0) a1) = 0) → True))
def f_X12_bottleneck (h : Hp) (a1 : Int32) : Int32 := if (f_X12_noProduct (hp_i h 12 0 0 0) a1) = 0 then (f_X12_leastOf (g_X12_noProduct (hp_i h 12 0 0 0) a1) a1) else 0
def g_X12_bottleneck (h : Hp) (a1 : Int32) : Hp := if (f_X12_noProduct (hp_i h 12 0 0 0) a1) = 0 then (g_X12_noProduct (hp_i h 12 0 0 0) a1) else (g_X12_noProduct (hp_i h 12 0 0 0) a1)
set_option maxHeartbeats 4000000 in
theorem c_X12_bottleneck {d : Nat} {h : Hp} {P : Int32 → Hp → Prop} {Qx : String → Hp → Prop} {a1 : Int32}  (hp : p_X12_bottleneck h a1) (k : P (f_X12_bottleneck h a1) (g_X12_bottleneck h a1)) : CL 0 (d + 3) mX12_bottleneck [vR 12 0, vI a1] h (oI P) Qx := by
  replace k : oI P (some (vI (f_X12_bottleneck h a1))) (g_X12_bottleneck h a1) := k
  unfold p_X12_bottleneck at hp
  unfold f_X12_bottleneck at k
  unfold g_X12_bottleneck at k
  refine CL.ofF (plainFor_of_name rfl) rfl (Nat.le_of_ble_eq_true rfl) (vc_X12_bottleneck_0 (d := d + 2)  ?_)
  refine c_X12_noProduct  hp.1 ?_
  replace hp := hp.2
  refine ⟨fun c => ?_, fun c => ?_⟩
  · replace hp := hp.1 c
    try simp only [if_pos c] at k
    refine c_X12_leastOf  hp.1 ?_
    replace hp := hp.2
    exact k
  · replace hp := hp.2 c
    try simp only [if_neg c] at k
    exact k
def pi_X12_buildableTogether_66 : Nat → Hp → Int32 → Int32 → Int32 → Int32 → Int32 → Int32 → Prop
  | 0, _, _, _, _, _, _, _ => False
  | n + 1, h, x1, x2, x3, x4, x5, x6 => (((h.1 56 0 0) ≤ x6) → True) ∧ ((¬ (h.1 56 0 0) ≤ x6) → (p_X12_needs h x2 x6 ∧ ((((f_X12_needs h x2 x6) ≤ 0) → (pi_X12_buildableTogether_66 n h x1 x2 x3 x4 x5 (x6 + 1))) ∧ ((¬ (f_X12_needs h x2 x6) ≤ 0) → (p_X12_free h x6 ∧ (p_X12_needs h x1 x6 ∧ (p_X12_needs h x2 x6 ∧ ((¬ (f_X12_needs h x2 x6) = 0) ∧ (pi_X12_buildableTogether_66 n h x1 x2 x3 x4 (if (((f_X12_free h x6) - (x4 * (f_X12_needs h x1 x6))) / (f_X12_needs h x2 x6)) < x5 then (((f_X12_free h x6) - (x4 * (f_X12_needs h x1 x6))) / (f_X12_needs h x2 x6)) else x5) (x6 + 1))))))))))
def iw_x5_X12_buildableTogether_66 : Nat → Hp → Int32 → Int32 → Int32 → Int32 → Int32 → Int32 → Int32
  | 0, _, _, _, _, _, x5, _ => x5
  | n + 1, h, x1, x2, x3, x4, x5, x6 => if (h.1 56 0 0) ≤ x6 then x5 else (if (f_X12_needs h x2 x6) ≤ 0 then (iw_x5_X12_buildableTogether_66 n h x1 x2 x3 x4 x5 (x6 + 1)) else (iw_x5_X12_buildableTogether_66 n h x1 x2 x3 x4 (if (((f_X12_free h x6) - (x4 * (f_X12_needs h x1 x6))) / (f_X12_needs h x2 x6)) < x5 then (((f_X12_free h x6) - (x4 * (f_X12_needs h x1 x6))) / (f_X12_needs h x2 x6)) else x5) (x6 + 1)))
def iw_x6_X12_buildableTogether_66 : Nat → Hp → Int32 → Int32 → Int32 → Int32 → Int32 → Int32 → Int32
  | 0, _, _, _, _, _, _, x6 => x6
  | n + 1, h, x1, x2, x3, x4, x5, x6 => if (h.1 56 0 0) ≤ x6 then x6 else (if (f_X12_needs h x2 x6) ≤ 0 then (iw_x6_X12_buildableTogether_66 n h x1 x2 x3 x4 x5 (x6 + 1)) else (iw_x6_X12_buildableTogether_66 n h x1 x2 x3 x4 (if (((f_X12_free h x6) - (x4 * (f_X12_needs h x1 x6))) / (f_X12_needs h x2 x6)) < x5 then (((f_X12_free h x6) - (x4 * (f_X12_needs h x1 x6))) / (f_X12_needs h x2 x6)) else x5) (x6 + 1)))
set_option maxHeartbeats 4000000 in
theorem li_X12_buildableTogether_66 {X : WD → State → Prop} {d rb : Nat} {Qr : Option AV → Hp → Prop} {Qx : String → Hp → Prop}   : ∀ (n : Nat) (h : Hp) (x1 : Int32) (x2 : Int32) (x3 : Int32) (x4 : Int32) (x5 : Int32) (x6 : Int32), pi_X12_buildableTogether_66 n h x1 x2 x3 x4 x5 x6 → AW X (d + 4) rb mX12_buildableTogether 125 [(0, vR 12 0), (1, vI x1), (2, vI x2), (3, vI x3), (4, vI x4), (5, vI (iw_x5_X12_buildableTogether_66 n h x1 x2 x3 x4 x5 x6)), (6, vI (iw_x6_X12_buildableTogether_66 n h x1 x2 x3 x4 x5 x6))] [] h Qr Qx → AW X (d + 4) rb mX12_buildableTogether 66 [(0, vR 12 0), (1, vI x1), (2, vI x2), (3, vI x3), (4, vI x4), (5, vI x5), (6, vI x6)] [] h Qr Qx := by
  intro n
  induction n with
  | zero => intro h x1 x2 x3 x4 x5 x6 hp; exact hp.elim
  | succ n ih =>
    intro h x1 x2 x3 x4 x5 x6 hp k
    rw [pi_X12_buildableTogether_66] at hp
    simp only [iw_x5_X12_buildableTogether_66, iw_x6_X12_buildableTogether_66] at k
    refine vc_X12_buildableTogether_66 (d := d + 3)  ?_
    refine ⟨fun c => ?_, fun c => ?_⟩
    · replace hp := hp.1 c
      try simp only [if_pos c] at k
      exact k
    · replace hp := hp.2 c
      try simp only [if_neg c] at k
      refine c_X12_needs  hp.1 ?_
      replace hp := hp.2
      refine ⟨fun c => ?_, fun c => ?_⟩
      · replace hp := hp.1 c
        try simp only [if_pos c] at k
        exact ih _ _ _ _ _ _ _ hp k
      · replace hp := hp.2 c
        try simp only [if_neg c] at k
        refine c_X12_free  hp.1 ?_
        replace hp := hp.2
        refine c_X12_needs  hp.1 ?_
        replace hp := hp.2
        refine c_X12_needs  hp.1 ?_
        replace hp := hp.2
        refine ⟨hp.1, ?_⟩
        replace hp := hp.2
        exact ih _ _ _ _ _ _ _ hp k
def pw_X12_buildableTogether_46 : Nat → Hp → Int32 → Int32 → Int32 → Int32 → Prop
  | 0, _, _, _, _, _ => False
  | n + 1, h, x1, x2, x3, x4 => p_X12_builds h x1 ∧ ((((f_X12_builds h x1) < x4) → True) ∧ ((¬ (f_X12_builds h x1) < x4) → (p_X12_builds h x2 ∧ (pi_X12_buildableTogether_66 oa_N h x1 x2 x3 x4 (f_X12_builds h x2) 0 ∧ (pw_X12_buildableTogether_46 n h x1 x2 (if x3 < (x4 + (iw_x5_X12_buildableTogether_66 oa_N h x1 x2 x3 x4 (f_X12_builds h x2) 0)) then (x4 + (iw_x5_X12_buildableTogether_66 oa_N h x1 x2 x3 x4 (f_X12_builds h x2) 0)) else x3) (x4 + 1))))))
def fw_X12_buildableTogether_46 : Nat → Hp → Int32 → Int32 → Int32 → Int32 → Int32
  | 0, _, _, _, _, _ => 0
  | n + 1, h, x1, x2, x3, x4 => if (f_X12_builds h x1) < x4 then x3 else (fw_X12_buildableTogether_46 n h x1 x2 (if x3 < (x4 + (iw_x5_X12_buildableTogether_66 oa_N h x1 x2 x3 x4 (f_X12_builds h x2) 0)) then (x4 + (iw_x5_X12_buildableTogether_66 oa_N h x1 x2 x3 x4 (f_X12_builds h x2) 0)) else x3) (x4 + 1))
def gw_X12_buildableTogether_46 : Nat → Hp → Int32 → Int32 → Int32 → Int32 → Hp
  | 0, h, _, _, _, _ => h
  | n + 1, h, x1, x2, x3, x4 => if (f_X12_builds h x1) < x4 then h else (gw_X12_buildableTogether_46 n h x1 x2 (if x3 < (x4 + (iw_x5_X12_buildableTogether_66 oa_N h x1 x2 x3 x4 (f_X12_builds h x2) 0)) then (x4 + (iw_x5_X12_buildableTogether_66 oa_N h x1 x2 x3 x4 (f_X12_builds h x2) 0)) else x3) (x4 + 1))
set_option maxHeartbeats 4000000 in
theorem lw_X12_buildableTogether_46 {X : WD → State → Prop} {d rb : Nat} {Qr : Option AV → Hp → Prop} {Qx : String → Hp → Prop}   : ∀ (n : Nat) (h : Hp) (x1 : Int32) (x2 : Int32) (x3 : Int32) (x4 : Int32), pw_X12_buildableTogether_46 n h x1 x2 x3 x4 → Qr (some (vI (fw_X12_buildableTogether_46 n h x1 x2 x3 x4))) (gw_X12_buildableTogether_46 n h x1 x2 x3 x4) → AW X (d + 4) rb mX12_buildableTogether 46 [(0, vR 12 0), (1, vI x1), (2, vI x2), (3, vI x3), (4, vI x4)] [] h Qr Qx := by
  intro n
  induction n with
  | zero => intro h x1 x2 x3 x4 hp; exact hp.elim
  | succ n ih =>
    intro h x1 x2 x3 x4 hp k
    rw [pw_X12_buildableTogether_46] at hp
    rw [fw_X12_buildableTogether_46] at k
    rw [gw_X12_buildableTogether_46] at k
    refine vc_X12_buildableTogether_46 (d := d + 3)  ?_
    refine c_X12_builds  hp.1 ?_
    replace hp := hp.2
    refine ⟨fun c => ?_, fun c => ?_⟩
    · replace hp := hp.1 c
      try simp only [if_pos c] at k
      exact k
    · replace hp := hp.2 c
      try simp only [if_neg c] at k
      refine c_X12_builds  hp.1 ?_
      replace hp := hp.2
      refine li_X12_buildableTogether_66  _ _ _ _ _ _ _ _ hp.1 ?_
      replace hp := hp.2
      refine vc_X12_buildableTogether_125 (d := d + 3)  ?_
      exact ih _ _ _ _ _ hp k
def p_X12_buildableTogether (h : Hp) (a1 : Int32) (a2 : Int32) : Prop := p_X12_noProduct (hp_i h 12 0 0 0) a1 ∧ (((¬ (f_X12_noProduct (hp_i h 12 0 0 0) a1) = 0) → True) ∧ (((f_X12_noProduct (hp_i h 12 0 0 0) a1) = 0) → (p_X12_noProduct (g_X12_noProduct (hp_i h 12 0 0 0) a1) a2 ∧ (((¬ (f_X12_noProduct (g_X12_noProduct (hp_i h 12 0 0 0) a1) a2) = 0) → True) ∧ (((f_X12_noProduct (g_X12_noProduct (hp_i h 12 0 0 0) a1) a2) = 0) → (p_X12_throwsIf (g_X12_noProduct (g_X12_noProduct (hp_i h 12 0 0 0) a1) a2) (if ¬ a1 = a2 then (0 : Int32) else 1) 2 ∧ ((((f_X12_throwsIf (g_X12_noProduct (g_X12_noProduct (hp_i h 12 0 0 0) a1) a2) (if ¬ a1 = a2 then (0 : Int32) else 1) 2) = 0) → (pw_X12_buildableTogether_46 oa_N (g_X12_throwsIf (g_X12_noProduct (g_X12_noProduct (hp_i h 12 0 0 0) a1) a2) (if ¬ a1 = a2 then (0 : Int32) else 1) 2) a1 a2 0 0)) ∧ ((¬ (f_X12_throwsIf (g_X12_noProduct (g_X12_noProduct (hp_i h 12 0 0 0) a1) a2) (if ¬ a1 = a2 then (0 : Int32) else 1) 2) = 0) → True))))))))
def f_X12_buildableTogether (h : Hp) (a1 : Int32) (a2 : Int32) : Int32 := if ¬ (f_X12_noProduct (hp_i h 12 0 0 0) a1) = 0 then 0 else (if ¬ (f_X12_noProduct (g_X12_noProduct (hp_i h 12 0 0 0) a1) a2) = 0 then 0 else (if (f_X12_throwsIf (g_X12_noProduct (g_X12_noProduct (hp_i h 12 0 0 0) a1) a2) (if ¬ a1 = a2 then (0 : Int32) else 1) 2) = 0 then (fw_X12_buildableTogether_46 oa_N (g_X12_throwsIf (g_X12_noProduct (g_X12_noProduct (hp_i h 12 0 0 0) a1) a2) (if ¬ a1 = a2 then (0 : Int32) else 1) 2) a1 a2 0 0) else 0))
def g_X12_buildableTogether (h : Hp) (a1 : Int32) (a2 : Int32) : Hp := if ¬ (f_X12_noProduct (hp_i h 12 0 0 0) a1) = 0 then (g_X12_noProduct (hp_i h 12 0 0 0) a1) else (if ¬ (f_X12_noProduct (g_X12_noProduct (hp_i h 12 0 0 0) a1) a2) = 0 then (g_X12_noProduct (g_X12_noProduct (hp_i h 12 0 0 0) a1) a2) else (if (f_X12_throwsIf (g_X12_noProduct (g_X12_noProduct (hp_i h 12 0 0 0) a1) a2) (if ¬ a1 = a2 then (0 : Int32) else 1) 2) = 0 then (gw_X12_buildableTogether_46 oa_N (g_X12_throwsIf (g_X12_noProduct (g_X12_noProduct (hp_i h 12 0 0 0) a1) a2) (if ¬ a1 = a2 then (0 : Int32) else 1) 2) a1 a2 0 0) else (g_X12_throwsIf (g_X12_noProduct (g_X12_noProduct (hp_i h 12 0 0 0) a1) a2) (if ¬ a1 = a2 then (0 : Int32) else 1) 2)))
set_option maxHeartbeats 4000000 in
theorem c_X12_buildableTogether {d : Nat} {h : Hp} {P : Int32 → Hp → Prop} {Qx : String → Hp → Prop} {a1 : Int32} {a2 : Int32}  (hp : p_X12_buildableTogether h a1 a2) (k : P (f_X12_buildableTogether h a1 a2) (g_X12_buildableTogether h a1 a2)) : CL 0 (d + 4) mX12_buildableTogether [vR 12 0, vI a1, vI a2] h (oI P) Qx := by
  replace k : oI P (some (vI (f_X12_buildableTogether h a1 a2))) (g_X12_buildableTogether h a1 a2) := k
  unfold p_X12_buildableTogether at hp
  unfold f_X12_buildableTogether at k
  unfold g_X12_buildableTogether at k
  refine CL.ofF (plainFor_of_name rfl) rfl (Nat.le_of_ble_eq_true rfl) (vc_X12_buildableTogether_0 (d := d + 3)  ?_)
  refine c_X12_noProduct  hp.1 ?_
  replace hp := hp.2
  refine ⟨fun c => ?_, fun c => ?_⟩
  · replace hp := hp.1 c
    try simp only [if_pos c] at k
    exact k
  · replace hp := hp.2 c
    try simp only [if_neg (oa_nn c)] at k
    refine c_X12_noProduct  hp.1 ?_
    replace hp := hp.2
    refine ⟨fun c => ?_, fun c => ?_⟩
    · replace hp := hp.1 c
      try simp only [if_pos c] at k
      exact k
    · replace hp := hp.2 c
      try simp only [if_neg (oa_nn c)] at k
      refine c_X12_throwsIf  hp.1 ?_
      replace hp := hp.2
      refine ⟨fun c => ?_, fun c => ?_⟩
      · replace hp := hp.1 c
        try simp only [if_pos c] at k
        exact lw_X12_buildableTogether_46  _ _ _ _ _ _ hp k
      · replace hp := hp.2 c
        try simp only [if_neg c] at k
        exact k
def p_X12_stateOf (h : Hp) (a1 : Int32) : Prop := p_X12_noOrder (hp_i h 12 0 0 0) a1 ∧ ((((f_X12_noOrder (hp_i h 12 0 0 0) a1) = 0) → (p_X12_of (g_X12_noOrder (hp_i h 12 0 0 0) a1) a1 7 ∧ (((¬ (f_X12_of (g_X12_noOrder (hp_i h 12 0 0 0) a1) a1 7) = 1) → (p_X12_of (g_X12_noOrder (hp_i h 12 0 0 0) a1) a1 5 ∧ (p_X12_of (g_X12_noOrder (hp_i h 12 0 0 0) a1) a1 1 ∧ (((¬ (f_X12_of (g_X12_noOrder (hp_i h 12 0 0 0) a1) a1 5) = (f_X12_of (g_X12_noOrder (hp_i h 12 0 0 0) a1) a1 1)) → (p_X12_open (g_X12_noOrder (hp_i h 12 0 0 0) a1) a1 ∧ True)) ∧ (((f_X12_of (g_X12_noOrder (hp_i h 12 0 0 0) a1) a1 5) = (f_X12_of (g_X12_noOrder (hp_i h 12 0 0 0) a1) a1 1)) → True))))) ∧ (((f_X12_of (g_X12_noOrder (hp_i h 12 0 0 0) a1) a1 7) = 1) → True)))) ∧ ((¬ (f_X12_noOrder (hp_i h 12 0 0 0) a1) = 0) → True))
def f_X12_stateOf (h : Hp) (a1 : Int32) : Int32 := if (f_X12_noOrder (hp_i h 12 0 0 0) a1) = 0 then (if ¬ (f_X12_of (g_X12_noOrder (hp_i h 12 0 0 0) a1) a1 7) = 1 then (if ¬ (f_X12_of (g_X12_noOrder (hp_i h 12 0 0 0) a1) a1 5) = (f_X12_of (g_X12_noOrder (hp_i h 12 0 0 0) a1) a1 1) then (if (f_X12_open (g_X12_noOrder (hp_i h 12 0 0 0) a1) a1) ≤ 0 then (1 : Int32) else 0) else 2) else 3) else 0
def g_X12_stateOf (h : Hp) (a1 : Int32) : Hp := if (f_X12_noOrder (hp_i h 12 0 0 0) a1) = 0 then (if ¬ (f_X12_of (g_X12_noOrder (hp_i h 12 0 0 0) a1) a1 7) = 1 then (if ¬ (f_X12_of (g_X12_noOrder (hp_i h 12 0 0 0) a1) a1 5) = (f_X12_of (g_X12_noOrder (hp_i h 12 0 0 0) a1) a1 1) then (g_X12_noOrder (hp_i h 12 0 0 0) a1) else (g_X12_noOrder (hp_i h 12 0 0 0) a1)) else (g_X12_noOrder (hp_i h 12 0 0 0) a1)) else (g_X12_noOrder (hp_i h 12 0 0 0) a1)
set_option maxHeartbeats 4000000 in
theorem c_X12_stateOf {d : Nat} {h : Hp} {P : Int32 → Hp → Prop} {Qx : String → Hp → Prop} {a1 : Int32}  (hp : p_X12_stateOf h a1) (k : P (f_X12_stateOf h a1) (g_X12_stateOf h a1)) : CL 0 (d + 3) mX12_stateOf [vR 12 0, vI a1] h (oI P) Qx := by
  replace k : oI P (some (vI (f_X12_stateOf h a1))) (g_X12_stateOf h a1) := k
  unfold p_X12_stateOf at hp
  unfold f_X12_stateOf at k
  unfold g_X12_stateOf at k
  refine CL.ofF (plainFor_of_name rfl) rfl (Nat.le_of_ble_eq_true rfl) (vc_X12_stateOf_0 (d := d + 2)  ?_)
  refine c_X12_noOrder  hp.1 ?_
  replace hp := hp.2
  refine ⟨fun c => ?_, fun c => ?_⟩
  · replace hp := hp.1 c
    try simp only [if_pos c] at k
    refine c_X12_of  hp.1 ?_
    replace hp := hp.2
    refine ⟨fun c => ?_, fun c => ?_⟩
    · replace hp := hp.1 c
      try simp only [if_pos c] at k
      refine c_X12_of  hp.1 ?_
      replace hp := hp.2
      refine c_X12_of  hp.1 ?_
      replace hp := hp.2
      refine ⟨fun c => ?_, fun c => ?_⟩
      · replace hp := hp.1 c
        try simp only [if_pos c] at k
        refine c_X12_open  hp.1 ?_
        replace hp := hp.2
        exact k
      · replace hp := hp.2 c
        try simp only [if_neg (oa_nn c)] at k
        exact k
    · replace hp := hp.2 c
      try simp only [if_neg (oa_nn c)] at k
      exact k
  · replace hp := hp.2 c
    try simp only [if_neg c] at k
    exact k
def p_X12_openUnits (h : Hp) (a1 : Int32) : Prop := p_X12_noOrder (hp_i h 12 0 0 0) a1 ∧ ((((f_X12_noOrder (hp_i h 12 0 0 0) a1) = 0) → (p_X12_open (g_X12_noOrder (hp_i h 12 0 0 0) a1) a1 ∧ True)) ∧ ((¬ (f_X12_noOrder (hp_i h 12 0 0 0) a1) = 0) → True))
def f_X12_openUnits (h : Hp) (a1 : Int32) : Int32 := if (f_X12_noOrder (hp_i h 12 0 0 0) a1) = 0 then (f_X12_open (g_X12_noOrder (hp_i h 12 0 0 0) a1) a1) else 0
def g_X12_openUnits (h : Hp) (a1 : Int32) : Hp := if (f_X12_noOrder (hp_i h 12 0 0 0) a1) = 0 then (g_X12_noOrder (hp_i h 12 0 0 0) a1) else (g_X12_noOrder (hp_i h 12 0 0 0) a1)
set_option maxHeartbeats 4000000 in
theorem c_X12_openUnits {d : Nat} {h : Hp} {P : Int32 → Hp → Prop} {Qx : String → Hp → Prop} {a1 : Int32}  (hp : p_X12_openUnits h a1) (k : P (f_X12_openUnits h a1) (g_X12_openUnits h a1)) : CL 0 (d + 3) mX12_openUnits [vR 12 0, vI a1] h (oI P) Qx := by
  replace k : oI P (some (vI (f_X12_openUnits h a1))) (g_X12_openUnits h a1) := k
  unfold p_X12_openUnits at hp
  unfold f_X12_openUnits at k
  unfold g_X12_openUnits at k
  refine CL.ofF (plainFor_of_name rfl) rfl (Nat.le_of_ble_eq_true rfl) (vc_X12_openUnits_0 (d := d + 2)  ?_)
  refine c_X12_noOrder  hp.1 ?_
  replace hp := hp.2
  refine ⟨fun c => ?_, fun c => ?_⟩
  · replace hp := hp.1 c
    try simp only [if_pos c] at k
    refine c_X12_open  hp.1 ?_
    replace hp := hp.2
    exact k
  · replace hp := hp.2 c
    try simp only [if_neg c] at k
    exact k
def p_X12_reservedUnits (h : Hp) (a1 : Int32) : Prop := p_X12_noOrder (hp_i h 12 0 0 0) a1 ∧ ((((f_X12_noOrder (hp_i h 12 0 0 0) a1) = 0) → (p_X12_of (g_X12_noOrder (hp_i h 12 0 0 0) a1) a1 6 ∧ True)) ∧ ((¬ (f_X12_noOrder (hp_i h 12 0 0 0) a1) = 0) → True))
def f_X12_reservedUnits (h : Hp) (a1 : Int32) : Int32 := if (f_X12_noOrder (hp_i h 12 0 0 0) a1) = 0 then (f_X12_of (g_X12_noOrder (hp_i h 12 0 0 0) a1) a1 6) else 0
def g_X12_reservedUnits (h : Hp) (a1 : Int32) : Hp := if (f_X12_noOrder (hp_i h 12 0 0 0) a1) = 0 then (g_X12_noOrder (hp_i h 12 0 0 0) a1) else (g_X12_noOrder (hp_i h 12 0 0 0) a1)
set_option maxHeartbeats 4000000 in
theorem c_X12_reservedUnits {d : Nat} {h : Hp} {P : Int32 → Hp → Prop} {Qx : String → Hp → Prop} {a1 : Int32}  (hp : p_X12_reservedUnits h a1) (k : P (f_X12_reservedUnits h a1) (g_X12_reservedUnits h a1)) : CL 0 (d + 3) mX12_reservedUnits [vR 12 0, vI a1] h (oI P) Qx := by
  replace k : oI P (some (vI (f_X12_reservedUnits h a1))) (g_X12_reservedUnits h a1) := k
  unfold p_X12_reservedUnits at hp
  unfold f_X12_reservedUnits at k
  unfold g_X12_reservedUnits at k
  refine CL.ofF (plainFor_of_name rfl) rfl (Nat.le_of_ble_eq_true rfl) (vc_X12_reservedUnits_0 (d := d + 2)  ?_)
  refine c_X12_noOrder  hp.1 ?_
  replace hp := hp.2
  refine ⟨fun c => ?_, fun c => ?_⟩
  · replace hp := hp.1 c
    try simp only [if_pos c] at k
    refine c_X12_of  hp.1 ?_
    replace hp := hp.2
    exact k
  · replace hp := hp.2 c
    try simp only [if_neg c] at k
    exact k
def p_X12_shippedUnits (h : Hp) (a1 : Int32) : Prop := p_X12_noOrder (hp_i h 12 0 0 0) a1 ∧ ((((f_X12_noOrder (hp_i h 12 0 0 0) a1) = 0) → (p_X12_of (g_X12_noOrder (hp_i h 12 0 0 0) a1) a1 5 ∧ True)) ∧ ((¬ (f_X12_noOrder (hp_i h 12 0 0 0) a1) = 0) → True))
def f_X12_shippedUnits (h : Hp) (a1 : Int32) : Int32 := if (f_X12_noOrder (hp_i h 12 0 0 0) a1) = 0 then (f_X12_of (g_X12_noOrder (hp_i h 12 0 0 0) a1) a1 5) else 0
def g_X12_shippedUnits (h : Hp) (a1 : Int32) : Hp := if (f_X12_noOrder (hp_i h 12 0 0 0) a1) = 0 then (g_X12_noOrder (hp_i h 12 0 0 0) a1) else (g_X12_noOrder (hp_i h 12 0 0 0) a1)
set_option maxHeartbeats 4000000 in
theorem c_X12_shippedUnits {d : Nat} {h : Hp} {P : Int32 → Hp → Prop} {Qx : String → Hp → Prop} {a1 : Int32}  (hp : p_X12_shippedUnits h a1) (k : P (f_X12_shippedUnits h a1) (g_X12_shippedUnits h a1)) : CL 0 (d + 3) mX12_shippedUnits [vR 12 0, vI a1] h (oI P) Qx := by
  replace k : oI P (some (vI (f_X12_shippedUnits h a1))) (g_X12_shippedUnits h a1) := k
  unfold p_X12_shippedUnits at hp
  unfold f_X12_shippedUnits at k
  unfold g_X12_shippedUnits at k
  refine CL.ofF (plainFor_of_name rfl) rfl (Nat.le_of_ble_eq_true rfl) (vc_X12_shippedUnits_0 (d := d + 2)  ?_)
  refine c_X12_noOrder  hp.1 ?_
  replace hp := hp.2
  refine ⟨fun c => ?_, fun c => ?_⟩
  · replace hp := hp.1 c
    try simp only [if_pos c] at k
    refine c_X12_of  hp.1 ?_
    replace hp := hp.2
    exact k
  · replace hp := hp.2 c
    try simp only [if_neg c] at k
    exact k
def p_X12_orderField (h : Hp) (a1 : Int32) (a2 : Int32) : Prop := p_X12_noOrder (hp_i h 12 0 0 0) a1 ∧ ((((f_X12_noOrder (hp_i h 12 0 0 0) a1) = 0) → (p_X12_in (g_X12_noOrder (hp_i h 12 0 0 0) a1) a2 0 4 ∧ ((((f_X12_in (g_X12_noOrder (hp_i h 12 0 0 0) a1) a2 0 4) = 0) → True) ∧ ((¬ (f_X12_in (g_X12_noOrder (hp_i h 12 0 0 0) a1) a2 0 4) = 0) → (p_X12_of (g_X12_noOrder (hp_i h 12 0 0 0) a1) a1 a2 ∧ True))))) ∧ ((¬ (f_X12_noOrder (hp_i h 12 0 0 0) a1) = 0) → True))
def f_X12_orderField (h : Hp) (a1 : Int32) (a2 : Int32) : Int32 := if (f_X12_noOrder (hp_i h 12 0 0 0) a1) = 0 then (if (f_X12_in (g_X12_noOrder (hp_i h 12 0 0 0) a1) a2 0 4) = 0 then (-1) else (f_X12_of (g_X12_noOrder (hp_i h 12 0 0 0) a1) a1 a2)) else 0
def g_X12_orderField (h : Hp) (a1 : Int32) (a2 : Int32) : Hp := if (f_X12_noOrder (hp_i h 12 0 0 0) a1) = 0 then (if (f_X12_in (g_X12_noOrder (hp_i h 12 0 0 0) a1) a2 0 4) = 0 then (g_X12_noOrder (hp_i h 12 0 0 0) a1) else (g_X12_noOrder (hp_i h 12 0 0 0) a1)) else (g_X12_noOrder (hp_i h 12 0 0 0) a1)
set_option maxHeartbeats 4000000 in
theorem c_X12_orderField {d : Nat} {h : Hp} {P : Int32 → Hp → Prop} {Qx : String → Hp → Prop} {a1 : Int32} {a2 : Int32}  (hp : p_X12_orderField h a1 a2) (k : P (f_X12_orderField h a1 a2) (g_X12_orderField h a1 a2)) : CL 0 (d + 3) mX12_orderField [vR 12 0, vI a1, vI a2] h (oI P) Qx := by
  replace k : oI P (some (vI (f_X12_orderField h a1 a2))) (g_X12_orderField h a1 a2) := k
  unfold p_X12_orderField at hp
  unfold f_X12_orderField at k
  unfold g_X12_orderField at k
  refine CL.ofF (plainFor_of_name rfl) rfl (Nat.le_of_ble_eq_true rfl) (vc_X12_orderField_0 (d := d + 2)  ?_)
  refine c_X12_noOrder  hp.1 ?_
  replace hp := hp.2
  refine ⟨fun c => ?_, fun c => ?_⟩
  · replace hp := hp.1 c
    try simp only [if_pos c] at k
    refine c_X12_in  hp.1 ?_
    replace hp := hp.2
    refine ⟨fun c => ?_, fun c => ?_⟩
    · replace hp := hp.1 c
      try simp only [if_pos c] at k
      exact k
    · replace hp := hp.2 c
      try simp only [if_neg c] at k
      refine c_X12_of  hp.1 ?_
      replace hp := hp.2
      exact k
  · replace hp := hp.2 c
    try simp only [if_neg c] at k
    exact k
def p_X12_missing (h : Hp) (a1 : Int32) (a2 : Int32) : Prop := p_X12_noOrder (hp_i h 12 0 0 0) a1 ∧ (((¬ (f_X12_noOrder (hp_i h 12 0 0 0) a1) = 0) → True) ∧ (((f_X12_noOrder (hp_i h 12 0 0 0) a1) = 0) → (p_X12_noPart (g_X12_noOrder (hp_i h 12 0 0 0) a1) a2 ∧ ((((f_X12_noPart (g_X12_noOrder (hp_i h 12 0 0 0) a1) a2) = 0) → (p_X12_open (g_X12_noPart (g_X12_noOrder (hp_i h 12 0 0 0) a1) a2) a1 ∧ (p_X12_of (g_X12_noPart (g_X12_noOrder (hp_i h 12 0 0 0) a1) a2) a1 0 ∧ (p_X12_needs (g_X12_noPart (g_X12_noOrder (hp_i h 12 0 0 0) a1) a2) (f_X12_of (g_X12_noPart (g_X12_noOrder (hp_i h 12 0 0 0) a1) a2) a1 0) a2 ∧ (p_X12_free (g_X12_noPart (g_X12_noOrder (hp_i h 12 0 0 0) a1) a2) a2 ∧ True))))) ∧ ((¬ (f_X12_noPart (g_X12_noOrder (hp_i h 12 0 0 0) a1) a2) = 0) → True)))))
def f_X12_missing (h : Hp) (a1 : Int32) (a2 : Int32) : Int32 := if ¬ (f_X12_noOrder (hp_i h 12 0 0 0) a1) = 0 then 0 else (if (f_X12_noPart (g_X12_noOrder (hp_i h 12 0 0 0) a1) a2) = 0 then (if 0 < (((f_X12_open (g_X12_noPart (g_X12_noOrder (hp_i h 12 0 0 0) a1) a2) a1) * (f_X12_needs (g_X12_noPart (g_X12_noOrder (hp_i h 12 0 0 0) a1) a2) (f_X12_of (g_X12_noPart (g_X12_noOrder (hp_i h 12 0 0 0) a1) a2) a1 0) a2)) - (f_X12_free (g_X12_noPart (g_X12_noOrder (hp_i h 12 0 0 0) a1) a2) a2)) then (((f_X12_open (g_X12_noPart (g_X12_noOrder (hp_i h 12 0 0 0) a1) a2) a1) * (f_X12_needs (g_X12_noPart (g_X12_noOrder (hp_i h 12 0 0 0) a1) a2) (f_X12_of (g_X12_noPart (g_X12_noOrder (hp_i h 12 0 0 0) a1) a2) a1 0) a2)) - (f_X12_free (g_X12_noPart (g_X12_noOrder (hp_i h 12 0 0 0) a1) a2) a2)) else 0) else 0)
def g_X12_missing (h : Hp) (a1 : Int32) (a2 : Int32) : Hp := if ¬ (f_X12_noOrder (hp_i h 12 0 0 0) a1) = 0 then (g_X12_noOrder (hp_i h 12 0 0 0) a1) else (if (f_X12_noPart (g_X12_noOrder (hp_i h 12 0 0 0) a1) a2) = 0 then (g_X12_noPart (g_X12_noOrder (hp_i h 12 0 0 0) a1) a2) else (g_X12_noPart (g_X12_noOrder (hp_i h 12 0 0 0) a1) a2))
set_option maxHeartbeats 4000000 in
theorem c_X12_missing {d : Nat} {h : Hp} {P : Int32 → Hp → Prop} {Qx : String → Hp → Prop} {a1 : Int32} {a2 : Int32}  (hp : p_X12_missing h a1 a2) (k : P (f_X12_missing h a1 a2) (g_X12_missing h a1 a2)) : CL 0 (d + 3) mX12_missing [vR 12 0, vI a1, vI a2] h (oI P) Qx := by
  replace k : oI P (some (vI (f_X12_missing h a1 a2))) (g_X12_missing h a1 a2) := k
  unfold p_X12_missing at hp
  unfold f_X12_missing at k
  unfold g_X12_missing at k
  refine CL.ofF (plainFor_of_name rfl) rfl (Nat.le_of_ble_eq_true rfl) (vc_X12_missing_0 (d := d + 2)  ?_)
  refine c_X12_noOrder  hp.1 ?_
  replace hp := hp.2
  refine ⟨fun c => ?_, fun c => ?_⟩
  · replace hp := hp.1 c
    try simp only [if_pos c] at k
    exact k
  · replace hp := hp.2 c
    try simp only [if_neg (oa_nn c)] at k
    refine c_X12_noPart  hp.1 ?_
    replace hp := hp.2
    refine ⟨fun c => ?_, fun c => ?_⟩
    · replace hp := hp.1 c
      try simp only [if_pos c] at k
      refine c_X12_open  hp.1 ?_
      replace hp := hp.2
      refine c_X12_of  hp.1 ?_
      replace hp := hp.2
      refine c_X12_needs  hp.1 ?_
      replace hp := hp.2
      refine c_X12_free  hp.1 ?_
      replace hp := hp.2
      exact k
    · replace hp := hp.2 c
      try simp only [if_neg c] at k
      exact k
def pw_X12_buys_17 : Nat → Hp → Int32 → Int32 → Int32 → Prop
  | 0, _, _, _, _ => False
  | n + 1, h, x1, x2, x3 => (((h.1 58 0 1) ≤ x3) → True) ∧ ((¬ (h.1 58 0 1) ≤ x3) → (p_X12_open h x3 ∧ (p_X12_of h x3 0 ∧ (p_X12_needs h (f_X12_of h x3 0) x1 ∧ (pw_X12_buys_17 n h x1 (x2 + ((f_X12_open h x3) * (f_X12_needs h (f_X12_of h x3 0) x1))) (x3 + 1))))))
def fw_X12_buys_17 : Nat → Hp → Int32 → Int32 → Int32 → Int32
  | 0, _, _, _, _ => 0
  | n + 1, h, x1, x2, x3 => if (h.1 58 0 1) ≤ x3 then (if 0 < x2 then x2 else 0) else (fw_X12_buys_17 n h x1 (x2 + ((f_X12_open h x3) * (f_X12_needs h (f_X12_of h x3 0) x1))) (x3 + 1))
set_option maxHeartbeats 4000000 in
theorem lw_X12_buys_17 {X : WD → State → Prop} {d rb : Nat} {Qr : Option AV → Hp → Prop} {Qx : String → Hp → Prop}   : ∀ (n : Nat) (h : Hp) (x1 : Int32) (x2 : Int32) (x3 : Int32), pw_X12_buys_17 n h x1 x2 x3 → Qr (some (vI (fw_X12_buys_17 n h x1 x2 x3))) h → AW X (d + 3) rb mX12_buys 17 [(0, vR 12 0), (1, vI x1), (2, vI x2), (3, vI x3)] [] h Qr Qx := by
  intro n
  induction n with
  | zero => intro h x1 x2 x3 hp; exact hp.elim
  | succ n ih =>
    intro h x1 x2 x3 hp k
    rw [pw_X12_buys_17] at hp
    rw [fw_X12_buys_17] at k
    refine vc_X12_buys_17 (d := d + 2)  ?_
    refine ⟨fun c => ?_, fun c => ?_⟩
    · replace hp := hp.1 c
      try simp only [if_pos c] at k
      exact k
    · replace hp := hp.2 c
      try simp only [if_neg c] at k
      refine c_X12_open  hp.1 ?_
      replace hp := hp.2
      refine c_X12_of  hp.1 ?_
      replace hp := hp.2
      refine c_X12_needs  hp.1 ?_
      replace hp := hp.2
      exact ih _ _ _ _ hp k
def p_X12_buys (h : Hp) (a1 : Int32) : Prop := p_X12_free h a1 ∧ (p_X12_comesBy h a1 2147483647 ∧ (pw_X12_buys_17 oa_N h a1 ((-(f_X12_free h a1)) - (f_X12_comesBy h a1 2147483647)) 0))
def f_X12_buys (h : Hp) (a1 : Int32) : Int32 := fw_X12_buys_17 oa_N h a1 ((-(f_X12_free h a1)) - (f_X12_comesBy h a1 2147483647)) 0
set_option maxHeartbeats 4000000 in
theorem c_X12_buys {d : Nat} {h : Hp} {P : Int32 → Hp → Prop} {Qx : String → Hp → Prop} {a1 : Int32}  (hp : p_X12_buys h a1) (k : P (f_X12_buys h a1) h) : CL 0 (d + 3) mX12_buys [vR 12 0, vI a1] h (oI P) Qx := by
  replace k : oI P (some (vI (f_X12_buys h a1))) h := k
  unfold p_X12_buys at hp
  unfold f_X12_buys at k
  refine CL.ofF (plainFor_of_name rfl) rfl (Nat.le_of_ble_eq_true rfl) (vc_X12_buys_0 (d := d + 2)  ?_)
  refine c_X12_free  hp.1 ?_
  replace hp := hp.2
  refine c_X12_comesBy  hp.1 ?_
  replace hp := hp.2
  exact lw_X12_buys_17  _ _ _ _ _ hp k
def p_X12_toBuy (h : Hp) (a1 : Int32) : Prop := p_X12_noPart (hp_i h 12 0 0 0) a1 ∧ ((((f_X12_noPart (hp_i h 12 0 0 0) a1) = 0) → (p_X12_buys (g_X12_noPart (hp_i h 12 0 0 0) a1) a1 ∧ True)) ∧ ((¬ (f_X12_noPart (hp_i h 12 0 0 0) a1) = 0) → True))
def f_X12_toBuy (h : Hp) (a1 : Int32) : Int32 := if (f_X12_noPart (hp_i h 12 0 0 0) a1) = 0 then (f_X12_buys (g_X12_noPart (hp_i h 12 0 0 0) a1) a1) else 0
def g_X12_toBuy (h : Hp) (a1 : Int32) : Hp := if (f_X12_noPart (hp_i h 12 0 0 0) a1) = 0 then (g_X12_noPart (hp_i h 12 0 0 0) a1) else (g_X12_noPart (hp_i h 12 0 0 0) a1)
set_option maxHeartbeats 4000000 in
theorem c_X12_toBuy {d : Nat} {h : Hp} {P : Int32 → Hp → Prop} {Qx : String → Hp → Prop} {a1 : Int32}  (hp : p_X12_toBuy h a1) (k : P (f_X12_toBuy h a1) (g_X12_toBuy h a1)) : CL 0 (d + 4) mX12_toBuy [vR 12 0, vI a1] h (oI P) Qx := by
  replace k : oI P (some (vI (f_X12_toBuy h a1))) (g_X12_toBuy h a1) := k
  unfold p_X12_toBuy at hp
  unfold f_X12_toBuy at k
  unfold g_X12_toBuy at k
  refine CL.ofF (plainFor_of_name rfl) rfl (Nat.le_of_ble_eq_true rfl) (vc_X12_toBuy_0 (d := d + 3)  ?_)
  refine c_X12_noPart  hp.1 ?_
  replace hp := hp.2
  refine ⟨fun c => ?_, fun c => ?_⟩
  · replace hp := hp.1 c
    try simp only [if_pos c] at k
    refine c_X12_buys  hp.1 ?_
    replace hp := hp.2
    exact k
  · replace hp := hp.2 c
    try simp only [if_neg c] at k
    exact k
