/-! numbers: the model's recursion, and both sides' pieces -/
section NUM
variable {H h : Hp} {B : List Int32} {T w : Nat → Nat} {j v : Nat}
def ob_dl : Nat → Nat → List Int32
  | 0, v => [ob_nb (48 + nI (v % 10))]
  | f + 1, v => if v ≤ 9 then [ob_nb (48 + nI (v % 10))] else ob_dl f (v / 10) ++ [ob_nb (48 + nI (v % 10))]
theorem ob_dl_len : ∀ f v, (ob_dl f v).length ≤ f + 1 := by
  intro f
  induction f with
  | zero => intro v; exact Nat.le_refl _
  | succ f ih =>
    intro v
    unfold ob_dl
    have := ih (v / 10)
    split
    · rw [List.length_singleton]; omega
    · rw [List.length_append, List.length_singleton]; omega
theorem ob_wd_skip {k : Nat} (hv : v < 10 ^ (k + 1)) : ob_wd false (k + 1) v = ob_wd false k v := by
  rw [ob_wd, if_pos ⟨rfl, by rw [Nat.div_eq_of_lt hv]⟩]
theorem ob_wd_dl (hv : v ≤ 9999) : ob_wd false 9 v = ob_dl 3 v := by
  rw [ob_wd_skip (k := 8) (by omega), ob_wd_skip (k := 7) (by omega), ob_wd_skip (k := 6) (by omega), ob_wd_skip (k := 5) (by omega), ob_wd_skip (k := 4) (by omega), ob_wd_skip (k := 3) (by omega)]
  have e0 : ob_dg v 0 = ob_nb (48 + nI (v % 10)) := by unfold ob_dg; simp
  have e1 : ob_dg v 1 = ob_nb (48 + nI (v / 10 % 10)) := by unfold ob_dg; simp
  have e2 : ob_dg v 2 = ob_nb (48 + nI (v / 10 / 10 % 10)) := by unfold ob_dg; rw [show v / 10 ^ 2 = v / 10 / 10 by omega]
  have e3 : ob_dg v 3 = ob_nb (48 + nI (v / 10 / 10 / 10 % 10)) := by unfold ob_dg; rw [show v / 10 ^ 3 = v / 10 / 10 / 10 by omega]
  rcases (by omega : v ≤ 9 ∨ (10 ≤ v ∧ v ≤ 99) ∨ (100 ≤ v ∧ v ≤ 999) ∨ (1000 ≤ v ∧ v ≤ 9999)) with z | z | z | z
  · rw [ob_wd_skip (k := 2) (by omega), ob_wd_skip (k := 1) (by omega), ob_wd_skip (k := 0) (by omega), ob_wd, e0, ob_dl, if_pos z]
  · rw [ob_wd_skip (k := 2) (by omega), ob_wd_skip (k := 1) (by omega), ob_wd, if_neg (by omega), ob_wd, e0, e1, ob_dl, if_neg (by omega), ob_dl, if_pos (by omega)]
    rfl
  · rw [ob_wd_skip (k := 2) (by omega), ob_wd, if_neg (by omega), ob_wd, if_neg (by simp), ob_wd, e0, e1, e2, ob_dl, if_neg (by omega), ob_dl, if_neg (by omega), ob_dl, if_pos (by omega)]
    rfl
  · rw [ob_wd, if_neg (by omega), ob_wd, if_neg (by simp), ob_wd, if_neg (by simp), ob_wd, e0, e1, e2, e3, ob_dl, if_neg (by omega), ob_dl, if_neg (by omega), ob_dl, if_neg (by omega), ob_dl]
    rfl
/-- what a word and a number say -/
def ob_pt (j v : Nat) : List Int32 := ob_tx j ++ ob_dl 3 v
theorem ob_tx_len (j : Nat) : (ob_tx j).length = (oa_by j).length := List.length_map _
theorem ob_pt_len (j v : Nat) : (ob_pt j v).length ≤ (oa_by j).length + 4 := by
  unfold ob_pt
  have := ob_dl_len 3 v
  rw [List.length_append, ob_tx_len]
  omega
theorem s_numbered (hj : j < 36) (hv : v ≤ 9999) (t : TC H h B) (hl : B.length + (oa_by j).length + 4 ≤ 200) : p_X2_putNumbered h j (nI v) ∧ TC H (g_X2_putNumbered h j (nI v)) (B ++ ob_pt j v) := by
  have s := s_text hj t (by omega)
  obtain ⟨e, he⟩ := oa_fuel (show 10 < 1000000 by omega)
  have := ob_dl_len 3 v
  have r := l_num (j := j) (v := v) (by omega) 9 e _ _ false (by omega) s.2 (by rw [List.length_append, ob_tx_len, ob_wd_dl hv]; omega)
  rw [show 9 + 2 + e = oa_N by omega, show nI (10 ^ 9) = 1000000000 by decide, if_neg (by decide), ob_wd_dl hv, List.append_assoc] at r
  exact ⟨⟨s.1, r.1⟩, r.2⟩
theorem r_says {d : Nat} {a : Int32} {P : Hp → Prop} {Qx : String → Hp → Prop} (t : TM H h B) (hl : B.length < 320) (k : ∀ h', TM H h' (B ++ [ob_nb a]) → P h') : CL 0 (d + 1) mX12_says [vR 12 0, vI a] h (oV P) Qx := by
  have s := s_says (a := a) t hl
  exact c_X12_says s.1 (k _ s.2)
theorem r_word {d : Nat} {P : Hp → Prop} {Qx : String → Hp → Prop} (hj : j < 36) (t : TM H h B) (hl : B.length + (oa_by j).length ≤ 320) (k : ∀ h', TM H h' (B ++ ob_tx j) → P h') : CL 0 (d + 6) mX12_saysWord [vR 12 0, vR (1000 + j) 0] h (oV P) Qx := by
  have s := s_word hj t hl
  exact c_X12_saysWord hj s.1 (k _ s.2)
theorem r_name {d i : Nat} {P : Hp → Prop} {Qx : String → Hp → Prop} (J : IT T) (hi : i < 20) (R : RM H T w) (t : TM H h B) (hl : B.length + 8 ≤ 320) (k : ∀ h', TM H h' (B ++ ob_nw T i) → P h') : CL 0 (d + 2) mX12_saysName [vR 12 0, vI (nI i)] h (oV P) Qx := by
  have s := s_saysName J hi R t hl
  exact c_X12_saysName s.1 (k _ s.2)
theorem r_num {Qx : String → Hp → Prop} : ∀ (f d : Nat) (v : Nat) (h : Hp) (B : List Int32) (P : Hp → Prop), v < 10 ^ (f + 1) → v < 2 ^ 31 → TM H h B → B.length + f + 1 ≤ 320 → (∀ h', TM H h' (B ++ ob_dl f v) → P h') → CL 0 (d + f + 2) mX12_saysNumber [vR 12 0, vI (nI v)] h (oV P) Qx := by
  intro f
  induction f with
  | zero =>
    intro d v h B P hv hv2 t hl k
    refine CL.ofF (plainFor_of_name rfl) rfl (Nat.le_of_ble_eq_true rfl) (vc_X12_saysNumber_0 (d := d + 1) ?_)
    have q2 : nI v - nI v / 10 * 10 = nI (v % 10) := pk_rem (d := 10) (by omega) (by omega) (by omega)
    rw [q2]
    refine ⟨fun _ => r_says t (by omega) (fun h' t' => k h' t'), fun z => absurd (nI_le (b := 9) (by omega) (by omega)) z⟩
  | succ f ih =>
    intro d v h B P hv hv2 t hl k
    refine CL.ofF (plainFor_of_name rfl) rfl (Nat.le_of_ble_eq_true rfl) (vc_X12_saysNumber_0 (d := d + f + 2) ?_)
    have q1 : nI v / 10 = nI (v / 10) := pk_div (d := 10) (by omega) (by omega) (by omega)
    have q2 : nI v - nI v / 10 * 10 = nI (v % 10) := pk_rem (d := 10) (by omega) (by omega) (by omega)
    have q3 : nI v ≤ 9 ↔ v ≤ 9 := nI_leI (b := 9) (by omega) (by omega)
    rw [q2, q1]
    rw [ob_dl] at k
    refine ⟨fun z => ?_, fun z => ?_⟩
    · rw [if_pos (q3.mp z)] at k
      exact r_says (d := d + f + 1) t (by omega) (fun h' t' => k h' t')
    · rw [if_neg (fun y => z (q3.mpr y))] at k
      have hv' : v / 10 < 10 ^ (f + 1) := by
        rw [Nat.div_lt_iff_lt_mul (by omega), ← Nat.pow_succ]
        exact hv
      refine ih d (v / 10) h B _ hv' (by omega) t (by omega) (fun h' t' => ?_)
      have := ob_dl_len f (v / 10)
      refine r_says (d := d + f + 1) t' (by rw [List.length_append]; omega) (fun h2 t2 => k h2 ?_)
      rw [List.append_assoc] at t2
      exact t2
theorem r_part {d : Nat} {P : Hp → Prop} {Qx : String → Hp → Prop} (hj : j < 36) (hv : v ≤ 9999) (t : TM H h B) (hl : B.length + (oa_by j).length + 4 ≤ 320) (k : ∀ h', TM H h' (B ++ ob_pt j v) → P h') : CL 0 (d + 7) mX12_saysPart [vR 12 0, vR (1000 + j) 0, vI (nI v)] h (oV P) Qx := by
  refine CL.ofF (plainFor_of_name rfl) rfl (Nat.le_of_ble_eq_true rfl) (vc_X12_saysPart_0 (d := d + 6) hj ?_)
  refine r_word hj t (by omega) (fun h1 t1 => ?_)
  refine r_num 3 (d + 1) v h1 _ _ (by omega) (by omega) t1 (by rw [List.length_append, ob_tx_len]; omega) (fun h2 t2 => k h2 ?_)
  rw [List.append_assoc] at t2
  exact t2
end NUM
