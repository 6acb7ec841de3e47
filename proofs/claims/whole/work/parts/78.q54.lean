/-! level: the model's recursion -/
section LVL
variable {h hm : Hp} {T w : Nat → Nat} {n : Nat}
def ob_ls (T : Nat → Nat) (n q a l : Nat) : Nat := if T (196 + 6 * q + l) < 12 then a else max a (1 + oa_lvl T n (T (196 + 6 * q + l) - 12))
def ob_lf (T : Nat → Nat) (n q l : Nat) : Nat := (List.range l).foldl (ob_ls T n q) 1
theorem ob_lf_0 (n q : Nat) : ob_lf T n q 0 = 1 := rfl
theorem ob_lf_s (n q l : Nat) : ob_lf T n q (l + 1) = ob_ls T n q (ob_lf T n q l) l := by
  unfold ob_lf
  rw [List.range_succ, List.foldl_append]
  rfl
theorem oa_lvl_f (n q : Nat) : oa_lvl T (n + 1) q = ob_lf T n q (T (188 + q)) := rfl
theorem ob_lf_le (n q : Nat) (hb : ∀ q, oa_lvl T n q ≤ n + 1) (l : Nat) : ob_lf T n q l ≤ n + 2 := by
  induction l with
  | zero => rw [ob_lf_0]; omega
  | succ l ih =>
    rw [ob_lf_s]
    unfold ob_ls
    have := hb (T (196 + 6 * q + l) - 12)
    split <;> omega
theorem oa_lvl_le : ∀ (n q : Nat), oa_lvl T n q ≤ n + 1 := by
  intro n
  induction n with
  | zero => intro q; exact Nat.le_refl _
  | succ n ih =>
    intro q
    rw [oa_lvl_f]
    exact ob_lf_le n q ih _
theorem c_X12_levelOf (J : IT T) (R : RM h T w) {P : Int32 → Hp → Prop} {Qx : String → Hp → Prop} : ∀ (n : Nat) (P : Int32 → Hp → Prop) (q d : Nat), n ≤ 8 → q < T 1 → q < n → P (nI (oa_lvl T n q)) h → CL 0 (d + n) mX12_levelOf [vR 12 0, vI (nI q)] h (oI P) Qx := by
  have bT := J.1
  intro n
  induction n with
  | zero => intro P q d hn hq h1; omega
  | succ n ih =>
    intro P q d hn hq h1 k
    refine CL.ofF (plainFor_of_name rfl) rfl (Nat.le_of_ble_eq_true rfl) (vc_X12_levelOf_0 (d := d + n) ?_)
    have lq := J.2.2.1 q hq
    rw [oa_lvl_f] at k
    have lem : ∀ m l, m + l = T (188 + q) → AW (fun _ _ => True) (d + n + 1) 0 mX12_levelOf 4 [(0, vR 12 0), (1, vI (nI q)), (2, vI (nI (ob_lf T n q l))), (3, vI (nI l))] [] h (oI P) Qx := by
      intro m
      induction m with
      | zero =>
        intro l hl
        refine vc_X12_levelOf_4 ?_
        have e1 : (188 : Int32) + nI q = nI (188 + q) := nI_add 188 q
        have v1 : vp_in (nI (188 + q)) 506 := vp_in_nI (by omega) (by omega)
        rw [e1, nI_clamp (by omega), R.1 _ (by omega)]
        refine ⟨v1, fun _ => ?_, fun c => (c (nI_le (by omega) (by omega))).elim⟩
        rw [show l = T (188 + q) by omega]
        exact k
      | succ m im =>
        intro l hl
        refine vc_X12_levelOf_4 ?_
        have e1 : (188 : Int32) + nI q = nI (188 + q) := nI_add 188 q
        have e2 : ((196 : Int32) + 6 * nI q) + nI l = nI (196 + 6 * q + l) := by
          have a1 : (6 : Int32) * nI q = nI (6 * q) := oa_mul 6 q
          have a2 : (196 : Int32) + nI (6 * q) = nI (196 + 6 * q) := nI_add 196 (6 * q)
          rw [a1, a2, nI_add]
        have v1 : vp_in (nI (188 + q)) 506 := vp_in_nI (by omega) (by omega)
        have v2 : vp_in (nI (196 + 6 * q + l)) 506 := vp_in_nI (by omega) (by omega)
        have e3 : nI l + 1 = nI (l + 1) := nI_add l 1
        have t1 := J.2.2.2.1 q l hq (by omega)
        rw [e1, e2, e3, nI_clamp (by omega), R.1 _ (by omega), nI_clamp (by omega), R.1 _ (by omega)]
        refine ⟨v1, fun c => (nI_ge (show l < T (188 + q) by omega) (by omega) c).elim, fun _ => ⟨v2, fun c => ?_, fun c => ?_⟩⟩
        · have c' : T (196 + 6 * q + l) < 12 := (nI_ltI (b := 12) (by omega) (by omega)).mp c
          have := im (l + 1) (by omega)
          rw [ob_lf_s, show ob_ls T n q (ob_lf T n q l) l = ob_lf T n q l from if_pos c'] at this
          exact this
        · have c' : ¬ T (196 + 6 * q + l) < 12 := fun z => c (nI_lt (b := 12) z (by omega))
          have e4 : nI (T (196 + 6 * q + l)) - 12 = nI (T (196 + 6 * q + l) - 12) := oa_sub (b := 12) (by omega)
          rw [e4]
          refine ih _ (T (196 + 6 * q + l) - 12) d (by omega) (by omega) (by omega) ?_
          have b1 := oa_lvl_le (T := T) n (T (196 + 6 * q + l) - 12)
          have b2 := ob_lf_le n q (oa_lvl_le (T := T) n) l
          have e5 : (1 : Int32) + nI (oa_lvl T n (T (196 + 6 * q + l) - 12)) = nI (1 + oa_lvl T n (T (196 + 6 * q + l) - 12)) := nI_add 1 _
          have := im (l + 1) (by omega)
          rw [ob_lf_s, show ob_ls T n q (ob_lf T n q l) l = max (ob_lf T n q l) (1 + oa_lvl T n (T (196 + 6 * q + l) - 12)) from if_neg c'] at this
          rw [e5]
          have e6 : (if nI (ob_lf T n q l) < nI (1 + oa_lvl T n (T (196 + 6 * q + l) - 12)) then nI (1 + oa_lvl T n (T (196 + 6 * q + l) - 12)) else nI (ob_lf T n q l)) = nI (max (ob_lf T n q l) (1 + oa_lvl T n (T (196 + 6 * q + l) - 12))) := by
            by_cases z : ob_lf T n q l < 1 + oa_lvl T n (T (196 + 6 * q + l) - 12)
            · rw [if_pos (nI_lt z (by omega))]; congr 1; omega
            · rw [if_neg (nI_nlt (by omega) (by omega))]; congr 1; omega
          rw [e6]
          exact this
    exact lem (T (188 + q)) 0 (by omega)
theorem z_level (A : RA h hm n) (a : Int32) : p_X11_level h a ∧ ∃ fm gm, ZT (x_X11_level h a) (f_X11_level h a) fm gm [(1, 1)] ∧ RA h gm n ∧ ∀ (d : Nat) (P : Int32 → Hp → Prop) (Qx : String → Hp → Prop), P fm gm → CL 0 (d + 9) mX12_level [vR 12 0, vI a] hm (oI P) Qx := by
  obtain ⟨T, w, B, -⟩ := id A
  obtain ⟨p1, p2, k⟩ := kk_product B a
  obtain ⟨J, I, R, C, G⟩ := B
  have bT := J.1
  unfold p_X11_level x_X11_level f_X11_level
  rcases k with ⟨q, hq, rfl, x1, f1, g1⟩ | ⟨x1, f1, g1⟩
  · have in1 := a_inside h (k := q) (N := T 1) hq (by omega)
    have v1 : vp_in (nI q) 8 := vp_in_nI (by omega) (by omega)
    refine ⟨?_, nI (oa_lvl T 8 q), hp_i hm 12 0 0 0, ?_, A.thr, fun d P Qx k => ?_⟩
    · simp [p1, x1, p_X1_levelOf, C.1.2.1, in1, v1]
    · refine Or.inl ⟨by simp [x1], ?_, hp_i_g.trans (if_pos rfl)⟩
      simp [x1, f_X1_levelOf, C.1.2.1, in1, nI_clamp (show q < 2 ^ 31 by omega), C.2.2.2.2.2.1 q hq]
    · refine CL.ofF (plainFor_of_name rfl) rfl (Nat.le_of_ble_eq_true rfl) (vc_X12_level_0 (d := d + 8) ?_)
      refine c_X12_noProduct (d := d + 6) p2 ?_
      rw [f1, g1]
      refine ⟨fun _ => ?_, fun z => (z rfl).elim⟩
      exact c_X12_levelOf J (show RM (hp_i hm 12 0 0 0) T w from R) (P := P) 8 _ q d (by omega) hq (by omega) k
  · refine ⟨?_, 0, hp_i (hp_i hm 12 0 0 0) 12 0 0 1, ?_, A.thr.thr, fun d P Qx k => ?_⟩
    · simp [p1, x1]
    · refine Or.inr ⟨1, ?_, hp_i_g.trans (if_pos rfl)⟩
      simp [x1]
    · refine CL.ofF (plainFor_of_name rfl) rfl (Nat.le_of_ble_eq_true rfl) (vc_X12_level_0 (d := d + 8) ?_)
      refine c_X12_noProduct (d := d + 6) p2 ?_
      rw [f1, g1]
      exact ⟨fun z => absurd z (by decide), fun _ => k⟩
end LVL
