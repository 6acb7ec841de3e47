/-! formatOrder -/
section FO
variable {H h h' hm hm' : Hp} {B : List Int32} {T w : Nat → Nat} {n j v : Nat}
theorem TC.g {L : Nat} (t : TC h h' B) (G : RG h L w) : RG h' L w := G.same (fun i hi => t.2.2.1 i _ (by omega) (by omega))
theorem TC.c {c : Nat} (t : TC h h' B) (C : RC h c T) : RC h' c T := C.same (fun i hi _ => t.2.2.1 i _ (by omega) (by omega)) (congrArg Prod.fst t.2.2.2)
theorem TM.r (t : TM hm hm' B) (R : RM hm T w) : RM hm' T w := R.same (t.2.2.1 56 0 (by omega) (by omega)) (t.2.2.1 58 0 (by omega) (by omega))
theorem TC.nil : TC h (hp_i h 2 0 0 0) [] := ⟨hp_i_g.trans (if_pos rfl), fun k hk => absurd hk (Nat.not_lt_zero k), fun t i h1 _ => hp_i_n h1, rfl⟩
theorem TM.nil : TM hm (hp_i hm 12 0 24 0) [] := ⟨hp_i_g.trans (if_pos rfl), fun k hk => absurd hk (Nat.not_lt_zero k), fun t i h1 _ => hp_i_n h1, fun k hk => hp_i_g.trans (if_neg hk), rfl⟩
theorem s_begin (J : IT T) {k : Nat} (hk : k < 20) : p_X2_begin h (oa_nm T k) ∧ TC h (g_X2_begin h (oa_nm T k)) (ob_nw T k) := by
  have s := s_name (B := []) J hk (TC.nil (h := h)) (by decide)
  exact ⟨⟨s.1, trivial⟩, s.2⟩
theorem ob_nw_len (J : IT T) {k : Nat} (hk : k < 20) : (ob_nw T k).length ≤ 8 := by
  unfold ob_nw
  rw [List.length_map, List.length_reverse]
  exact (ob_nl_ok J hk).2
/-- only the formatted text is another -/
theorem RA.fmt (A : RA h hm n) (t : TC h h' B) (tm : TM hm hm' B) (hb : B.length ≤ 200) : RA h' hm' n := by
  obtain ⟨T, w, ⟨J, I, R, C, G⟩, ⟨S, s1, s2⟩, ⟨d, x, d1, d2, d3, d4, d5, d6⟩, ⟨y, y1, y2, y3, y4⟩, ⟨e1, e2⟩, -, r⟩ := A
  have hl := t.2.2.2
  have hr : h'.2.2 = h.2.2 := congrArg Prod.snd hl
  have hc : ∀ z, ¬ z = 2 → ¬ z = 33 → ∀ i, h'.1 z i = h.1 z i := fun z h1 h2 i => t.2.2.1 z i (by omega) (by omega)
  have hs : ∀ z, ¬ z = 12 → ¬ z = 65 → hm'.1 z 0 = hm.1 z 0 := fun z h1 h2 => tm.2.2.1 z 0 (by omega) (by omega)
  have hk := tm.2.2.2.1
  refine ⟨T, w, ⟨J, I, tm.r R, ?_, ?_⟩, ⟨S, s1, ?_⟩, ⟨d, x, d1, d2, ?_, ?_, ?_, ?_⟩, ⟨y, y1, ?_, ?_, ?_⟩, ⟨?_, ?_⟩, ⟨B.length, hb, t.1, tm.1, ?_⟩, ?_⟩
  · rw [hr]; exact t.c C
  · rw [hr]; exact t.g G
  · rw [hr, hs 58 (by omega) (by omega)]; exact s2.same (fun z h1 h2 => hc z (by omega) (by omega) _)
  · rw [hc 3 (by omega) (by omega)]; exact d3
  · rw [hc 3 (by omega) (by omega)]; exact d4
  · rw [hk 16 (by omega)]; exact d5
  · intro k hk
    obtain ⟨w', V⟩ := d6 k hk
    refine ⟨w', ?_⟩
    rw [hs 59 (by omega) (by omega)]
    exact V.same (fun z hz => hc z (by omega) (by omega) _)
  · rw [hc 4 (by omega) (by omega)]; exact y2
  · rw [hk 3 (by omega)]; exact y3
  · rw [hc 35 (by omega) (by omega), hs 54 (by omega) (by omega)]; exact y4
  · rw [hc 7 (by omega) (by omega), hk 9 (by omega)]; exact e1
  · rw [hc 7 (by omega) (by omega), hk 10 (by omega)]; exact e2
  · intro k hk'
    rw [t.2.1 k hk', tm.2.1 k hk']
  · unfold RR; rw [hr]; exact r
theorem rc_text {d : Nat} {P : Hp → Prop} {Qx : String → Hp → Prop} (hj : j < 36) (t : TC H h B) (hl : B.length + (oa_by j).length ≤ 200) (k : ∀ h', TC H h' (B ++ ob_tx j) → P h') : CL 0 (d + 6) mX2_putText [vR 2 0, vR (1000 + j) 0] h (oV P) Qx := by
  have s := s_text hj t hl
  exact c_X2_putText hj s.1 (k _ s.2)
theorem rc_num {d : Nat} {P : Hp → Prop} {Qx : String → Hp → Prop} (hj : j < 36) (hv : v ≤ 9999) (t : TC H h B) (hl : B.length + (oa_by j).length + 4 ≤ 200) (k : ∀ h', TC H h' (B ++ ob_pt j v) → P h') : CL 0 (d + 7) mX2_putNumbered [vR 2 0, vR (1000 + j) 0, vI (nI v)] h (oV P) Qx := by
  have s := s_numbered hj hv t hl
  exact c_X2_putNumbered hj s.1 (k _ s.2)
theorem ob_by_e : (oa_by 27 = oa_by 12 ∧ oa_by 28 = oa_by 13 ∧ oa_by 29 = oa_by 14 ∧ oa_by 30 = oa_by 15) ∧ (oa_by 31 = oa_by 16 ∧ oa_by 32 = oa_by 17 ∧ oa_by 33 = oa_by 18 ∧ oa_by 34 = oa_by 19) ∧ oa_by 35 = oa_by 21 := by decide +kernel
theorem ob_by_l : ((oa_by 12).length = 2 ∧ (oa_by 13).length = 2 ∧ (oa_by 14).length = 2 ∧ (oa_by 15).length = 2) ∧ ((oa_by 16).length = 2 ∧ (oa_by 17).length = 2 ∧ (oa_by 18).length = 2 ∧ (oa_by 19).length = 10) ∧ (oa_by 20).length = 1 ∧ (oa_by 21).length = 1 := by decide +kernel
/-- the head and the tail of an order's text -/
def ob_fh (T w : Nat → Nat) (o : Nat) : List Int32 := ob_nw T (12 + w (93 + 8 * o)) ++ ob_pt 12 (w (93 + 8 * o + 1)) ++ ob_pt 13 (w (93 + 8 * o + 2)) ++ ob_pt 14 (w (93 + 8 * o + 3)) ++ (if w (93 + 8 * o + 4) = 1 then ob_tx 15 else [])
def ob_ft (w : Nat → Nat) (o : Nat) (B : List Int32) : List Int32 := B ++ ob_pt 16 (oa_open w o) ++ ob_pt 17 (w (93 + 8 * o + 6)) ++ ob_pt 18 (w (93 + 8 * o + 5)) ++ (if w (93 + 8 * o + 7) = 1 then ob_tx 19 else [])
def ob_fo (T w : Nat → Nat) (o : Nat) : List Int32 := ob_ft w o (ob_fh T w o)
theorem ob_open_le {o : Nat} (I : IW T w n) (ho : o < w 1) : oa_open w o ≤ 99 := by
  have := I.2.2.2 o ho
  unfold oa_open
  split <;> omega
theorem a_state {L o : Nat} (G : RG h L w) (I : IW T w n) (ho : o < w 1) : p_X6_stateFor h L (nI o) ∧ (f_X6_stateFor h L (nI o) = 3 ↔ w (93 + 8 * o + 7) = 1) := by
  have i := I.2.2.2 o ho
  obtain ⟨b1, b2, b3, b4⟩ := a_order G I ho
  have a1 := a_ord G I ho
  have a2 := a_open G I ho
  have r8 := (G.2.2.2 o ho).2.2.2.2.2.2.2
  by_cases c : w (93 + 8 * o + 7) = 1
  · have e1 : nI 1 = 1 := rfl
    simp [p_X6_stateFor, f_X6_stateFor, b1, b2, b3, b4, a1, a2, r8, c, e1]
  · have c0 : w (93 + 8 * o + 7) = 0 := by omega
    have e0 : nI 0 = 0 := rfl
    refine ⟨?_, ?_⟩
    · simp [p_X6_stateFor, b1, b2, b3, b4, a1, a2, r8, c0, e0]
    · unfold f_X6_stateFor
      rw [b1, if_neg (by decide), b4, r8, c0, e0, if_pos rfl]
      constructor
      · intro z
        exfalso
        revert z
        split
        · split <;> decide
        · decide
      · intro z; omega
theorem s_tail {d L o : Nat} {P : Int32 → Hp → Prop} {Qx : String → Hp → Prop} (I : IW T w n) (G : RG H L w) (ho : o < w 1) (t : TC H h B) (hl : B.length ≤ 100) (k : ∀ h', TC H h' (ob_ft w o B) → P (nI (ob_ft w o B).length) h') :
    CL 0 (d + 7) mX6_openOf [vR 6 L, vI (nI o)] h (oI fun r19 h18 => CL 0 (d + 7) mX2_putNumbered [vR 2 0, vR 1016 0, vI r19] h18 (oV fun h20 => CL 0 (d + 7) mX6_reservedOf [vR 6 L, vI (nI o)] h20 (oI fun r22 h21 => CL 0 (d + 7) mX2_putNumbered [vR 2 0, vR 1017 0, vI r22] h21 (oV fun h23 => CL 0 (d + 7) mX6_shippedOf [vR 6 L, vI (nI o)] h23 (oI fun r25 h24 => CL 0 (d + 7) mX2_putNumbered [vR 2 0, vR 1018 0, vI r25] h24 (oV fun h26 => CL 0 (d + 7) mX6_stateFor [vR 6 L, vI (nI o)] h26 (oI fun r28 h27 => ((¬ r28 = 3) → oI P (some (vI (h27.1 2 0 0))) h27) ∧ ((r28 = 3) → CL 0 (d + 7) mX2_putText [vR 2 0, vR 1019 0] h27 (oV fun h29 => oI P (some (vI (h29.1 2 0 0))) h29) Qx)) Qx) Qx) Qx) Qx) Qx) Qx) Qx := by
  have io := I.2.2.2 o ho
  have op := ob_open_le I ho
  have bl := ob_by_l
  have l16 := ob_pt_len 16 (oa_open w o)
  have l17 := ob_pt_len 17 (w (93 + 8 * o + 6))
  have l18 := ob_pt_len 18 (w (93 + 8 * o + 5))
  have a1 := a_open (t.g G) I ho
  refine c_X6_openOf (d := d + 5) a1.1 ?_
  rw [a1.2]
  refine rc_num (d := d) (j := 16) (v := oa_open w o) (by omega) (by omega) t (by omega) (fun h1 t1 => ?_)
  have a2 := (a_ord (t1.g G) I ho).1
  refine c_X6_reservedOf (d := d + 5) a2.1 ?_
  rw [a2.2]
  refine rc_num (d := d) (j := 17) (v := w (93 + 8 * o + 6)) (by omega) (by omega) t1 (by simp only [List.length_append]; omega) (fun h2 t2 => ?_)
  have a3 := (a_ord (t2.g G) I ho).2.1
  refine c_X6_shippedOf (d := d + 5) a3.1 ?_
  rw [a3.2]
  refine rc_num (d := d) (j := 18) (v := w (93 + 8 * o + 5)) (by omega) (by omega) t2 (by simp only [List.length_append]; omega) (fun h3 t3 => ?_)
  have a4 := a_state (t3.g G) I ho
  refine c_X6_stateFor (d := d + 4) a4.1 ?_
  unfold ob_ft at k
  refine ⟨fun z => ?_, fun z => ?_⟩
  · rw [if_neg (fun y => z (a4.2.mpr y)), List.append_nil] at k
    have := k h3 t3
    rw [← t3.1] at this
    exact this
  · rw [if_pos (a4.2.mp z)] at k
    refine rc_text (d := d + 1) (j := 19) (by omega) t3 (by simp only [List.length_append]; omega) (fun h4 t4 => ?_)
    have := k h4 t4
    rw [← t4.1] at this
    exact this
theorem c_X11_formatOrder {d o : Nat} {P : Int32 → Hp → Prop} {Qx : String → Hp → Prop} (R0 : RB h hm T w n) (ho : o < w 1) (hx : x_X11_checkOrder h (nI o) = 0) (k : ∀ h', TC h h' (ob_fo T w o) → P (nI (ob_fo T w o).length) h') : CL 0 (d + 8) mX11_formatOrder [vR 11 0, vI (nI o)] h (oI P) Qx := by
  have p1 := (kk_order R0 (nI o)).1
  obtain ⟨J, I, R, C, G⟩ := R0
  have bT := J.1
  have io := I.2.2.2 o ho
  have bl := ob_by_l
  have ln := ob_nw_len J (k := 12 + w (93 + 8 * o)) (by omega)
  have l12 := ob_pt_len 12 (w (93 + 8 * o + 1))
  have l13 := ob_pt_len 13 (w (93 + 8 * o + 2))
  have l14 := ob_pt_len 14 (w (93 + 8 * o + 3))
  have l15 := ob_tx_len 15
  refine CL.ofF (plainFor_of_name rfl) rfl (Nat.le_of_ble_eq_true rfl) (vc_X11_formatOrder_0 (d := d + 7) (Or.inl ?_))
  refine c_X11_checkOrder (d := d + 1) p1 hx ?_
  have a0 := a_ord G I ho
  refine c_X6_productOf (d := d + 5) a0.2.2.1.1 ?_
  rw [a0.2.2.1.2]
  have in1 := a_inside h (k := w (93 + 8 * o)) (N := T 1) io.1 (by omega)
  have v1 : vp_in (nI (w (93 + 8 * o))) 8 := vp_in_nI (by omega) (by omega)
  have pn : p_X1_productName h (h.2.2 11 0 6) (nI (w (93 + 8 * o))) ∧ f_X1_productName h (h.2.2 11 0 6) (nI (w (93 + 8 * o))) = oa_nm T (12 + w (93 + 8 * o)) := by
    refine ⟨?_, ?_⟩
    · simp [p_X1_productName, C.1.2.1, in1, v1]
    · unfold f_X1_productName
      rw [C.1.2.1, in1.2, if_neg (by decide), nI_clamp (by omega)]
      exact C.2.2.2.2.2.2.2.2 _ io.1
  refine c_X1_productName (d := d + 5) pn.1 ?_
  rw [pn.2]
  have sb := s_begin (h := h) J (k := 12 + w (93 + 8 * o)) (by omega)
  refine c_X2_begin (d := d + 3) sb.1 ?_
  have t0 := sb.2
  generalize g_X2_begin h (oa_nm T (12 + w (93 + 8 * o))) = h0 at t0 ⊢
  have a1 := (a_ord (t0.g G) I ho).2.2.2.1
  refine c_X6_quantityOf (d := d + 5) a1.1 ?_
  rw [a1.2]
  refine rc_num (d := d) (j := 12) (v := w (93 + 8 * o + 1)) (by omega) (by omega) t0 (by omega) (fun h1 t1 => ?_)
  have a2 := (a_ord (t1.g G) I ho).2.2.2.2.1
  refine c_X6_classOf (d := d + 5) a2.1 ?_
  rw [a2.2]
  refine rc_num (d := d) (j := 13) (v := w (93 + 8 * o + 2)) (by omega) (by omega) t1 (by simp only [List.length_append]; omega) (fun h2 t2 => ?_)
  have a3 := (a_ord (t2.g G) I ho).2.2.2.2.2
  refine c_X6_dueOf (d := d + 5) a3.1 ?_
  rw [a3.2]
  refine rc_num (d := d) (j := 14) (v := w (93 + 8 * o + 3)) (by omega) (by omega) t2 (by simp only [List.length_append]; omega) (fun h3 t3 => ?_)
  have G3 := t3.g G
  obtain ⟨b1, b2, b3, b4⟩ := a_order G3 I ho
  have r5 := (G3.2.2.2 o ho).2.2.2.2.1
  have pw : p_X6_isWhole h3 (h.2.2 11 0 7) (nI o) ∧ (f_X6_isWhole h3 (h.2.2 11 0 7) (nI o) = 0 ↔ ¬ w (93 + 8 * o + 4) = 1) := by
    have e : nI (w (93 + 8 * o + 4)) = 0 ↔ w (93 + 8 * o + 4) = 0 := nI_eq (b := 0) (by omega) (by omega)
    by_cases c : w (93 + 8 * o + 4) = 0
    · have c1 : nI (w (93 + 8 * o + 4)) = 0 := e.mpr c
      refine ⟨?_, ?_⟩
      · simp [p_X6_isWhole, b1, b2, b3, b4, r5, c1]
      · simp [f_X6_isWhole, b1, b4, r5, c1, c, nI_0]
    · have c1 : ¬ nI (w (93 + 8 * o + 4)) = 0 := fun z => c (e.mp z)
      have c2 : w (93 + 8 * o + 4) = 1 := by omega
      refine ⟨?_, ?_⟩
      · simp [p_X6_isWhole, b1, b2, b3, b4, r5, c1]
      · rw [c2] at c1
        simp [f_X6_isWhole, b1, b4, r5, c1, c2]
  refine c_X6_isWhole (d := d + 5) pw.1 ?_
  unfold ob_fo ob_fh at k
  refine ⟨fun z => ?_, fun z => ?_⟩
  · rw [if_neg (pw.2.mp z), List.append_nil] at k
    exact s_tail I G ho t3 (by simp only [List.length_append]; omega) k
  · rw [if_pos (Classical.not_not.mp (fun y => z (pw.2.mpr y)))] at k
    refine rc_text (d := d + 1) (j := 15) (by omega) t3 (by simp only [List.length_append]; omega) (fun h4 t4 => ?_)
    exact s_tail I G ho t4 (by simp only [List.length_append]; omega) k
theorem t_X11_formatOrder {d : Nat} {a : Int32} {Qx : String → Hp → Prop} (R0 : RB h hm T w n) (hx : ¬ x_X11_checkOrder h a = 0) (k : Qx (oa_ex (x_X11_checkOrder h a)) h) : CL 1 (d + 8) mX11_formatOrder [vR 11 0, vI a] h (fun _ _ => False) Qx := by
  have p1 := (kk_order R0 a).1
  refine CL.ofF (plainFor_of_name rfl) rfl (Nat.le_of_ble_eq_true rfl) (vc_X11_formatOrder_0 (d := d + 7) (Or.inr ?_))
  exact t_X11_checkOrder (d := d + 1) p1 hx k
end FO
