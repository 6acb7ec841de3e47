/-! formatOrder, the model; formatNeeds -/
section FP
variable {H h h' hm hm' : Hp} {B : List Int32} {T w : Nat → Nat} {n j v : Nat}
theorem ob_tx_e {i j : Nat} (e : oa_by i = oa_by j) : ob_tx i = ob_tx j := by unfold ob_tx; rw [e]
theorem ob_pt_e {i j : Nat} (e : oa_by i = oa_by j) (v : Nat) : ob_pt i v = ob_pt j v := by unfold ob_pt; rw [ob_tx_e e]
theorem s_tailM {d o : Nat} {P : Int32 → Hp → Prop} {Qx : String → Hp → Prop} (I : IW T w n) (R : RM H T w) (ho : o < w 1) (t : TM H h B) (hl : B.length ≤ 100) (k : ∀ h', TM H h' (ob_ft w o B) → P (nI (ob_ft w o B).length) h') :
    CL 0 (d + 7) mX12_open [vR 12 0, vI (nI o)] h (oI fun r18 h17 => CL 0 (d + 7) mX12_saysPart [vR 12 0, vR 1031 0, vI r18] h17 (oV fun h19 => CL 0 (d + 7) mX12_of [vR 12 0, vI (nI o), vI 6] h19 (oI fun r21 h20 => CL 0 (d + 7) mX12_saysPart [vR 12 0, vR 1032 0, vI r21] h20 (oV fun h22 => CL 0 (d + 7) mX12_of [vR 12 0, vI (nI o), vI 5] h22 (oI fun r24 h23 => CL 0 (d + 7) mX12_saysPart [vR 12 0, vR 1033 0, vI r24] h23 (oV fun h25 => CL 0 (d + 7) mX12_of [vR 12 0, vI (nI o), vI 7] h25 (oI fun r27 h26 => ((¬ r27 = 1) → oI P (some (vI (h26.1 12 0 24))) h26) ∧ ((r27 = 1) → CL 0 (d + 7) mX12_saysWord [vR 12 0, vR 1034 0] h26 (oV fun h28 => oI P (some (vI (h28.1 12 0 24))) h28) Qx)) Qx) Qx) Qx) Qx) Qx) Qx) Qx := by
  have io := I.2.2.2 o ho
  have op := ob_open_le I ho
  have bl := ob_by_l
  obtain ⟨-, ⟨e31, e32, e33, e34⟩, -⟩ := ob_by_e
  have l16 := ob_pt_len 16 (oa_open w o)
  have l17 := ob_pt_len 17 (w (93 + 8 * o + 6))
  have l18 := ob_pt_len 18 (w (93 + 8 * o + 5))
  have a1 := m_open (t.r R) I ho
  refine c_X12_open (d := d + 5) a1.1 ?_
  rw [a1.2]
  refine r_part (d := d) (j := 31) (v := oa_open w o) (by omega) (by omega) t (by rw [e31]; omega) (fun h1 t1 => ?_)
  rw [ob_pt_e e31] at t1
  have a2 := (m_ord (t1.r R) I ho).2.2.2.2.2.2.1
  refine c_X12_of (d := d + 6) a2.1 ?_
  rw [a2.2]
  refine r_part (d := d) (j := 32) (v := w (93 + 8 * o + 6)) (by omega) (by omega) t1 (by rw [e32]; simp only [List.length_append]; omega) (fun h2 t2 => ?_)
  rw [ob_pt_e e32] at t2
  have a3 := (m_ord (t2.r R) I ho).2.2.2.2.2.1
  refine c_X12_of (d := d + 6) a3.1 ?_
  rw [a3.2]
  refine r_part (d := d) (j := 33) (v := w (93 + 8 * o + 5)) (by omega) (by omega) t2 (by rw [e33]; simp only [List.length_append]; omega) (fun h3 t3 => ?_)
  rw [ob_pt_e e33] at t3
  have a4 := (m_ord (t3.r R) I ho).2.2.2.2.2.2.2
  refine c_X12_of (d := d + 6) a4.1 ?_
  rw [a4.2]
  have c7 : nI (w (93 + 8 * o + 7)) = 1 ↔ w (93 + 8 * o + 7) = 1 := nI_eq (b := 1) (by omega) (by omega)
  unfold ob_ft at k
  refine ⟨fun z => ?_, fun z => ?_⟩
  · rw [if_neg (fun y => z (c7.mpr y)), List.append_nil] at k
    have := k h3 t3
    rw [← t3.1] at this
    exact this
  · rw [if_pos (c7.mp z)] at k
    refine r_word (d := d + 1) (j := 34) (by omega) t3 (by rw [e34]; simp only [List.length_append]; omega) (fun h4 t4 => ?_)
    rw [ob_tx_e e34] at t4
    have := k h4 t4
    rw [← t4.1] at this
    exact this
theorem c_X12_formatOrder {d o : Nat} {P : Int32 → Hp → Prop} {Qx : String → Hp → Prop} (R0 : RB h hm T w n) (ho : o < w 1) (hf : f_X12_noOrder (hp_i hm 12 0 0 0) (nI o) = 0) (hg : g_X12_noOrder (hp_i hm 12 0 0 0) (nI o) = hp_i hm 12 0 0 0) (k : ∀ h', TM (hp_i hm 12 0 0 0) h' (ob_fo T w o) → P (nI (ob_fo T w o).length) h') : CL 0 (d + 8) mX12_formatOrder [vR 12 0, vI (nI o)] hm (oI P) Qx := by
  have p1 := (kk_order R0 (nI o)).2.1
  obtain ⟨J, I, R, C, G⟩ := R0
  have bT := J.1
  have io := I.2.2.2 o ho
  have bl := ob_by_l
  obtain ⟨⟨e27, e28, e29, e30⟩, -, -⟩ := ob_by_e
  have ln := ob_nw_len J (k := 12 + w (93 + 8 * o)) (by omega)
  have l12 := ob_pt_len 12 (w (93 + 8 * o + 1))
  have l13 := ob_pt_len 13 (w (93 + 8 * o + 2))
  have l14 := ob_pt_len 14 (w (93 + 8 * o + 3))
  have l15 := ob_tx_len 15
  have RH : RM (hp_i hm 12 0 0 0) T w := R
  refine CL.ofF (plainFor_of_name rfl) rfl (Nat.le_of_ble_eq_true rfl) (vc_X12_formatOrder_0 (d := d + 7) ?_)
  refine c_X12_noOrder (d := d + 5) p1 ?_
  rw [hf, hg]
  refine ⟨fun _ => ?_, fun z => (z rfl).elim⟩
  have t0 := TM.nil (hm := hp_i hm 12 0 0 0)
  generalize hp_i hm 12 0 0 0 = H at *
  have a0 := (m_ord (t0.r RH) I ho).1
  refine c_X12_of (d := d + 6) a0.1 ?_
  rw [a0.2]
  have e12 : (12 : Int32) + nI (w (93 + 8 * o)) = nI (12 + w (93 + 8 * o)) := nI_add 12 _
  rw [e12]
  refine r_name (d := d + 5) J (by omega) RH t0 (by decide) (fun h1 t1 => ?_)
  rw [List.nil_append] at t1
  have a1 := (m_ord (t1.r RH) I ho).2.1
  refine c_X12_of (d := d + 6) a1.1 ?_
  rw [a1.2]
  refine r_part (d := d) (j := 27) (v := w (93 + 8 * o + 1)) (by omega) (by omega) t1 (by rw [e27]; omega) (fun h2 t2 => ?_)
  rw [ob_pt_e e27] at t2
  have a2 := (m_ord (t2.r RH) I ho).2.2.1
  refine c_X12_of (d := d + 6) a2.1 ?_
  rw [a2.2]
  refine r_part (d := d) (j := 28) (v := w (93 + 8 * o + 2)) (by omega) (by omega) t2 (by rw [e28]; simp only [List.length_append]; omega) (fun h3 t3 => ?_)
  rw [ob_pt_e e28] at t3
  have a3 := (m_ord (t3.r RH) I ho).2.2.2.1
  refine c_X12_of (d := d + 6) a3.1 ?_
  rw [a3.2]
  refine r_part (d := d) (j := 29) (v := w (93 + 8 * o + 3)) (by omega) (by omega) t3 (by rw [e29]; simp only [List.length_append]; omega) (fun h4 t4 => ?_)
  rw [ob_pt_e e29] at t4
  have a4 := (m_ord (t4.r RH) I ho).2.2.2.2.1
  refine c_X12_of (d := d + 6) a4.1 ?_
  rw [a4.2]
  have c4 : nI (w (93 + 8 * o + 4)) = 1 ↔ w (93 + 8 * o + 4) = 1 := nI_eq (b := 1) (by omega) (by omega)
  unfold ob_fo ob_fh at k
  refine ⟨fun z => ?_, fun z => ?_⟩
  · rw [if_neg (fun y => z (c4.mpr y)), List.append_nil] at k
    exact s_tailM I RH ho t4 (by simp only [List.length_append]; omega) k
  · rw [if_pos (c4.mp z)] at k
    refine r_word (d := d + 1) (j := 30) (by omega) t4 (by rw [e30]; simp only [List.length_append]; omega) (fun h5 t5 => ?_)
    rw [ob_tx_e e30] at t5
    exact s_tailM I RH ho t5 (by simp only [List.length_append]; omega) k
theorem c_X12_formatOrder_t {d : Nat} {a : Int32} {P : Int32 → Hp → Prop} {Qx : String → Hp → Prop} (R0 : RB h hm T w n) (hf : f_X12_noOrder (hp_i hm 12 0 0 0) a = 1) (hg : g_X12_noOrder (hp_i hm 12 0 0 0) a = hp_i (hp_i hm 12 0 0 0) 12 0 0 1) (k : P 0 (hp_i (hp_i hm 12 0 0 0) 12 0 0 1)) : CL 0 (d + 8) mX12_formatOrder [vR 12 0, vI a] hm (oI P) Qx := by
  have p1 := (kk_order R0 a).2.1
  refine CL.ofF (plainFor_of_name rfl) rfl (Nat.le_of_ble_eq_true rfl) (vc_X12_formatOrder_0 (d := d + 7) ?_)
  refine c_X12_noOrder (d := d + 5) p1 ?_
  rw [hf, hg]
  exact ⟨fun z => absurd z (by decide), fun _ => k⟩
/-- what formatNeeds says from part p on -/
def ob_fn (T : Nat → Nat) (q : Nat) : Nat → Nat → List Int32
  | _, 0 => []
  | p, m + 1 => (if oa_need T q p = 0 then [] else ob_pt 21 (oa_need T q p) ++ ob_nw T p) ++ ob_fn T q (p + 1) m
theorem l_needs {q : Nat} (J : IT T) (C : RC H (H.2.2 11 0 6) T) (hq : q < T 1) : ∀ (m p e : Nat) (h : Hp) (B : List Int32), m + p = T 0 → TC H h B → B.length + 13 * m ≤ 200 → pw_X11_formatNeeds_32 (m + 1 + e) h (nI q) (nI p) ∧ fw_X11_formatNeeds_32 (m + 1 + e) h (nI q) (nI p) = nI (B ++ ob_fn T q p m).length ∧ TC H (gw_X11_formatNeeds_32 (m + 1 + e) h (nI q) (nI p)) (B ++ ob_fn T q p m) := by
  have bT := J.1
  have bl := ob_by_l
  intro m
  induction m with
  | zero =>
    intro p e h B hp t hl
    rw [show 0 + 1 + e = e + 1 by omega]
    have C' := t.c C
    have r2 : h.2.2 11 0 6 = H.2.2 11 0 6 := by rw [t.2.2.2]
    have c : h.1 1 (h.2.2 11 0 6) 0 ≤ nI p := by rw [r2, C'.1.1]; exact nI_le (by omega) (by omega)
    rw [pw_X11_formatNeeds_32, fw_X11_formatNeeds_32, gw_X11_formatNeeds_32, if_pos c, if_pos c, ob_fn, List.append_nil]
    exact ⟨⟨fun _ => trivial, fun z => (z c).elim⟩, t.1, t⟩
  | succ m ih =>
    intro p e h B hp t hl
    rw [show m + 1 + 1 + e = (m + 1 + e) + 1 by omega]
    have C' := t.c C
    have r2 : h.2.2 11 0 6 = H.2.2 11 0 6 := by rw [t.2.2.2]
    have c : ¬ h.1 1 (h.2.2 11 0 6) 0 ≤ nI p := by rw [r2, C'.1.1]; exact nI_ge (by omega) (by omega)
    have nd := a_needOf J C' hq (show p < T 0 by omega)
    have bd := J.2.2.2.2.1 q p hq (by omega)
    have ee : T (292 + 12 * q + p) = oa_need T q p := rfl
    rw [ee] at bd
    have e1 : nI p + 1 = nI (p + 1) := nI_add p 1
    rw [pw_X11_formatNeeds_32, fw_X11_formatNeeds_32, gw_X11_formatNeeds_32, if_neg c, if_neg c, ob_fn, e1, r2, nd.2]
    by_cases z : oa_need T q p = 0
    · have z1 : nI (oa_need T q p) ≤ 0 := by rw [z]; decide
      have r := ih (p + 1) e h B (by omega) t (by omega)
      rw [if_pos z1, if_pos z1, if_pos z, List.nil_append]
      refine ⟨⟨fun y => (by rw [← r2] at y; exact (c y).elim), fun _ => ⟨nd.1, fun _ => r.1, fun y => (y z1).elim⟩⟩, r.2⟩
    · have z1 : ¬ nI (oa_need T q p) ≤ 0 := nI_nle (by omega) (by omega)
      have s1 := s_numbered (j := 21) (v := oa_need T q p) (by omega) bd t (by omega)
      have l21 := ob_pt_len 21 (oa_need T q p)
      have ln := ob_nw_len J (k := p) (by omega)
      rw [if_neg z1, if_neg z1, if_neg z]
      generalize g_X2_putNumbered h 21 (nI (oa_need T q p)) = h1 at s1 ⊢
      have C1 := s1.2.c C
      have r3 : h1.2.2 11 0 6 = H.2.2 11 0 6 := by rw [s1.2.2.2.2]
      have in1 := a_inside h1 (k := p) (N := T 0) (by omega) (by omega)
      have v1 : vp_in (nI p) 12 := vp_in_nI (by omega) (by omega)
      have pn : p_X1_partName h1 (H.2.2 11 0 6) (nI p) ∧ f_X1_partName h1 (H.2.2 11 0 6) (nI p) = oa_nm T p := by
        refine ⟨?_, ?_⟩
        · simp [p_X1_partName, C1.1.1, in1, v1]
        · unfold f_X1_partName
          rw [C1.1.1, in1.2, if_neg (by decide), nI_clamp (by omega)]
          exact C1.2.2.2.2.2.2.2.1 _ (by omega)
      rw [r3, pn.2]
      have s2 := s_name J (k := p) (by omega) s1.2 (by simp only [List.length_append]; omega)
      have r := ih (p + 1) e _ _ (by omega) s2.2 (by simp only [List.length_append]; omega)
      have ea : B ++ (ob_pt 21 (oa_need T q p) ++ ob_nw T p ++ ob_fn T q (p + 1) m) = B ++ ob_pt 21 (oa_need T q p) ++ ob_nw T p ++ ob_fn T q (p + 1) m := by simp only [List.append_assoc]
      rw [ea]
      refine ⟨⟨fun y => (by rw [← r2] at y; exact (c y).elim), fun _ => ⟨nd.1, fun y => (z1 y).elim, fun _ => ⟨s1.1, pn.1, s2.1, r.1⟩⟩⟩, r.2⟩
def ob_fq (T : Nat → Nat) (q : Nat) : List Int32 := ob_nw T (12 + q) ++ ob_tx 20 ++ ob_fn T q 0 (T 0)
theorem ob_colon : ob_tx 20 = [ob_nb 58] := by decide +kernel
theorem ob_fn_len (J : IT T) (q : Nat) : ∀ m p, p + m ≤ 12 → (ob_fn T q p m).length ≤ 13 * m := by
  intro m
  induction m with
  | zero => intro p _; exact Nat.le_refl _
  | succ m ih =>
    intro p hp
    have bl := ob_by_l
    have l21 := ob_pt_len 21 (oa_need T q p)
    have ln := ob_nw_len J (k := p) (by omega)
    have := ih (p + 1) (by omega)
    rw [ob_fn, List.length_append]
    split
    · rw [List.length_nil]; omega
    · rw [List.length_append]; omega
theorem ob_fq_len (J : IT T) {q : Nat} (hq : q < 8) : (ob_fq T q).length ≤ 165 := by
  have bT := J.1
  have bl := ob_by_l
  have ln := ob_nw_len J (k := 12 + q) (by omega)
  have lf := ob_fn_len J q (T 0) 0 (by omega)
  unfold ob_fq
  rw [List.length_append, List.length_append, ob_tx_len]
  omega
theorem ob_fo_len {o : Nat} (J : IT T) (I : IW T w n) (ho : o < w 1) : (ob_fo T w o).length ≤ 100 := by
  have bT := J.1
  have io := I.2.2.2 o ho
  have bl := ob_by_l
  have ln := ob_nw_len J (k := 12 + w (93 + 8 * o)) (by omega)
  have l12 := ob_pt_len 12 (w (93 + 8 * o + 1))
  have l13 := ob_pt_len 13 (w (93 + 8 * o + 2))
  have l14 := ob_pt_len 14 (w (93 + 8 * o + 3))
  have l15 : (if w (93 + 8 * o + 4) = 1 then ob_tx 15 else []).length ≤ 2 := by
    split
    · rw [ob_tx_len]; omega
    · exact Nat.zero_le _
  have l19 : (if w (93 + 8 * o + 7) = 1 then ob_tx 19 else []).length ≤ 10 := by
    split
    · rw [ob_tx_len]; omega
    · exact Nat.zero_le _
  have l16 := ob_pt_len 16 (oa_open w o)
  have l17 := ob_pt_len 17 (w (93 + 8 * o + 6))
  have l18 := ob_pt_len 18 (w (93 + 8 * o + 5))
  unfold ob_fo ob_ft ob_fh
  simp only [List.length_append]
  omega
theorem s_formatNeeds {q : Nat} (R0 : RB h hm T w n) (hq : q < T 1) (hx : x_X11_checkProduct h (nI q) = 0) : p_X11_formatNeeds h (nI q) ∧ x_X11_formatNeeds h (nI q) = 0 ∧ f_X11_formatNeeds h (nI q) = nI (ob_fq T q).length ∧ TC h (g_X11_formatNeeds h (nI q)) (ob_fq T q) := by
  have p1 := (kk_product R0 (nI q)).1
  obtain ⟨J, I, R, C, G⟩ := R0
  have bT := J.1
  have bl := ob_by_l
  have ln := ob_nw_len J (k := 12 + q) (by omega)
  have in1 := a_inside h (k := q) (N := T 1) hq (by omega)
  have v1 : vp_in (nI q) 8 := vp_in_nI (by omega) (by omega)
  have pn : p_X1_productName h (h.2.2 11 0 6) (nI q) ∧ f_X1_productName h (h.2.2 11 0 6) (nI q) = oa_nm T (12 + q) := by
    refine ⟨?_, ?_⟩
    · simp [p_X1_productName, C.1.2.1, in1, v1]
    · unfold f_X1_productName
      rw [C.1.2.1, in1.2, if_neg (by decide), nI_clamp (by omega)]
      exact C.2.2.2.2.2.2.2.2 _ hq
  have sb := s_begin (h := h) J (k := 12 + q) (by omega)
  have s2 := s_text (j := 20) (by omega) sb.2 (by omega)
  obtain ⟨e, he⟩ := oa_fuel (show T 0 < 1000000 by omega)
  have r := l_needs J C hq (T 0) 0 e _ _ (by omega) s2.2 (by rw [List.length_append, ob_tx_len]; omega)
  rw [← he, nI_0] at r
  unfold p_X11_formatNeeds x_X11_formatNeeds f_X11_formatNeeds g_X11_formatNeeds
  rw [pn.2, if_pos hx, if_pos hx, if_pos hx]
  exact ⟨⟨p1, fun _ => ⟨pn.1, sb.1, s2.1, r.1⟩⟩, rfl, r.2⟩
theorem s_formatNeeds_t {a : Int32} (R0 : RB h hm T w n) (hx : x_X11_checkProduct h a = 1) : p_X11_formatNeeds h a ∧ x_X11_formatNeeds h a = 1 ∧ g_X11_formatNeeds h a = h := by
  have p1 := (kk_product R0 a).1
  have nx : ¬ x_X11_checkProduct h a = 0 := by omega
  unfold p_X11_formatNeeds x_X11_formatNeeds g_X11_formatNeeds
  rw [if_neg nx, if_neg nx]
  exact ⟨⟨p1, fun z => (nx z).elim⟩, hx, rfl⟩
theorem c_X12_formatNeeds {d q : Nat} {P : Int32 → Hp → Prop} {Qx : String → Hp → Prop} (R0 : RB h hm T w n) (hq : q < T 1) (hf : f_X12_noProduct (hp_i hm 12 0 0 0) (nI q) = 0) (hg : g_X12_noProduct (hp_i hm 12 0 0 0) (nI q) = hp_i hm 12 0 0 0) (k : ∀ h', TM (hp_i hm 12 0 0 0) h' (ob_fq T q) → P (nI (ob_fq T q).length) h') : CL 0 (d + 8) mX12_formatNeeds [vR 12 0, vI (nI q)] hm (oI P) Qx := by
  have p1 := (kk_product R0 (nI q)).2.1
  obtain ⟨J, I, R, C, G⟩ := R0
  have bT := J.1
  have bl := ob_by_l
  obtain ⟨-, -, e35⟩ := ob_by_e
  have ln := ob_nw_len J (k := 12 + q) (by omega)
  have RH : RM (hp_i hm 12 0 0 0) T w := R
  refine CL.ofF (plainFor_of_name rfl) rfl (Nat.le_of_ble_eq_true rfl) (vc_X12_formatNeeds_0 (d := d + 7) ?_)
  refine c_X12_noProduct (d := d + 5) p1 ?_
  rw [hf, hg]
  refine ⟨fun _ => ?_, fun z => (z rfl).elim⟩
  have t0 := TM.nil (hm := hp_i hm 12 0 0 0)
  generalize hp_i hm 12 0 0 0 = H at *
  have e12 : (12 : Int32) + nI q = nI (12 + q) := nI_add 12 _
  rw [e12]
  refine r_name (d := d + 5) J (by omega) RH t0 (by decide) (fun h1 t1 => ?_)
  rw [List.nil_append] at t1
  refine r_says (d := d + 6) t1 (by omega) (fun h2 t2 => ?_)
  rw [← ob_colon] at t2
  have lem : ∀ (m p : Nat) (h : Hp) (B : List Int32), m + p = T 0 → TM H h B → B.length + 13 * m ≤ 320 → (∀ h', TM H h' (B ++ ob_fn T q p m) → P (nI (B ++ ob_fn T q p m).length) h') → AW (fun _ _ => True) (d + 7 + 1) 0 mX12_formatNeeds 36 [(0, vR 12 0), (1, vI (nI q)), (2, vI (nI p))] [] h (oI P) Qx := by
    intro m
    induction m with
    | zero =>
      intro p h B hp t hl k
      refine vc_X12_formatNeeds_36 ?_
      rw [(t.r RH).1 0 (by omega)]
      rw [ob_fn, List.append_nil] at k
      refine ⟨fun _ => ?_, fun z => (z (nI_le (by omega) (by omega))).elim⟩
      have := k h t
      rw [← t.1] at this
      exact this
    | succ m ih =>
      intro p h B hp t hl k
      refine vc_X12_formatNeeds_36 ?_
      rw [(t.r RH).1 0 (by omega)]
      have e1 : nI p + 1 = nI (p + 1) := nI_add p 1
      have bd : oa_need T q p ≤ 9999 := J.2.2.2.2.1 q p hq (by omega)
      have nd := m_needs (t.r RH) (show q < 8 by omega) (show p < 12 by omega)
      have zz : nI (oa_need T q p) = 0 ↔ oa_need T q p = 0 := nI_eq (b := 0) (by omega) (by omega)
      rw [e1]
      refine ⟨fun z => (nI_ge (show p < T 0 by omega) (by omega) z).elim, fun _ => ?_⟩
      refine c_X12_needs (d := d + 6) nd.1 ?_
      rw [nd.2]
      rw [ob_fn] at k
      refine ⟨fun z => ?_, fun z => ?_⟩
      · rw [if_neg (fun y => z (zz.mpr y))] at k
        have l21 := ob_pt_len 21 (oa_need T q p)
        have lp := ob_nw_len J (k := p) (by omega)
        refine c_X12_needs (d := d + 6) nd.1 ?_
        rw [nd.2]
        refine r_part (d := d) (j := 35) (v := oa_need T q p) (by omega) bd t (by rw [e35]; omega) (fun h3 t3 => ?_)
        rw [ob_pt_e e35] at t3
        refine r_name (d := d + 5) J (by omega) RH t3 (by simp only [List.length_append]; omega) (fun h4 t4 => ?_)
        have ea : B ++ (ob_pt 21 (oa_need T q p) ++ ob_nw T p ++ ob_fn T q (p + 1) m) = B ++ ob_pt 21 (oa_need T q p) ++ ob_nw T p ++ ob_fn T q (p + 1) m := by simp only [List.append_assoc]
        rw [ea] at k
        exact ih (p + 1) h4 _ (by omega) t4 (by simp only [List.length_append]; omega) k
      · rw [if_pos (zz.mp z), List.nil_append] at k
        exact ih (p + 1) h B (by omega) t (by omega) k
  exact lem (T 0) 0 h2 _ (by omega) t2 (by rw [List.length_append, ob_tx_len]; omega) k
theorem c_X12_formatNeeds_t {d : Nat} {a : Int32} {P : Int32 → Hp → Prop} {Qx : String → Hp → Prop} (R0 : RB h hm T w n) (hf : f_X12_noProduct (hp_i hm 12 0 0 0) a = 1) (hg : g_X12_noProduct (hp_i hm 12 0 0 0) a = hp_i (hp_i hm 12 0 0 0) 12 0 0 1) (k : P 0 (hp_i (hp_i hm 12 0 0 0) 12 0 0 1)) : CL 0 (d + 8) mX12_formatNeeds [vR 12 0, vI a] hm (oI P) Qx := by
  have p1 := (kk_product R0 a).2.1
  refine CL.ofF (plainFor_of_name rfl) rfl (Nat.le_of_ble_eq_true rfl) (vc_X12_formatNeeds_0 (d := d + 7) ?_)
  refine c_X12_noProduct (d := d + 5) p1 ?_
  rw [hf, hg]
  exact ⟨fun z => absurd z (by decide), fun _ => k⟩
end FP
