/-! load: what lines leave as it is -/
section FRX
variable {h h' h'' A B hm : Hp} {c L : Nat}
def FX (c : Nat) (h h' : Hp) : Prop := (∀ a i, a = 25 ∨ a = 27 ∨ a = 29 → ¬ (8 * c ≤ i ∧ i < 8 * c + 8) → h'.1 a i = h.1 a i) ∧ (∀ a i, ¬ i = c → h'.2.1 a i = h.2.1 a i)
theorem FX.refl : FX c h h := ⟨fun _ _ _ _ => rfl, fun _ _ _ => rfl⟩
theorem FX.trans (p : FX c h h') (q : FX c h' h'') : FX c h h'' := ⟨fun a i y z => (q.1 a i y z).trans (p.1 a i y z), fun a i y => (q.2 a i y).trans (p.2 a i y)⟩
theorem FX.of (hf : ∀ a i, a = 25 ∨ a = 27 ∨ a = 29 → h'.1 a i = h.1 a i) (hl : h'.2.1 = h.2.1) : FX c h h' := ⟨fun a i y _ => hf a i y, fun a i _ => by rw [hl]⟩
theorem FX.ite {p : Prop} [Decidable p] (q1 : FX c h A) (q2 : FX c h B) : FX c h (if p then A else B) := by split <;> assumption
theorem fx_step : FX c h (g_X9_step h) := FX.of (fun a i y => fr_X9_step (by omega)) gl_X9_step
theorem fx_num {a b : Int32} : FX c h (g_X7_readNumber h a b) := FX.of (fun a i y => fr_X7_readNumber (by omega) (by omega)) gl_X7_readNumber
theorem fx_fail {a : Int32} : FX c h (g_X7_fail h a) := FX.of (fun a i y => fr_X7_fail (by omega)) gl_X7_fail
theorem fx_semi : FX c h (g_X7_readSemicolon h) := FX.of (fun a i y => fr_X7_readSemicolon (by omega) (by omega)) gl_X7_readSemicolon
theorem fx_new : FX c h (g_X7_isNewName h) := FX.of (fun a i y => fr_X7_isNewName (by omega)) gl_X7_isNewName
theorem fx_end : FX c h (g_X1_endProduct h c) := by
  unfold g_X1_endProduct
  exact FX.ite FX.refl (FX.of (fun a i y => hp_i_t (by omega)) rfl)
theorem fx_stock {i0 : Nat} {a b : Int32} : FX c h (g_X10_setStock h i0 a b) := FX.of (fun a i y => fr_X10_setStock (by omega)) gl_X10_setStock
theorem ob_cl8 {v : Int32} (h8 : ¬ (8 : Int32) ≤ v) : v.toNatClampNeg < 8 := by
  have h1 : v.toInt < 8 := by
    rw [Int32.le_iff_toInt_le] at h8
    have : (8 : Int32).toInt = 8 := rfl
    omega
  unfold Int32.toNatClampNeg
  omega
theorem fx_part {a : Int64} {b : Int32} : FX c h (g_X1_addPart h c a b) := by
  unfold g_X1_addPart
  refine FX.ite FX.refl ⟨fun a' i y _ => ?_, fun a' i y => ?_⟩
  · rw [hp_i_t (by omega), hp_i_t (by omega), hp_l_f]
  · rw [hp_i_21, hp_i_21]
    unfold hp_l hp_b
    show (if a' = 19 ∧ i = c then vp_updL (h.2.1 19 c) _ a else h.2.1 a' i) = _
    rw [if_neg (by omega)]
theorem fx_gadd : ∀ (n : Nat) (h : Hp) (x1 x2 x3 x4 : Int32), ¬ (8 : Int32) ≤ h.1 1 c 1 → FX c h (gw_X1_addLine_24 n h c x1 x2 x3 x4) := by
  intro n
  induction n with
  | zero => intro h x1 x2 x3 x4 _; exact FX.refl
  | succ n ih =>
    intro h x1 x2 x3 x4 h8
    have l8 := ob_cl8 h8
    rw [gw_X1_addLine_24]
    refine FX.ite ⟨fun a i y z => ?_, fun a i y => rfl⟩ ?_
    · rw [hp_i_t (by omega), hp_i_n (by omega), hp_i_n (by omega), hp_i_t (by omega)]
    · refine FX.trans (h' := hp_i h 29 (8 * c + (h.1 1 c 1).toNatClampNeg) x4.toNatClampNeg (f_X1_needWith h c x1 x2 x4)) ⟨fun a i y z => ?_, fun a i y => rfl⟩ (ih _ _ _ _ _ ?_)
      · rw [hp_i_n (by omega)]
      · rw [hp_i_t (by omega)]; exact h8
theorem fx_add {a b : Int32} : FX c h (g_X1_addLine h c a b) := by
  unfold g_X1_addLine
  by_cases h8 : (8 : Int32) ≤ h.1 1 c 1
  · rw [if_pos h8]; exact FX.refl
  · rw [if_neg h8]
    exact FX.ite (fx_gadd _ _ _ _ _ _ h8) FX.refl
theorem fx_begin {a : Int64} : FX c h (g_X1_beginProduct h c a) := by
  unfold g_X1_beginProduct
  by_cases h8 : (8 : Int32) ≤ h.1 1 c 1
  · rw [if_pos h8]; exact FX.refl
  · rw [if_neg h8]
    have l8 := ob_cl8 h8
    refine ⟨fun a' i y z => ?_, fun a' i y => ?_⟩
    · rw [fr_J7_fill_53178 (by omega), hp_i_t (by omega), hp_i_t (by omega), hp_l_f]
    · rw [gl_J7_fill_53178, hp_i_21, hp_i_21]
      unfold hp_l hp_b
      show (if a' = 21 ∧ i = c then vp_updL (h.2.1 21 c) _ a else h.2.1 a' i) = _
      rw [if_neg (by omega)]
theorem fx_bill (hc : h.2.2 7 0 3 = c) : FX c h (g_X7_readBillLine h) := by
  have cc : (g_X7_readNumber h 1 20).2.2 7 0 3 = c := by rw [gr_X7_readNumber]; exact hc
  unfold g_X7_readBillLine
  rw [cc]
  have n := fx_num (c := c) (h := h) (a := 1) (b := 20)
  have all : FX c h (if ¬ f_X7_readNumber h 1 20 = -1 then (if ¬ f_X9_isName (g_X7_readNumber h 1 20) = 0 then (if f_X1_itemNamed (g_X7_readNumber h 1 20) c (f_X9_name (g_X7_readNumber h 1 20)) = -1 then g_X7_fail (g_X7_readNumber h 1 20) 3 else (if f_X1_begunHas (g_X7_readNumber h 1 20) c (f_X1_itemNamed (g_X7_readNumber h 1 20) c (f_X9_name (g_X7_readNumber h 1 20))) = 0 then (if ¬ f_X1_begunCanHold (g_X7_readNumber h 1 20) c (f_X1_itemNamed (g_X7_readNumber h 1 20) c (f_X9_name (g_X7_readNumber h 1 20))) (f_X7_readNumber h 1 20) = 0 then g_X9_step (g_X1_addLine (g_X7_readNumber h 1 20) c (f_X1_itemNamed (g_X7_readNumber h 1 20) c (f_X9_name (g_X7_readNumber h 1 20))) (f_X7_readNumber h 1 20)) else g_X7_fail (g_X7_readNumber h 1 20) 5) else g_X7_fail (g_X7_readNumber h 1 20) 3)) else g_X7_fail (g_X7_readNumber h 1 20) 1) else g_X7_readNumber h 1 20) :=
    FX.ite (FX.ite (FX.ite (n.trans fx_fail) (FX.ite (FX.ite ((n.trans fx_add).trans fx_step) (n.trans fx_fail)) (n.trans fx_fail))) (n.trans fx_fail)) n
  exact FX.ite all (FX.ite all fx_fail)
theorem fx_44 : ∀ (n : Nat) (h : Hp) (x1 x2 : Int32), h.2.2 7 0 3 = c → FX c h (gw_X7_readProduct_44 n h x1 x2) := by
  intro n
  induction n with
  | zero => intro h x1 x2 _; exact FX.refl
  | succ n ih =>
    intro h x1 x2 hc
    rw [gw_X7_readProduct_44, hc]
    have e := FX.trans (fx_end (c := c) (h := h)) fx_semi
    exact FX.ite (FX.ite e FX.refl) (FX.ite (FX.ite e FX.refl) (FX.ite (FX.ite e FX.refl) ((fx_bill hc).trans (ih _ _ _ (by rw [gr_X7_readBillLine]; exact hc)))))
theorem fx_product (hc : h.2.2 7 0 3 = c) : FX c h (g_X7_readProduct h) := by
  have cc : (g_X7_isNewName (g_X9_step h)).2.2 7 0 3 = c := by rw [gr_X7_isNewName, gr_X9_step]; exact hc
  have n : FX c h (g_X7_isNewName (g_X9_step h)) := fx_step.trans fx_new
  unfold g_X7_readProduct
  rw [cc]
  have c2 : (g_X9_step (g_X1_beginProduct (g_X7_isNewName (g_X9_step h)) c (f_X9_name (g_X7_isNewName (g_X9_step h))))).2.2 7 0 3 = c := by rw [gr_X9_step, gr_X1_beginProduct]; exact cc
  exact FX.ite ((((n.trans fx_begin).trans fx_step).trans (fx_bill c2)).trans (fx_44 _ _ _ _ (by rw [gr_X7_readBillLine]; exact c2))) n
theorem fx_readPart (hc : h.2.2 7 0 3 = c) : FX c h (g_X7_readPart h) := by
  have n : FX c h (g_X7_isNewName (g_X9_step h)) := fx_step.trans fx_new
  have n1 := (n.trans fx_step).trans (fx_num (a := 0) (b := 9999))
  have n2 := n1.trans (fx_num (a := 1) (b := 60))
  have cc : ∀ a b d : Int32, (g_X10_setStock (g_X7_readNumber (g_X7_readNumber (g_X9_step (g_X7_isNewName (g_X9_step h))) 0 9999) 1 60) ((g_X7_readNumber (g_X7_readNumber (g_X9_step (g_X7_isNewName (g_X9_step h))) 0 9999) 1 60).2.2 7 0 4) a b).2.2 7 0 3 = c := fun a b d => by
    rw [gr_X10_setStock, gr_X7_readNumber, gr_X7_readNumber, gr_X9_step, gr_X7_isNewName, gr_X9_step]; exact hc
  unfold g_X7_readPart
  rw [cc _ _ 0]
  exact FX.ite (FX.ite (FX.ite (((n2.trans fx_stock).trans fx_part).trans fx_semi) n2) n1) n
theorem fx_line : FX (h.2.2 7 0 3) h (g_X7_readLine h) := by
  unfold g_X7_readLine
  have r : FX (h.2.2 7 0 3) h (g_X7_readRung h) := FX.of (fun a i y => fr_X7_readRung (by omega) (by omega) (by omega) (by omega) (by omega) (by omega)) gl_X7_readRung
  have o : FX (h.2.2 7 0 3) h (g_X7_readOrder h) := FX.of (fun a i y => fr_X7_readOrder (by omega) (by omega) (by omega) (by omega) (by omega) (by omega) (by omega) (by omega) (by omega) (by omega) (by omega)) gl_X7_readOrder
  exact FX.ite (FX.ite (FX.ite (FX.ite fx_fail (FX.ite fx_fail o)) (FX.ite fx_fail r)) (FX.ite fx_fail (fx_product rfl))) (FX.ite fx_fail (fx_readPart rfl))
/-- all that is not the draft (catalog c, ledger L) and not the scanner is as it was -/
def CF (c L : Nat) (h h' : Hp) : Prop := (∀ a i, ¬ a = 9 → ¬ a = 7 → ((a = 25 ∨ a = 27 ∨ a = 29) → ¬ (8 * c ≤ i ∧ i < 8 * c + 8)) → ((a = 1 ∨ a = 20 ∨ a = 22 ∨ a = 23 ∨ a = 30 ∨ a = 31 ∨ a = 32) → ¬ i = c) → ((a = 6 ∨ a = 10 ∨ (36 ≤ a ∧ a ≤ 52)) → ¬ i = L) → h'.1 a i = h.1 a i) ∧ (∀ a i, ¬ i = c → h'.2.1 a i = h.2.1 a i) ∧ h'.2.2 = h.2.2
theorem CF.refl : CF c L h h := ⟨fun _ _ _ _ _ _ _ => rfl, fun _ _ _ => rfl, rfl⟩
theorem CF.trans (p : CF c L h h') (q : CF c L h' h'') : CF c L h h'' := ⟨fun a i y1 y2 y3 y4 y5 => (q.1 a i y1 y2 y3 y4 y5).trans (p.1 a i y1 y2 y3 y4 y5), fun a i y => (q.2.1 a i y).trans (p.2.1 a i y), q.2.2.trans p.2.2⟩
theorem cf_line : CF (h.2.2 7 0 3) (h.2.2 7 0 4) h (g_X7_readLine h) := by
  refine ⟨fun a i y1 y2 y3 y4 y5 => ?_, fx_line.2, gr_X7_readLine⟩
  by_cases d : a = 25 ∨ a = 27 ∨ a = 29
  · exact fx_line.1 a i d (y3 d)
  · exact fr_X7_readLine (fun z => y4 (by omega) z.2) (fun z => y4 (by omega) z.2) (fun z => y4 (by omega) z.2) (fun z => y4 (by omega) z.2) (by omega) (by omega) (by omega) (fun z => y4 (by omega) z.2) (fun z => y4 (by omega) z.2) (fun z => y4 (by omega) z.2) (fun z => y5 (by omega) z.2) (fun z => y5 (by omega) z.2) (fun z => y5 (by omega) z.2) (fun z => y5 (by omega) z.2) (fun z => y5 (by omega) z.2) (fun z => y5 (by omega) z.2) (fun z => y5 (by omega) z.2) (fun z => y5 (by omega) z.2) (fun z => y5 (by omega) z.2) (fun z => y5 (by omega) z.2) (by omega) (by omega)
theorem cf_begin : CF (h.2.2 7 0 3) (h.2.2 7 0 4) h (g_X7_begin h) := by
  refine ⟨fun a i y1 y2 y3 y4 y5 => ?_, fun a i _ => by rw [gl_X7_begin], gr_X7_begin⟩
  exact fr_X7_begin (fun z => y4 (by omega) z.2) (fun z => y5 (by omega) z.2) (fun z => y5 (by omega) z.2) (fun z => y5 (by omega) z.2) (fun z => y5 (by omega) z.2) (fun z => y5 (by omega) z.2) (by omega) (by omega)
/-- the model's -/
theorem fr_og {a i : Nat} (c0 : ¬ (a = 12 ∧ i = 0)) (c1 : ¬ (a = 57 ∧ i = 0)) : (og hm).1 a i = hm.1 a i := by
  have e1 : (og1 hm).1 a i = hm.1 a i := by unfold og1; exact fr_X12_must c0
  have e2 : (og2 hm).1 a i = hm.1 a i := by unfold og2; exact (hp_i_n c0).trans e1
  have e3 : (og3 hm).1 a i = hm.1 a i := by unfold og3; exact (fr_X12_must c0).trans ((fr_X12_named c0).trans e2)
  have e4 : (og4 hm).1 a i = hm.1 a i := by unfold og4; exact (hp_i_n c1).trans ((hp_i_n c0).trans ((fr_X12_letters c0).trans e3))
  have e5 : (og5 hm).1 a i = hm.1 a i := by unfold og5; exact (hp_i_n c1).trans ((fr_X12_number c0).trans e4)
  have e6 : (og6 hm).1 a i = hm.1 a i := by unfold og6; exact (hp_i_n c1).trans ((fr_X12_number c0).trans e5)
  have e7 : (og7 hm).1 a i = hm.1 a i := by unfold og7; exact (hp_i_n c1).trans ((fr_X12_number c0).trans e6)
  have e8 : (og8 hm).1 a i = hm.1 a i := by unfold og8; exact (hp_i_n c1).trans ((fr_X12_takes c0).trans e7)
  unfold og
  exact oa_ite (oa_ite ((hp_i_n c1).trans e8) e3) e1
theorem fr_lb {a i : Nat} (c0 : ¬ (a = 12 ∧ i = 0)) (c1 : ¬ (a = 57 ∧ i = 0)) : (lb hm).1 a i = hm.1 a i := by
  have e1 : (mw1 hm).1 a i = hm.1 a i := by unfold mw1; exact fr_X12_isWord c0
  have e2 : (mw2 hm).1 a i = hm.1 a i := by unfold mw2; exact (fr_X12_isWord c0).trans e1
  have e3 : (mw3 hm).1 a i = hm.1 a i := by unfold mw3; exact (fr_X12_isWord c0).trans e2
  have e4 : (mw4 hm).1 a i = hm.1 a i := by unfold mw4; exact (fr_X12_isWord c0).trans e3
  unfold lb
  exact oa_ite (oa_ite (oa_ite (oa_ite ((fr_X12_must c0).trans e4) ((fr_og c0 c1).trans e4)) ((fr_X12_rung c0 c1).trans e3)) ((fr_X12_product c0 c1).trans e2)) ((fr_X12_part c0 c1).trans e1)
end FRX
