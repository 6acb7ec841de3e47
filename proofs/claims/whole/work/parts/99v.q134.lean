/-! the start's world: all cells -/
def bz_ord : List (Nat × Nat) := or_top ++ (((or_tok ++ (or_cat0 ++ or_led0)) ++ ((or_his ++ (or_led2 ++ or_led3 ++ or_led4 ++ or_led5 ++ or_led6 ++ or_led7 ++ or_led8 ++ or_led9 ++ or_led10 ++ or_led11 ++ or_led12 ++ or_led13)) ++ (or_alo ++ (or_fmt ++ or_fre)))) ++ (or_cat1 ++ or_led1)) ++ or_mod ++ or_out
theorem ly_set {A B C : List va_E} {n j : Nat} {x : va_E} (h : A.length = n) (hj : j < B.length) : (A ++ (B ++ C)).set (n + j) x = A ++ (B.set j x ++ C) := by
  subst h
  rw [List.set_append_right _ _ (by omega), show A.length + j - A.length = j by omega, List.set_append_left _ _ hj]
theorem ly_n11 (g : BC) (b : Nat) : new_X11 g b = sg_5 g b ++ (((((va_E_r (1, fin_X1 (b + 325 + 1)) :: new_X1 g (b + 325 + 1)).set 33 (va_E_i g 6 (upd (fun _ => 0) 0 0))).set 34 (va_E_i g 6 (upd (fun _ => 0) 0 9))).set 35 (va_E_i g 6 (upd (fun _ => 0) 0 100))).set 0 (.inr (1, (fin_X1 (b + 326)).set 2 (.int 1))) ++ (va_E_r (5, fin_X5 (b + 361 + 1)) :: new_X5 g (b + 361 + 1))) := by
  have e : sg_7 g b = sg_5 g b ++ ((va_E_r (1, fin_X1 (b + 325 + 1)) :: new_X1 g (b + 325 + 1)) ++ (va_E_r (5, fin_X5 (b + 361 + 1)) :: new_X5 g (b + 361 + 1))) := by
    rw [← List.append_assoc]
    rfl
  unfold new_X11
  rw [e]
  have hl : (va_E_r (1, fin_X1 (b + 325 + 1)) :: new_X1 g (b + 325 + 1)).length = 36 := bz_lc ((ct_X1 g 0).1 _)
  generalize va_E_r (1, fin_X1 (b + 325 + 1)) :: new_X1 g (b + 325 + 1) = B at hl ⊢
  generalize va_E_r (5, fin_X5 (b + 361 + 1)) :: new_X5 g (b + 361 + 1) = C
  have h5 := bl_5 (g := g) b
  generalize sg_5 g b = A at h5 ⊢
  rw [ly_set (n := 325) (j := 33) h5 (by omega), ly_set (n := 325) (j := 34) h5 (by rw [List.length_set]; omega), ly_set (n := 325) (j := 35) h5 (by rw [List.length_set, List.length_set]; omega), ly_set (n := 325) (j := 0) h5 (by rw [List.length_set, List.length_set, List.length_set]; omega)]
theorem ly_n7 (g : BC) (b : Nat) : va_E_r (7, fin_X7 b) :: new_X7 g b = ([va_E_r (7, fin_X7 b), va_E_r (9, fin_X9 (b + 1)), va_E_r (4, fin_X4 (b + 1 + 1))] ++ new_X4 g (b + 1 + 1)) ++ ((va_E_r (1, fin_X1 (b + 4)) :: new_X1 g (b + 4)) ++ (va_E_r (5, fin_X5 (b + 40)) :: new_X5 g (b + 40))) := by
  rw [← List.append_assoc]
  rfl
theorem ly_leds (g : BC) (b : Nat) : bz_leds g b 12 = (bz_led g b 0 ++ bz_led g b 1 ++ bz_led g b 2 ++ bz_led g b 3 ++ bz_led g b 4 ++ bz_led g b 5 ++ bz_led g b 6 ++ bz_led g b 7 ++ bz_led g b 8 ++ bz_led g b 9 ++ bz_led g b 10 ++ bz_led g b 11) := by
  rw [bz_leds_succ, bz_leds_succ, bz_leds_succ, bz_leds_succ, bz_leds_succ, bz_leds_succ, bz_leds_succ, bz_leds_succ, bz_leds_succ, bz_leds_succ, bz_leds_succ, bz_leds_succ, show bz_leds g b 0 = [] from rfl, List.nil_append]
theorem ly_all (g : BC) (ext : Nat → Nat) : bz_all g = bz_ord.map (bz_en g ext) := by
  unfold bz_ord
  simp only [List.map_append]
  rw [← ly_top, ← ly_tok, ← ly_cat0, ← ly_led0, ← ly_his, ← ly_led2, ← ly_led3, ← ly_led4, ← ly_led5, ← ly_led6, ← ly_led7, ← ly_led8, ← ly_led9, ← ly_led10, ← ly_led11, ← ly_led12, ← ly_led13, ← ly_alo, ← ly_fmt, ← ly_fre, ← ly_cat1, ← ly_led1, ← ly_mod, ← ly_out]
  have e1 : bz_1 g = [va_E_r (11, fin_X11 (g.1 + 1))] ++ new_X11 g (g.1 + 1) := rfl
  have e5 : sg_5 g (g.1 + 1) = (va_E_r (7, fin_X7 (g.1 + 2)) :: new_X7 g (g.1 + 2)) ++ (([va_E_r (3, fin_X3 (g.1 + 63)), va_E_q g 12 (bz_rg (g.1 + 64) 12)] ++ bz_leds g (g.1 + 64) 12) ++ ((va_E_r (0, fin_X0 (g.1 + 317)) :: new_X0 g (g.1 + 317)) ++ ((va_E_r (2, fin_X2 (g.1 + 324)) :: new_X2 g (g.1 + 324)) ++ [.inl (g.2.2 0, (12, .inl fun _ => 0))]))) := by
    rw [← List.append_assoc, ← List.append_assoc, ← List.append_assoc]
    rfl
  unfold bz_all
  rw [e1, ly_n11, e5, ly_n7, ly_leds]
  rfl
