/-! making the objects: History, with its ring of ledgers (ctor2.py) -/
def bz_led (g : BC) (b j : Nat) : List va_E := .inr (5, fin_X5 (b + 21 * j + 1)) :: new_X5 g (b + 21 * j + 1)
def bz_leds (g : BC) (b n : Nat) : List va_E := (List.range n).flatMap (bz_led g b)
def bz_rg (b n : Nat) : Nat → Option Nat := fun j => if j < n then some (b + 21 * j) else none
theorem bz_leds_len {g : BC} {b : Nat} : ∀ n : Nat, (bz_leds g b n).length = 21 * n
  | 0 => rfl
  | n + 1 => by
    unfold bz_leds
    rw [List.range_succ, List.flatMap_append, List.length_append]
    have ih := bz_leds_len (g := g) (b := b) n
    unfold bz_leds at ih
    rw [ih]
    show 21 * n + 21 = _
    omega
theorem bz_leds_succ {g : BC} {b n : Nat} : bz_leds g b (n + 1) = bz_leds g b n ++ bz_led g b n := by
  unfold bz_leds
  rw [List.range_succ, List.flatMap_append, List.flatMap_cons, List.flatMap_nil, List.append_nil]
theorem bz_rg_up {b n : Nat} (hn : n < 2 ^ 31) : va_up (bz_rg b n) (nI n).toNatClampNeg (some (b + 21 * n)) = bz_rg b (n + 1) := by
  rw [nI_clamp hn]
  funext i
  show (if i = n then some (b + 21 * n) else if i < n then some (b + 21 * i) else none) = if i < n + 1 then some (b + 21 * i) else none
  by_cases h : i = n
  · subst h
    rw [if_pos rfl, if_pos (by omega)]
  · rw [if_neg h]
    by_cases h2 : i < n
    · rw [if_pos h2, if_pos (by omega)]
    · rw [if_neg h2, if_neg (by omega)]
abbrev va_E_q (g : BC) (N : Nat) (f : Nat → Option Nat) : va_E := .inl (g.2.2 4, N, .inr (.inr (.inr (.inr f))))
theorem bw_kc {g : BC} {d kc ks kc' ks' : Nat} {M : MD} {pc : Nat} {L : List (Nat × Value)} {S : List Value} {es : List va_E} {Q : BK} (h1 : kc' = kc) (h2 : ks' = ks) (k : BW g d kc' ks' M pc L S es Q) : BW g d kc ks M pc L S es Q := by
  subst h1
  subst h2
  exact k
def fin_X3 (b : Nat) : List Value := [.int 0, .int 0, .ref b]
def bz_sg3 (g : BC) (b n : Nat) : List va_E := va_E_q g 12 (bz_rg (b + 1) n) :: bz_leds g (b + 1) n
def new_X3 (g : BC) (b : Nat) : List va_E := bz_sg3 g b 12
theorem ct_X3_lp {g : BC} {d k : Nat} {es : List va_E} {Q : BK} (hk : k < es.length)
    (kk : ∀ x : Int32, BW g (d + 3) 0 0 mX3_init 40 [(1, .int x), (0, .ref (g.1 + k))] [] (es.set k (.inr (3, fin_X3 (g.1 + es.length))) ++ bz_sg3 g (g.1 + es.length) 12) Q) :
    ∀ m j : Nat, j + m = 12 → BW g (d + 3) (21 * m) (320 * m) mX3_init 15 [(1, .int (nI j)), (0, .ref (g.1 + k))] [] (es.set k (.inr (3, fin_X3 (g.1 + es.length))) ++ bz_sg3 g (g.1 + es.length) j) Q := by
  intro m
  induction m with
  | zero =>
    intro j hj
    have : j = 12 := by omega
    subst this
    refine bw_iload_n (j := 0) iX3_15 rfl rfl rfl ?_
    refine bw_bipush (v := nI 12) iX3_16 rfl (by decide +kernel) ?_
    exact bw_icmp_ge 40 iX3_18 rfl rfl (fun _ => kk _) (fun h => absurd (nI_le (Nat.le_refl _) (by decide)) h)
  | succ m ih =>
    intro j hj
    have hl : (bz_sg3 g (g.1 + es.length) j).length = 1 + 21 * j := by
      show (bz_leds _ _ _).length + 1 = _
      rw [bz_leds_len]
      omega
    refine bw_iload_n (j := 0) iX3_15 rfl rfl rfl ?_
    refine bw_bipush (v := nI 12) iX3_16 rfl (by decide +kernel) ?_
    refine bw_icmp_ge 40 iX3_18 rfl rfl (fun h => absurd h (nI_ge (by omega) (by decide))) (fun _ => ?_)
    refine bw_aload_n (j := 1) (a := g.1 + k) iX3_21 rfl rfl rfl rfl ?_
    refine bw_get (k := 2) (v := .ref (g.1 + es.length)) iX3_22 rfl (bn_at hk) cb_3 (by decide) gi_368 rfl ?_
    refine bw_iload_n (j := 0) iX3_25 rfl rfl rfl ?_
    refine bw_kc (kc' := 21 * m + 20 + 1) (ks' := 320 * m + 317 + 3) (by omega) (by omega) ?_
    refine bn_new (ci := 5) (fs := [.null, .null, .null]) (n0 := 1 + 21 * j) iX3_26 rfl gi_362 gi_226 gi_91 cb_5 (by decide) hl ?_
    refine bw_dup iX3_29 rfl rfl ?_
    refine bn_call (M' := mX5_init) (kc := 21 * m) (ks := 320 * m) (host := "OrderAssembler") (n0 := 1 + 21 * j) iX3_30 rfl (Or.inl ni_364) gi_229 gi_91 ⟨by decide, by decide⟩ (by decide) (by decide) rfl rfl gi_228 (Nat.le_of_ble_eq_true rfl) (ct_X5 g d) hl ?_
    have e5 : va_E_r (5, fin_X5 (g.1 + es.length + (1 + 21 * j) + 1)) :: new_X5 g (g.1 + es.length + (1 + 21 * j) + 1) = bz_led g (g.1 + es.length + 1) j := by
      unfold bz_led
      rw [show g.1 + es.length + (1 + 21 * j) + 1 = g.1 + es.length + 1 + 21 * j + 1 by omega]
    rw [e5]
    have e6 : bz_sg3 g (g.1 + es.length) j ++ bz_led g (g.1 + es.length + 1) j = va_E_q g 12 (bz_rg (g.1 + es.length + 1) j) :: bz_leds g (g.1 + es.length + 1) (j + 1) := by
      rw [bz_leds_succ]
      rfl
    have hq0 : (es.set k (va_E_r (3, fin_X3 (g.1 + es.length))) ++ (bz_sg3 g (g.1 + es.length) j ++ bz_led g (g.1 + es.length + 1) j))[es.length]? = some (va_E_q g 12 (bz_rg (g.1 + es.length + 1) j)) := by
      rw [e6]
      exact bn_in (j := 0) rfl
    have hqk : (es.set k (va_E_r (3, fin_X3 (g.1 + es.length))) ++ (bz_sg3 g (g.1 + es.length) j ++ bz_led g (g.1 + es.length + 1) j))[es.length + (1 + 21 * j)]? = some (.inr (5, fin_X5 (g.1 + es.length + 1 + 21 * j + 1))) := by
      refine bn_in ?_
      rw [List.getElem?_append_right (by omega), hl, Nat.sub_self]
      rfl
    rw [Nat.add_assoc g.1 es.length (1 + 21 * j)]
    refine bw_aast iX3_33 rfl hq0 hqk (vp_in_nI (by omega) (by decide)) ?_
    rw [← Nat.add_assoc g.1 es.length (1 + 21 * j), show g.1 + es.length + (1 + 21 * j) = g.1 + es.length + 1 + 21 * j by omega, bz_rg_up (by omega), e6]
    have e7 : (es.set k (va_E_r (3, fin_X3 (g.1 + es.length))) ++ (va_E_q g 12 (bz_rg (g.1 + es.length + 1) j) :: bz_leds g (g.1 + es.length + 1) (j + 1))).set es.length (va_E_q g 12 (bz_rg (g.1 + es.length + 1) (j + 1))) = es.set k (.inr (3, fin_X3 (g.1 + es.length))) ++ bz_sg3 g (g.1 + es.length) (j + 1) := by
      rw [List.set_append_right _ _ (by rw [List.length_set]; omega), List.length_set, Nat.sub_self]
      rfl
    rw [e7]
    refine bw_iinc (j := 0) (v := nI (j + 1)) iX3_34 rfl (by decide) rfl ((nI_succ j).symm) rfl ?_
    exact bw_goto 15 iX3_37 rfl (ih (j + 1) (by omega))
theorem ct_X3 (g : BC) (d : Nat) : CT g (d + 3) 253 3852 mX3_init 3 [.int 0, .int 0, .null] fin_X3 (new_X3 g) := by
  refine CT.of (fun b => ?_) (by decide) (Nat.le_of_ble_eq_true rfl) (fun es k hk => ?_)
  · show (bz_leds _ _ _).length + 1 = _
    rw [bz_leds_len]
  refine bw_aload_n (j := 0) (a := g.1 + k) iX3_0 rfl rfl rfl rfl ?_
  refine bw_obj iX3_1 rfl gi_361 gi_118 gi_119 (Nat.le_of_ble_eq_true rfl) ?_
  refine bw_aload_n (j := 0) (a := g.1 + k) iX3_4 rfl rfl rfl rfl ?_
  refine bw_bipush (v := 12) iX3_5 rfl (by decide) ?_
  refine bn_anew (kc := 252) (ks := 3840) (N := 12) (n0 := 0) iX3_7 rfl gi_362 ni_363 (by decide) (by decide) (by decide) rfl ?_
  refine bn_putF (j := 2) iX3_10 rfl cb_3 (by decide) gi_368 rfl rfl rfl rfl rfl (Nat.le_of_ble_eq_true rfl) hk ?_
  refine bw_iconst (v := nI 0) iX3_13 rfl (by decide +kernel) ?_
  refine bw_istore_n (i := 1) iX3_14 rfl rfl (by decide) rfl ?_
  have e0 : ([va_E_q g 12 (fun _ => none)] : List va_E) = bz_sg3 g (g.1 + es.length) 0 := by
    show [va_E_q g 12 (fun _ => none)] = [va_E_q g 12 (bz_rg (g.1 + es.length + 1) 0)]
    have : bz_rg (g.1 + es.length + 1) 0 = fun _ => none := by funext i; exact if_neg (Nat.not_lt_zero i)
    rw [this]
  show BW g (d + 3) (21 * 12) (320 * 12) mX3_init 15 [(1, .int (nI 0)), (0, .ref (g.1 + k))] [] (es.set k (.inr (3, fin_X3 (g.1 + es.length))) ++ [va_E_q g 12 (fun _ => none)]) _
  rw [e0]
  refine ct_X3_lp hk (fun x => ?_) 12 0 rfl
  exact bw_ret iX3_40 rfl rfl
