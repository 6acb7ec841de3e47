/-! load: the whole of it -/
section LDZ
variable {h hm K : Hp} {x : Nat → Nat} {t s rr c L n : Nat} {T : Nat → Nat}
theorem it_of (D : DR h c T) (U : RU h c T rr) : IT T := by
  obtain ⟨⟨d1, d2⟩, -, d5, d6, -, d8, -, -, d11⟩ := D
  obtain ⟨-, u2, u3, u4, u5⟩ := U
  refine ⟨⟨d1, d2, ?_, ?_⟩, fun p hp => (d5 p hp).2, fun q hq => ⟨(d6 q hq).2.1, (d6 q hq).2.2.1⟩, fun q l hq hl => ?_, fun q p hq hp => ((d6 q hq).2.2.2.1.2.1 p (by omega)).2.1, fun q hq => (d6 q hq).2.2.2.1.2.2 (d6 q hq).2.1, fun r hr => ?_, d11, d8⟩
  · by_cases y : rr = 0
    · rw [(u3 y).1]; omega
    · rw [u4 (by omega)]; omega
  · by_cases y : rr = 0
    · rw [(u3 y).1]; omega
    · rw [u4 (by omega)]; omega
  · have := (d6 q hq).2.2.2.1.1 l hl
    exact ⟨this.1, this.2.1, this.2.2.1, this.2.2.2.1⟩
  · by_cases y : rr = 0
    · obtain ⟨z1, z2, z3, z4⟩ := u3 y
      have : r = 0 := by omega
      rw [this, show 388 + 3 * 0 = 388 by omega, z2, z3, z4]
      omega
    · rw [u4 (by omega)] at hr
      exact (u5 r hr).2
theorem rc_of (D : DR h c T) (e2 : h.1 1 c 2 = nI (T 2)) (er : ∀ r, r < T 2 → h.1 30 c r = nI (T (388 + 3 * r)) ∧ h.1 31 c r = nI (T (388 + 3 * r + 1)) ∧ h.1 32 c r = nI (T (388 + 3 * r + 2))) : RC h c T := by
  obtain ⟨⟨d1, d2⟩, ⟨d3, d4⟩, d5, d6, -, d8, d9, d10, d11⟩ := D
  refine ⟨⟨d3, d4, e2⟩, fun p hp => (d5 p hp).1, fun q hq => (d6 q hq).1, fun q l hq hl => ?_, fun q p hq hp => ((d6 q hq).2.2.2.1.2.1 p (by omega)).1, fun q hq => (d6 q hq).2.2.2.2, er, d9, d10⟩
  have := (d6 q hq).2.2.2.1.1 l hl
  exact ⟨this.2.2.2.2.1, this.2.2.2.2.2⟩
theorem ob_w0_s (k : Nat) (hk : k = 0 ∨ k = 2 ∨ k = 3 ∨ (4 ≤ k ∧ k < 9) ∨ (21 ≤ k ∧ k < 93)) : ob_w0 T k = 0 := by
  unfold ob_w0
  rw [if_neg (by omega), if_neg (by omega), if_neg (by omega)]
theorem ob_w0_1 : ob_w0 T 1 = T 3 := rfl
theorem ob_w0_9 {p : Nat} (hp : p < 12) : ob_w0 T (9 + p) = T (164 + p) := by
  unfold ob_w0
  rw [if_neg (by omega), if_pos (by omega), show 9 + p - 9 = p by omega]
theorem ob_w0_o {o k : Nat} (ho : o < T 3) (hk : k < 8) : ob_w0 T (93 + 8 * o + k) = if k < 5 then T (406 + 5 * o + k) else 0 := by
  unfold ob_w0
  rw [if_neg (by omega), if_neg (by omega)]
  have q1 : (93 + 8 * o + k - 93) / 8 = o := by omega
  have q2 : (93 + 8 * o + k - 93) % 8 = k := by omega
  rw [q1, q2]
  by_cases y : k < 5
  · rw [if_pos y, if_pos (by omega)]
  · rw [if_neg y, if_neg (by omega)]
theorem iw_of (O : OD h L T) (n : Nat) : IW T (ob_w0 T) n := by
  obtain ⟨a1, a2, a3, a4, a5, a6, a7⟩ := O
  have w2 : ob_w0 T 2 = 0 := ob_w0_s 2 (by omega)
  refine ⟨⟨by rw [ob_w0_s 0 (by omega)]; omega, by rw [ob_w0_1]; exact a1, by omega, by rw [ob_w0_s 3 (by omega)]; omega⟩, fun p hp => ⟨?_, ?_, fun hp0 => ?_⟩, fun k hk => by omega, fun o ho => ?_⟩
  · have e : ob_pend (ob_w0 T) p = 0 := by unfold ob_pend; rw [w2]; rfl
    rw [e, ob_w0_9 hp]
    have := (a5 p hp).2.2
    omega
  · rw [ob_w0_s (21 + p) (by omega)]; omega
  · rw [ob_w0_s (21 + p) (by omega), ob_w0_1]
    have : ∀ m o, o + m = T 3 → oa_sum (fun o => ob_w0 T (93 + 8 * o + 6) * oa_need T (ob_w0 T (93 + 8 * o)) p) o m = 0 := by
      intro m
      induction m with
      | zero => intro o _; rfl
      | succ m ih =>
        intro o ho
        show ob_w0 T (93 + 8 * o + 6) * oa_need T (ob_w0 T (93 + 8 * o)) p + oa_sum (fun o => ob_w0 T (93 + 8 * o + 6) * oa_need T (ob_w0 T (93 + 8 * o)) p) (o + 1) m = 0
        rw [ih (o + 1) (by omega), ob_w0_o (by omega) (by omega), if_neg (by omega), Nat.zero_mul]
    exact (this (T 3) 0 (by omega)).symm
  · rw [ob_w0_1] at ho
    have y := (a7 o ho).2
    have w := ob_w0_o (k := 0) ho (by omega)
    rw [Nat.add_zero, Nat.add_zero, if_pos (by omega)] at w
    rw [w, ob_w0_o (k := 1) ho (by omega), ob_w0_o (k := 2) ho (by omega), ob_w0_o (k := 3) ho (by omega), ob_w0_o (k := 4) ho (by omega), ob_w0_o (k := 5) ho (by omega), ob_w0_o (k := 6) ho (by omega), ob_w0_o (k := 7) ho (by omega), if_pos (by omega), if_pos (by omega), if_pos (by omega), if_pos (by omega), if_neg (by omega), if_neg (by omega), if_neg (by omega)]
    exact ⟨y.1, y.2.1, y.2.2.1, y.2.2.2.1, y.2.2.2.2.1, y.2.2.2.2.2, by omega, by omega, by omega⟩
theorem rg_of (O : OD h L T) : RG h L (ob_w0 T) := by
  obtain ⟨a1, a2, a3, a4, a5, a6, a7⟩ := O
  have w2 : ob_w0 T 2 = 0 := ob_w0_s 2 (by omega)
  refine ⟨⟨by rw [a3, ob_w0_s 0 (by omega)]; rfl, by rw [a2, ob_w0_1], by rw [a4, w2]; rfl⟩, fun p hp => ?_, fun k hk => by omega, fun o ho => ?_⟩
  · rw [ob_w0_9 hp, ob_w0_s (21 + p) (by omega)]
    exact ⟨(a5 p hp).1, (a5 p hp).2.1⟩
  · rw [ob_w0_1] at ho
    have y := (a7 o ho).1
    have w := ob_w0_o (k := 0) ho (by omega)
    rw [Nat.add_zero, Nat.add_zero, if_pos (by omega)] at w
    rw [w, ob_w0_o (k := 1) ho (by omega), ob_w0_o (k := 2) ho (by omega), ob_w0_o (k := 3) ho (by omega), ob_w0_o (k := 4) ho (by omega), ob_w0_o (k := 5) ho (by omega), ob_w0_o (k := 6) ho (by omega), ob_w0_o (k := 7) ho (by omega), if_pos (by omega), if_pos (by omega), if_pos (by omega), if_pos (by omega), if_neg (by omega), if_neg (by omega), if_neg (by omega)]
    exact ⟨y.1, y.2.1, y.2.2.1, y.2.2.2.1, y.2.2.2.2.1, y.2.2.2.2.2.2.2, y.2.2.2.2.2.2.1, y.2.2.2.2.2.1⟩
/-- the class's load, as functions -/
def lgE (h : Hp) : Hp := g_X4_shorten (lgw 900 (g_X7_begin h) 1) 0
def lgB (h : Hp) : Int32 := lfw 900 (g_X7_begin h) 1
def lg3 (h1 : Hp) : Hp := hp_r (g_X7_swapCatalog h1 (h1.2.2 11 0 6)) 11 0 6 (f_X7_swapCatalog h1 (h1.2.2 11 0 6))
def lg4 (h1 : Hp) : Hp := hp_r (g_X7_swapLedger (lg3 h1) ((lg3 h1).2.2 11 0 7)) 11 0 7 (f_X7_swapLedger (lg3 h1) ((lg3 h1).2.2 11 0 7))
def lgS (h1 : Hp) : Hp := g_X3_forget (lg4 h1)
def x_X11_load (h : Hp) : Nat := if lgB h = 0 then 2 else 0
def g_X11_load (h : Hp) : Hp := if lgB h = 0 then lgE h else lgS (lgE h)
def f_X11_load (h : Hp) : Int32 := (g_X11_load h).1 1 ((g_X11_load h).2.2 11 0 6) 1
def p_X11_load (h : Hp) : Prop := p_X7_begin h ∧ lpw 900 (g_X7_begin h) 1 ∧ (¬ lgB h = 0 → p_X7_swapCatalog (lgE h) ((lgE h).2.2 11 0 6))
theorem c_X11_load {d : Nat} {h : Hp} {P : Int32 → Hp → Prop} {Qx : String → Hp → Prop} (hp : p_X11_load h) (hx : x_X11_load h = 0) (k : P (f_X11_load h) (g_X11_load h)) : CL 0 (d + 9) mX11_load [vR 11 0] h (oI P) Qx := by
  obtain ⟨p1, p2, p3⟩ := hp
  have nb : ¬ lgB h = 0 := fun z => by unfold x_X11_load at hx; rw [if_pos z] at hx; omega
  refine CL.ofF (plainFor_of_name rfl) rfl (Nat.le_of_ble_eq_true rfl) (vc_X11_load_0 (d := d + 8) ?_)
  refine c_X7_begin (d := d + 4) p1 ?_
  refine aw_cl 900 0 _ _ (by omega) p2 (fun j' => ?_)
  refine c_X4_shorten (d := d + 7) trivial ⟨fun _ => ?_, fun z => (nb z).elim⟩
  have p4 := p3 nb
  unfold f_X11_load g_X11_load at k
  rw [if_neg nb] at k
  unfold lgS lg4 lg3 lgE at k
  unfold lgE at p4
  generalize g_X4_shorten (lgw 900 (g_X7_begin h) 1) 0 = H at *
  refine c_X7_swapCatalog (d := d + 6) p4 ?_
  refine c_X7_swapLedger (d := d + 7) trivial ?_
  refine c_X3_forget (d := d + 7) trivial ?_
  exact k
theorem t_X11_load {d : Nat} {h : Hp} {Qx : String → Hp → Prop} (hp : p_X11_load h) (hx : ¬ x_X11_load h = 0) (k : Qx (oa_ex (x_X11_load h)) (g_X11_load h)) : CL 1 (d + 9) mX11_load [vR 11 0] h (fun _ _ => False) Qx := by
  obtain ⟨p1, p2, p3⟩ := hp
  have nb : lgB h = 0 := by
    by_cases z : lgB h = 0
    · exact z
    · unfold x_X11_load at hx; rw [if_neg z] at hx; omega
  have ex : x_X11_load h = 2 := by unfold x_X11_load; rw [if_pos nb]
  have eg : g_X11_load h = lgE h := by unfold g_X11_load; rw [if_pos nb]
  rw [ex, eg] at k
  refine CL.ofF (plainFor_of_name rfl) rfl (Nat.le_of_ble_eq_true rfl) (vc_X11_load_0 (d := d + 8) ?_)
  refine c_X7_begin (d := d + 4) p1 ?_
  refine aw_cl 900 0 _ _ (by omega) p2 (fun j' => ?_)
  refine c_X4_shorten (d := d + 7) trivial ⟨fun z => (z nb).elim, fun _ => ?_⟩
  exact vc_X11_load_59 (d := d + 3) k
end LDZ
