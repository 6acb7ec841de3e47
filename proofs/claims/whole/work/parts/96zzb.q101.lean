section LZM
variable {h hm K H2 : Hp} {x : Nat → Nat} {t s rr c L n : Nat} {T w : Nat → Nat}
def ob_K5 (K : Hp) : Hp := hp_i (hp_i K 12 0 9 (K.1 12 0 7)) 12 0 10 ((hp_i K 12 0 9 (K.1 12 0 7)).1 12 0 8)
theorem ob_K5_g (k : Nat) : (ob_K5 K).1 12 0 k = if k = 10 then K.1 12 0 8 else if k = 9 then K.1 12 0 7 else K.1 12 0 k := by
  unfold ob_K5
  rw [hp_i_g, hp_i_g, hp_i_g, if_neg (show ¬ 8 = 9 by omega)]
theorem ob_K5_n {a i : Nat} (y : ¬ (a = 12 ∧ i = 0)) : (ob_K5 K).1 a i = K.1 a i := by
  unfold ob_K5
  rw [hp_i_n y, hp_i_n y]
/-- the model's end, when the text was right -/
theorem aw_end1 {X : WD → State → Prop} {d rb : Nat} {Qr : Option AV → Hp → Prop} {Qx : String → Hp → Prop} {x1 : Int32} (e7 : K.1 12 0 7 = -1) (hl : K.1 12 0 6 ≤ K.1 12 0 4) (p : p_X12_takesOver (ob_K5 K)) (k : Qr (some (vI ((g_X12_takesOver (ob_K5 K)).1 56 0 1))) (g_X12_takesOver (ob_K5 K))) : AW X (d + 9 + 1) rb mX12_load 68 [(0, vR 12 0), (1, vI x1)] [] K Qr Qx := by
  have hF := m_ok e7
  have e5 : (ob_K5 K).1 12 0 7 = K.1 12 0 7 := by rw [ob_K5_g, if_neg (by omega), if_neg (by omega)]
  have hF5 : f_X12_hasFailed (ob_K5 K) = 0 := m_ok (e5.trans e7)
  refine vc_X12_load_68 (d := d + 9) ?_
  refine c_X12_hasFailed (d := d + 8) (m_pF _) ⟨fun z => (z hF).elim, fun _ => ⟨fun _ => ?_, fun z => (z hl).elim⟩⟩
  unfold ob_K5 at hF5 p k
  generalize hp_i (hp_i K 12 0 9 (K.1 12 0 7)) 12 0 10 ((hp_i K 12 0 9 (K.1 12 0 7)).1 12 0 8) = K5 at hF5 p k ⊢
  refine c_X12_hasFailed (d := d + 8) (m_pF _) ?_
  rw [hF5]
  refine c_X12_throwsIf (d := d + 8) ⟨fun _ => ⟨Or.inl rfl, trivial⟩, fun z => (z rfl).elim⟩ ?_
  rw [show f_X12_throwsIf K5 0 1 = 0 from if_pos rfl, show g_X12_throwsIf K5 0 1 = K5 from if_pos rfl]
  refine ⟨fun _ => ?_, fun z => (z rfl).elim⟩
  exact c_X12_takesOver (d := d + 8) p k
theorem aw_end0 {X : WD → State → Prop} {d rb : Nat} {Qr : Option AV → Hp → Prop} {Qx : String → Hp → Prop} {x1 : Int32} (hb : f_X12_hasFailed K = 1) (k : Qr (some (vI 0)) (hp_i (ob_K5 K) 12 0 0 1)) : AW X (d + 9 + 1) rb mX12_load 68 [(0, vR 12 0), (1, vI x1)] [] K Qr Qx := by
  have n10 : ¬ (1 : Int32) = 0 := by decide
  have e5 : (ob_K5 K).1 12 0 7 = K.1 12 0 7 := by rw [ob_K5_g, if_neg (by omega), if_neg (by omega)]
  have hF5 : f_X12_hasFailed (ob_K5 K) = 1 := by
    unfold f_X12_hasFailed at hb ⊢
    rw [e5]
    exact hb
  refine vc_X12_load_68 (d := d + 9) ?_
  refine c_X12_hasFailed (d := d + 8) (m_pF _) ⟨fun _ => ?_, fun z => ?_⟩
  · unfold ob_K5 at hF5 k
    generalize hp_i (hp_i K 12 0 9 (K.1 12 0 7)) 12 0 10 ((hp_i K 12 0 9 (K.1 12 0 7)).1 12 0 8) = K5 at hF5 k ⊢
    refine c_X12_hasFailed (d := d + 8) (m_pF _) ?_
    rw [hF5]
    refine c_X12_throwsIf (d := d + 8) ⟨fun z => (n10 z).elim, fun _ => ⟨Or.inr rfl, trivial⟩⟩ ?_
    rw [show f_X12_throwsIf K5 1 1 = 1 from if_neg n10, show g_X12_throwsIf K5 1 1 = hp_i K5 12 0 0 1 from if_neg n10]
    refine ⟨fun z => (n10 z).elim, fun _ => k⟩
  · rw [hb] at z; exact (n10 z).elim
theorem z_load (A : RA h hm n) : p_X11_load h ∧ ∃ fm HM, (∀ {d : Nat} {P : Int32 → Hp → Prop} {Qx : String → Hp → Prop}, P fm HM → CL 0 (d + 10) mX12_load [vR 12 0] hm (oI P) Qx) ∧ ZT (x_X11_load h) (f_X11_load h) fm HM [(2, 1)] ∧ RA (g_X11_load h) HM n := by
  obtain ⟨T, w, ⟨J, I, R, C, G⟩, ⟨S, s1, s2⟩, ⟨dd, y, d1, d2, d3, d4, d5, d6⟩, ⟨t, t1, t2, t3, t4⟩, ⟨e1, e2⟩, ⟨u, u1, u2, u3, u4⟩, ⟨⟨r1, r2⟩, ⟨r3, r4⟩⟩⟩ := A
  -- the text
  obtain ⟨x, hx⟩ : ∃ x : Nat → Nat, ∀ k, k < t → x k < 256 ∧ h.1 35 0 k = ob_sb (x k) := by
    refine ⟨fun k => (h.1 35 0 k &&& 255).toNatClampNeg, fun k hk => ?_⟩
    obtain ⟨-, z, hz⟩ := t4 k hk
    obtain ⟨v, v1, v2⟩ := ob_int8 z
    have e : (h.1 35 0 k &&& 255).toNatClampNeg = v := by rw [hz, v2, ob_sb_and v v1, nI_clamp (by omega)]
    show (h.1 35 0 k &&& 255).toNatClampNeg < 256 ∧ h.1 35 0 k = ob_sb (h.1 35 0 k &&& 255).toNatClampNeg
    rw [e]
    exact ⟨v1, by rw [hz, v2]⟩
  have X : XC h x t := ⟨t1, t2, hx⟩
  obtain ⟨b1, b2, b3, b4, b5, b6, b7, b8, b9⟩ := a_load0 X
  obtain ⟨K0, m1, m2, m3, m4, m5, m6, m7, m8, m9, m10, m11⟩ := m_load0 (hm := hm) (x := x) t1 t3 (fun k hk => ⟨(hx k hk).1, by rw [← (t4 k hk).1]; exact (hx k hk).2⟩)
  have sl := ob_SK_le (x := x) (Nat.zero_le t)
  have P0 : PL (g_X7_begin h) K0 x t (ob_SK x t 0) ob_T0 0 := by
    unfold PL
    rw [b4]
    exact ⟨⟨⟨b2, b3, sl.2, m2, m4, ob_SK x t 0, sl.2, m3, ob_SK_idem (by omega)⟩, m3⟩, m1, b5, b6, b7, m6, m5, b8, b9⟩
  obtain ⟨l1, K, k1, k2, k3, l2⟩ := l_load 900 _ _ _ _ _ P0 (by omega)
  have cf : CF (h.2.2 7 0 3) (h.2.2 7 0 4) h (lgw 900 (g_X7_begin h) 1) := by
    have := cf_lgw 900 (g_X7_begin h) 1
    rw [b4] at this
    exact cf_begin.trans this
  have eE : lgE h = hp_i (lgw 900 (g_X7_begin h) 1) 4 0 0 0 := by
    have e4 : (lgw 900 (g_X7_begin h) 1).1 4 0 0 = nI t := by
      rw [cf.1 4 0 (by omega) (by omega) (by omega) (by omega) (by omega)]; exact t2
    unfold lgE g_X4_shorten
    rw [e4, if_neg (by decide), if_pos (show (0 : Int32) ≤ nI t from nI_pos' (by omega))]
  have kk : ∀ k, k = 9 ∨ k = 10 ∨ k = 16 ∨ k = 24 → K.1 12 0 k = hm.1 12 0 k := fun k hk => (k1 k (by omega) (by omega) (by omega) (by omega) (by omega)).trans (m9 k hk)
  have k0 : K.1 12 0 0 = 0 := (k1 0 (by omega) (by omega) (by omega) (by omega) (by omega)).trans m8
  have kn3 : K.1 12 0 3 = 0 := (k1 3 (by omega) (by omega) (by omega) (by omega) (by omega)).trans m7
  have kn : ∀ a i, ¬ (a = 12 ∧ i = 0) → ¬ (a = 57 ∧ i = 0) → K.1 a i = hm.1 a i := fun a i y1 y2 => (k2 a i y1 y2).trans (m10 a i y1 y2)
  have kt : ∀ {d : Nat} {P : Int32 → Hp → Prop} {Qx : String → Hp → Prop}, AW (fun _ _ => True) (d + 9 + 1) 0 mX12_load 68 [(0, vR 12 0), (1, vI 506)] [] K (oI P) Qx → CL 0 (d + 10) mX12_load [vR 12 0] hm (oI P) Qx := fun {d P Qx} z => by
    refine CL.ofF (plainFor_of_name rfl) rfl (Nat.le_of_ble_eq_true rfl) ?_
    exact m11 (d := d) (k3 z)
  rcases l2 with ⟨f1, T', rr', PP⟩ | ⟨f0, F⟩
  · have nb : ¬ lgB h = 0 := by unfold lgB; rw [f1]; decide
    have eg : g_X11_load h = lgS (lgE h) := by unfold g_X11_load; rw [if_neg nb]
    have ex : x_X11_load h = 0 := by unfold x_X11_load; rw [if_neg nb]
    obtain ⟨⟨A1, A1'⟩, A2, A3, A4, A5, A6, A7, A8, A9⟩ := PP
    have cr : (lgw 900 (g_X7_begin h) 1).2.2 = h.2.2 := cf.2.2
    rw [cr] at A3 A4 A5
    have cE : ∀ a i, ¬ (a = 4 ∧ i = 0) → (lgE h).1 a i = (lgw 900 (g_X7_begin h) 1).1 a i := fun a i y => by rw [eE, hp_i_n y]
    have cE2 : (lgE h).2.2 = h.2.2 := by rw [eE, hp_i_22]; exact cr
    have cE1 : (lgE h).2.1 = (lgw 900 (g_X7_begin h) 1).2.1 := by rw [eE, hp_i_21]
    have cE4 : (lgE h).1 4 0 0 = 0 := by rw [eE, hp_i_g, if_pos rfl]
    have U : RU (lgE h) ((lgE h).2.2 7 0 3) T' rr' := by
      rw [cE2]
      exact A4.oth rfl (fun _ _ _ => rfl) (by rw [cE 1 _ (by omega)]) (fun b y1 y2 => cE b _ (by omega))
    obtain ⟨z0, z1, z2, z3, z4, z5, z6, z7, z8, z9⟩ := a_swap U (by rw [cE2]; exact r2)
    rw [cE2] at z0 z1 z2 z3 z6 z7 z8 z9
    have pl : p_X11_load h := ⟨b1, l1, fun _ => by rw [cE2]; exact z0⟩
    have t3' := A5.1
    obtain ⟨q1, q2, q3, q4, q5⟩ := m_takesO (hm := ob_K5 K) (T := T') (A2.same (ob_K5_n (by omega))) t3'
    have eqe : K.1 12 0 6 ≤ K.1 12 0 4 := by rw [A1.2.2.2.1.2.1, A1']; exact nI_le (Nat.le_refl _) (by have := A1.1.1; omega)
    refine ⟨pl, nI (T' 1), g_X12_takesOver (ob_K5 K), fun {d P Qx} k => kt (aw_end1 A1.2.2.2.2.1 eqe q1 ?_), Or.inl ⟨ex, ?_, ?_⟩, ?_⟩
    · rw [q2 1 (by omega)]; exact k
    · unfold f_X11_load
      rw [eg, z6, z2, if_neg (by omega), cE 1 _ (by omega)]
      exact A3.2.1.2
    · rw [q4, if_neg (by omega), ob_K5_g, if_neg (by omega), if_neg (by omega)]
      exact k0
    · rw [eg]
      -- the new state
      have cS : ∀ a i, ¬ (a = 3 ∧ i = 0) → ¬ (a = 4 ∧ i = 0) → ¬ a = 1 → ¬ (30 ≤ a ∧ a ≤ 32) → (lgS (lgE h)).1 a i = (lgw 900 (g_X7_begin h) 1).1 a i := fun a i y1 y2 y3 y4 => (z1 a i y1 (by omega) (by omega)).trans (cE a i y2)
      have D' : DR (lgS (lgE h)) (h.2.2 7 0 3) T' := A3.oth (fun _ _ => rfl) A3.2.2.2.2.2.2.2.2 (fun a ha => by rw [z2, if_neg (by omega), cE 1 _ (by omega)]) (fun b hb => funext fun j => cS b j (by omega) (by omega) (by omega) (by omega)) (z5.trans cE1)
      have O' : OD (lgS (lgE h)) (h.2.2 7 0 4) T' := A5.oth (Nat.le_refl _) rfl (fun _ _ _ => rfl) (fun _ _ => rfl) (fun b hb => cS b _ (by omega) (by omega) (by omega) (by omega))
      have hw3 : ob_w0 T' 3 = 0 := ob_w0_s 3 (by omega)
      refine ⟨T', ob_w0 T', ⟨it_of A3 A4, iw_of O' n, ⟨q2, fun k hk _ => q3 k hk⟩, ?_, ?_⟩, ⟨0, Nat.zero_le _, ?_⟩, ⟨0, y, by omega, d2, ?_, ?_, ?_, fun k hk => by omega⟩, ⟨0, by omega, ?_, ?_, fun k hk => by omega⟩, ⟨?_, ?_⟩, ⟨u, u1, ?_, ?_, fun k hk => ?_⟩, ⟨⟨?_, ?_⟩, ⟨?_, ?_⟩⟩⟩
      · rw [z6]; exact rc_of D' (by rw [z2, if_pos rfl]) z3
      · rw [z8]; exact rg_of O'
      · rw [z8]
        refine ⟨fun k hk => ?_, ?_, by rw [hw3]; rfl, fun j hj => by rw [hw3] at hj; omega⟩
        · rw [O'.2.2.2.2.2.1 k hk, q3 (4 + k) (by omega), ob_w0_s (4 + k) (by omega)]; rfl
        · rw [q3 4 (by omega), ob_w0_s 4 (by omega)]
      · rw [z4, if_pos rfl]; rfl
      · rw [z4, if_neg (by omega), cE 3 0 (by omega), cf.1 3 0 (by omega) (by omega) (by omega) (by omega) (by omega)]; exact d4
      · rw [q4, if_pos rfl]; rfl
      · rw [z1 4 0 (by omega) (by omega) (by omega)]; exact cE4
      · rw [q4, if_neg (by omega), ob_K5_g, if_neg (by omega), if_neg (by omega)]; exact kn3
      · rw [cS 7 0 (by omega) (by omega) (by omega) (by omega), A8, q4, if_neg (by omega), ob_K5_g, if_neg (by omega), if_pos rfl]; exact A1.2.2.2.2.1.symm
      · rw [cS 7 0 (by omega) (by omega) (by omega) (by omega), A9, q4, if_neg (by omega), ob_K5_g, if_pos rfl]; exact A7.symm
      · rw [cS 2 0 (by omega) (by omega) (by omega) (by omega), cf.1 2 0 (by omega) (by omega) (by omega) (by omega) (by omega)]; exact u2
      · rw [q4, if_neg (by omega), ob_K5_g, if_neg (by omega), if_neg (by omega), kk 24 (by omega)]; exact u3
      · rw [cS 33 0 (by omega) (by omega) (by omega) (by omega), cf.1 33 0 (by omega) (by omega) (by omega) (by omega) (by omega), q5 65 0 (by omega) (by omega) (by omega), ob_K5_n (by omega), kn 65 0 (by omega) (by omega)]; exact u4 k hk
      · rw [z6]; omega
      · rw [z6, z7]; omega
      · rw [z8]; omega
      · rw [z8, z9]; omega
  · have nb : lgB h = 0 := f0
    have eg : g_X11_load h = lgE h := by unfold g_X11_load; rw [if_pos nb]
    have ex : x_X11_load h = 2 := by unfold x_X11_load; rw [if_pos nb]
    obtain ⟨s, c, F1, F2, F3, F4⟩ := F
    have hb := m_bad (show s < 2 ^ 31 by omega) F3
    have pl : p_X11_load h := ⟨b1, l1, fun z => (z nb).elim⟩
    have cc : (lgw 900 (g_X7_begin h) 1).2.2 = h.2.2 := cf.2.2
    have cE : ∀ a i, ¬ (a = 4 ∧ i = 0) → (lgE h).1 a i = (lgw 900 (g_X7_begin h) 1).1 a i := fun a i y => by rw [eE, hp_i_n y]
    have cE2 : (lgE h).2.2 = h.2.2 := by rw [eE, hp_i_22]; exact cc
    have cE1 : (lgE h).2.1 = (lgw 900 (g_X7_begin h) 1).2.1 := by rw [eE, hp_i_21]
    have hg : ∀ k, (hp_i (ob_K5 K) 12 0 0 1).1 12 0 k = if k = 0 then 1 else if k = 10 then K.1 12 0 8 else if k = 9 then K.1 12 0 7 else K.1 12 0 k := fun k => by rw [hp_i_g, ob_K5_g]
    have hn : ∀ a, a = 54 ∨ a = 56 ∨ a = 58 ∨ a = 59 ∨ a = 65 → (hp_i (ob_K5 K) 12 0 0 1).1 a 0 = hm.1 a 0 := fun a ha => by rw [hp_i_n (by omega), ob_K5_n (by omega), kn a 0 (by omega) (by omega)]
    have gL : ∀ L, ¬ L = h.2.2 7 0 4 → ∀ t, t = 6 ∨ t = 10 ∨ (36 ≤ t ∧ t ≤ 52) → (lgE h).1 t L = h.1 t L := fun L hL t ht => by
      rw [cE t L (by omega), cf.1 t L (by omega) (by omega) (by omega) (by omega) (fun _ => hL)]
    refine ⟨pl, 0, hp_i (ob_K5 K) 12 0 0 1, fun {d P Qx} k => kt (aw_end0 hb (show oI P (some (vI 0)) (hp_i (ob_K5 K) 12 0 0 1) from k)), Or.inr ⟨1, by rw [ex]; exact List.mem_cons_self, by rw [hg, if_pos rfl]⟩, ?_⟩
    rw [eg]
    refine ⟨T, w, ⟨J, I, R.same (hn 56 (by omega)) (hn 58 (by omega)), ?_, ?_⟩, ⟨S, s1, ?_⟩, ⟨dd, y, d1, d2, ?_, ?_, ?_, fun k hk => ?_⟩, ⟨0, by omega, ?_, ?_, fun k hk => by omega⟩, ⟨?_, ?_⟩, ⟨u, u1, ?_, ?_, fun k hk => ?_⟩, ?_⟩
    · rw [cE2]
      refine C.at J (fun a ha => ?_) (fun a q ha hq => ?_) (fun a => ?_)
      · rw [cE a _ (by omega), cf.1 a _ (by omega) (by omega) (by omega) (fun _ => by omega) (by omega)]
      · rw [cE a _ (by omega), cf.1 a _ (by omega) (by omega) (fun _ => by omega) (by omega) (by omega)]
      · rw [cE1]; exact cf.2.1 a _ (by omega)
    · rw [cE2]; exact G.same (gL _ (by omega))
    · rw [cE2, hn 58 (by omega)]; exact s2.same (fun t h1 h2 => gL _ (by omega) t (by omega))
    · rw [cE 3 0 (by omega), cf.1 3 0 (by omega) (by omega) (by omega) (by omega) (by omega)]; exact d3
    · rw [cE 3 0 (by omega), cf.1 3 0 (by omega) (by omega) (by omega) (by omega) (by omega)]; exact d4
    · rw [hg, if_neg (by omega), if_neg (by omega), if_neg (by omega), kk 16 (by omega)]; exact d5
    · obtain ⟨w', V⟩ := d6 k hk
      refine ⟨w', ?_⟩
      rw [hn 59 (by omega)]
      exact V.same (gL _ (by omega))
    · rw [eE, hp_i_g, if_pos rfl]; rfl
    · rw [hg, if_neg (by omega), if_neg (by omega), if_neg (by omega)]; exact kn3
    · rw [cE 7 0 (by omega), F2.1, hg, if_neg (by omega), if_neg (by omega), if_pos rfl]; exact F3.symm
    · rw [cE 7 0 (by omega), F2.2, hg, if_neg (by omega), if_pos rfl]; exact F4.symm
    · rw [cE 2 0 (by omega), cf.1 2 0 (by omega) (by omega) (by omega) (by omega) (by omega)]; exact u2
    · rw [hg, if_neg (by omega), if_neg (by omega), if_neg (by omega), kk 24 (by omega)]; exact u3
    · rw [cE 33 0 (by omega), cf.1 33 0 (by omega) (by omega) (by omega) (by omega) (by omega), hn 65 (by omega)]; exact u4 k hk
    · unfold RR; rw [cE2]; exact ⟨⟨r1, r2⟩, ⟨r3, r4⟩⟩
end LZM
