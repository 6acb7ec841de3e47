/-! load: longs and references stay in the model's load (the same texts as before, with that said) -/
section LD2
variable {h hm K : Hp} {x : Nat → Nat} {t s rr c L n : Nat} {T T' w : Nat → Nat}
theorem gl_og : (og hm).2.1 = hm.2.1 := by
  have e1 : (og1 hm).2.1 = hm.2.1 := by unfold og1; exact gl_X12_must
  have e2 : (og2 hm).2.1 = hm.2.1 := by unfold og2; rw [hp_i_21]; exact e1
  have e3 : (og3 hm).2.1 = hm.2.1 := by unfold og3; rw [gl_X12_must, gl_X12_named]; exact e2
  have e4 : (og4 hm).2.1 = hm.2.1 := by unfold og4; rw [hp_i_21, hp_i_21, gl_X12_letters]; exact e3
  have e5 : (og5 hm).2.1 = hm.2.1 := by unfold og5; rw [hp_i_21, gl_X12_number]; exact e4
  have e6 : (og6 hm).2.1 = hm.2.1 := by unfold og6; rw [hp_i_21, gl_X12_number]; exact e5
  have e7 : (og7 hm).2.1 = hm.2.1 := by unfold og7; rw [hp_i_21, gl_X12_number]; exact e6
  have e8 : (og8 hm).2.1 = hm.2.1 := by unfold og8; rw [hp_i_21, gl_X12_takes]; exact e7
  unfold og
  exact oa_iteL (oa_iteL (by rw [hp_i_21]; exact e8) e3) e1
theorem gl_lb : (lb hm).2.1 = hm.2.1 := by
  have e1 : (mw1 hm).2.1 = hm.2.1 := by unfold mw1; exact gl_X12_isWord
  have e2 : (mw2 hm).2.1 = hm.2.1 := by unfold mw2; rw [gl_X12_isWord]; exact e1
  have e3 : (mw3 hm).2.1 = hm.2.1 := by unfold mw3; rw [gl_X12_isWord]; exact e2
  have e4 : (mw4 hm).2.1 = hm.2.1 := by unfold mw4; rw [gl_X12_isWord]; exact e3
  unfold lb
  exact oa_iteL (oa_iteL (oa_iteL (oa_iteL (gl_X12_must.trans e4) (gl_og.trans e4)) (gl_X12_rung.trans e3)) (gl_X12_product.trans e2)) (gl_X12_part.trans e1)
theorem gl_sm4 : (sm4 hm).2.1 = hm.2.1 := by
  unfold sm4 sm3 sm2 sm1
  rw [gl_X12_blanks0, hp_i_21, gl_X12_must, gl_X12_blanks0]
theorem gr_og : (og hm).2.2 = hm.2.2 := by
  have e1 : (og1 hm).2.2 = hm.2.2 := by unfold og1; exact gr_X12_must
  have e2 : (og2 hm).2.2 = hm.2.2 := by unfold og2; rw [hp_i_22]; exact e1
  have e3 : (og3 hm).2.2 = hm.2.2 := by unfold og3; rw [gr_X12_must, gr_X12_named]; exact e2
  have e4 : (og4 hm).2.2 = hm.2.2 := by unfold og4; rw [hp_i_22, hp_i_22, gr_X12_letters]; exact e3
  have e5 : (og5 hm).2.2 = hm.2.2 := by unfold og5; rw [hp_i_22, gr_X12_number]; exact e4
  have e6 : (og6 hm).2.2 = hm.2.2 := by unfold og6; rw [hp_i_22, gr_X12_number]; exact e5
  have e7 : (og7 hm).2.2 = hm.2.2 := by unfold og7; rw [hp_i_22, gr_X12_number]; exact e6
  have e8 : (og8 hm).2.2 = hm.2.2 := by unfold og8; rw [hp_i_22, gr_X12_takes]; exact e7
  unfold og
  exact oa_iteR (oa_iteR (by rw [hp_i_22]; exact e8) e3) e1
theorem gr_lb : (lb hm).2.2 = hm.2.2 := by
  have e1 : (mw1 hm).2.2 = hm.2.2 := by unfold mw1; exact gr_X12_isWord
  have e2 : (mw2 hm).2.2 = hm.2.2 := by unfold mw2; rw [gr_X12_isWord]; exact e1
  have e3 : (mw3 hm).2.2 = hm.2.2 := by unfold mw3; rw [gr_X12_isWord]; exact e2
  have e4 : (mw4 hm).2.2 = hm.2.2 := by unfold mw4; rw [gr_X12_isWord]; exact e3
  unfold lb
  exact oa_iteR (oa_iteR (oa_iteR (oa_iteR (gr_X12_must.trans e4) (gr_og.trans e4)) (gr_X12_rung.trans e3)) (gr_X12_product.trans e2)) (gr_X12_part.trans e1)
theorem gr_sm4 : (sm4 hm).2.2 = hm.2.2 := by
  unfold sm4 sm3 sm2 sm1
  rw [gr_X12_blanks0, hp_i_22, gr_X12_must, gr_X12_blanks0]
theorem l_load2 : ∀ (n : Nat) (h hm : Hp) (s : Nat) (T : Nat → Nat) (rr : Nat), PL h hm x t s T rr → t - s ≤ n → lpw n h 1 ∧ ∃ K, KX hm K ∧ (∀ a i, ¬ (a = 12 ∧ i = 0) → ¬ (a = 57 ∧ i = 0) → K.1 a i = hm.1 a i) ∧ (K.2.1 = hm.2.1 ∧ K.2.2 = hm.2.2) ∧
    (∀ {X : WD → State → Prop} {d rb : Nat} {Qr : Option AV → Hp → Prop} {Qx : String → Hp → Prop} {x1 : Int32}, AW X (d + 9 + 1) rb mX12_load 68 [(0, vR 12 0), (1, vI x1)] [] K Qr Qx → AW X (d + 9 + 1) rb mX12_load 68 [(0, vR 12 0), (1, vI x1)] [] hm Qr Qx) ∧
    ((lfw n h 1 = 1 ∧ ∃ T' rr', PL (lgw n h 1) K x t t T' rr') ∨ (lfw n h 1 = 0 ∧ FB (lgw n h 1) K)) := by
  have n10 : ¬ (1 : Int32) = 0 := by decide
  intro n
  induction n with
  | zero =>
    intro h hm s T rr A hn
    have hs := A.1.1.2.2.1
    have : s = t := by omega
    subst this
    exact ⟨trivial, hm, fun _ _ _ _ _ _ => rfl, fun _ _ _ _ => rfl, ⟨rfl, rfl⟩, fun k => k, Or.inl ⟨rfl, T, rr, A⟩⟩
  | succ n ih =>
    intro h hm s T rr A hn
    have hs := A.1.1.2.2.1
    have bt := A.1.1.1.1
    have kd : h.1 9 0 0 = nI (ob_kd x t s) := A.1.1.2.1.2.1
    rw [lpw, lfw, lgw, if_neg n10, if_neg n10]
    by_cases d : s < t
    · have k0 : ¬ h.1 9 0 0 = 0 := by
        rw [kd]
        unfold ob_kd
        rw [if_pos d]
        intro z
        have := (nI_eq (a := ob_kk (x s)) (b := 0) (by have := ob_kk_lt (x s); omega) (by omega)).mp z
        unfold ob_kk at this
        split at this
        · omega
        · split at this <;> omega
      have hl : ¬ f_X7_hasLine h = 0 := by unfold f_X7_hasLine; rw [if_neg k0]; exact n10
      rw [if_neg hl, if_neg hl]
      obtain ⟨a1, a2, a3, a4⟩ := ps_line A
      have e7 := A.1.1.2.2.2.2.1
      have el : ¬ hm.1 12 0 6 ≤ hm.1 12 0 4 := by
        rw [A.1.1.2.2.2.1.2.1, A.1.2]
        exact nI_ge d (by omega)
      have fr : ∀ a i, ¬ (a = 12 ∧ i = 0) → ¬ (a = 57 ∧ i = 0) → (sm4 (lb hm)).1 a i = hm.1 a i := fun a i y1 y2 => (fr_sm4 y1).trans (fr_lb y1 y2)
      rcases a4 with ⟨f1, T', rr', s', l1, PP⟩ | ⟨f0, F⟩
      · rw [f1]
        obtain ⟨r1, K, r2, r3, ⟨r6, r7⟩, r4, r5⟩ := ih _ _ s' T' rr' PP (by omega)
        exact ⟨fun _ _ => ⟨a1, r1⟩, K, a3.trans r2, fun a i y1 y2 => (r3 a i y1 y2).trans (fr a i y1 y2), ⟨r6.trans (gl_sm4.trans gl_lb), r7.trans (gr_sm4.trans gr_lb)⟩, fun k => aw_line e7 el a2 (r4 k), r5⟩
      · rw [f0]
        have z0 : lfw n (g_X7_readLine h) 0 = 0 ∧ lgw n (g_X7_readLine h) 0 = g_X7_readLine h ∧ lpw n (g_X7_readLine h) 0 := by
          cases n with
          | zero => exact ⟨rfl, rfl, trivial⟩
          | succ n =>
            rw [lfw, lgw, lpw, if_pos rfl, if_pos rfl]
            exact ⟨rfl, rfl, fun z => (z rfl).elim⟩
        rw [z0.1, z0.2.1]
        exact ⟨fun _ _ => ⟨a1, z0.2.2⟩, sm4 (lb hm), a3, fr, ⟨gl_sm4.trans gl_lb, gr_sm4.trans gr_lb⟩, fun k => aw_line e7 el a2 k, Or.inr ⟨rfl, F⟩⟩
    · have : s = t := by omega
      subst this
      have k0 : h.1 9 0 0 = 0 := by
        rw [kd]
        unfold ob_kd
        rw [if_neg (by omega)]
        rfl
      have hl : f_X7_hasLine h = 0 := by unfold f_X7_hasLine; rw [if_pos k0]
      rw [if_pos hl, if_pos hl]
      exact ⟨fun _ z => (z hl).elim, hm, fun _ _ _ _ _ _ => rfl, fun _ _ _ _ => rfl, ⟨rfl, rfl⟩, fun k => k, Or.inl ⟨rfl, T, rr, A⟩⟩
theorem aw_402 : ∀ (m j : Nat) (H : Hp), j + m = 506 → ∃ K, (K.2.1 = H.2.1 ∧ K.2.2 = H.2.2) ∧ (∀ a i, ¬ (a = 57 ∧ i = 0) → K.1 a i = H.1 a i) ∧ (∀ a, K.1 57 0 a = if j ≤ a ∧ a < 506 then 0 else H.1 57 0 a) ∧ (∀ {X : WD → State → Prop} {d rb : Nat} {Qr : Option AV → Hp → Prop} {Qx : String → Hp → Prop}, AW X (d + 1) rb mX12_load 40 [(0, vR 12 0), (1, vI 506)] [] K Qr Qx → AW X (d + 1) rb mX12_load 40 [(0, vR 12 0), (1, vI (nI j))] [] H Qr Qx) := by
  intro m
  induction m with
  | zero =>
    intro j H hj
    have : j = 506 := by omega
    subst this
    exact ⟨H, ⟨rfl, rfl⟩, fun _ _ _ => rfl, fun a => by rw [if_neg (by omega)], fun k => k⟩
  | succ m ih =>
    intro j H hj
    have c1 : ¬ (506 : Int32) ≤ nI j := nI_ge (b := 506) (by omega) (by omega)
    obtain ⟨K, r0, r1, r2, r3⟩ := ih (j + 1) (hp_i H 57 0 j 0) (by omega)
    refine ⟨K, r0, fun a i y => (r1 a i y).trans (hp_i_n y), fun a => ?_, fun k => vc_X12_load_40 ⟨fun z => (c1 z).elim, fun _ => ⟨vp_in_nI (by omega) (by omega), ?_⟩⟩⟩
    · rw [r2 a, hp_i_g]
      by_cases y : a = j
      · rw [if_pos y, if_neg (by omega), if_pos (by omega)]
      · rw [if_neg y]
        by_cases z : j + 1 ≤ a ∧ a < 506
        · rw [if_pos z, if_pos (by omega)]
        · rw [if_neg z, if_neg (by omega)]
    · rw [show nI j + 1 = nI (j + 1) from nI_add j 1, nI_clamp (by omega)]
      exact r3 k
theorem m_load02 (hX : t ≤ 900) (e3 : hm.1 12 0 3 = nI t) (hx : ∀ k, k < t → x k < 256 ∧ hm.1 54 0 k = ob_sb (x k)) : ∃ K, (K.2.1 = hm.2.1 ∧ K.2.2 = hm.2.2) ∧ RD K ob_T0 ∧ XM K x t ∧ K.1 12 0 4 = nI (ob_SK x t 0) ∧ K.1 12 0 7 = -1 ∧ K.1 12 0 8 = 0 ∧ K.1 12 0 13 = nI 0 ∧ K.1 12 0 3 = 0 ∧ K.1 12 0 0 = 0 ∧ (∀ k, k = 9 ∨ k = 10 ∨ k = 16 ∨ k = 24 → K.1 12 0 k = hm.1 12 0 k) ∧ (∀ a i, ¬ (a = 12 ∧ i = 0) → ¬ (a = 57 ∧ i = 0) → K.1 a i = hm.1 a i) ∧
    (∀ {X : WD → State → Prop} {d rb : Nat} {Qr : Option AV → Hp → Prop} {Qx : String → Hp → Prop}, AW X (d + 9 + 1) rb mX12_load 68 [(0, vR 12 0), (1, vI 506)] [] K Qr Qx → AW X (d + 9 + 1) rb mX12_load 0 [(0, vR 12 0)] [] hm Qr Qx) := by
  obtain ⟨K1, r0, r1, r2, r3⟩ := aw_402 506 0 (ob_M0 hm) (by omega)
  have u57 : ∀ a, a < 506 → (g_X12_usualRung K1).1 57 0 a = nI (ob_T0 a) := fun a ha => by
    unfold g_X12_usualRung ob_T0
    rw [hp_i_g, hp_i_g, hp_i_g, hp_i_g, r2 a, if_pos (show 0 ≤ a ∧ a < 506 by omega)]
    by_cases y1 : a = 390
    · rw [if_pos y1, y1]; rfl
    · rw [if_neg y1]
      by_cases y2 : a = 389
      · rw [if_pos y2, y2]; rfl
      · rw [if_neg y2]
        by_cases y3 : a = 388
        · rw [if_pos y3, y3]; rfl
        · rw [if_neg y3]
          by_cases y4 : a = 2
          · rw [if_pos y4, y4]; rfl
          · rw [if_neg y4, if_neg y4, if_neg y2, if_neg y1]; rfl
  have un : ∀ a i, ¬ (a = 57 ∧ i = 0) → (g_X12_usualRung K1).1 a i = (ob_M0 hm).1 a i := fun a i y => by
    unfold g_X12_usualRung
    rw [hp_i_n y, hp_i_n y, hp_i_n y, hp_i_n y]
    exact r1 a i y
  have mn : ∀ a i, ¬ (a = 12 ∧ i = 0) → (ob_M0 hm).1 a i = hm.1 a i := fun a i y => by
    unfold ob_M0
    rw [hp_i_n y, hp_i_n y, hp_i_n y, hp_i_n y, hp_i_n y, hp_i_n y, hp_i_n y]
  have X1 : XM (g_X12_usualRung K1) x t := by
    refine ⟨hX, ?_, fun k hk => ⟨(hx k hk).1, ?_⟩⟩
    · rw [un 12 0 (by omega), ob_M0_g]; exact e3
    · rw [un 54 0 (by omega), mn 54 0 (by omega)]; exact (hx k hk).2
  have b := s_blanks X1 (Nat.zero_le t) (by rw [un 12 0 (by omega), ob_M0_g]; rfl)
  refine ⟨g_X12_blanks (g_X12_usualRung K1), ⟨gl_X12_blanks.trans (gl_X12_usualRung.trans r0.1), gr_X12_blanks.trans (gr_X12_usualRung.trans r0.2)⟩, fun a ha => by rw [fr_X12_blanks (by omega)]; exact u57 a ha, b.2.2, b.2.1.1, ?_, ?_, ?_, ?_, ?_, fun k hk => ?_, fun a i y1 y2 => by rw [fr_X12_blanks y1, un a i y2, mn a i y1], fun k => ?_⟩
  · rw [b.2.1.2.2 7 (by omega) (by omega), un 12 0 (by omega), ob_M0_g]; rfl
  · rw [b.2.1.2.2 8 (by omega) (by omega), un 12 0 (by omega), ob_M0_g]; rfl
  · rw [b.2.1.2.2 13 (by omega) (by omega), un 12 0 (by omega), ob_M0_g]; rfl
  · rw [b.2.1.2.2 3 (by omega) (by omega), un 12 0 (by omega), ob_M0_g]; rfl
  · rw [b.2.1.2.2 0 (by omega) (by omega), un 12 0 (by omega), ob_M0_g]; rfl
  · rw [b.2.1.2.2 k (by omega) (by omega), un 12 0 (by omega), ob_M0_g, if_neg (by omega), if_neg (by omega), if_neg (by omega), if_neg (by omega), if_neg (by omega), if_neg (by omega), if_neg (by omega)]
  · rename_i X d rb Qr Qx
    refine vc_X12_load_0 (d := d + 9) ?_
    refine r3 (vc_X12_load_40 ⟨fun _ => ?_, fun z => (z (by decide)).elim⟩)
    refine c_X12_usualRung (d := d + 8) trivial ?_
    exact c_X12_blanks (d := d + 7) b.1 k
theorem z_load2 (A : RA h hm n) : p_X11_load h ∧ ∃ fm HM, (∀ {d : Nat} {P : Int32 → Hp → Prop} {Qx : String → Hp → Prop}, P fm HM → CL 0 (d + 10) mX12_load [vR 12 0] hm (oI P) Qx) ∧ ((∀ a i, ¬ (a = 12 ∧ i = 0) → ¬ (54 ≤ a ∧ a ≤ 65 ∧ i = 0) → HM.1 a i = hm.1 a i) ∧ HM.2.1 = hm.2.1 ∧ HM.2.2 = hm.2.2) ∧ ZT (x_X11_load h) (f_X11_load h) fm HM [(2, 1)] ∧ RA (g_X11_load h) HM n := by
  obtain ⟨T, w, ⟨J, I, R, C, G⟩, ⟨S, s1, s2⟩, ⟨dd, y, d1, d2, d3, d4, d5, d6⟩, ⟨t, t1, t2, t3, t4⟩, ⟨e1, e2⟩, ⟨u, u1, u2, u3, u4⟩, ⟨⟨r1, r2⟩, ⟨r3, r4⟩⟩⟩ := A
  -- the text
  obtain ⟨x, hx⟩ : ∃ x : Nat → Nat, ∀ k, k < t → x k < 256 ∧ h.1 35 0 k = ob_sb (x k) := by
    refine ⟨fun k => (h.1 35 0 k &&& 255).toNatClampNeg, fun k hk => ?_⟩
    obtain ⟨-, z, hz⟩ := t4 k hk
    obtain ⟨v, v1, v2⟩ := ob_int8 z
    have e : (h.1 35 0 k &&& 255).toNatClampNeg = v := by rw [hz, v2, ob_sb_and v v1, nI_clamp (by omega)]
    show (h.1 35 0 k &&& 255).toNatClampNeg < 256 ∧ h.1 35 0 k = ob_sb (h.1 35 0 k &&& 255).toNatClampNeg
    rw [e]
    exact ⟨v1, by rw [hz, v2]⟩
  have X : XC h x t := ⟨t1, t2, hx⟩
  obtain ⟨b1, b2, b3, b4, b5, b6, b7, b8, b9⟩ := a_load0 X
  obtain ⟨K0, ⟨m01, m02⟩, m1, m2, m3, m4, m5, m6, m7, m8, m9, m10, m11⟩ := m_load02 (hm := hm) (x := x) t1 t3 (fun k hk => ⟨(hx k hk).1, by rw [← (t4 k hk).1]; exact (hx k hk).2⟩)
  have sl := ob_SK_le (x := x) (Nat.zero_le t)
  have P0 : PL (g_X7_begin h) K0 x t (ob_SK x t 0) ob_T0 0 := by
    unfold PL
    rw [b4]
    exact ⟨⟨⟨b2, b3, sl.2, m2, m4, ob_SK x t 0, sl.2, m3, ob_SK_idem (by omega)⟩, m3⟩, m1, b5, b6, b7, m6, m5, b8, b9⟩
  obtain ⟨l1, K, k1, k2, ⟨k21, k22⟩, k3, l2⟩ := l_load2 900 _ _ _ _ _ P0 (by omega)
  have cf : CF (h.2.2 7 0 3) (h.2.2 7 0 4) h (lgw 900 (g_X7_begin h) 1) := by
    have := cf_lgw 900 (g_X7_begin h) 1
    rw [b4] at this
    exact cf_begin.trans this
  have eE : lgE h = hp_i (lgw 900 (g_X7_begin h) 1) 4 0 0 0 := by
    have e4 : (lgw 900 (g_X7_begin h) 1).1 4 0 0 = nI t := by
      rw [cf.1 4 0 (by omega) (by omega) (by omega) (by omega) (by omega)]; exact t2
    unfold lgE g_X4_shorten
    rw [e4, if_neg (by decide), if_pos (show (0 : Int32) ≤ nI t from nI_pos' (by omega))]
  have kk : ∀ k, k = 9 ∨ k = 10 ∨ k = 16 ∨ k = 24 → K.1 12 0 k = hm.1 12 0 k := fun k hk => (k1 k (by omega) (by omega) (by omega) (by omega) (by omega)).trans (m9 k hk)
  have k0 : K.1 12 0 0 = 0 := (k1 0 (by omega) (by omega) (by omega) (by omega) (by omega)).trans m8
  have kn3 : K.1 12 0 3 = 0 := (k1 3 (by omega) (by omega) (by omega) (by omega) (by omega)).trans m7
  have kn : ∀ a i, ¬ (a = 12 ∧ i = 0) → ¬ (a = 57 ∧ i = 0) → K.1 a i = hm.1 a i := fun a i y1 y2 => (k2 a i y1 y2).trans (m10 a i y1 y2)
  have kt : ∀ {d : Nat} {P : Int32 → Hp → Prop} {Qx : String → Hp → Prop}, AW (fun _ _ => True) (d + 9 + 1) 0 mX12_load 68 [(0, vR 12 0), (1, vI 506)] [] K (oI P) Qx → CL 0 (d + 10) mX12_load [vR 12 0] hm (oI P) Qx := fun {d P Qx} z => by
    refine CL.ofF (plainFor_of_name rfl) rfl (Nat.le_of_ble_eq_true rfl) ?_
    exact m11 (d := d) (k3 z)
  rcases l2 with ⟨f1, T', rr', PP⟩ | ⟨f0, F⟩
  · have nb : ¬ lgB h = 0 := by unfold lgB; rw [f1]; decide
    have eg : g_X11_load h = lgS (lgE h) := by unfold g_X11_load; rw [if_neg nb]
    have ex : x_X11_load h = 0 := by unfold x_X11_load; rw [if_neg nb]
    obtain ⟨⟨A1, A1'⟩, A2, A3, A4, A5, A6, A7, A8, A9⟩ := PP
    have cr : (lgw 900 (g_X7_begin h) 1).2.2 = h.2.2 := cf.2.2
    rw [cr] at A3 A4 A5
    have cE : ∀ a i, ¬ (a = 4 ∧ i = 0) → (lgE h).1 a i = (lgw 900 (g_X7_begin h) 1).1 a i := fun a i y => by rw [eE, hp_i_n y]
    have cE2 : (lgE h).2.2 = h.2.2 := by rw [eE, hp_i_22]; exact cr
    have cE1 : (lgE h).2.1 = (lgw 900 (g_X7_begin h) 1).2.1 := by rw [eE, hp_i_21]
    have cE4 : (lgE h).1 4 0 0 = 0 := by rw [eE, hp_i_g, if_pos rfl]
    have U : RU (lgE h) ((lgE h).2.2 7 0 3) T' rr' := by
      rw [cE2]
      exact A4.oth rfl (fun _ _ _ => rfl) (by rw [cE 1 _ (by omega)]) (fun b y1 y2 => cE b _ (by omega))
    obtain ⟨z0, z1, z2, z3, z4, z5, z6, z7, z8, z9⟩ := a_swap U (by rw [cE2]; exact r2)
    rw [cE2] at z0 z1 z2 z3 z6 z7 z8 z9
    have pl : p_X11_load h := ⟨b1, l1, fun _ => by rw [cE2]; exact z0⟩
    have t3' := A5.1
    obtain ⟨q1, q2, q3, q4, q5⟩ := m_takesO (hm := ob_K5 K) (T := T') (A2.same (ob_K5_n (by omega))) t3'
    have eqe : K.1 12 0 6 ≤ K.1 12 0 4 := by rw [A1.2.2.2.1.2.1, A1']; exact nI_le (Nat.le_refl _) (by have := A1.1.1; omega)
    refine ⟨pl, nI (T' 1), g_X12_takesOver (ob_K5 K), fun {d P Qx} k => kt (aw_end1 A1.2.2.2.2.1 eqe q1 ?_), ⟨fun a i y1 y2 => by rw [q5 a i y1 (by omega) (by omega), ob_K5_n y1, kn a i y1 (by omega)], gl_X12_takesOver.trans (k21.trans m01), gr_X12_takesOver.trans (k22.trans m02)⟩, Or.inl ⟨ex, ?_, ?_⟩, ?_⟩
    · rw [q2 1 (by omega)]; exact k
    · unfold f_X11_load
      rw [eg, z6, z2, if_neg (by omega), cE 1 _ (by omega)]
      exact A3.2.1.2
    · rw [q4, if_neg (by omega), ob_K5_g, if_neg (by omega), if_neg (by omega)]
      exact k0
    · rw [eg]
      -- the new state
      have cS : ∀ a i, ¬ (a = 3 ∧ i = 0) → ¬ (a = 4 ∧ i = 0) → ¬ a = 1 → ¬ (30 ≤ a ∧ a ≤ 32) → (lgS (lgE h)).1 a i = (lgw 900 (g_X7_begin h) 1).1 a i := fun a i y1 y2 y3 y4 => (z1 a i y1 (by omega) (by omega)).trans (cE a i y2)
      have D' : DR (lgS (lgE h)) (h.2.2 7 0 3) T' := A3.oth (fun _ _ => rfl) A3.2.2.2.2.2.2.2.2 (fun a ha => by rw [z2, if_neg (by omega), cE 1 _ (by omega)]) (fun b hb => funext fun j => cS b j (by omega) (by omega) (by omega) (by omega)) (z5.trans cE1)
      have O' : OD (lgS (lgE h)) (h.2.2 7 0 4) T' := A5.oth (Nat.le_refl _) rfl (fun _ _ _ => rfl) (fun _ _ => rfl) (fun b hb => cS b _ (by omega) (by omega) (by omega) (by omega))
      have hw3 : ob_w0 T' 3 = 0 := ob_w0_s 3 (by omega)
      refine ⟨T', ob_w0 T', ⟨it_of A3 A4, iw_of O' n, ⟨q2, fun k hk _ => q3 k hk⟩, ?_, ?_⟩, ⟨0, Nat.zero_le _, ?_⟩, ⟨0, y, by omega, d2, ?_, ?_, ?_, fun k hk => by omega⟩, ⟨0, by omega, ?_, ?_, fun k hk => by omega⟩, ⟨?_, ?_⟩, ⟨u, u1, ?_, ?_, fun k hk => ?_⟩, ⟨⟨?_, ?_⟩, ⟨?_, ?_⟩⟩⟩
      · rw [z6]; exact rc_of D' (by rw [z2, if_pos rfl]) z3
      · rw [z8]; exact rg_of O'
      · rw [z8]
        refine ⟨fun k hk => ?_, ?_, by rw [hw3]; rfl, fun j hj => by rw [hw3] at hj; omega⟩
        · rw [O'.2.2.2.2.2.1 k hk, q3 (4 + k) (by omega), ob_w0_s (4 + k) (by omega)]; rfl
        · rw [q3 4 (by omega), ob_w0_s 4 (by omega)]
      · rw [z4, if_pos rfl]; rfl
      · rw [z4, if_neg (by omega), cE 3 0 (by omega), cf.1 3 0 (by omega) (by omega) (by omega) (by omega) (by omega)]; exact d4
      · rw [q4, if_pos rfl]; rfl
      · rw [z1 4 0 (by omega) (by omega) (by omega)]; exact cE4
      · rw [q4, if_neg (by omega), ob_K5_g, if_neg (by omega), if_neg (by omega)]; exact kn3
      · rw [cS 7 0 (by omega) (by omega) (by omega) (by omega), A8, q4, if_neg (by omega), ob_K5_g, if_neg (by omega), if_pos rfl]; exact A1.2.2.2.2.1.symm
      · rw [cS 7 0 (by omega) (by omega) (by omega) (by omega), A9, q4, if_neg (by omega), ob_K5_g, if_pos rfl]; exact A7.symm
      · rw [cS 2 0 (by omega) (by omega) (by omega) (by omega), cf.1 2 0 (by omega) (by omega) (by omega) (by omega) (by omega)]; exact u2
      · rw [q4, if_neg (by omega), ob_K5_g, if_neg (by omega), if_neg (by omega), kk 24 (by omega)]; exact u3
      · rw [cS 33 0 (by omega) (by omega) (by omega) (by omega), cf.1 33 0 (by omega) (by omega) (by omega) (by omega) (by omega), q5 65 0 (by omega) (by omega) (by omega), ob_K5_n (by omega), kn 65 0 (by omega) (by omega)]; exact u4 k hk
      · rw [z6]; omega
      · rw [z6, z7]; omega
      · rw [z8]; omega
      · rw [z8, z9]; omega
  · have nb : lgB h = 0 := f0
    have eg : g_X11_load h = lgE h := by unfold g_X11_load; rw [if_pos nb]
    have ex : x_X11_load h = 2 := by unfold x_X11_load; rw [if_pos nb]
    obtain ⟨s, c, F1, F2, F3, F4⟩ := F
    have hb := m_bad (show s < 2 ^ 31 by omega) F3
    have pl : p_X11_load h := ⟨b1, l1, fun z => (z nb).elim⟩
    have cc : (lgw 900 (g_X7_begin h) 1).2.2 = h.2.2 := cf.2.2
    have cE : ∀ a i, ¬ (a = 4 ∧ i = 0) → (lgE h).1 a i = (lgw 900 (g_X7_begin h) 1).1 a i := fun a i y => by rw [eE, hp_i_n y]
    have cE2 : (lgE h).2.2 = h.2.2 := by rw [eE, hp_i_22]; exact cc
    have cE1 : (lgE h).2.1 = (lgw 900 (g_X7_begin h) 1).2.1 := by rw [eE, hp_i_21]
    have hg : ∀ k, (hp_i (ob_K5 K) 12 0 0 1).1 12 0 k = if k = 0 then 1 else if k = 10 then K.1 12 0 8 else if k = 9 then K.1 12 0 7 else K.1 12 0 k := fun k => by rw [hp_i_g, ob_K5_g]
    have hn : ∀ a, a = 54 ∨ a = 56 ∨ a = 58 ∨ a = 59 ∨ a = 65 → (hp_i (ob_K5 K) 12 0 0 1).1 a 0 = hm.1 a 0 := fun a ha => by rw [hp_i_n (by omega), ob_K5_n (by omega), kn a 0 (by omega) (by omega)]
    have gL : ∀ L, ¬ L = h.2.2 7 0 4 → ∀ t, t = 6 ∨ t = 10 ∨ (36 ≤ t ∧ t ≤ 52) → (lgE h).1 t L = h.1 t L := fun L hL t ht => by
      rw [cE t L (by omega), cf.1 t L (by omega) (by omega) (by omega) (by omega) (fun _ => hL)]
    refine ⟨pl, 0, hp_i (ob_K5 K) 12 0 0 1, fun {d P Qx} k => kt (aw_end0 hb (show oI P (some (vI 0)) (hp_i (ob_K5 K) 12 0 0 1) from k)), ⟨fun a i y1 y2 => by rw [hp_i_n y1, ob_K5_n y1, kn a i y1 (by omega)], k21.trans m01, k22.trans m02⟩, Or.inr ⟨1, by rw [ex]; exact List.mem_cons_self, by rw [hg, if_pos rfl]⟩, ?_⟩
    rw [eg]
    refine ⟨T, w, ⟨J, I, R.same (hn 56 (by omega)) (hn 58 (by omega)), ?_, ?_⟩, ⟨S, s1, ?_⟩, ⟨dd, y, d1, d2, ?_, ?_, ?_, fun k hk => ?_⟩, ⟨0, by omega, ?_, ?_, fun k hk => by omega⟩, ⟨?_, ?_⟩, ⟨u, u1, ?_, ?_, fun k hk => ?_⟩, ?_⟩
    · rw [cE2]
      refine C.at J (fun a ha => ?_) (fun a q ha hq => ?_) (fun a => ?_)
      · rw [cE a _ (by omega), cf.1 a _ (by omega) (by omega) (by omega) (fun _ => by omega) (by omega)]
      · rw [cE a _ (by omega), cf.1 a _ (by omega) (by omega) (fun _ => by omega) (by omega) (by omega)]
      · rw [cE1]; exact cf.2.1 a _ (by omega)
    · rw [cE2]; exact G.same (gL _ (by omega))
    · rw [cE2, hn 58 (by omega)]; exact s2.same (fun t h1 h2 => gL _ (by omega) t (by omega))
    · rw [cE 3 0 (by omega), cf.1 3 0 (by omega) (by omega) (by omega) (by omega) (by omega)]; exact d3
    · rw [cE 3 0 (by omega), cf.1 3 0 (by omega) (by omega) (by omega) (by omega) (by omega)]; exact d4
    · rw [hg, if_neg (by omega), if_neg (by omega), if_neg (by omega), kk 16 (by omega)]; exact d5
    · obtain ⟨w', V⟩ := d6 k hk
      refine ⟨w', ?_⟩
      rw [hn 59 (by omega)]
      exact V.same (gL _ (by omega))
    · rw [eE, hp_i_g, if_pos rfl]; rfl
    · rw [hg, if_neg (by omega), if_neg (by omega), if_neg (by omega)]; exact kn3
    · rw [cE 7 0 (by omega), F2.1, hg, if_neg (by omega), if_neg (by omega), if_pos rfl]; exact F3.symm
    · rw [cE 7 0 (by omega), F2.2, hg, if_neg (by omega), if_pos rfl]; exact F4.symm
    · rw [cE 2 0 (by omega), cf.1 2 0 (by omega) (by omega) (by omega) (by omega) (by omega)]; exact u2
    · rw [hg, if_neg (by omega), if_neg (by omega), if_neg (by omega), kk 24 (by omega)]; exact u3
    · rw [cE 33 0 (by omega), cf.1 33 0 (by omega) (by omega) (by omega) (by omega) (by omega), hn 65 (by omega)]; exact u4 k hk
    · unfold RR; rw [cE2]; exact ⟨⟨r1, r2⟩, ⟨r3, r4⟩⟩
end LD2
