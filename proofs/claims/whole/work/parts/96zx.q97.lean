/-! load: the start -/
section STA
variable {h hm K : Hp} {x : Nat → Nat} {t c L : Nat}
def ob_T0 (a : Nat) : Nat := if a = 2 then 1 else if a = 389 then 9 else if a = 390 then 100 else 0
theorem a_clear (h : Hp) (L : Nat) : p_X5_clear h L ∧ (∀ a i, ¬ (a = 10 ∧ i = L) → ¬ (a = 48 ∧ i = L) → ¬ (a = 49 ∧ i = L) → ¬ (a = 6 ∧ i = L) → ¬ (a = 44 ∧ i = L) → (g_X5_clear h L).1 a i = h.1 a i) ∧ (g_X5_clear h L).1 10 L 0 = 0 ∧ (g_X5_clear h L).1 10 L 1 = 0 ∧ (g_X5_clear h L).1 6 L 0 = 0 ∧ (∀ p, p < 12 → (g_X5_clear h L).1 48 L p = 0 ∧ (g_X5_clear h L).1 49 L p = 0) ∧ (∀ p, p < 5 → (g_X5_clear h L).1 44 L p = 0) ∧ (g_X5_clear h L).2.2 = h.2.2 := by
  have F1 := a_fillA (t0 := 48) (i0 := L) (N := 12) (x := 0) (hp_i (hp_i h 10 L 0 0) 10 L 1 0) (by omega)
  have r1 : ∀ a i, ¬ (a = 48 ∧ i = L) → (g_J7_fill_53178 (hp_i (hp_i h 10 L 0 0) 10 L 1 0) 48 L 12 0).1 a i = (hp_i (hp_i h 10 L 0 0) 10 L 1 0).1 a i := fun a i y => fr_J7_fill_53178 y
  have s1 : (g_J7_fill_53178 (hp_i (hp_i h 10 L 0 0) 10 L 1 0) 48 L 12 0).2.2 = h.2.2 := gr_J7_fill_53178
  unfold p_X5_clear g_X5_clear p_X10_clear g_X10_clear p_X8_clear g_X8_clear
  generalize g_J7_fill_53178 (hp_i (hp_i h 10 L 0 0) 10 L 1 0) 48 L 12 0 = h1 at *
  have F2 := a_fillA (t0 := 49) (i0 := L) (N := 12) (x := 0) h1 (by omega)
  have r2 : ∀ a i, ¬ (a = 49 ∧ i = L) → (g_J7_fill_53178 h1 49 L 12 0).1 a i = h1.1 a i := fun a i y => fr_J7_fill_53178 y
  have s2 : (g_J7_fill_53178 h1 49 L 12 0).2.2 = h1.2.2 := gr_J7_fill_53178
  generalize g_J7_fill_53178 h1 49 L 12 0 = h2 at *
  have F3 := a_fillA (t0 := 44) (i0 := L) (N := 5) (x := 0) (hp_i h2 6 L 0 0) (by omega)
  have r3 : ∀ a i, ¬ (a = 44 ∧ i = L) → (g_J7_fill_53178 (hp_i h2 6 L 0 0) 44 L 5 0).1 a i = (hp_i h2 6 L 0 0).1 a i := fun a i y => fr_J7_fill_53178 y
  have s3 : (g_J7_fill_53178 (hp_i h2 6 L 0 0) 44 L 5 0).2.2 = h2.2.2 := gr_J7_fill_53178
  refine ⟨⟨⟨F1.1, F2.1, trivial⟩, ⟨F3.1, trivial⟩, trivial⟩, fun a i y1 y2 y3 y4 y5 => ?_, ?_, ?_, ?_, fun p hp => ⟨?_, ?_⟩, F3.2.1, s3.trans (s2.trans s1)⟩
  · rw [r3 a i y5, hp_i_n y4, r2 a i y3, r1 a i y2, hp_i_n y1, hp_i_n y1]
  · rw [r3 10 L (by omega), hp_i_t (by omega), r2 10 L (by omega), r1 10 L (by omega), hp_i_g, if_neg (by omega), hp_i_g, if_pos rfl]
  · rw [r3 10 L (by omega), hp_i_t (by omega), r2 10 L (by omega), r1 10 L (by omega), hp_i_g, if_pos rfl]
  · rw [r3 6 L (by omega), hp_i_g, if_pos rfl]
  · rw [r3 48 L (by omega), hp_i_t (by omega), r2 48 L (by omega)]; exact F1.2.1 p hp
  · rw [r3 49 L (by omega), hp_i_t (by omega)]; exact F2.2.1 p hp
/-- the class before the first line -/
theorem a_load0 (X : XC h x t) : p_X7_begin h ∧ XC (g_X7_begin h) x t ∧ TK (g_X7_begin h) x t (ob_SK x t 0) ∧ (g_X7_begin h).2.2 = h.2.2 ∧ DR (g_X7_begin h) (h.2.2 7 0 3) ob_T0 ∧ RU (g_X7_begin h) (h.2.2 7 0 3) ob_T0 0 ∧ OD (g_X7_begin h) (h.2.2 7 0 4) ob_T0 ∧ (g_X7_begin h).1 7 0 0 = -1 ∧ (g_X7_begin h).1 7 0 1 = 0 := by
  have C := a_clear (g_X1_clear h (h.2.2 7 0 3)) (h.2.2 7 0 4)
  have e2 : (g_X1_clear h (h.2.2 7 0 3)).2.2 = h.2.2 := rfl
  have c1 : ∀ a, a < 3 → (g_X1_clear h (h.2.2 7 0 3)).1 1 (h.2.2 7 0 3) a = 0 := fun a ha => by
    unfold g_X1_clear
    rw [hp_i_g, hp_i_g, hp_i_g]
    rcases (show a = 0 ∨ a = 1 ∨ a = 2 by omega) with z | z | z <;> rw [z] <;> rfl
  have cn : ∀ a i, ¬ a = 1 → (g_X1_clear h (h.2.2 7 0 3)).1 a i = h.1 a i := fun a i y => by
    unfold g_X1_clear
    rw [hp_i_t y, hp_i_t y, hp_i_t y]
  unfold p_X7_begin g_X7_begin p_X9_restart g_X9_restart
  rw [e2]
  generalize g_X1_clear h (h.2.2 7 0 3) = h1 at *
  obtain ⟨C0, C1, C2, C3, C4, C5, C6, C7⟩ := C
  generalize g_X5_clear h1 (h.2.2 7 0 4) = h2 at *
  have X3 : XC (hp_i (hp_i (hp_i h2 7 0 0 (-1)) 7 0 1 0) 9 0 3 0) x t := X.same (by rw [hp_i_t (by omega), hp_i_t (by omega), hp_i_t (by omega), C1 4 0 (by omega) (by omega) (by omega) (by omega) (by omega), cn 4 0 (by omega)]) (by rw [hp_i_t (by omega), hp_i_t (by omega), hp_i_t (by omega), C1 35 0 (by omega) (by omega) (by omega) (by omega) (by omega), cn 35 0 (by omega)])
  have e3 : (hp_i (hp_i (hp_i h2 7 0 0 (-1)) 7 0 1 0) 9 0 3 0).1 9 0 3 = nI 0 := by rw [hp_i_g, if_pos rfl]; rfl
  have st := s_step X3 (Nat.zero_le t) e3
  have fr : ∀ a i, ¬ a = 9 → ¬ a = 7 → (g_X9_step (hp_i (hp_i (hp_i h2 7 0 0 (-1)) 7 0 1 0) 9 0 3 0)).1 a i = h2.1 a i := fun a i y1 y2 => by
    rw [fr_X9_step (by omega), hp_i_t y1, hp_i_t y2, hp_i_t y2]
  have f7 : (g_X9_step (hp_i (hp_i (hp_i h2 7 0 0 (-1)) 7 0 1 0) 9 0 3 0)).1 7 0 = (hp_i (hp_i h2 7 0 0 (-1)) 7 0 1 0).1 7 0 := by
    rw [fr_X9_step (by omega), hp_i_t (by omega)]
  have gr : (g_X9_step (hp_i (hp_i (hp_i h2 7 0 0 (-1)) 7 0 1 0) 9 0 3 0)).2.2 = h.2.2 := gr_X9_step.trans (C7.trans e2)
  generalize g_X9_step (hp_i (hp_i (hp_i h2 7 0 0 (-1)) 7 0 1 0) 9 0 3 0) = h3 at *
  have k1 : ∀ a, a < 3 → h3.1 1 (h.2.2 7 0 3) a = 0 := fun a ha => by rw [fr 1 _ (by omega) (by omega), C1 1 _ (by omega) (by omega) (by omega) (by omega) (by omega)]; exact c1 a ha
  have tz : ∀ a, ¬ a = 2 → ¬ a = 389 → ¬ a = 390 → ob_T0 a = 0 := fun a y1 y2 y3 => by unfold ob_T0; rw [if_neg y1, if_neg y2, if_neg y3]
  have t0 : ob_T0 0 = 0 := rfl
  have t1 : ob_T0 1 = 0 := rfl
  have t3 : ob_T0 3 = 0 := rfl
  refine ⟨⟨trivial, C0, ⟨st.1, trivial⟩, trivial⟩, st.2.2, st.2.1, gr, ?_, ?_, ?_, ?_, ?_⟩
  · refine ⟨⟨by omega, by omega⟩, ⟨k1 0 (by omega), k1 1 (by omega)⟩, fun p hp => by omega, fun p hp => by omega, ⟨fun a ha => ?_, fun a b ha _ _ => ?_⟩, fun a ha => ?_, fun p hp => by omega, fun p hp => by omega, fun a ha => ?_⟩
    · unfold VK at ha; omega
    · unfold VK at ha; omega
    · rw [tz (4 + a) (by omega) (by omega) (by omega)]; omega
    · unfold ob_T0
      split
      · omega
      · split
        · omega
        · split <;> omega
  · exact ⟨k1 2 (by omega), by omega, fun _ => ⟨rfl, rfl, rfl, rfl⟩, fun z => by omega, fun r hr => by omega⟩
  · refine ⟨by omega, by rw [fr 6 _ (by omega) (by omega)]; exact C4, by rw [fr 10 _ (by omega) (by omega)]; exact C2, by rw [fr 10 _ (by omega) (by omega)]; exact C3, fun p hp => ?_, fun a ha => by rw [fr 44 _ (by omega) (by omega)]; exact C6 a ha, fun o ho => by omega⟩
    rw [fr 48 _ (by omega) (by omega), fr 49 _ (by omega) (by omega), tz (164 + p) (by omega) (by omega) (by omega)]
    exact ⟨(C5 p hp).1, (C5 p hp).2, by omega⟩
  · rw [f7, hp_i_g, if_neg (by omega), hp_i_g, if_pos rfl]
  · rw [f7, hp_i_g, if_pos rfl]
/-- the model clears what it reads into -/
theorem aw_40 : ∀ (m j : Nat) (H : Hp), j + m = 506 → ∃ K, (∀ a i, ¬ (a = 57 ∧ i = 0) → K.1 a i = H.1 a i) ∧ (∀ a, K.1 57 0 a = if j ≤ a ∧ a < 506 then 0 else H.1 57 0 a) ∧ (∀ {X : WD → State → Prop} {d rb : Nat} {Qr : Option AV → Hp → Prop} {Qx : String → Hp → Prop}, AW X (d + 1) rb mX12_load 40 [(0, vR 12 0), (1, vI 506)] [] K Qr Qx → AW X (d + 1) rb mX12_load 40 [(0, vR 12 0), (1, vI (nI j))] [] H Qr Qx) := by
  intro m
  induction m with
  | zero =>
    intro j H hj
    have : j = 506 := by omega
    subst this
    exact ⟨H, fun _ _ _ => rfl, fun a => by rw [if_neg (by omega)], fun k => k⟩
  | succ m ih =>
    intro j H hj
    have c1 : ¬ (506 : Int32) ≤ nI j := nI_ge (b := 506) (by omega) (by omega)
    obtain ⟨K, r1, r2, r3⟩ := ih (j + 1) (hp_i H 57 0 j 0) (by omega)
    refine ⟨K, fun a i y => (r1 a i y).trans (hp_i_n y), fun a => ?_, fun k => vc_X12_load_40 ⟨fun z => (c1 z).elim, fun _ => ⟨vp_in_nI (by omega) (by omega), ?_⟩⟩⟩
    · rw [r2 a, hp_i_g]
      by_cases y : a = j
      · rw [if_pos y, if_neg (by omega), if_pos (by omega)]
      · rw [if_neg y]
        by_cases z : j + 1 ≤ a ∧ a < 506
        · rw [if_pos z, if_pos (by omega)]
        · rw [if_neg z, if_neg (by omega)]
    · rw [show nI j + 1 = nI (j + 1) from nI_add j 1, nI_clamp (by omega)]
      exact r3 k
/-- the model's first writes -/
def ob_M0 (hm : Hp) : Hp := hp_i (hp_i (hp_i (hp_i (hp_i (hp_i (hp_i hm 12 0 0 0) 12 0 6 ((hp_i hm 12 0 0 0).1 12 0 3)) 12 0 3 0) 12 0 4 0) 12 0 7 (-1)) 12 0 8 0) 12 0 13 0
theorem ob_M0_g (k : Nat) : (ob_M0 hm).1 12 0 k = if k = 13 then 0 else if k = 8 then 0 else if k = 7 then -1 else if k = 4 then 0 else if k = 3 then 0 else if k = 6 then hm.1 12 0 3 else if k = 0 then 0 else hm.1 12 0 k := by
  unfold ob_M0
  rw [hp_i_g, hp_i_g, hp_i_g, hp_i_g, hp_i_g, hp_i_g, hp_i_g, hp_i_g, if_neg (show ¬ 3 = 0 by omega)]
/-- the model before the first line -/
theorem m_load0 (hX : t ≤ 900) (e3 : hm.1 12 0 3 = nI t) (hx : ∀ k, k < t → x k < 256 ∧ hm.1 54 0 k = ob_sb (x k)) : ∃ K, RD K ob_T0 ∧ XM K x t ∧ K.1 12 0 4 = nI (ob_SK x t 0) ∧ K.1 12 0 7 = -1 ∧ K.1 12 0 8 = 0 ∧ K.1 12 0 13 = nI 0 ∧ K.1 12 0 3 = 0 ∧ K.1 12 0 0 = 0 ∧ (∀ k, k = 9 ∨ k = 10 ∨ k = 16 ∨ k = 24 → K.1 12 0 k = hm.1 12 0 k) ∧ (∀ a i, ¬ (a = 12 ∧ i = 0) → ¬ (a = 57 ∧ i = 0) → K.1 a i = hm.1 a i) ∧
    (∀ {X : WD → State → Prop} {d rb : Nat} {Qr : Option AV → Hp → Prop} {Qx : String → Hp → Prop}, AW X (d + 9 + 1) rb mX12_load 68 [(0, vR 12 0), (1, vI 506)] [] K Qr Qx → AW X (d + 9 + 1) rb mX12_load 0 [(0, vR 12 0)] [] hm Qr Qx) := by
  obtain ⟨K1, r1, r2, r3⟩ := aw_40 506 0 (ob_M0 hm) (by omega)
  have u57 : ∀ a, a < 506 → (g_X12_usualRung K1).1 57 0 a = nI (ob_T0 a) := fun a ha => by
    unfold g_X12_usualRung ob_T0
    rw [hp_i_g, hp_i_g, hp_i_g, hp_i_g, r2 a, if_pos (show 0 ≤ a ∧ a < 506 by omega)]
    by_cases y1 : a = 390
    · rw [if_pos y1, y1]; rfl
    · rw [if_neg y1]
      by_cases y2 : a = 389
      · rw [if_pos y2, y2]; rfl
      · rw [if_neg y2]
        by_cases y3 : a = 388
        · rw [if_pos y3, y3]; rfl
        · rw [if_neg y3]
          by_cases y4 : a = 2
          · rw [if_pos y4, y4]; rfl
          · rw [if_neg y4, if_neg y4, if_neg y2, if_neg y1]; rfl
  have un : ∀ a i, ¬ (a = 57 ∧ i = 0) → (g_X12_usualRung K1).1 a i = (ob_M0 hm).1 a i := fun a i y => by
    unfold g_X12_usualRung
    rw [hp_i_n y, hp_i_n y, hp_i_n y, hp_i_n y]
    exact r1 a i y
  have mn : ∀ a i, ¬ (a = 12 ∧ i = 0) → (ob_M0 hm).1 a i = hm.1 a i := fun a i y => by
    unfold ob_M0
    rw [hp_i_n y, hp_i_n y, hp_i_n y, hp_i_n y, hp_i_n y, hp_i_n y, hp_i_n y]
  have X1 : XM (g_X12_usualRung K1) x t := by
    refine ⟨hX, ?_, fun k hk => ⟨(hx k hk).1, ?_⟩⟩
    · rw [un 12 0 (by omega), ob_M0_g]; exact e3
    · rw [un 54 0 (by omega), mn 54 0 (by omega)]; exact (hx k hk).2
  have b := s_blanks X1 (Nat.zero_le t) (by rw [un 12 0 (by omega), ob_M0_g]; rfl)
  refine ⟨g_X12_blanks (g_X12_usualRung K1), fun a ha => by rw [fr_X12_blanks (by omega)]; exact u57 a ha, b.2.2, b.2.1.1, ?_, ?_, ?_, ?_, ?_, fun k hk => ?_, fun a i y1 y2 => by rw [fr_X12_blanks y1, un a i y2, mn a i y1], fun k => ?_⟩
  · rw [b.2.1.2.2 7 (by omega) (by omega), un 12 0 (by omega), ob_M0_g]; rfl
  · rw [b.2.1.2.2 8 (by omega) (by omega), un 12 0 (by omega), ob_M0_g]; rfl
  · rw [b.2.1.2.2 13 (by omega) (by omega), un 12 0 (by omega), ob_M0_g]; rfl
  · rw [b.2.1.2.2 3 (by omega) (by omega), un 12 0 (by omega), ob_M0_g]; rfl
  · rw [b.2.1.2.2 0 (by omega) (by omega), un 12 0 (by omega), ob_M0_g]; rfl
  · rw [b.2.1.2.2 k (by omega) (by omega), un 12 0 (by omega), ob_M0_g, if_neg (by omega), if_neg (by omega), if_neg (by omega), if_neg (by omega), if_neg (by omega), if_neg (by omega), if_neg (by omega)]
  · rename_i X d rb Qr Qx
    refine vc_X12_load_0 (d := d + 9) ?_
    refine r3 (vc_X12_load_40 ⟨fun _ => ?_, fun z => (z (by decide)).elim⟩)
    refine c_X12_usualRung (d := d + 8) trivial ?_
    exact c_X12_blanks (d := d + 7) b.1 k
end STA
