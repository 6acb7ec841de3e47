/-! load: the draft, when cells of the product that is begun change -/
section DRU
variable {h h' H k : Hp} {x : Nat → Nat} {t s c q l p v m : Nat} {T T' : Nat → Nat}
/-- cells of product q -/
def RQ (q a : Nat) : Prop := a = 188 + q ∨ (100 + 8 * q ≤ a ∧ a < 108 + 8 * q) ∨ (196 + 6 * q ≤ a ∧ a < 202 + 6 * q) ∨ (244 + 6 * q ≤ a ∧ a < 250 + 6 * q) ∨ (292 + 12 * q ≤ a ∧ a < 304 + 12 * q)
theorem DR.cls (D : DR h c T) (hc : ∀ a j, ¬ a = 7 → ¬ a = 9 → h'.1 a j = h.1 a j) (hl : h'.2.1 = h.2.1) : DR h' c T := by
  have e1 : h'.1 1 = h.1 1 := funext fun j => hc 1 j (by omega) (by omega)
  have e20 : h'.1 20 = h.1 20 := funext fun j => hc 20 j (by omega) (by omega)
  have e22 : h'.1 22 = h.1 22 := funext fun j => hc 22 j (by omega) (by omega)
  have e23 : h'.1 23 = h.1 23 := funext fun j => hc 23 j (by omega) (by omega)
  have e25 : h'.1 25 = h.1 25 := funext fun j => hc 25 j (by omega) (by omega)
  have e27 : h'.1 27 = h.1 27 := funext fun j => hc 27 j (by omega) (by omega)
  have e29 : h'.1 29 = h.1 29 := funext fun j => hc 29 j (by omega) (by omega)
  unfold DR PQR PB at *
  rw [e1, e20, e22, e23, e25, e27, e29, hl]
  exact D
theorem DR.upd (D : DR h c T) (hq : T 1 < 8) (hT : ∀ a, ¬ RQ (T 1) a → T' a = T a) (hb : ∀ a, a < 506 → T' a < 1000000) (hn : ∀ a, a < 160 → T' (4 + a) < 128) (e1 : h'.1 1 c = h.1 1 c) (e20 : h'.1 20 c = h.1 20 c)
    (e22 : ∀ a, a < T 1 → h'.1 22 c a = h.1 22 c a) (e23 : ∀ a, a < T 1 → h'.1 23 c a = h.1 23 c a) (er : ∀ b a, b = 25 ∨ b = 27 ∨ b = 29 → a < T 1 → h'.1 b (8 * c + a) = h.1 b (8 * c + a))
    (e19 : h'.2.1 19 c = h.2.1 19 c) (e21 : ∀ a, a < T 1 → h'.2.1 21 c a = h.2.1 21 c a) : DR h' c T' := by
  obtain ⟨⟨d1, d2⟩, ⟨d3, d4⟩, d5, d6, d7, d8, d9, d10, d11⟩ := D
  have t0 : T' 0 = T 0 := hT 0 (by unfold RQ; omega)
  have t1 : T' 1 = T 1 := hT 1 (by unfold RQ; omega)
  have nmr : ∀ a i, VK T a → i < 8 → T' (4 + 8 * a + i) = T (4 + 8 * a + i) := fun a i ha hi => hT _ (by unfold RQ; unfold VK at ha; omega)
  have vk : ∀ a, VK T' a ↔ VK T a := fun a => by unfold VK; rw [t0, t1]
  refine ⟨⟨by omega, by omega⟩, ⟨by rw [e1, t0]; exact d3, by rw [e1, t1]; exact d4⟩, fun p hp => ?_, fun a ha => ?_, ⟨fun a ha => ?_, fun a b ha hb' hab => ?_⟩, hn, fun p hp => ?_, fun a ha => ?_, hb⟩
  · rw [t0] at hp
    rw [e20, hT (176 + p) (by unfold RQ; omega)]
    exact d5 p hp
  · rw [t1] at ha
    obtain ⟨g1, g2, g3, ⟨g4, g5, g6⟩, g7⟩ := d6 a ha
    have s1 : T' (188 + a) = T (188 + a) := hT _ (by unfold RQ; omega)
    refine ⟨by rw [e23 a ha, s1]; exact g1, by omega, by omega, ⟨fun j hj => ?_, fun p hp => ?_, fun z => ?_⟩, ?_⟩
    · rw [s1] at hj
      rw [hT (196 + 6 * a + j) (by unfold RQ; omega), hT (244 + 6 * a + j) (by unfold RQ; omega), t0, er 25 a (by omega) ha, er 27 a (by omega) ha]
      exact g4 j hj
    · rw [hT (292 + 12 * a + p) (by unfold RQ; omega), t0, er 29 a (by omega) ha]
      exact g5 p hp
    · rw [s1] at z
      obtain ⟨p, y1, y2⟩ := g6 z
      exact ⟨p, by omega, by rw [hT (292 + 12 * a + p) (by unfold RQ; omega)]; exact y2⟩
    · rw [e22 a ha, g7]
      congr 1
      refine (oa_lvl_c 8 a (fun a' ha' => ⟨hT _ (by unfold RQ; omega), fun j hj => ?_⟩)).symm
      have b := d6 a' (by omega)
      exact ⟨hT _ (by unfold RQ; have := b.2.2.1; omega), (b.2.2.2.1.1 j hj).1⟩
  · rw [vk] at ha
    obtain ⟨n, y1, y2, y3, y4⟩ := d7.1 a ha
    refine ⟨n, y1, y2, fun i hi => ?_, fun i h1 h2 => ?_⟩
    · rw [nmr a i ha (by omega)]; exact y3 i hi
    · rw [nmr a i ha h2]; exact y4 i h1 h2
  · rw [vk] at ha hb'
    exact d7.2 a b ha hb' (fun i hi => by rw [← nmr a i ha hi, ← nmr b i hb' hi]; exact hab i hi)
  · rw [t0] at hp
    rw [e19, d9 p hp]
    exact (oa_nm_c (fun i hi => nmr p i (Or.inl ⟨by omega, hp⟩) hi)).symm
  · rw [t1] at ha
    rw [e21 a ha, d10 a ha]
    exact (oa_nm_c (fun i hi => nmr (12 + a) i (Or.inr ⟨by omega, by omega⟩) hi)).symm
/-- a product is begun, with l lines -/
def BG (h : Hp) (c : Nat) (T : Nat → Nat) (l : Nat) : Prop := DR h c T ∧ T 1 < 8 ∧ l ≤ 6 ∧ h.1 23 c (T 1) = nI l ∧ h.1 22 c (T 1) = nI (ob_lf T 7 (T 1) l) ∧ PB h c T (T 1) l
theorem BG.cls (B : BG h c T l) (hc : ∀ a j, ¬ a = 7 → ¬ a = 9 → h'.1 a j = h.1 a j) (hl : h'.2.1 = h.2.1) : BG h' c T l := by
  obtain ⟨b1, b2, b3, b4, b5, b6⟩ := B
  refine ⟨b1.cls hc hl, b2, b3, by rw [hc 23 c (by omega) (by omega)]; exact b4, by rw [hc 22 c (by omega) (by omega)]; exact b5, ?_⟩
  unfold PB at *
  rw [hc 25 _ (by omega) (by omega), hc 27 _ (by omega) (by omega), hc 29 _ (by omega) (by omega)]
  exact b6
theorem PS.blanks (P : PS h k x t s) : p_X12_blanks k ∧ PS h (g_X12_blanks k) x t s ∧ KE k (g_X12_blanks k) ∧ (g_X12_blanks k).1 12 0 4 = nI s ∧ (g_X12_blanks k).1 12 0 5 = nI s := by
  obtain ⟨p1, p2, p3, p4, p5, i, p6, p7, p8⟩ := P
  have b := s_blanks p4 p6 p7
  rw [p8] at b
  exact ⟨b.1, ⟨p1, p2, p3, b.2.2, (b.2.1.2.2 7 (by omega) (by omega)).trans p5, s, p3, b.2.1.1, by rw [← p8]; exact ob_SK_idem p6⟩, b.2.1.2.2, b.2.1.1, b.2.1.2.1⟩
/-- what T is behind a line -/
def ob_TL (T : Nat → Nat) (q l v m : Nat) (a : Nat) : Nat := if a = 244 + 6 * q + l then v else if a = 196 + 6 * q + l then m else if 292 + 12 * q ≤ a ∧ a < 292 + 12 * q + 12 then T a + v * ob_iu T m (a - (292 + 12 * q)) else T a
theorem bg_line (B : BG h c T l) (hl : l < 6) (hm : VK T m) (h1 : 1 ≤ v) (hv : v ≤ 20) (fit : ∀ p, p < 12 → T (292 + 12 * T 1 + p) + v * ob_iu T m p ≤ 9999) : p_X1_addLine h c (nI (ob_en m)) (nI v) ∧ BG (g_X1_addLine h c (nI (ob_en m)) (nI v)) c (ob_TL T (T 1) l v m) (l + 1) ∧ (∀ a j, ¬ a = 22 → ¬ a = 23 → ¬ a = 25 → ¬ a = 27 → ¬ a = 29 → (g_X1_addLine h c (nI (ob_en m)) (nI v)).1 a j = h.1 a j) := by
  obtain ⟨D, b1, b2, b3, b4, b5⟩ := id B
  have bD := D.1
  obtain ⟨f, hf⟩ := oa_fuel (show T 0 < 1000000 by omega)
  obtain ⟨H', r1, r2, r3, r4, r5⟩ := l_add (v := v) D b1 hm hl (fun p hp => (b5.2.1 p hp).1) (T 0) f 0 h (by omega) (fun _ _ _ => rfl) (fun _ _ => rfl)
  rw [← hf, nI_0] at r4 r5
  have lv := a_lvlOf (H := H') D (by rw [r1 1 c (by omega)]; exact D.2.1.2) (fun q hq => by rw [r1 22 c (by omega)]) hm
  have n8 : ¬ (8 : Int32) ≤ nI (T 1) := nI_ge (b := 8) b1 (by omega)
  have n6 : nI l < 6 := nI_lt (b := 6) hl (by omega)
  have vq : vp_in (nI (T 1)) 8 := vp_in_nI (by omega) (by omega)
  have lb : p_X1_linesOfBegun h c ∧ f_X1_linesOfBegun h c = nI l := by
    unfold p_X1_linesOfBegun f_X1_linesOfBegun
    rw [D.2.1.2, if_neg n8, nI_clamp (by omega), b3]
    exact ⟨⟨fun _ => trivial, fun _ => ⟨vq, trivial⟩⟩, rfl⟩
  have eg : g_X1_addLine h c (nI (ob_en m)) (nI v) = ob_AL H' c (T 1) l (nI (ob_en m)) (nI v) := by
    unfold g_X1_addLine
    rw [D.2.1.2, if_neg n8, lb.2, if_pos n6]
    exact r5
  have ep : p_X1_addLine h c (nI (ob_en m)) (nI v) := by
    unfold p_X1_addLine
    rw [D.2.1.2, lb.2]
    exact ⟨lb.1, fun z => (n8 z).elim, fun _ => ⟨fun _ => r4 lv.1, fun z => (z n6).elim⟩⟩
  have hmq : m < 12 + T 1 := by unfold VK at hm; omega
  have hT : ∀ a, ¬ RQ (T 1) a → ob_TL T (T 1) l v m a = T a := fun a ha => by
    unfold ob_TL
    unfold RQ at ha
    rw [if_neg (by omega), if_neg (by omega), if_neg (by omega)]
  have tn : ∀ p, p < 12 → ob_TL T (T 1) l v m (292 + 12 * T 1 + p) = T (292 + 12 * T 1 + p) + v * ob_iu T m p := fun p hp => by
    unfold ob_TL
    rw [if_neg (by omega), if_neg (by omega), if_pos (by omega), show 292 + 12 * T 1 + p - (292 + 12 * T 1) = p by omega]
  have t1 : ob_TL T (T 1) l v m 1 = T 1 := hT 1 (by unfold RQ; omega)
  have t0 : ob_TL T (T 1) l v m 0 = T 0 := hT 0 (by unfold RQ; omega)
  have ti : ∀ j, j < l → ob_TL T (T 1) l v m (196 + 6 * T 1 + j) = T (196 + 6 * T 1 + j) ∧ ob_TL T (T 1) l v m (244 + 6 * T 1 + j) = T (244 + 6 * T 1 + j) := fun j hj => by
    unfold ob_TL
    rw [if_neg (by omega), if_neg (by omega), if_neg (by omega), if_neg (by omega), if_neg (by omega), if_neg (by omega)]
    exact ⟨rfl, rfl⟩
  have tl : ob_TL T (T 1) l v m (196 + 6 * T 1 + l) = m ∧ ob_TL T (T 1) l v m (244 + 6 * T 1 + l) = v := by
    unfold ob_TL
    rw [if_neg (by omega), if_pos rfl, if_pos rfl]
    exact ⟨rfl, rfl⟩
  have c22 : (ob_AL H' c (T 1) l (nI (ob_en m)) (nI v)).1 22 c (T 1) = nI (ob_lf (ob_TL T (T 1) l v m) 7 (T 1) (l + 1)) := by
    have val : ∀ q', q' ≤ T 1 → q' < T 1 → (ob_TL T (T 1) l v m (188 + q') = T (188 + q') ∧ ∀ j, j < T (188 + q') → ob_TL T (T 1) l v m (196 + 6 * q' + j) = T (196 + 6 * q' + j) ∧ T (196 + 6 * q' + j) < 12 + q') := fun q' _ hq' => by
      have b := D.2.2.2.1 q' hq'
      refine ⟨hT _ (by unfold RQ; omega), fun j hj => ⟨hT _ (by unfold RQ; have := b.2.2.1; omega), (b.2.2.2.1.1 j hj).1⟩⟩
    have lc : ob_lf (ob_TL T (T 1) l v m) 7 (T 1) l = ob_lf T 7 (T 1) l := by
      refine ob_lf_c _ (fun j hj => (ti j hj).1) (fun j hj d => ?_)
      have := (b5.1 j hj).1
      exact oa_lvl_c 7 _ (fun q' hq' => val q' (by omega) (by omega))
    have le := ob_lf_le 7 (T 1) (oa_lvl_le (T := T) 7) l
    have l1 := ob_lf_1 (T := T) 7 (T 1) l
    unfold ob_AL
    rw [hp_i_t (by omega), hp_i_t (by omega), hp_i_t (by omega), hp_i_g, if_pos rfl, lv.2, r1 22 c (by omega), b4, ob_lf_s, lc]
    unfold ob_ls
    rw [tl.1]
    by_cases d : m < 12
    · rw [if_pos d, if_pos d]
      have e1 : (1 : Int32) + nI 0 = nI 1 := nI_add 1 0
      rw [e1, if_neg (nI_nlt (b := 1) (by omega) (by omega))]
    · rw [if_neg d, if_neg d]
      have e8 : oa_lvl T 8 (m - 12) = oa_lvl T 7 (m - 12) := oa_lvl_s 7 (m - 12) (by omega) (fun q' hq' j hj => ((val q' (by omega) (by omega)).2 j hj).2)
      have e7 : oa_lvl (ob_TL T (T 1) l v m) 7 (m - 12) = oa_lvl T 7 (m - 12) := oa_lvl_c 7 _ (fun q' hq' => val q' (by omega) (by omega))
      have lb := oa_lvl_le (T := T) 7 (m - 12)
      rw [e8, e7]
      have e1 : (1 : Int32) + nI (oa_lvl T 7 (m - 12)) = nI (1 + oa_lvl T 7 (m - 12)) := nI_add 1 _
      rw [e1]
      by_cases z : ob_lf T 7 (T 1) l < 1 + oa_lvl T 7 (m - 12)
      · rw [if_pos (nI_lt z (by omega))]; congr 1; omega
      · rw [if_neg (nI_nlt (by omega) (by omega))]; congr 1; omega
  have fr : ∀ a j, ¬ a = 22 → ¬ a = 23 → ¬ a = 25 → ¬ a = 27 → ¬ a = 29 → (ob_AL H' c (T 1) l (nI (ob_en m)) (nI v)).1 a j = h.1 a j := fun a j y1 y2 y3 y4 y5 => by
    unfold ob_AL
    rw [hp_i_t y2, hp_i_t y4, hp_i_t y3, hp_i_t y1]
    exact r1 a j (by omega)
  have z22 : ∀ a, ¬ a = T 1 → (ob_AL H' c (T 1) l (nI (ob_en m)) (nI v)).1 22 c a = h.1 22 c a := fun a ha => by
    unfold ob_AL
    rw [hp_i_t (by omega), hp_i_t (by omega), hp_i_t (by omega), hp_i_g, if_neg ha, r1 22 c (by omega)]
  have z23 : ∀ a, (ob_AL H' c (T 1) l (nI (ob_en m)) (nI v)).1 23 c a = if a = T 1 then nI (l + 1) else h.1 23 c a := fun a => by
    unfold ob_AL
    rw [hp_i_g, hp_i_t (by omega), hp_i_t (by omega), hp_i_t (by omega), r1 23 c (by omega)]
  have zr : ∀ b a, b = 25 ∨ b = 27 ∨ b = 29 → a < T 1 → (ob_AL H' c (T 1) l (nI (ob_en m)) (nI v)).1 b (8 * c + a) = h.1 b (8 * c + a) := fun b a hb ha => by
    unfold ob_AL
    rw [hp_i_t (by omega), hp_i_n (by omega), hp_i_n (by omega), hp_i_t (by omega)]
    exact r1 b _ (by omega)
  have z25 : ∀ a, (ob_AL H' c (T 1) l (nI (ob_en m)) (nI v)).1 25 (8 * c + T 1) a = if a = l then nI (ob_en m) else h.1 25 (8 * c + T 1) a := fun a => by
    unfold ob_AL
    rw [hp_i_t (by omega), hp_i_t (by omega), hp_i_g, hp_i_t (by omega), r1 25 _ (by omega)]
  have z27 : ∀ a, (ob_AL H' c (T 1) l (nI (ob_en m)) (nI v)).1 27 (8 * c + T 1) a = if a = l then nI v else h.1 27 (8 * c + T 1) a := fun a => by
    unfold ob_AL
    rw [hp_i_t (by omega), hp_i_g, hp_i_t (by omega), hp_i_t (by omega), r1 27 _ (by omega)]
  have z29 : ∀ a, (ob_AL H' c (T 1) l (nI (ob_en m)) (nI v)).1 29 (8 * c + T 1) a = H'.1 29 (8 * c + T 1) a := fun a => by
    unfold ob_AL
    rw [hp_i_t (by omega), hp_i_t (by omega), hp_i_t (by omega), hp_i_t (by omega)]
  have zl : (ob_AL H' c (T 1) l (nI (ob_en m)) (nI v)).2.1 = h.2.1 := by
    show H'.2.1 = h.2.1
    rw [r3]
  rw [eg]
  refine ⟨ep, ⟨?_, by omega, by omega, ?_, ?_, ?_⟩, fr⟩
  · refine D.upd b1 hT (fun a ha => ?_) (fun a ha => ?_) (fr 1 c (by omega) (by omega) (by omega) (by omega) (by omega)) (fr 20 c (by omega) (by omega) (by omega) (by omega) (by omega)) (fun a ha => z22 a (by omega)) (fun a ha => (z23 a).trans (if_neg (by omega))) zr (by rw [zl]) (fun a ha => by rw [zl])
    · by_cases y : RQ (T 1) a
      · by_cases y2 : 292 + 12 * T 1 ≤ a ∧ a < 304 + 12 * T 1
        · have := tn (a - (292 + 12 * T 1)) (by omega)
          rw [show 292 + 12 * T 1 + (a - (292 + 12 * T 1)) = a by omega] at this
          have f := fit (a - (292 + 12 * T 1)) (by omega)
          rw [show 292 + 12 * T 1 + (a - (292 + 12 * T 1)) = a by omega] at f
          omega
        · unfold ob_TL
          have := D.2.2.2.2.2.2.2.2 a ha
          split
          · omega
          · split
            · omega
            · rw [if_neg (by omega)]; exact this
      · rw [hT a y]; exact D.2.2.2.2.2.2.2.2 a ha
    · unfold ob_TL
      rw [if_neg (by omega), if_neg (by omega), if_neg (by omega)]
      exact D.2.2.2.2.2.1 a ha
  · rw [t1, z23, if_pos rfl]
  · rw [t1]; exact c22
  · rw [t1]
    refine ⟨fun j hj => ?_, fun p hp => ?_, fun _ => ?_⟩
    · rw [z25, z27, t0]
      by_cases d : j = l
      · rw [d, tl.1, tl.2, if_pos rfl, if_pos rfl]
        exact ⟨hmq, fun y => by unfold VK at hm; omega, h1, hv, rfl, rfl⟩
      · rw [(ti j (by omega)).1, (ti j (by omega)).2, if_neg d, if_neg d]
        exact b5.1 j (by omega)
    · rw [z29, r2, tn p hp, t0]
      refine ⟨?_, fit p hp, fun y => ?_⟩
      · by_cases d : p < T 0
        · rw [if_pos (by omega)]
        · rw [if_neg (by omega), (b5.2.1 p hp).1, ob_iu_0 D hm hp (by omega), Nat.mul_zero, Nat.add_zero]
      · rw [ob_iu_0 D hm hp y, (b5.2.1 p hp).2.2 y, Nat.mul_zero]
    · obtain ⟨p, y1, y2⟩ := ob_iu_some D hm
      refine ⟨p, by omega, ?_⟩
      rw [tn p (by omega)]
      have : 1 ≤ v * ob_iu T m p := Nat.mul_pos h1 y2
      omega
end DRU
