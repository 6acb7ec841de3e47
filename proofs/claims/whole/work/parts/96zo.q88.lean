/-! load: the line of a product, whole -/
section PRO
variable {h k hm : Hp} {x : Nat → Nat} {t s l c q n : Nat} {T T' : Nat → Nat}
/-- the model clears the needs of the new product -/
theorem l_52 (hq : q < 8) : ∀ (m f p : Nat) (k : Hp), p + m = 12 → ∃ K, (∀ a j, ¬ (a = 57 ∧ j = 0) → K.1 a j = k.1 a j) ∧ (∀ a, K.1 57 0 a = if 292 + 12 * q + p ≤ a ∧ a < 292 + 12 * q + 12 then 0 else k.1 57 0 a) ∧ (pw_X12_product_84 oa_N K (nI q) 0 1 → pw_X12_product_52 (m + 1 + f) k (nI q) (nI p)) ∧ gw_X12_product_52 (m + 1 + f) k (nI q) (nI p) = gw_X12_product_84 oa_N K (nI q) 0 1 := by
  intro m
  induction m with
  | zero =>
    intro f p k hp
    have c1 : (12 : Int32) ≤ nI p := nI_le (a := 12) (by omega) (by omega)
    rw [show 0 + 1 + f = f + 1 by omega, pw_X12_product_52, gw_X12_product_52, if_pos c1]
    refine ⟨k, fun _ _ _ => rfl, fun a => ?_, fun z => ⟨fun _ => z, fun z => (z c1).elim⟩, rfl⟩
    rw [if_neg (by omega)]
  | succ m ih =>
    intro f p k hp
    have c1 : ¬ (12 : Int32) ≤ nI p := nI_ge (b := 12) (by omega) (by omega)
    have e2 : (292 : Int32) + 12 * nI q + nI p = nI (292 + 12 * q + p) := oa_ix3 292 12 q p
    have en : nI p + 1 = nI (p + 1) := nI_add p 1
    obtain ⟨K, r1, r2, r3, r4⟩ := ih f (p + 1) (hp_i k 57 0 (292 + 12 * q + p) 0) (by omega)
    rw [show m + 1 + 1 + f = (m + 1 + f) + 1 by omega, pw_X12_product_52, gw_X12_product_52, if_neg c1, e2, en, nI_clamp (by omega)]
    refine ⟨K, fun a j y => (r1 a j y).trans (hp_i_n y), fun a => ?_, fun z => ⟨fun z => (c1 z).elim, fun _ => ⟨vp_in_nI (by omega) (by omega), r3 z⟩⟩, r4⟩
    rw [r2 a, hp_i_g]
    by_cases y2 : 292 + 12 * q + (p + 1) ≤ a ∧ a < 292 + 12 * q + 12
    · rw [if_pos y2, if_pos (by omega)]
    · rw [if_neg y2]
      by_cases y : a = 292 + 12 * q + p
      · rw [if_pos y, if_pos (by omega)]
      · rw [if_neg y, if_neg (by omega)]
/-- the class begins a product -/
theorem a_beginP {nm : Int64} (D : DR h c T) (h1 : T 1 < 8) : p_X1_beginProduct h c nm ∧ (∀ a j, ¬ a = 22 → ¬ a = 23 → ¬ a = 29 → (g_X1_beginProduct h c nm).1 a j = h.1 a j) ∧ (∀ a, (g_X1_beginProduct h c nm).1 22 c a = if a = T 1 then 1 else h.1 22 c a) ∧ (∀ a, (g_X1_beginProduct h c nm).1 23 c a = if a = T 1 then 0 else h.1 23 c a) ∧
    (∀ j, ¬ j = 8 * c + T 1 → (g_X1_beginProduct h c nm).1 29 j = h.1 29 j) ∧ (∀ p, p < 12 → (g_X1_beginProduct h c nm).1 29 (8 * c + T 1) p = 0) ∧ (g_X1_beginProduct h c nm).2.2 = h.2.2 ∧ (∀ a j, ¬ (a = 21 ∧ j = c) → (g_X1_beginProduct h c nm).2.1 a j = h.2.1 a j) ∧ (∀ a, (g_X1_beginProduct h c nm).2.1 21 c a = if a = T 1 then nm else h.2.1 21 c a) := by
  have e1 := D.2.1.2
  have n8 : ¬ (8 : Int32) ≤ nI (T 1) := nI_ge (b := 8) h1 (by omega)
  have vq : vp_in (nI (T 1)) 8 := vp_in_nI (by omega) (by omega)
  have F := a_fillA (t0 := 29) (i0 := 8 * c + T 1) (N := 12) (x := 0) (hp_i (hp_i (hp_l h 21 c (T 1) nm) 22 c (T 1) 1) 23 c (T 1) 0) (by omega)
  have fr : ∀ a j, ¬ (a = 29 ∧ j = 8 * c + T 1) → (g_J7_fill_53178 (hp_i (hp_i (hp_l h 21 c (T 1) nm) 22 c (T 1) 1) 23 c (T 1) 0) 29 (8 * c + T 1) 12 0).1 a j = (hp_i (hp_i (hp_l h 21 c (T 1) nm) 22 c (T 1) 1) 23 c (T 1) 0).1 a j := fun a j y => fr_J7_fill_53178 y
  have gl : (g_J7_fill_53178 (hp_i (hp_i (hp_l h 21 c (T 1) nm) 22 c (T 1) 1) 23 c (T 1) 0) 29 (8 * c + T 1) 12 0).2.1 = (hp_l h 21 c (T 1) nm).2.1 := gl_J7_fill_53178
  have gr : (g_J7_fill_53178 (hp_i (hp_i (hp_l h 21 c (T 1) nm) 22 c (T 1) 1) 23 c (T 1) 0) 29 (8 * c + T 1) 12 0).2.2 = h.2.2 := gr_J7_fill_53178
  unfold p_X1_beginProduct g_X1_beginProduct
  rw [e1, if_neg n8, nI_clamp (by omega)]
  refine ⟨⟨fun z => (n8 z).elim, fun _ => ⟨vq, vq, vq, vq, F.1, trivial⟩⟩, fun a j y1 y2 y3 => ?_, fun a => ?_, fun a => ?_, fun j y => ?_, F.2.1, gr, fun a j y => ?_, fun a => ?_⟩
  · rw [fr a j (by omega), hp_i_t y2, hp_i_t y1, hp_l_f]
  · rw [fr 22 c (by omega), hp_i_t (by omega), hp_i_g, hp_l_f]
  · rw [fr 23 c (by omega), hp_i_g, hp_i_t (by omega), hp_l_f]
  · rw [fr 29 j (by omega), hp_i_t (by omega), hp_i_t (by omega), hp_l_f]
  · rw [gl]
    unfold hp_l hp_b
    show (if a = 21 ∧ j = c then _ else h.2.1 a j) = _
    rw [if_neg y]
  · rw [gl]
    unfold hp_l hp_b
    show (if 21 = 21 ∧ c = c then vp_updL (h.2.1 21 c) (T 1) nm else h.2.1 21 c) a = _
    rw [if_pos ⟨rfl, rfl⟩]
    rfl
/-- what T is when a product with the name of n letters at s is begun -/
def ob_TB (T x : Nat → Nat) (s n q : Nat) (a : Nat) : Nat := if 100 + 8 * q ≤ a ∧ a < 108 + 8 * q then (if a - (100 + 8 * q) < n then x (s + (a - (100 + 8 * q))) else 0) else if 292 + 12 * q ≤ a ∧ a < 304 + 12 * q then 0 else T a
theorem bg_begin {nm : Int64} (D : DR h c T) (h1 : T 1 < 8) (hx : ∀ i, i < n → x (s + i) < 128) (h8 : n ≤ 8) : BG (g_X1_beginProduct h c nm) c (ob_TB T x s n (T 1)) 0 := by
  obtain ⟨-, g1, g2, g3, g4, g5, g6, g7, g8⟩ := a_beginP (nm := nm) D h1
  have hT : ∀ a, ¬ RQ (T 1) a → ob_TB T x s n (T 1) a = T a := fun a ha => by
    unfold ob_TB
    unfold RQ at ha
    rw [if_neg (by omega), if_neg (by omega)]
  have t1 : ob_TB T x s n (T 1) 1 = T 1 := hT 1 (by unfold RQ; omega)
  have t0 : ob_TB T x s n (T 1) 0 = T 0 := hT 0 (by unfold RQ; omega)
  have lt : ∀ a, 100 + 8 * T 1 ≤ a → a < 108 + 8 * T 1 → (if a - (100 + 8 * T 1) < n then x (s + (a - (100 + 8 * T 1))) else 0) < 128 := fun a y1 y2 => by
    split
    · exact hx _ (by assumption)
    · omega
  refine ⟨D.upd h1 hT (fun a ha => ?_) (fun a ha => ?_) (g1 1 c (by omega) (by omega) (by omega)) (g1 20 c (by omega) (by omega) (by omega)) (fun a ha => (g2 a).trans (if_neg (by omega))) (fun a ha => (g3 a).trans (if_neg (by omega))) (fun b a hb ha => ?_) (g7 19 c (by omega)) (fun a ha => (g8 a).trans (if_neg (by omega))), by omega, by omega, ?_, ?_, ?_⟩
  · have := D.2.2.2.2.2.2.2.2 a ha
    unfold ob_TB
    split
    · have := lt a (by omega) (by omega)
      omega
    · split
      · omega
      · exact this
  · have := D.2.2.2.2.2.1 a ha
    unfold ob_TB
    split
    · exact lt (4 + a) (by omega) (by omega)
    · split
      · omega
      · exact this
  · by_cases y : b = 29
    · rw [y]; exact g4 _ (by omega)
    · exact g1 b _ (by omega) (by omega) y
  · rw [t1, g3, if_pos rfl]; rfl
  · rw [t1, g2, if_pos rfl]; rfl
  · rw [t1]
    refine ⟨fun j hj => by omega, fun p hp => ?_, fun z => by omega⟩
    have tz : ob_TB T x s n (T 1) (292 + 12 * T 1 + p) = 0 := by
      unfold ob_TB
      rw [if_neg (by omega), if_pos (by omega)]
    rw [g5 p hp, tz]
    exact ⟨rfl, by omega, fun _ => rfl⟩
/-- a product that was begun, ended -/
theorem bg_end {G : Hp} (B : BG h c T l) (hl : 1 ≤ l) (hc : ∀ a j, ¬ (a = 9 ∧ j = 0) → G.1 a j = (hp_i h 1 c 1 (nI (T 1 + 1))).1 a j) (hg : G.2.1 = h.2.1) (nm : h.2.1 21 c (T 1) = oa_nm T (12 + T 1)) (gr : GR T (12 + T 1) n) (un : ∀ a, VK T a → ¬ ∀ i, i < 8 → T (4 + 8 * (12 + T 1) + i) = T (4 + 8 * a + i)) : DR G c (fun a => if a = 1 then T 1 + 1 else if a = 188 + T 1 then l else T a) := by
  obtain ⟨D, b1, b2, b3, b4, b5⟩ := B
  obtain ⟨⟨d1, d2⟩, ⟨d3, d4⟩, d5, d6, d7, d8, d9, d10, d11⟩ := D
  obtain ⟨T', hT'⟩ : ∃ T' : Nat → Nat, T' = fun a => if a = 1 then T 1 + 1 else if a = 188 + T 1 then l else T a := ⟨_, rfl⟩
  rw [← hT']
  have hT : ∀ a, ¬ a = 1 → ¬ a = 188 + T 1 → T' a = T a := fun a y1 y2 => by rw [hT']; show (if a = 1 then _ else if a = 188 + T 1 then l else T a) = _; rw [if_neg y1, if_neg y2]
  have t0 : T' 0 = T 0 := hT 0 (by omega) (by omega)
  have t1 : T' 1 = T 1 + 1 := by rw [hT']; rfl
  have tl : T' (188 + T 1) = l := by rw [hT']; show (if 188 + T 1 = 1 then _ else if 188 + T 1 = 188 + T 1 then l else _) = _; rw [if_neg (by omega), if_pos rfl]
  have nmr : ∀ a i, i < 8 → a < 20 → T' (4 + 8 * a + i) = T (4 + 8 * a + i) := fun a i hi ha => hT _ (by omega) (by omega)
  have vk : ∀ a, VK T' a → VK T a ∨ a = 12 + T 1 := fun a ha => by unfold VK at *; rw [t0, t1] at ha; omega
  have g1 : ∀ a j, ¬ a = 1 → ¬ a = 9 → G.1 a j = h.1 a j := fun a j y1 y9 => by rw [hc a j (by omega), hp_i_t y1]
  have g10 : ∀ a, G.1 1 c a = if a = 1 then nI (T 1 + 1) else h.1 1 c a := fun a => by rw [hc 1 c (by omega), hp_i_g]
  refine ⟨⟨by omega, by omega⟩, ⟨by rw [g10, if_neg (by omega), t0]; exact d3, by rw [g10, if_pos rfl, t1]⟩, fun p hp => ?_, fun a ha => ?_, ⟨fun a ha => ?_, fun a b ha hb hab => ?_⟩, fun a ha => ?_, fun p hp => ?_, fun a ha => ?_, fun a ha => ?_⟩
  · rw [t0] at hp
    rw [g1 20 c (by omega) (by omega), hT (176 + p) (by omega) (by omega)]
    exact d5 p hp
  · rw [t1] at ha
    have lv : ∀ a', a' < T 1 → T' (188 + a') = T (188 + a') ∧ ∀ j, j < T (188 + a') → T' (196 + 6 * a' + j) = T (196 + 6 * a' + j) ∧ T (196 + 6 * a' + j) < 12 + a' := fun a' ha' =>
      ⟨hT _ (by omega) (by omega), fun j hj => ⟨hT _ (by omega) (by omega), ((d6 a' ha').2.2.2.1.1 j hj).1⟩⟩
    have pbq : ∀ l', PB h c T a l' → PB G c T' a l' := fun l' y => by
      unfold PB at *
      rw [g1 25 _ (by omega) (by omega), g1 27 _ (by omega) (by omega), g1 29 _ (by omega) (by omega), t0]
      refine ⟨fun j hj => ?_, fun p hp => ?_, fun z => ?_⟩
      · rw [hT (196 + 6 * a + j) (by omega) (by omega), hT (244 + 6 * a + j) (by omega) (by omega)]
        exact y.1 j hj
      · rw [hT (292 + 12 * a + p) (by omega) (by omega)]
        exact y.2.1 p hp
      · obtain ⟨p, z1, z2⟩ := y.2.2 z
        exact ⟨p, z1, by rw [hT (292 + 12 * a + p) (by omega) (by omega)]; exact z2⟩
    by_cases d : a = T 1
    · rw [d] at pbq ⊢
      refine ⟨by rw [g1 23 c (by omega) (by omega), tl]; exact b3, by omega, by omega, by rw [tl]; exact pbq l b5, ?_⟩
      rw [g1 22 c (by omega) (by omega), b4, oa_lvl_f, tl]
      congr 1
      refine (ob_lf_c _ (fun j hj => hT _ (by omega) (by omega)) (fun j hj y => ?_)).symm
      have := (b5.1 j hj).1
      exact oa_lvl_c 7 _ (fun q' hq' => lv q' (by omega))
    · obtain ⟨e1, e2, e3, e4, e5⟩ := d6 a (by omega)
      have s1 : T' (188 + a) = T (188 + a) := hT _ (by omega) (by omega)
      refine ⟨by rw [g1 23 c (by omega) (by omega), s1]; exact e1, by omega, by omega, by rw [s1]; exact pbq _ e4, ?_⟩
      rw [g1 22 c (by omega) (by omega), e5]
      congr 1
      exact (oa_lvl_c 8 a (fun q' hq' => lv q' (by omega))).symm
  · rcases vk a ha with y | y
    · obtain ⟨n', y1, y2, y3, y4⟩ := d7.1 a y
      have l20 : a < 20 := by unfold VK at y; omega
      refine ⟨n', y1, y2, fun i hi => ?_, fun i h1 h2 => ?_⟩
      · rw [nmr a i (by omega) l20]; exact y3 i hi
      · rw [nmr a i h2 l20]; exact y4 i h1 h2
    · obtain ⟨y1, y2, y3, y4⟩ := gr
      refine ⟨n, y1, y2, fun i hi => ?_, fun i h1 h2 => ?_⟩
      · rw [nmr a i (by omega) (by omega), y]; exact y3 i hi
      · rw [nmr a i h2 (by omega), y]; exact y4 i h1 h2
  · have l20 : ∀ a, VK T' a → a < 20 := fun a y => by unfold VK at y; rw [t0, t1] at y; omega
    have hab' : ∀ i, i < 8 → T (4 + 8 * a + i) = T (4 + 8 * b + i) := fun i hi => by rw [← nmr a i hi (l20 a ha), ← nmr b i hi (l20 b hb)]; exact hab i hi
    rcases vk a ha with y | y
    · rcases vk b hb with z | z
      · exact d7.2 a b y z hab'
      · exact (un a y (fun i hi => by rw [z] at hab'; exact (hab' i hi).symm)).elim
    · rcases vk b hb with z | z
      · exact (un b z (fun i hi => by rw [y] at hab'; exact hab' i hi)).elim
      · omega
  · rw [hT (4 + a) (by omega) (by omega)]
    exact d8 a ha
  · rw [t0] at hp
    rw [hg, d9 p hp]
    exact (oa_nm_c (fun i hi => nmr p i hi (by omega))).symm
  · rw [t1] at ha
    rw [hg]
    by_cases d : a = T 1
    · rw [d, nm]
      exact (oa_nm_c (fun i hi => nmr (12 + T 1) i hi (by omega))).symm
    · rw [d10 a (by omega)]
      exact (oa_nm_c (fun i hi => nmr (12 + a) i hi (by omega))).symm
  · by_cases y1 : a = 1
    · rw [y1, t1]; omega
    · by_cases y2 : a = 188 + T 1
      · rw [y2, tl]; omega
      · rw [hT a y1 y2]; exact d11 a ha
end PRO
