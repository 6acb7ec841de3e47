section LIO
variable {h h' G hm K : Hp} {x : Nat → Nat} {t s rr : Nat} {T T' : Nat → Nat}
theorem oe_g {L n : Nat} {a1 a2 a3 a4 a5 : Int32} : (∀ k, (oe h L n a1 a2 a3 a4 a5).1 6 L k = if k = 0 then nI (n + 1) else h.1 6 L k) ∧ (∀ k, (oe h L n a1 a2 a3 a4 a5).1 36 L k = if k = n then a1 else h.1 36 L k) ∧ (∀ k, (oe h L n a1 a2 a3 a4 a5).1 37 L k = if k = n then a2 else h.1 37 L k) ∧ (∀ k, (oe h L n a1 a2 a3 a4 a5).1 38 L k = if k = n then a3 else h.1 38 L k) ∧ (∀ k, (oe h L n a1 a2 a3 a4 a5).1 39 L k = if k = n then a4 else h.1 39 L k) ∧ (∀ k, (oe h L n a1 a2 a3 a4 a5).1 40 L k = if k = n then a5 else h.1 40 L k) ∧
    (∀ k, (oe h L n a1 a2 a3 a4 a5).1 41 L k = if k = n then 0 else h.1 41 L k) ∧ (∀ k, (oe h L n a1 a2 a3 a4 a5).1 42 L k = if k = n then 0 else h.1 42 L k) ∧ (∀ k, (oe h L n a1 a2 a3 a4 a5).1 43 L k = if k = n then 0 else h.1 43 L k) := by
  unfold oe
  refine ⟨fun k => ?_, fun k => ?_, fun k => ?_, fun k => ?_, fun k => ?_, fun k => ?_, fun k => ?_, fun k => ?_, fun k => ?_⟩
  · rw [hp_i_g, hp_i_t (by omega), hp_i_t (by omega), hp_i_t (by omega), hp_i_t (by omega), hp_i_t (by omega), hp_i_t (by omega), hp_i_t (by omega), hp_i_t (by omega)]
  · rw [hp_i_t (by omega), hp_i_t (by omega), hp_i_t (by omega), hp_i_t (by omega), hp_i_t (by omega), hp_i_t (by omega), hp_i_t (by omega), hp_i_t (by omega), hp_i_g]
  · rw [hp_i_t (by omega), hp_i_t (by omega), hp_i_t (by omega), hp_i_t (by omega), hp_i_t (by omega), hp_i_t (by omega), hp_i_t (by omega), hp_i_g, hp_i_t (by omega)]
  · rw [hp_i_t (by omega), hp_i_t (by omega), hp_i_t (by omega), hp_i_t (by omega), hp_i_t (by omega), hp_i_t (by omega), hp_i_g, hp_i_t (by omega), hp_i_t (by omega)]
  · rw [hp_i_t (by omega), hp_i_t (by omega), hp_i_t (by omega), hp_i_t (by omega), hp_i_t (by omega), hp_i_g, hp_i_t (by omega), hp_i_t (by omega), hp_i_t (by omega)]
  · rw [hp_i_t (by omega), hp_i_t (by omega), hp_i_t (by omega), hp_i_t (by omega), hp_i_g, hp_i_t (by omega), hp_i_t (by omega), hp_i_t (by omega), hp_i_t (by omega)]
  · rw [hp_i_t (by omega), hp_i_t (by omega), hp_i_t (by omega), hp_i_g, hp_i_t (by omega), hp_i_t (by omega), hp_i_t (by omega), hp_i_t (by omega), hp_i_t (by omega)]
  · rw [hp_i_t (by omega), hp_i_t (by omega), hp_i_g, hp_i_t (by omega), hp_i_t (by omega), hp_i_t (by omega), hp_i_t (by omega), hp_i_t (by omega), hp_i_t (by omega)]
  · rw [hp_i_t (by omega), hp_i_g, hp_i_t (by omega), hp_i_t (by omega), hp_i_t (by omega), hp_i_t (by omega), hp_i_t (by omega), hp_i_t (by omega), hp_i_t (by omega)]
theorem pl_order (A : PL h hm x t s T rr) (W : IWd x t s 3) (h3 : T 3 < 20) (P' : PSE h K x t s) (KK : KE hm K) (fK : K.1 57 0 = hm.1 57 0) : p_X7_readOrder h ∧ op K ∧ psm (og K) ∧ KX K (sm4 (og K)) ∧ ((f_X7_readOrder h = 1 ∧ ∃ T' s', s < s' ∧ PL (g_X7_readOrder h) (sm4 (og K)) x t s' T' rr) ∨ (f_X7_readOrder h = 0 ∧ FB (g_X7_readOrder h) (sm4 (og K)))) := by
  obtain ⟨A1, A2, A3, A4, A5, A6, A7, A8, A9⟩ := A
  have R : RD K T := A2.same fK
  have B := ps_order P'.1 W P'.2 R A3.2.2.2.2.1 A3.2.2.2.2.2.1 A3.1.1 A3.1.2 h3 A3.2.1.2 A3.2.2.2.2.2.2.2.1 A5.2.1
  have B8 := ps_order8 P'.1 W P'.2 R A3.2.2.2.2.1 A3.2.2.2.2.2.1 A3.1.1 A3.1.2 h3 A3.2.1.2 A3.2.2.2.2.2.2.2.1 A5.2.1
  refine ⟨B.1, B.2.1, B.2.2.1, B.2.2.2.1, ?_⟩
  rcases B.2.2.2.2 with ⟨f1, q, v1, v2, v3, v4, s', u1, u2, u3, u4, u5, u6, u7, PP, k13, k57, cc⟩ | z
  · have k8 : (sm4 (og K)).1 12 0 8 = K.1 12 0 8 := by
      rcases B8.2.2.2.2 with ⟨_, _, _, _, _, _, _, _, _, _, _, _, _, _, _, z, _⟩ | ⟨z, -⟩
      · exact z
      · rw [f1] at z; exact absurd z (by decide)
    have gr : (g_X7_readOrder h).2.2 = h.2.2 := gr_X7_readOrder
    have gl : (g_X7_readOrder h).2.1 = h.2.1 := gl_X7_readOrder
    have co : ∀ a b, ¬ a = 9 → (a < 36 ∨ 43 < a) → ¬ a = 6 → (g_X7_readOrder h).1 a b = h.1 a b := fun a b y1 y2 y3 => (cc a b (by omega)).trans (oe_t y2 y3)
    obtain ⟨T', hT'⟩ : ∃ T' : Nat → Nat, T' = fun p => if p = 3 then T 3 + 1 else if p = 406 + 5 * T 3 + 4 then v4 else if p = 406 + 5 * T 3 + 3 then v3 else if p = 406 + 5 * T 3 + 2 then v2 else if p = 406 + 5 * T 3 + 1 then v1 else if p = 406 + 5 * T 3 then q else T p := ⟨_, rfl⟩
    have vT : ∀ p, T' p = if p = 3 then T 3 + 1 else if p = 406 + 5 * T 3 + 4 then v4 else if p = 406 + 5 * T 3 + 3 then v3 else if p = 406 + 5 * T 3 + 2 then v2 else if p = 406 + 5 * T 3 + 1 then v1 else if p = 406 + 5 * T 3 then q else T p := fun a => by rw [hT']
    clear hT'
    have oT : ∀ a, ¬ a = 3 → ¬ (406 + 5 * T 3 ≤ a ∧ a ≤ 406 + 5 * T 3 + 4) → T' a = T a := fun a y1 y2 => by rw [vT, if_neg y1, if_neg (by omega), if_neg (by omega), if_neg (by omega), if_neg (by omega), if_neg (by omega)]
    have b1 := A3.1
    have bnd : ∀ a, a < 506 → T' a < 1000000 := fun a ha => by
      have := A3.2.2.2.2.2.2.2.2 a ha
      rw [vT]
      split
      · omega
      · split
        · omega
        · split
          · omega
          · split
            · omega
            · split
              · omega
              · split
                · omega
                · exact this
    have t1 : T' 1 = T 1 := oT 1 (by omega) (by omega)
    refine Or.inl ⟨f1, T', s', u7, PP, fun a ha => ?_, ?_, ?_, ?_, ?_, ?_, ?_, ?_⟩
    · rw [k57 a, vT]
      by_cases y1 : a = 3
      · rw [if_pos y1, if_pos y1]
      · rw [if_neg y1, if_neg y1]
        by_cases y2 : a = 406 + 5 * T 3 + 4
        · rw [if_pos y2, if_pos y2]
        · rw [if_neg y2, if_neg y2]
          by_cases y3 : a = 406 + 5 * T 3 + 3
          · rw [if_pos y3, if_pos y3]
          · rw [if_neg y3, if_neg y3]
            by_cases y4 : a = 406 + 5 * T 3 + 2
            · rw [if_pos y4, if_pos y4]
            · rw [if_neg y4, if_neg y4]
              by_cases y5 : a = 406 + 5 * T 3 + 1
              · rw [if_pos y5, if_pos y5]
              · rw [if_neg y5, if_neg y5]
                by_cases y6 : a = 406 + 5 * T 3
                · rw [if_pos y6, if_pos y6]
                · rw [if_neg y6, if_neg y6]; exact R a ha
    · rw [gr]
      exact A3.oth (fun a ha => oT a (by omega) (by omega)) bnd (fun a ha => by rw [co 1 _ (by omega) (by omega) (by omega)]) (fun b hb => funext fun j => co b j (by omega) (by omega) (by omega)) gl
    · rw [gr]
      exact A4.oth (oT 2 (by omega) (by omega)) (fun a y1 y2 => oT a (by omega) (by omega)) (by rw [co 1 _ (by omega) (by omega) (by omega)]) (fun b y1 y2 => co b _ (by omega) (by omega) (by omega))
    · rw [gr]
      obtain ⟨a1, a2, a3, a4, a5, a6, a7⟩ := A5
      obtain ⟨g6, g36, g37, g38, g39, g40, g41, g42, g43⟩ := oe_g (h := h) (L := h.2.2 7 0 4) (n := T 3) (a1 := nI q) (a2 := nI v1) (a3 := nI v2) (a4 := nI v3) (a5 := nI v4)
      have t3 : T' 3 = T 3 + 1 := by rw [vT, if_pos rfl]
      refine ⟨by omega, by rw [cc 6 _ (by omega), g6, if_pos rfl, t3], by rw [co 10 _ (by omega) (by omega) (by omega)]; exact a3, by rw [co 10 _ (by omega) (by omega) (by omega)]; exact a4, fun p hp => ?_, fun a ha => by rw [co 44 _ (by omega) (by omega) (by omega)]; exact a6 a ha, fun o ho => ?_⟩
      · rw [co 48 _ (by omega) (by omega) (by omega), co 49 _ (by omega) (by omega) (by omega), oT (164 + p) (by omega) (by omega)]
        exact a5 p hp
      · rw [cc 36 _ (by omega), cc 37 _ (by omega), cc 38 _ (by omega), cc 39 _ (by omega), cc 40 _ (by omega), cc 41 _ (by omega), cc 42 _ (by omega), cc 43 _ (by omega), g36, g37, g38, g39, g40, g41, g42, g43, t1]
        by_cases d : o = T 3
        · rw [if_pos d, if_pos d, if_pos d, if_pos d, if_pos d, if_pos d, if_pos d, if_pos d, d]
          have w0 : T' (406 + 5 * T 3) = q := by rw [vT, if_neg (by omega), if_neg (by omega), if_neg (by omega), if_neg (by omega), if_neg (by omega), if_pos rfl]
          have w1 : T' (406 + 5 * T 3 + 1) = v1 := by rw [vT, if_neg (by omega), if_neg (by omega), if_neg (by omega), if_neg (by omega), if_pos rfl]
          have w2 : T' (406 + 5 * T 3 + 2) = v2 := by rw [vT, if_neg (by omega), if_neg (by omega), if_neg (by omega), if_pos rfl]
          have w3 : T' (406 + 5 * T 3 + 3) = v3 := by rw [vT, if_neg (by omega), if_neg (by omega), if_pos rfl]
          have w4 : T' (406 + 5 * T 3 + 4) = v4 := by rw [vT, if_neg (by omega), if_pos rfl]
          rw [w0, w1, w2, w3, w4]
          exact ⟨⟨rfl, rfl, rfl, rfl, rfl, rfl, rfl, rfl⟩, u1, u2, u3, u4, u5, u6⟩
        · rw [if_neg d, if_neg d, if_neg d, if_neg d, if_neg d, if_neg d, if_neg d, if_neg d, oT (406 + 5 * o) (by omega) (by omega), oT (406 + 5 * o + 1) (by omega) (by omega), oT (406 + 5 * o + 2) (by omega) (by omega), oT (406 + 5 * o + 3) (by omega) (by omega), oT (406 + 5 * o + 4) (by omega) (by omega)]
          exact a7 o (by omega)
    · rw [k13, KK 13 (by omega) (by omega)]; exact A6
    · rw [k8, KK 8 (by omega) (by omega)]; exact A7
    · rw [co 7 _ (by omega) (by omega) (by omega)]; exact A8
    · rw [co 7 _ (by omega) (by omega) (by omega)]; exact A9
  · exact Or.inr z
theorem pl_product (A : PL h hm x t s T rr) (W : IWd x t s 1) (h1 : T 1 < 8) (P' : PSE h K x t s) (KK : KE hm K) (fK : K.1 57 0 = hm.1 57 0) : p_X7_readProduct h ∧ p_X12_product K ∧ psm (g_X12_product K) ∧ KX K (sm4 (g_X12_product K)) ∧ ((f_X7_readProduct h = 1 ∧ ∃ T' s', s < s' ∧ PL (g_X7_readProduct h) (sm4 (g_X12_product K)) x t s' T' rr) ∨ (f_X7_readProduct h = 0 ∧ FB (g_X7_readProduct h) (sm4 (g_X12_product K)))) := by
  obtain ⟨A1, A2, A3, A4, A5, A6, A7, A8, A9⟩ := A
  have R : RD K T := A2.same fK
  have B := ps_product P'.1 W P'.2 R A3 h1
  have B8 := ps_product8 P'.1 W P'.2 R A3 h1
  refine ⟨B.1, B.2.1, B.2.2.1, B.2.2.2.1, ?_⟩
  rcases B.2.2.2.2 with ⟨f1, T', s', u1, PP, R', D', t1, oT, c7, c1, k13⟩ | z
  · have k8 : (sm4 (g_X12_product K)).1 12 0 8 = K.1 12 0 8 := by
      rcases B8.2.2.2.2 with ⟨_, _, _, _, _, _, _, _, _, _, _, z⟩ | ⟨z, -⟩
      · exact z
      · rw [f1] at z; exact absurd z (by decide)
    have gr : (g_X7_readProduct h).2.2 = h.2.2 := gr_X7_readProduct
    have fr : ∀ a b, ¬ a = 1 → ¬ (22 ≤ a ∧ a ≤ 29) → ¬ a = 7 → ¬ a = 9 → (g_X7_readProduct h).1 a b = h.1 a b := fun a b y1 y2 y3 y4 => fr_X7_readProduct (by omega) (by omega) (by omega) (by omega) (by omega) (by omega) (by omega) (by omega)
    refine Or.inl ⟨f1, T', s', u1, PP, R', ?_, ?_, ?_, ?_, ?_, ?_, ?_⟩
    · rw [gr]; exact D'
    · rw [gr]
      exact A4.oth (oT 2 (by unfold RQ; omega) (by omega)) (fun a y1 y2 => oT a (by unfold RQ; omega) (by omega)) (c1 2 (by omega)) (fun b y1 y2 => fr b _ (by omega) (by omega) (by omega) (by omega))
    · rw [gr]
      exact A5.oth (by omega) (oT 3 (by unfold RQ; omega) (by omega)) (fun a y1 y2 => oT a (by unfold RQ; omega) (by omega)) (fun a y1 => oT a (by unfold RQ; omega) (by omega)) (fun b hb => fr b _ (by omega) (by omega) (by omega) (by omega))
    · rw [k13, KK 13 (by omega) (by omega)]; exact A6
    · rw [k8, KK 8 (by omega) (by omega)]; exact A7
    · rw [c7]; exact A8
    · rw [c7]; exact A9
  · exact Or.inr z
end LIO
