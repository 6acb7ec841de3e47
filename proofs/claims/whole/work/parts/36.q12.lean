section PZB
variable {h hm : Hp} {c L : Nat} {T w F : Nat → Nat} {n : Nat}
theorem q_bottleneck (hn : n ≤ 512) (B : RB h hm T w n) (a : Int32) : p_X11_bottleneck h a ∧ p_X12_bottleneck hm a ∧ QA (x_X11_bottleneck h a) (f_X11_bottleneck h a) (f_X12_bottleneck hm a) (g_X12_bottleneck hm a) hm := by
  obtain ⟨p1, p2, k⟩ := kk_product B a
  obtain ⟨J, I, R, C, G⟩ := B
  have bT := J.1
  unfold p_X11_bottleneck p_X12_bottleneck x_X11_bottleneck f_X11_bottleneck f_X12_bottleneck g_X12_bottleneck QA
  rcases k with ⟨q, hq, rfl, x1, f1, g1⟩ | ⟨x1, f1, g1⟩
  · have fl := a_fillFree (t1 := 53) (i1 := 0) (Or.inl rfl) I G
    have C1 : RC (g_X10_fillFree h (h.2.2 11 0 7) 53 0 12) (h.2.2 11 0 6) T := C.same (fun t ht i => fr_X10_fillFree (by omega)) gl_X10_fillFree
    have am := a_tightest (F := fun p => w (9 + p) - w (21 + p)) J C1 hq (fun p hp => ⟨fl.2 p hp, by have := (I.2.1 p hp).1; show w (9 + p) - w (21 + p) < 1000000; omega⟩)
    have mm := m_leastOf (hm := hp_i hm 12 0 0 0) hn J R I hq
    have gr := gr_X10_fillFree (h := h) (i0 := h.2.2 11 0 7) (t1 := 53) (i1 := 0) (n1 := 12)
    simp [p1, p2, x1, f1, g1, fl.1, gr, am, mm]
  · simp [p1, p2, x1, f1, g1]
theorem RC.row {t1 i1 k : Nat} {x : Int32} (C : RC h c T) (ht : t1 = 53 ∨ t1 = 13 ∨ t1 = 14) : RC (hp_i h t1 i1 k x) c T := by
  rcases ht with rfl | rfl | rfl <;> exact C
/-- pieces taken from a row -/
theorem a_take {t1 i1 q u : Nat} (ht : t1 = 53 ∨ t1 = 13 ∨ t1 = 14) (J : IT T) (hq : q < T 1) : ∀ (m k e : Nat) (h : Hp), RC h c T → k + m = T 0 →
    pw_X1_takePieces_3 (m + 1 + e) h c (nI q) (nI u) t1 i1 12 (nI k) ∧ (∀ p, k ≤ p → p < T 0 → (gw_X1_takePieces_3 (m + 1 + e) h c (nI q) (nI u) t1 i1 12 (nI k)).1 t1 i1 p = h.1 t1 i1 p - nI (u * oa_need T q p)) ∧ (∀ p, (p < k ∨ T 0 ≤ p) → (gw_X1_takePieces_3 (m + 1 + e) h c (nI q) (nI u) t1 i1 12 (nI k)).1 t1 i1 p = h.1 t1 i1 p) := by
  have bT := J.1
  intro m
  induction m with
  | zero =>
    intro k e h C hk
    rw [show 0 + 1 + e = e + 1 by omega]
    have c1 : nI (T 0) ≤ nI k := nI_le (by omega) (by omega)
    refine ⟨?_, fun p h1 h2 => by omega, fun p hp => ?_⟩
    · simp [pw_X1_takePieces_3, C.1.1, c1]
    · simp [gw_X1_takePieces_3, C.1.1, c1]
  | succ m ih =>
    intro k e h C hk
    rw [show m + 1 + 1 + e = (m + 1 + e) + 1 by omega]
    have c1 : ¬ nI (T 0) ≤ nI k := nI_ge (by omega) (by omega)
    have c2 : ¬ (12 : Int32) ≤ nI k := nI_ge (a := k) (b := 12) (by omega) (by omega)
    have v1 : vp_in (nI k) 12 := vp_in_nI (by omega) (by omega)
    have a1 := a_needOf J C hq (show k < T 0 by omega)
    obtain ⟨r1, r2, r3⟩ := ih (k + 1) e (hp_i h t1 i1 k (h.1 t1 i1 k - nI (u * oa_need T q k))) (C.row ht) (by omega)
    rw [nI_succ] at r1 r2 r3
    have hs : ∀ p, ¬ p = k → (hp_i h t1 i1 k (h.1 t1 i1 k - nI (u * oa_need T q k))).1 t1 i1 p = h.1 t1 i1 p := by
      intro p hp
      unfold hp_i
      rw [hp_a_s]
      simp [upd, hp]
    refine ⟨?_, fun p h1 h2 => ?_, fun p hp => ?_⟩
    · simp [pw_X1_takePieces_3, C.1.1, c1, c2, v1, a1, oa_mul, r1, nI_clamp (show k < 2 ^ 31 by omega)]
    · rw [gw_X1_takePieces_3]
      simp only [C.1.1, a1.2, oa_mul, nI_clamp (show k < 2 ^ 31 by omega)]
      rw [if_neg c1, if_neg (show ¬ Int32.ofNat 12 ≤ nI k from c2)]
      by_cases e1 : p = k
      · subst e1
        rw [r3 p (by omega)]
        unfold hp_i
        rw [hp_a_s]
        simp [upd]
      · rw [r2 p (by omega) h2, hs p e1]
    · rw [gw_X1_takePieces_3]
      simp only [C.1.1, a1.2, oa_mul, nI_clamp (show k < 2 ^ 31 by omega)]
      rw [if_neg c1, if_neg (show ¬ Int32.ofNat 12 ≤ nI k from c2), r3 p (by omega), hs p (by omega)]
end PZB
