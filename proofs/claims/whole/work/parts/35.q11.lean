section PZA
variable {h hm : Hp} {c L : Nat} {T w F : Nat → Nat} {n : Nat}
/-- some part is needed: the least is one -/
theorem oa_lst_some {q : Nat} (J : IT T) (hq : q < T 1) (F : Nat → Nat) : ∃ b, oa_lst T F q (T 0) 0 none = some b ∧ b < T 0 ∧ 0 < oa_need T q b ∧ ∀ p, p < T 0 → 0 < oa_need T q p → F b / oa_need T q b ≤ F p / oa_need T q p := by
  have k := oa_lst_ok (T := T) (F := F) (q := q) (N := T 0) (T 0) 0 none (by omega) (fun _ z => nomatch z) (fun _ p hp => by omega)
  cases e : oa_lst T F q (T 0) 0 none with
  | none =>
    obtain ⟨p, hp, hp0⟩ := J.2.2.2.2.2.1 q hq
    have := k.2 e p hp
    unfold oa_need at this
    omega
  | some b => exact ⟨b, rfl, k.1 b e⟩
def oa_most (T F : Nat → Nat) (q : Nat) : Nat := match oa_lst T F q (T 0) 0 none with
  | none => 0
  | some b => F b / oa_need T q b
theorem a_most {q t2 i2 : Nat} (J : IT T) (C : RC h c T) (hq : q < T 1) (hF : ∀ p, p < 12 → h.1 t2 i2 p = nI (F p) ∧ F p < 1000000) : p_X1_mostUnits h c (nI q) t2 i2 12 ∧ f_X1_mostUnits h c (nI q) t2 i2 12 = nI (oa_most T F q) := by
  have bT := J.1
  obtain ⟨t1, t3⟩ := a_tightest J C hq hF
  obtain ⟨b, e, hb, hb0, -⟩ := oa_lst_some J hq F
  have a1 := a_needOf J C hq hb
  have jn : oa_need T q b ≤ 9999 := J.2.2.2.2.1 q b hq hb
  have e0 : ¬ nI (oa_need T q b) ≤ 0 := nI_nle (by omega) (by omega)
  have e1 : ¬ nI (oa_need T q b) = 0 := nI_ne0 (by omega) (by omega)
  have f1 := hF b (by omega)
  have e2 : nI (F b) / nI (oa_need T q b) = nI (F b / oa_need T q b) := pk_div (by omega) (by omega) (by omega)
  have v1 : vp_in (nI b) 12 := vp_in_nI (by omega) (by omega)
  have c1 : ¬ nI b < 0 := nI_pos (by omega)
  have c2 : ¬ (12 : Int32) ≤ nI b := nI_ge (a := b) (b := 12) (by omega) (by omega)
  have o : oa_oi (some b) = nI b := rfl
  have m : oa_most T F q = F b / oa_need T q b := by unfold oa_most; rw [e]
  rw [e, o] at t3
  refine ⟨?_, ?_⟩
  · simp [p_X1_mostUnits, t1, t3, a1, e0, e1, p_X11_isInside, f_X11_isInside, v1, c1, c2]
  · simp [f_X1_mostUnits, t3, a1, e0, f_X11_isInside, c1, c2, nI_clamp (show b < 2 ^ 31 by omega), f1.1, e2, m]
theorem m_builds {q : Nat} (hn : n ≤ 512) (J : IT T) (R : RM hm T w) (I : IW T w n) (hq : q < T 1) : p_X12_builds hm (nI q) ∧ f_X12_builds hm (nI q) = nI (oa_most T (fun p => w (9 + p) - w (21 + p)) q) := by
  have bT := J.1
  obtain ⟨t1, t3⟩ := m_leastOf hn J R I hq
  obtain ⟨b, e, hb, hb0, -⟩ := oa_lst_some J hq (fun p => w (9 + p) - w (21 + p))
  have a1 := m_needs R (show q < 8 by omega) (show b < 12 by omega)
  have f1 := m_free R I (show b < 12 by omega)
  have jn : oa_need T q b ≤ 9999 := J.2.2.2.2.1 q b hq hb
  have ib := (I.2.1 b (by omega)).1
  have e1 : ¬ nI (oa_need T q b) = 0 := nI_ne0 (by omega) (by omega)
  have e2 : nI (w (9 + b) - w (21 + b)) / nI (oa_need T q b) = nI ((w (9 + b) - w (21 + b)) / oa_need T q b) := pk_div (by omega) (by omega) (by omega)
  have o : oa_oi (some b) = nI b := rfl
  have m : oa_most T (fun p => w (9 + p) - w (21 + p)) q = (w (9 + b) - w (21 + b)) / oa_need T q b := by unfold oa_most; rw [e]
  rw [e, o] at t3
  refine ⟨?_, ?_⟩
  · simp [p_X12_builds, t1, t3, a1, f1, e1]
  · simp [f_X12_builds, t3, a1, f1, e2, m]
theorem q_buildable (hn : n ≤ 512) (B : RB h hm T w n) (a : Int32) : p_X11_buildable h a ∧ p_X12_buildable hm a ∧ QA (x_X11_buildable h a) (f_X11_buildable h a) (f_X12_buildable hm a) (g_X12_buildable hm a) hm := by
  obtain ⟨p1, p2, k⟩ := kk_product B a
  obtain ⟨J, I, R, C, G⟩ := B
  have bT := J.1
  unfold p_X11_buildable p_X12_buildable x_X11_buildable f_X11_buildable f_X12_buildable g_X12_buildable QA
  rcases k with ⟨q, hq, rfl, x1, f1, g1⟩ | ⟨x1, f1, g1⟩
  · have fl := a_fillFree (t1 := 53) (i1 := 0) (Or.inl rfl) I G
    have C1 : RC (g_X10_fillFree h (h.2.2 11 0 7) 53 0 12) (h.2.2 11 0 6) T := C.same (fun t ht i => fr_X10_fillFree (by omega)) gl_X10_fillFree
    have am := a_most (F := fun p => w (9 + p) - w (21 + p)) J C1 hq (fun p hp => ⟨fl.2 p hp, by have := (I.2.1 p hp).1; show w (9 + p) - w (21 + p) < 1000000; omega⟩)
    have mm := m_builds (hm := hp_i hm 12 0 0 0) hn J R I hq
    have gr := gr_X10_fillFree (h := h) (i0 := h.2.2 11 0 7) (t1 := 53) (i1 := 0) (n1 := 12)
    simp [p1, p2, x1, f1, g1, fl.1, gr, am, mm]
  · simp [p1, p2, x1, f1, g1]
end PZA
