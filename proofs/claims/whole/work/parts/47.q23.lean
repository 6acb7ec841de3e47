section QAG
variable {h hm : Hp} {c L : Nat} {T w F : Nat → Nat} {n q r : Nat}
theorem m_togI {x : Nat} {x3 : Int32} (hn : n ≤ 512) (J : IT T) (R : RM hm T w) (I : IW T w n) (hq : q < T 1) (hr : r < T 1) (hf : ∀ p, p < T 0 → x * oa_need T q p ≤ w (9 + p) - w (21 + p)) : ∀ (m k e e' y : Nat), k + m = T 0 → y < 1000000 →
    pi_X12_buildableTogether_66 (m + 1 + e) hm (nI q) (nI r) x3 (nI x) (nI y) (nI k) ∧ ∃ Y, iw_x5_X12_buildableTogether_66 (m + 1 + e') hm (nI q) (nI r) x3 (nI x) (nI y) (nI k) = nI Y ∧ Y ≤ y ∧ (∀ p, k ≤ p → p < T 0 → 0 < oa_need T r p → Y ≤ oa_tA T (fun p => w (9 + p) - w (21 + p)) q x p / oa_need T r p) ∧ (Y = y ∨ ∃ p, k ≤ p ∧ p < T 0 ∧ 0 < oa_need T r p ∧ Y = oa_tA T (fun p => w (9 + p) - w (21 + p)) q x p / oa_need T r p) := by
  have bT := J.1
  have k0 : hm.1 56 0 0 = nI (T 0) := R.1 0 (by omega)
  intro m
  induction m with
  | zero =>
    intro k e e' y hk hy
    rw [show 0 + 1 + e = e + 1 by omega, show 0 + 1 + e' = e' + 1 by omega]
    have c1 : nI (T 0) ≤ nI k := nI_le (by omega) (by omega)
    refine ⟨?_, y, ?_, Nat.le_refl _, fun p h1 h2 => by omega, Or.inl rfl⟩
    · simp [pi_X12_buildableTogether_66, k0, c1]
    · simp [iw_x5_X12_buildableTogether_66, k0, c1]
  | succ m ih =>
    intro k e e' y hk hy
    rw [show m + 1 + 1 + e = (m + 1 + e) + 1 by omega, show m + 1 + 1 + e' = (m + 1 + e') + 1 by omega]
    have c1 : ¬ nI (T 0) ≤ nI k := nI_ge (by omega) (by omega)
    have hk2 : k < T 0 := by omega
    have a1 := m_needs R (show q < 8 by omega) (show k < 12 by omega)
    have a2 := m_needs R (show r < 8 by omega) (show k < 12 by omega)
    have f1 := m_free R I (show k < 12 by omega)
    have jn : oa_need T r k ≤ 9999 := J.2.2.2.2.1 r k hr hk2
    have ik := (I.2.1 k (by omega)).1
    have hfk := hf k hk2
    have e1 : nI (w (9 + k) - w (21 + k)) - nI (x * oa_need T q k) = nI (w (9 + k) - w (21 + k) - x * oa_need T q k) := oa_sub hfk
    by_cases d0 : oa_need T r k = 0
    · have e0 : nI (oa_need T r k) ≤ 0 := by rw [d0]; decide
      obtain ⟨i1, Y, i2, i3, i4, i5⟩ := ih (k + 1) e e' y (by omega) hy
      rw [nI_succ] at i1 i2
      refine ⟨?_, Y, ?_, i3, fun p h1 h2 h3 => i4 p (by have : p ≠ k := (by rintro rfl; omega); omega) h2 h3, ?_⟩
      · simp only [pi_X12_buildableTogether_66, k0, a2.2]
        simp [c1, a2.1, e0, i1]
      · simp only [iw_x5_X12_buildableTogether_66, k0, a2.2]
        simp [c1, e0, i2]
      · rcases i5 with i5 | ⟨p, h1, h2, h3, h4⟩
        · exact Or.inl i5
        · exact Or.inr ⟨p, by omega, h2, h3, h4⟩
    · have e0 : ¬ nI (oa_need T r k) ≤ 0 := nI_nle (by omega) (by omega)
      have e00 : ¬ nI (oa_need T r k) = 0 := nI_ne0 (by omega) (by omega)
      have e2 : nI (w (9 + k) - w (21 + k) - x * oa_need T q k) / nI (oa_need T r k) = nI ((w (9 + k) - w (21 + k) - x * oa_need T q k) / oa_need T r k) := pk_div (by omega) (by omega) (by omega)
      have dl : (w (9 + k) - w (21 + k) - x * oa_need T q k) / oa_need T r k ≤ w (9 + k) - w (21 + k) - x * oa_need T q k := Nat.div_le_self _ _
      have lt : (nI ((w (9 + k) - w (21 + k) - x * oa_need T q k) / oa_need T r k) < nI y) ↔ (w (9 + k) - w (21 + k) - x * oa_need T q k) / oa_need T r k < y := nI_ltI (by omega) (by omega)
      obtain ⟨i1, Y, i2, i3, i4, i5⟩ := ih (k + 1) e e' (if (w (9 + k) - w (21 + k) - x * oa_need T q k) / oa_need T r k < y then (w (9 + k) - w (21 + k) - x * oa_need T q k) / oa_need T r k else y) (by omega) (by split <;> omega)
      have ei : nI (if (w (9 + k) - w (21 + k) - x * oa_need T q k) / oa_need T r k < y then (w (9 + k) - w (21 + k) - x * oa_need T q k) / oa_need T r k else y) = if (w (9 + k) - w (21 + k) - x * oa_need T q k) / oa_need T r k < y then nI ((w (9 + k) - w (21 + k) - x * oa_need T q k) / oa_need T r k) else nI y := by split <;> rfl
      rw [nI_succ, ei] at i1 i2
      have ea : oa_tA T (fun p => w (9 + p) - w (21 + p)) q x k = w (9 + k) - w (21 + k) - x * oa_need T q k := rfl
      refine ⟨?_, Y, ?_, ?_, fun p h1 h2 h3 => ?_, ?_⟩
      · simp only [pi_X12_buildableTogether_66, k0, a1.2, a2.2, f1.2, oa_mul, e1, e2, lt]
        simp [c1, a1.1, a2.1, f1.1, e0, e00, i1]
      · simp only [iw_x5_X12_buildableTogether_66, k0, a1.2, a2.2, f1.2, oa_mul, e1, e2, lt]
        simp [c1, e0, i2]
      · split at i3 <;> omega
      · by_cases z : p = k
        · subst z
          rw [ea]
          split at i3 <;> omega
        · exact i4 p (by omega) h2 h3
      · rcases i5 with i5 | ⟨p, h1, h2, h3, h4⟩
        · by_cases z : (w (9 + k) - w (21 + k) - x * oa_need T q k) / oa_need T r k < y
          · rw [if_pos z] at i5
            exact Or.inr ⟨k, by omega, hk2, by omega, by rw [ea]; exact i5⟩
          · rw [if_neg z] at i5
            exact Or.inl i5
        · exact Or.inr ⟨p, by omega, h2, h3, h4⟩
/-- the inner loop comes to y x -/
theorem m_togY {x : Nat} {x3 : Int32} (hn : n ≤ 512) (J : IT T) (R : RM hm T w) (I : IW T w n) (hq : q < T 1) (hr : r < T 1) (hf : ∀ p, p < T 0 → x * oa_need T q p ≤ w (9 + p) - w (21 + p)) :
    pi_X12_buildableTogether_66 oa_N hm (nI q) (nI r) x3 (nI x) (nI (oa_most T (fun p => w (9 + p) - w (21 + p)) r)) 0 ∧ iw_x5_X12_buildableTogether_66 oa_N hm (nI q) (nI r) x3 (nI x) (nI (oa_most T (fun p => w (9 + p) - w (21 + p)) r)) 0 = nI (oa_ty T (fun p => w (9 + p) - w (21 + p)) q r x) := by
  have bT := J.1
  obtain ⟨e, he⟩ := oa_fuel (show T 0 < 1000000 by omega)
  obtain ⟨m1, p0, hp0, hn0, m2⟩ := oa_most_ok J hr (fun p => w (9 + p) - w (21 + p))
  have ml : oa_most T (fun p => w (9 + p) - w (21 + p)) r < 1000000 := by
    have i := (I.2.1 p0 (by omega)).1
    have := Nat.div_le_self (w (9 + p0) - w (21 + p0)) (oa_need T r p0)
    rw [m2]
    show (w (9 + p0) - w (21 + p0)) / oa_need T r p0 < 1000000
    omega
  obtain ⟨i1, Y, i2, i3, i4, i5⟩ := m_togI (x3 := x3) hn J R I hq hr hf (T 0) 0 e e (oa_most T (fun p => w (9 + p) - w (21 + p)) r) (by omega) ml
  rw [← he, nI_0] at i1 i2
  refine ⟨i1, ?_⟩
  rw [i2]
  congr 1
  obtain ⟨l, -, l1, l2, l3, l4⟩ := oa_tL_some (F := fun p => w (9 + p) - w (21 + p)) (q := q) J hr x
  rw [l4]
  apply Nat.le_antisymm
  · exact i4 l (by omega) l1 l2
  · rcases i5 with i5 | ⟨p, -, h2, h3, h4⟩
    · rw [i5, m2]
      refine Nat.le_trans (oa_div_le l2 hn0 (l3 p0 hp0 hn0)) (Nat.div_le_div_right ?_)
      exact Nat.sub_le _ _
    · rw [h4]
      exact oa_div_le l2 h3 (l3 p h2 h3)
theorem oa_ty_le {x : Nat} (hn : n ≤ 512) (J : IT T) (I : IW T w n) (hr : r < T 1) : oa_ty T (fun p => w (9 + p) - w (21 + p)) q r x < 1000000 := by
  have bT := J.1
  obtain ⟨l, -, l1, l2, -, l4⟩ := oa_tL_some (F := fun p => w (9 + p) - w (21 + p)) (q := q) J hr x
  have i := (I.2.1 l (by omega)).1
  have := Nat.div_le_self (oa_tA T (fun p => w (9 + p) - w (21 + p)) q x l) (oa_need T r l)
  have e : oa_tA T (fun p => w (9 + p) - w (21 + p)) q x l ≤ w (9 + l) - w (21 + l) := Nat.sub_le _ _
  omega
theorem m_tog {top : Nat} (hn : n ≤ 512) (J : IT T) (R : RM hm T w) (I : IW T w n) (hq : q < T 1) (hr : r < T 1) (ht : top = oa_most T (fun p => w (9 + p) - w (21 + p)) q) : ∀ (m k e b : Nat), k + m = top + 1 → b < 2000000 →
    pw_X12_buildableTogether_46 (m + 1 + e) hm (nI q) (nI r) (nI b) (nI k) ∧ ∃ B, fw_X12_buildableTogether_46 (m + 1 + e) hm (nI q) (nI r) (nI b) (nI k) = nI B ∧ b ≤ B ∧ (∀ x, k ≤ x → x ≤ top → oa_tS T (fun p => w (9 + p) - w (21 + p)) q r x ≤ B) ∧ (B = b ∨ ∃ x, x ≤ top ∧ B = oa_tS T (fun p => w (9 + p) - w (21 + p)) q r x) := by
  have b1 := m_builds hn J R I hq
  have b2 := m_builds hn J R I hr
  rw [← ht] at b1
  have bT := J.1
  have tl : top < 1000000 := by
    obtain ⟨-, p0, hp0, hn0, m2⟩ := oa_most_ok J hq (fun p => w (9 + p) - w (21 + p))
    have i := (I.2.1 p0 (by omega)).1
    have := Nat.div_le_self (w (9 + p0) - w (21 + p0)) (oa_need T q p0)
    rw [ht, m2]
    show (w (9 + p0) - w (21 + p0)) / oa_need T q p0 < 1000000
    omega
  have fit := (oa_most_fit (u := top) J hq (fun p => w (9 + p) - w (21 + p))).mp (by omega)
  intro m
  induction m with
  | zero =>
    intro k e b hk hb
    rw [show 0 + 1 + e = e + 1 by omega]
    have c1 : nI top < nI k := nI_lt (by omega) (by omega)
    refine ⟨?_, b, ?_, Nat.le_refl _, fun p h1 h2 => by omega, Or.inl rfl⟩
    · simp [pw_X12_buildableTogether_46, b1, c1]
    · simp [fw_X12_buildableTogether_46, b1, c1]
  | succ m ih =>
    intro k e b hk hb
    rw [show m + 1 + 1 + e = (m + 1 + e) + 1 by omega]
    have c1 : ¬ nI top < nI k := nI_nlt (by omega) (by omega)
    have hk2 : k ≤ top := by omega
    have fk : ∀ p, p < T 0 → k * oa_need T q p ≤ w (9 + p) - w (21 + p) := fun p hp => Nat.le_trans (Nat.mul_le_mul_right _ hk2) (fit p hp)
    have y1 := m_togY (x3 := nI b) hn J R I hq hr fk
    have yl := oa_ty_le (x := k) (q := q) hn J I hr
    have es : nI k + nI (oa_ty T (fun p => w (9 + p) - w (21 + p)) q r k) = nI (oa_tS T (fun p => w (9 + p) - w (21 + p)) q r k) := nI_add _ _
    have sl : oa_tS T (fun p => w (9 + p) - w (21 + p)) q r k < 2000000 := by unfold oa_tS; omega
    have lt : (nI b < nI (oa_tS T (fun p => w (9 + p) - w (21 + p)) q r k)) ↔ b < oa_tS T (fun p => w (9 + p) - w (21 + p)) q r k := nI_ltI (by omega) (by omega)
    obtain ⟨i1, B, i2, i3, i4, i5⟩ := ih (k + 1) e (if b < oa_tS T (fun p => w (9 + p) - w (21 + p)) q r k then oa_tS T (fun p => w (9 + p) - w (21 + p)) q r k else b) (by omega) (by split <;> omega)
    have ei : nI (if b < oa_tS T (fun p => w (9 + p) - w (21 + p)) q r k then oa_tS T (fun p => w (9 + p) - w (21 + p)) q r k else b) = if b < oa_tS T (fun p => w (9 + p) - w (21 + p)) q r k then nI (oa_tS T (fun p => w (9 + p) - w (21 + p)) q r k) else nI b := by split <;> rfl
    rw [nI_succ, ei] at i1 i2
    refine ⟨?_, B, ?_, ?_, fun x h1 h2 => ?_, ?_⟩
    · simp only [pw_X12_buildableTogether_46, b1.2, b2.2, y1.2, es, lt]
      simp [c1, b1.1, b2.1, y1.1, i1]
    · simp only [fw_X12_buildableTogether_46, b1.2, b2.2, y1.2, es, lt]
      simp [c1, i2]
    · split at i3 <;> omega
    · by_cases z : x = k
      · subst z
        split at i3 <;> omega
      · exact i4 x (by omega) h2
    · rcases i5 with i5 | ⟨x, h1, h2⟩
      · by_cases z : b < oa_tS T (fun p => w (9 + p) - w (21 + p)) q r k
        · rw [if_pos z] at i5
          exact Or.inr ⟨k, hk2, i5⟩
        · rw [if_neg z] at i5
          exact Or.inl i5
      · exact Or.inr ⟨x, h1, h2⟩
theorem q_buildableTogether (hn : n ≤ 512) (B : RB h hm T w n) (a b : Int32) : p_X11_buildableTogether h a b ∧ p_X12_buildableTogether hm a b ∧ QB (x_X11_buildableTogether h a b) (f_X11_buildableTogether h a b) (f_X12_buildableTogether hm a b) (g_X12_buildableTogether hm a b) hm [(1, 1), (2, 2)] := by
  obtain ⟨p1, p2, k⟩ := kk_product B a
  obtain ⟨p3, p4, k2⟩ := kk_product B b
  obtain ⟨J, I, R, C, G⟩ := B
  have bT := J.1
  unfold p_X11_buildableTogether p_X12_buildableTogether x_X11_buildableTogether f_X11_buildableTogether f_X12_buildableTogether g_X12_buildableTogether QB
  rcases k with ⟨q, hq, rfl, x1, f1, g1⟩ | ⟨x1, f1, g1⟩
  · rcases k2 with ⟨r, hr, rfl, x2, f2, g2⟩ | ⟨x2, f2, g2⟩
    · by_cases d : nI q = nI r
      · simp [p1, p2, p3, p4, x1, f1, g1, x2, f2, g2, d, p_X11_checkArgument, x_X11_checkArgument, p_X12_throwsIf, f_X12_throwsIf, g_X12_throwsIf]
      · have fl := a_fillFree (t1 := 53) (i1 := 0) (Or.inl rfl) I G
        have C1 : RC (g_X10_fillFree h (h.2.2 11 0 7) 53 0 12) (h.2.2 11 0 6) T := C.same (fun t ht i => fr_X10_fillFree (by omega)) gl_X10_fillFree
        have gr := gr_X10_fillFree (h := h) (i0 := h.2.2 11 0 7) (t1 := 53) (i1 := 0) (n1 := 12)
        obtain ⟨a1, s, a2, a3, a4⟩ := a_together (F := fun p => w (9 + p) - w (21 + p)) J C1 hq hr (fun p hp => ⟨fl.2 p hp, by have := (I.2.1 p hp).1; show w (9 + p) - w (21 + p) < 1000000; omega⟩)
        have tl : oa_most T (fun p => w (9 + p) - w (21 + p)) q < 999999 := by
          obtain ⟨-, p0, hp0, hn0, m2⟩ := oa_most_ok J hq (fun p => w (9 + p) - w (21 + p))
          have i := (I.2.1 p0 (by omega)).1
          have := Nat.div_le_self (w (9 + p0) - w (21 + p0)) (oa_need T q p0)
          rw [m2]
          show (w (9 + p0) - w (21 + p0)) / oa_need T q p0 < 999999
          omega
        obtain ⟨e, he⟩ := oa_fuel (show oa_most T (fun p => w (9 + p) - w (21 + p)) q + 1 < 1000000 by omega)
        obtain ⟨m1, Bm, m2, m3, m4, m5⟩ := m_tog (hm := hp_i hm 12 0 0 0) hn J R I hq hr rfl (oa_most T (fun p => w (9 + p) - w (21 + p)) q + 1) 0 e 0 (by omega) (by omega)
        rw [← he, nI_0] at m1 m2
        have eq : oa_tS T (fun p => w (9 + p) - w (21 + p)) q r s = Bm := by
          apply Nat.le_antisymm
          · exact m4 s (by omega) a3
          · rcases m5 with m5 | ⟨x, h1, h2⟩
            · omega
            · rw [h2]; exact a4 x h1
        rw [eq] at a2
        simp [p1, p2, p3, p4, x1, f1, g1, x2, f2, g2, d, p_X11_checkArgument, x_X11_checkArgument, p_X12_throwsIf, f_X12_throwsIf, g_X12_throwsIf, fl.1, gr, a1, a2, m1, m2, id_gw_X12_buildableTogether_46]
    · simp [p1, p2, p3, p4, x1, f1, g1, x2, f2, g2]
  · simp [p1, p2, x1, f1, g1]
end QAG
