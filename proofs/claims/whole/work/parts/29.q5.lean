section PU
variable {h hm : Hp} {L : Nat} {T w : Nat → Nat} {n : Nat}
theorem a_lines {q : Nat} (J : IT T) (C : RC h L T) (hq : q < T 1) : p_X1_linesOf h L (nI q) ∧ f_X1_linesOf h L (nI q) = nI (T (188 + q)) := by
  have b := J.1
  have c1 : ¬ nI q < 0 := nI_pos (by omega)
  have c2 : ¬ nI (T 1) ≤ nI q := nI_ge hq (by omega)
  have v1 : vp_in (nI q) 8 := vp_in_nI (by omega) (by omega)
  have r2 := C.2.2.1 q hq
  have k1 := C.1.2.1
  refine ⟨?_, ?_⟩
  · simp [p_X1_linesOf, f_X11_isInside, p_X11_isInside, k1, c1, c2, v1]
  · simp [f_X1_linesOf, f_X11_isInside, k1, c1, c2, r2, nI_clamp (show q < 2 ^ 31 by omega)]
theorem q_lineItem (B : RB h hm T w n) (a b : Int32) : p_X11_lineItem h a b ∧ p_X12_lineItem hm a b ∧ QA (x_X11_lineItem h a b) (f_X11_lineItem h a b) (f_X12_lineItem hm a b) (g_X12_lineItem hm a b) hm := by
  obtain ⟨p1, p2, k⟩ := kk_product B a
  obtain ⟨J, I, R, C, G⟩ := B
  have bT := J.1
  unfold p_X11_lineItem p_X12_lineItem x_X11_lineItem f_X11_lineItem f_X12_lineItem g_X12_lineItem QA
  rcases k with ⟨q, hq, rfl, x1, f1, g1⟩ | ⟨x1, f1, g1⟩
  · have jl := J.2.2.1 q hq
    have e : (188 : Int32) + nI q = nI (188 + q) := nI_add 188 q
    have v2 : vp_in (nI (188 + q)) 506 := vp_in_nI (by omega) (by omega)
    have r1 : (hp_i hm 12 0 0 0).1 56 0 (188 + q) = nI (T (188 + q)) := R.1 _ (by omega)
    have v1 : vp_in (nI q) 8 := vp_in_nI (by omega) (by omega)
    have al := a_lines J C hq
    have ki := k_inside h b (T (188 + q)) (by omega)
    have km := k_in (hp_i hm 12 0 0 0) b (T (188 + q)) (by omega)
    rcases ki.2 with ⟨l, hl, rfl, i1⟩ | ⟨c, i1⟩
    · rcases km.2 with ⟨l', -, -, i2⟩ | ⟨c, -⟩
      · have e3 : (196 : Int32) + 6 * nI q + nI l = nI (196 + 6 * q + l) := oa_ix3 196 6 q l
        have v3 : vp_in (nI (196 + 6 * q + l)) 506 := vp_in_nI (by omega) (by omega)
        have v4 : vp_in (nI l) 6 := vp_in_nI (by omega) (by omega)
        have r3 : (hp_i hm 12 0 0 0).1 56 0 (196 + 6 * q + l) = nI (T (196 + 6 * q + l)) := R.1 _ (by omega)
        have c3 := (C.2.2.2.1 q l hq hl).1
        have j3 := J.2.2.2.1 q l hq hl
        have e4 : (12 ≤ nI (T (196 + 6 * q + l))) ↔ 12 ≤ T (196 + 6 * q + l) := nI_leI (a := 12) (by omega) (by omega)
        by_cases c5 : T (196 + 6 * q + l) < 12
        · have c6 : ¬ 12 ≤ T (196 + 6 * q + l) := by omega
          simp [p1, p2, x1, f1, g1, e, v1, v2, v3, v4, r1, r3, al, ki.1, km.1, i1, i2, e3, p_X1_itemOf, f_X1_itemOf, c3, c5, c6, e4, nI_clamp (show 188 + q < 2 ^ 31 by omega), nI_clamp (show q < 2 ^ 31 by omega), nI_clamp (show l < 2 ^ 31 by omega), nI_clamp (show 196 + 6 * q + l < 2 ^ 31 by omega)]
        · have c6 : 12 ≤ T (196 + 6 * q + l) := by omega
          have e5 : (100 : Int32) + nI (T (196 + 6 * q + l)) - 12 = nI (T (196 + 6 * q + l) + 88) := by
            have q1 : (100 : Int32) + nI (T (196 + 6 * q + l)) = nI (100 + T (196 + 6 * q + l)) := nI_add 100 _
            have q2 : nI (100 + T (196 + 6 * q + l)) - 12 = nI (100 + T (196 + 6 * q + l) - 12) := oa_sub (b := 12) (by omega)
            rw [q1, q2]
            congr 1
            omega
          simp [p1, p2, x1, f1, g1, e, v1, v2, v3, v4, r1, r3, al, ki.1, km.1, i1, i2, e3, e5, p_X1_itemOf, f_X1_itemOf, c3, c5, c6, e4, nI_clamp (show 188 + q < 2 ^ 31 by omega), nI_clamp (show q < 2 ^ 31 by omega), nI_clamp (show l < 2 ^ 31 by omega), nI_clamp (show 196 + 6 * q + l < 2 ^ 31 by omega)]
      · exact (oa_excl (by omega) hl c).elim
    · rcases km.2 with ⟨l', hl', rfl, -⟩ | ⟨-, i2⟩
      · exact (oa_excl (by omega) hl' c).elim
      · simp [p1, p2, x1, f1, g1, e, v1, v2, r1, al, ki.1, km.1, i1, i2, p_X1_itemOf, f_X1_itemOf, nI_clamp (show 188 + q < 2 ^ 31 by omega)]
  · simp [p1, p2, x1, f1, g1]
theorem l_next {p : Nat} (J : IT T) (R : RM hm T w) (G : RG h L w) (I : IW T w n) (hp : p < 12) : ∀ (m k : Nat) (x : Int32) (e e' : Nat), k + m = w 2 →
    pw_X10_earliestArrival_4 (m + 1 + e) h L (nI p) x (nI k) ∧ pw_X12_nextArrival_19 (m + 1 + e') hm (nI p) x (nI k) ∧ fw_X10_earliestArrival_4 (m + 1 + e) h L (nI p) x (nI k) = fw_X12_nextArrival_19 (m + 1 + e') hm (nI p) x (nI k) := by
  have hw := I.1.2.2.1
  have r0 : hm.1 58 0 2 = nI (w 2) := R.2 2 (by omega) (by omega)
  intro m
  induction m with
  | zero =>
    intro k x e e' hk
    rw [show 0 + 1 + e = e + 1 by omega, show 0 + 1 + e' = e' + 1 by omega]
    have c1 : nI (w 2) ≤ nI k := nI_le (by omega) (by omega)
    simp [pw_X10_earliestArrival_4, pw_X12_nextArrival_19, fw_X10_earliestArrival_4, fw_X12_nextArrival_19, G.1.2.2, r0, c1]
  | succ m ih =>
    intro k x e e' hk
    rw [show m + 1 + 1 + e = (m + 1 + e) + 1 by omega, show m + 1 + 1 + e' = (m + 1 + e') + 1 by omega]
    have c1 : ¬ nI (w 2) ≤ nI k := nI_ge (by omega) (by omega)
    have kv : vp_in (nI k) 20 := vp_in_nI (by omega) (by omega)
    have ih' := fun x => ih (k + 1) x e e' (by omega)
    simp only [nI_succ] at ih'
    obtain ⟨⟨v0, v1, v2⟩, r1, r2, r3⟩ := m_arrival R I (show k < w 2 by omega)
    obtain ⟨s1, s2, s3⟩ := G.2.2.1 k (by omega)
    simp only [pw_X10_earliestArrival_4, pw_X12_nextArrival_19, fw_X10_earliestArrival_4, fw_X12_nextArrival_19, G.1.2.2, r0, r1, r3, s1, s3, nI_clamp (show k < 2 ^ 31 by omega)]
    by_cases c2 : nI (w (33 + 3 * k)) = nI p
    · by_cases c3 : x = -1
      · simp [c1, c2, c3, kv, v0, v1, v2, ih']
      · by_cases c4 : x ≤ nI (w (33 + 3 * k + 2))
        · simp [c1, c2, c3, c4, kv, v0, v1, v2, ih']
        · simp [c1, c2, c3, c4, kv, v0, v1, v2, ih']
    · simp [c1, c2, kv, v0, v1, v2, ih']
theorem q_nextArrival (B : RB h hm T w n) (a : Int32) : p_X11_nextArrival h a ∧ p_X12_nextArrival hm a ∧ QA (x_X11_nextArrival h a) (f_X11_nextArrival h a) (f_X12_nextArrival hm a) (g_X12_nextArrival hm a) hm := by
  obtain ⟨p1, p2, k⟩ := kk_part B a
  obtain ⟨J, I, R, C, G⟩ := B
  have b := J.1
  obtain ⟨e, he⟩ := oa_fuel (show w 2 < 1000000 by have := I.1.2.2.1; omega)
  unfold p_X11_nextArrival p_X12_nextArrival x_X11_nextArrival f_X11_nextArrival f_X12_nextArrival g_X12_nextArrival QA
  rcases k with ⟨q, hq, rfl, x1, f1, g1⟩ | ⟨x1, f1, g1⟩
  · have l := l_next (hm := hp_i hm 12 0 0 0) J R G I (show q < 12 by omega) (w 2) 0 (-1) e e (by omega)
    rw [← he, nI_0] at l
    simp [p1, p2, x1, f1, g1, l, id_gw_X12_nextArrival_19, p_X10_earliestArrival, f_X10_earliestArrival]
  · simp [p1, p2, x1, f1, g1]
end PU
