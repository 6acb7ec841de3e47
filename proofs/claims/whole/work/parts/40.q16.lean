section PZF
variable {h hm : Hp} {c L : Nat} {T w F : Nat → Nat} {n : Nat}
/-- a call that asks, with several throws: class code x, the law's code z -/
def QB (x : Nat) (f fm : Int32) (g hm : Hp) (cs : List (Nat × Int32)) : Prop := (x = 0 ∧ f = fm ∧ g = hp_i hm 12 0 0 0) ∨ ∃ z, (x, z) ∈ cs ∧ g = hp_i (hp_i hm 12 0 0 0) 12 0 0 z
theorem a_takePieces {t1 i1 q u : Nat} (ht : t1 = 53 ∨ t1 = 13 ∨ t1 = 14) (J : IT T) (C : RC h c T) (hq : q < T 1) : p_X1_takePieces h c (nI q) (nI u) t1 i1 12 ∧ (∀ p, p < T 0 → (g_X1_takePieces h c (nI q) (nI u) t1 i1 12).1 t1 i1 p = h.1 t1 i1 p - nI (u * oa_need T q p)) ∧ (∀ p, T 0 ≤ p → (g_X1_takePieces h c (nI q) (nI u) t1 i1 12).1 t1 i1 p = h.1 t1 i1 p) := by
  obtain ⟨e, he⟩ := oa_fuel (show T 0 < 1000000 by have := J.1.1; omega)
  have a := a_take (u := u) (i1 := i1) ht J hq (T 0) 0 e h C (by omega)
  rw [← he, nI_0] at a
  exact ⟨a.1, fun p hp => a.2.1 p (by omega) hp, fun p hp => a.2.2 p (Or.inr hp)⟩
theorem q_buildableAfter (hn : n ≤ 512) (B : RB h hm T w n) (a b u : Int32) : p_X11_buildableAfter h a b u ∧ p_X12_buildableAfter hm a b u ∧ QB (x_X11_buildableAfter h a b u) (f_X11_buildableAfter h a b u) (f_X12_buildableAfter hm a b u) (g_X12_buildableAfter hm a b u) hm [(1, 1), (2, 2)] := by
  obtain ⟨p1, p2, k⟩ := kk_product B a
  obtain ⟨p3, p4, k2⟩ := kk_product B b
  obtain ⟨J, I, R, C, G⟩ := B
  have bT := J.1
  unfold p_X11_buildableAfter p_X12_buildableAfter x_X11_buildableAfter f_X11_buildableAfter f_X12_buildableAfter g_X12_buildableAfter QB
  rcases k with ⟨q, hq, rfl, x1, f1, g1⟩ | ⟨x1, f1, g1⟩
  · rcases k2 with ⟨q2, hq2, rfl, x2, f2, g2⟩ | ⟨x2, f2, g2⟩
    · by_cases d : nI q = nI q2
      · simp [p1, p2, p3, p4, x1, f1, g1, x2, f2, g2, d, p_X11_checkArgument, x_X11_checkArgument, p_X12_throwsIf, f_X12_throwsIf, g_X12_throwsIf]
      · by_cases r : u < 0 ∨ 999 < u
        · have ca : (if u < 0 then (0 : Int32) else if 999 < u then 0 else 1) = 0 := by grind
          have cm : f_X12_in (hp_i hm 12 0 0 0) u 0 999 = 0 := by unfold f_X12_in; grind
          have cp : p_X12_in (hp_i hm 12 0 0 0) u 0 999 := by unfold p_X12_in; grind
          simp [p1, p2, p3, p4, x1, f1, g1, x2, f2, g2, d, ca, cm, cp, p_X11_checkArgument, x_X11_checkArgument, p_X12_throwsIf, f_X12_throwsIf, g_X12_throwsIf]
        · obtain ⟨v, hv, rfl⟩ : ∃ v, v ≤ 999 ∧ u = nI v := by
            rcases oa_rng u 1000 (by decide) with ⟨v, hv, rfl⟩ | z
            · exact ⟨v, by omega, rfl⟩
            · exfalso
              have : nI 1000 = 1000 := rfl
              rw [this] at z
              grind
          have ca : (if nI v < 0 then (0 : Int32) else if 999 < nI v then 0 else 1) = 1 := by grind
          have cm : f_X12_in (hp_i hm 12 0 0 0) (nI v) 0 999 = 1 := by unfold f_X12_in; grind
          have cp : p_X12_in (hp_i hm 12 0 0 0) (nI v) 0 999 := by unfold p_X12_in; grind
          have fl := a_fillFree (t1 := 53) (i1 := 0) (Or.inl rfl) I G
          have C1 : RC (g_X10_fillFree h (h.2.2 11 0 7) 53 0 12) (h.2.2 11 0 6) T := C.same (fun t ht i => fr_X10_fillFree (by omega)) gl_X10_fillFree
          have am := a_most (F := fun p => w (9 + p) - w (21 + p)) J C1 hq2 (fun p hp => ⟨fl.2 p hp, by have := (I.2.1 p hp).1; show w (9 + p) - w (21 + p) < 1000000; omega⟩)
          have mm := m_builds (hm := hp_i hm 12 0 0 0) hn J R I hq
          have gr := gr_X10_fillFree (h := h) (i0 := h.2.2 11 0 7) (t1 := 53) (i1 := 0) (n1 := 12)
          have tk := a_takePieces (h := g_X10_fillFree h (h.2.2 11 0 7) 53 0 12) (t1 := 53) (i1 := 0) (u := v) (Or.inl rfl) J C1 hq2
          have gr2 := gr_X1_takePieces (h := g_X10_fillFree h (h.2.2 11 0 7) 53 0 12) (i0 := h.2.2 11 0 6) (a1 := nI q2) (a2 := nI v) (t3 := 53) (i3 := 0) (n3 := 12)
          have C2 : RC (g_X1_takePieces (g_X10_fillFree h (h.2.2 11 0 7) 53 0 12) (h.2.2 11 0 6) (nI q2) (nI v) 53 0 12) (h.2.2 11 0 6) T := C1.same (fun t ht i => fr_X1_takePieces (by omega)) gl_X1_takePieces
          have ml : oa_most T (fun p => w (9 + p) - w (21 + p)) q < 1000000 := by
            obtain ⟨-, p, hp, -, e⟩ := oa_most_ok J hq (fun p => w (9 + p) - w (21 + p))
            have i := (I.2.1 p (by omega)).1
            have := Nat.div_le_self (w (9 + p) - w (21 + p)) (oa_need T q p)
            rw [e]
            show (w (9 + p) - w (21 + p)) / oa_need T q p < 1000000
            omega
          have ml2 : oa_most T (fun p => w (9 + p) - w (21 + p)) q2 < 1000000 := by
            obtain ⟨-, p, hp, -, e⟩ := oa_most_ok J hq2 (fun p => w (9 + p) - w (21 + p))
            have i := (I.2.1 p (by omega)).1
            have := Nat.div_le_self (w (9 + p) - w (21 + p)) (oa_need T q2 p)
            rw [e]
            show (w (9 + p) - w (21 + p)) / oa_need T q2 p < 1000000
            omega
          obtain ⟨e, he⟩ := oa_fuel (show T 0 < 1000000 by omega)
          have ma := m_after (hm := hp_i hm 12 0 0 0) hn J R I hq hq2 hv (T 0) 0 e _ (by omega) ml
          rw [← he, nI_0] at ma
          have le : (nI v ≤ nI (oa_most T (fun p => w (9 + p) - w (21 + p)) q2)) ↔ v ≤ oa_most T (fun p => w (9 + p) - w (21 + p)) q2 := nI_leI (by omega) (by omega)
          have ae := oa_after_eq (u := v) J hq hq2 (fun p => w (9 + p) - w (21 + p)) (fun p => if p < T 0 then w (9 + p) - w (21 + p) - v * oa_need T q2 p else w (9 + p) - w (21 + p)) (fun p hp => by simp only [hp, if_true])
          rw [ae] at ma
          by_cases fit : v ≤ oa_most T (fun p => w (9 + p) - w (21 + p)) q2
          · have ff := (oa_most_fit J hq2 (fun p => w (9 + p) - w (21 + p))).mp fit
            have am2 := a_most (F := fun p => if p < T 0 then w (9 + p) - w (21 + p) - v * oa_need T q2 p else w (9 + p) - w (21 + p)) J C2 hq (fun p hp => by
              have i := (I.2.1 p hp).1
              by_cases z : p < T 0
              · simp only [z, if_true]
                rw [tk.2.1 p z, fl.2 p hp, oa_sub (ff p z)]
                exact ⟨rfl, by omega⟩
              · simp only [z, if_false]
                rw [tk.2.2 p (by omega), fl.2 p hp]
                exact ⟨rfl, by omega⟩)
            simp [p1, p2, p3, p4, x1, f1, g1, x2, f2, g2, d, ca, cm, cp, p_X11_checkArgument, x_X11_checkArgument, p_X12_throwsIf, f_X12_throwsIf, g_X12_throwsIf, fl.1, gr, gr2, am, mm, ma, le, fit, tk.1, am2, oa_oi, id_gw_X12_buildableAfter_62]
          · simp [p1, p2, p3, p4, x1, f1, g1, x2, f2, g2, d, ca, cm, cp, p_X11_checkArgument, x_X11_checkArgument, p_X12_throwsIf, f_X12_throwsIf, g_X12_throwsIf, fl.1, gr, am, mm, ma, le, fit, oa_oi, id_gw_X12_buildableAfter_62]
    · simp [p1, p2, p3, p4, x1, f1, g1, x2, f2, g2]
  · simp [p1, p2, x1, f1, g1]
end PZF
