/-- a call with throws: class code x and answer f, the model's answer fm and heap gm; cs: class code, the law's code -/
def ZT (x : Nat) (f fm : Int32) (gm : Hp) (cs : List (Nat × Int32)) : Prop := (x = 0 ∧ f = fm ∧ gm.1 12 0 0 = 0) ∨ ∃ z, (x, z) ∈ cs ∧ gm.1 12 0 0 = z
section QAP
variable {h hm : Hp} {c L : Nat} {T w : Nat → Nat} {n : Nat}
theorem k_checkRung (J : IT T) (R : RM hm T w) (C : RC h (h.2.2 11 0 6) T) (a : Int32) : p_X11_checkRung h a ∧ p_X12_in (hp_i hm 12 0 0 0) a 0 (nI (T 2) - 1) ∧ ((∃ r, r < T 2 ∧ a = nI r ∧ x_X11_checkRung h a = 0 ∧ f_X12_in (hp_i hm 12 0 0 0) a 0 (nI (T 2) - 1) = 1) ∨ (x_X11_checkRung h a = 1 ∧ f_X12_in (hp_i hm 12 0 0 0) a 0 (nI (T 2) - 1) = 0)) := by
  have b := J.1
  have k := k_inside h a (T 2) (by omega)
  have k2 := k_in (hp_i hm 12 0 0 0) a (T 2) (by omega)
  unfold p_X11_checkRung x_X11_checkRung
  rw [C.1.2.2]
  refine ⟨⟨k.1, by grind⟩, k2.1, ?_⟩
  rcases k.2 with ⟨q, h1, rfl, h3⟩ | ⟨h1, h2⟩
  · rcases k2.2 with ⟨q', -, -, i2⟩ | ⟨z, -⟩
    · exact Or.inl ⟨q, h1, rfl, by rw [h3]; decide, i2⟩
    · exact (oa_excl (by omega) h1 z).elim
  · rcases k2.2 with ⟨q', hq', rfl, -⟩ | ⟨-, i2⟩
    · exact (oa_excl (by omega) hq' h1).elim
    · exact Or.inr ⟨by rw [h2]; decide, i2⟩
/-- what an allocation leaves -/
theorem RA.tried (hn : n ≤ 512) (A : RA h hm n) : RA (g_X0_tryOut h (h.2.2 11 0 6) (h.2.2 11 0 7)) (g_X12_triesAll (hp_i hm 12 0 0 0)) n := by
  obtain ⟨T, w, ⟨J, I, R, C, G⟩, -⟩ := id A
  obtain ⟨-, -, lf, gt, fr, gv, -, -, -, -, s5, -⟩ := s_tries (hm := hp_i hm 12 0 0 0) hn J I R C G
  refine A.same (fun t ht i => ?_) gl_X0_tryOut gr_X0_tryOut (fun t ht => ?_) (fun k hk => ?_)
  · unfold CS at ht
    exact fr_X0_tryOut (by omega) (by omega) (by omega) (by omega) (by omega) (by omega)
  · have := ht.thr (hm := hm) (x := 0)
    unfold MS at ht
    rw [fr_X12_triesAll (by omega) (by omega) (by omega) (by omega) (by omega) (by omega)]
    exact this
  · have := hk.thr (hm := hm) (x := 0)
    unfold MK at hk
    rw [s5 k (by omega)]
    exact this
theorem z_wouldGet (hn : n ≤ 512) (A : RA h hm n) (a : Int32) : p_X11_wouldGet h a ∧ p_X12_wouldGet hm a ∧ ZT (x_X11_wouldGet h a) (f_X11_wouldGet h a) (f_X12_wouldGet hm a) (g_X12_wouldGet hm a) [(1, 1)] ∧ RA (g_X11_wouldGet h a) (g_X12_wouldGet hm a) n := by
  have At := A.tried hn
  have Ah := A.thr (x := 0)
  obtain ⟨T, w, B, -⟩ := id A
  obtain ⟨p1, p2, k⟩ := kk_order B a
  obtain ⟨J, I, R, C, G⟩ := B
  have hw := I.1
  unfold p_X11_wouldGet p_X12_wouldGet x_X11_wouldGet f_X11_wouldGet f_X12_wouldGet g_X11_wouldGet g_X12_wouldGet ZT
  rcases k with ⟨o, ho, rfl, x1, f1, g1⟩ | ⟨x1, f1, g1⟩
  · obtain ⟨t1, t2, lf, gt, fr, gv, s1, s2, s3, s4, s5, -⟩ := s_tries (hm := hp_i hm 12 0 0 0) hn J I R C G
    have in1 := a_inside (g_X0_tryOut h (h.2.2 11 0 6) (h.2.2 11 0 7)) (show o < 20 by omega) (by omega)
    have e20 : nI 20 = 20 := rfl
    rw [e20] at in1
    have vo : vp_in (nI o) 20 := vp_in_nI (by omega) (by omega)
    have z0 := s5 0 (by omega)
    have z1 : (hp_i hm 12 0 0 0).1 12 0 0 = 0 := rfl
    rw [z1] at z0
    simp [p1, p2, x1, f1, g1, t1, t2, vo, p_X0_grantOf, f_X0_grantOf, in1, nI_clamp (show o < 2 ^ 31 by omega), s1 o (by omega), s3 o (by omega), z0, At]
  · have z1 : (hp_i (hp_i hm 12 0 0 0) 12 0 0 1).1 12 0 0 = 1 := rfl
    simp [p1, p2, x1, f1, g1, z1]
    exact Ah.thr
theorem z_rungOf (hn : n ≤ 512) (A : RA h hm n) (a : Int32) : p_X11_rungOf h a ∧ p_X12_rungOf hm a ∧ ZT (x_X11_rungOf h a) (f_X11_rungOf h a) (f_X12_rungOf hm a) (g_X12_rungOf hm a) [(1, 1)] ∧ RA (g_X11_rungOf h a) (g_X12_rungOf hm a) n := by
  have At := A.tried hn
  have Ah := A.thr (x := 0)
  obtain ⟨T, w, B, -⟩ := id A
  obtain ⟨p1, p2, k⟩ := kk_order B a
  obtain ⟨J, I, R, C, G⟩ := B
  have hw := I.1
  unfold p_X11_rungOf p_X12_rungOf x_X11_rungOf f_X11_rungOf f_X12_rungOf g_X11_rungOf g_X12_rungOf ZT
  rcases k with ⟨o, ho, rfl, x1, f1, g1⟩ | ⟨x1, f1, g1⟩
  · obtain ⟨t1, t2, lf, gt, fr, gv, s1, s2, s3, s4, s5, -⟩ := s_tries (hm := hp_i hm 12 0 0 0) hn J I R C G
    have in1 := a_inside (g_X0_tryOut h (h.2.2 11 0 6) (h.2.2 11 0 7)) (show o < 20 by omega) (by omega)
    have e20 : nI 20 = 20 := rfl
    rw [e20] at in1
    have vo : vp_in (nI o) 20 := vp_in_nI (by omega) (by omega)
    have z0 := s5 0 (by omega)
    have z1 : (hp_i hm 12 0 0 0).1 12 0 0 = 0 := rfl
    rw [z1] at z0
    simp [p1, p2, x1, f1, g1, t1, t2, vo, p_X0_firstRungOf, f_X0_firstRungOf, in1, nI_clamp (show o < 2 ^ 31 by omega), s1 o (by omega), s3 o (by omega), z0, At]
  · have z1 : (hp_i (hp_i hm 12 0 0 0) 12 0 0 1).1 12 0 0 = 1 := rfl
    simp [p1, p2, x1, f1, g1, z1]
    exact Ah.thr
theorem z_rungUnits (hn : n ≤ 512) (A : RA h hm n) (a : Int32) : p_X11_rungUnits h a ∧ p_X12_rungUnits hm a ∧ ZT (x_X11_rungUnits h a) (f_X11_rungUnits h a) (f_X12_rungUnits hm a) (g_X12_rungUnits hm a) [(1, 1)] ∧ RA (g_X11_rungUnits h a) (g_X12_rungUnits hm a) n := by
  have At := A.tried hn
  have Ah := A.thr (x := 0)
  obtain ⟨T, w, ⟨J, I, R, C, G⟩, -⟩ := id A
  have bT := J.1
  obtain ⟨p1, p2, k⟩ := k_checkRung J R C a
  have r2 : hm.1 56 0 2 = nI (T 2) := R.1 2 (by omega)
  unfold p_X11_rungUnits p_X12_rungUnits x_X11_rungUnits f_X11_rungUnits f_X12_rungUnits g_X11_rungUnits g_X12_rungUnits ZT
  rw [r2]
  rcases k with ⟨r, hr, rfl, x1, f1⟩ | ⟨x1, f1⟩
  · obtain ⟨t1, t2, lf, gt, fr, gv, s1, s2, s3, s4, s5, -⟩ := s_tries (hm := hp_i hm 12 0 0 0) hn J I R C G
    have in1 := a_inside (g_X0_tryOut h (h.2.2 11 0 6) (h.2.2 11 0 7)) (show r < 6 by omega) (by omega)
    have e6 : nI 6 = 6 := rfl
    rw [e6] at in1
    have vo : vp_in (nI r) 6 := vp_in_nI (by omega) (by omega)
    have z0 := s5 0 (by omega)
    have z1 : (hp_i hm 12 0 0 0).1 12 0 0 = 0 := rfl
    rw [z1] at z0
    simp [p1, p2, x1, f1, t1, t2, vo, p_X0_unitsInRung, f_X0_unitsInRung, in1, nI_clamp (show r < 2 ^ 31 by omega), s2 r (by omega), s4 r (by omega), z0, At, p_X12_throwsIf, f_X12_throwsIf, g_X12_throwsIf]
  · have z1 : (hp_i (hp_i hm 12 0 0 0) 12 0 0 1).1 12 0 0 = 1 := rfl
    simp [p1, p2, x1, f1, z1, p_X12_throwsIf, f_X12_throwsIf, g_X12_throwsIf]
    exact Ah.thr
end QAP
