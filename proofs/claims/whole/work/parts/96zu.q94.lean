section LNE
variable {h h' G hm K : Hp} {x : Nat → Nat} {t s rr : Nat} {T T' : Nat → Nat}
theorem ps_line (A : PL h hm x t s T rr) : p_X7_readLine h ∧ lp hm ∧ KX hm (sm4 (lb hm)) ∧ ((f_X7_readLine h = 1 ∧ ∃ T' rr' s', s < s' ∧ PL (g_X7_readLine h) (sm4 (lb hm)) x t s' T' rr') ∨ (f_X7_readLine h = 0 ∧ FB (g_X7_readLine h) (sm4 (lb hm)))) := by
  have n10 : ¬ (1 : Int32) = 0 := by decide
  have n00 : ¬ ¬ (0 : Int32) = 0 := fun z => z rfl
  have e0 : oa_by 22 = oa_by 0 := by decide +kernel
  have e1 : oa_by 23 = oa_by 1 := by decide +kernel
  have e2 : oa_by 24 = oa_by 2 := by decide +kernel
  have e3 : oa_by 25 = oa_by 3 := by decide +kernel
  obtain ⟨A1, A2, A3, A4, A5, A6, A7, A8, A9⟩ := id A
  have bD := A3.1
  obtain ⟨w1, w2, w3, P1, K1, F1, f1⟩ := ps_isw (j := 0) (j' := 22) (by omega) (by omega) (by decide) e0 A1
  have m1 : g_X12_isWord hm 22 = mw1 hm := rfl
  rw [m1] at P1 K1 F1 f1
  rcases w3 with ⟨a1, b1, W⟩ | ⟨a1, b1⟩
  · have ec : f_X7_readLine h = (if 12 ≤ h.1 1 (h.2.2 7 0 3) 0 then f_X7_fail h 4 else f_X7_readPart h) := by unfold f_X7_readLine; rw [a1, if_neg n10]
    have eg : g_X7_readLine h = (if 12 ≤ h.1 1 (h.2.2 7 0 3) 0 then g_X7_fail h 4 else g_X7_readPart h) := by unfold g_X7_readLine; rw [a1, if_neg n10]
    have el : lb hm = g_X12_part (mw1 hm) := by unfold lb; rw [b1, if_neg n10]
    rw [A3.2.1.1] at ec eg
    by_cases d : T 0 < 12
    · have c12 : ¬ (12 : Int32) ≤ nI (T 0) := nI_ge (b := 12) d (by omega)
      rw [if_neg c12] at ec eg
      obtain ⟨z1, z2, z3, z4, z5⟩ := pl_part A W d P1 K1 (F1 57 0 (by omega))
      have ff : f_X7_readPart h = 0 ∨ f_X7_readPart h = 1 := by
        rcases z5 with y | y
        · exact Or.inr y.1
        · exact Or.inl y.1
      refine ⟨?_, ⟨w2, ⟨fun y => ?_, fun _ => z2⟩, by rw [el]; exact z3⟩, by rw [el]; exact K1.kx.trans z4, ?_⟩
      · unfold p_X7_readLine
        rw [a1, A3.2.1.1]
        exact ⟨w1, fun y => (n10 y).elim, fun _ => ⟨fun y => (c12 y).elim, fun _ => ⟨z1, ff, trivial⟩⟩⟩
      · rw [b1] at y; exact (n10 y).elim
      · rw [ec, eg, el]
        rcases z5 with ⟨y1, T', s', y2, y3⟩ | y
        · exact Or.inl ⟨y1, T', rr, s', y2, y3⟩
        · exact Or.inr y
    · have c12 : (12 : Int32) ≤ nI (T 0) := nI_le (a := 12) (by omega) (by omega)
      rw [if_pos c12] at ec eg
      obtain ⟨z1, z2, z3, z4⟩ := ps_ff (c := 4) P1 f1
      have r0 : (mw1 hm).1 57 0 0 = nI (T 0) := by rw [F1 57 0 (by omega)]; exact A2 0 (by omega)
      have nF : ¬ f_X12_hasFailed (g_X12_must (mw1 hm) 0 4) = 0 := by
        have : f_X12_hasFailed (g_X12_must (mw1 hm) 0 4) = 1 := z4
        rw [this]; exact n10
      have em : g_X12_part (mw1 hm) = g_X12_must (mw1 hm) 0 4 := by unfold g_X12_part; rw [r0, if_pos c12, if_neg nF]
      have ep : p_X12_part (mw1 hm) := by
        unfold p_X12_part
        rw [r0, if_pos c12]
        exact ⟨m_pM _ _ _, m_pF _, fun y => (nF y).elim, fun _ => trivial⟩
      refine ⟨?_, ⟨w2, ⟨fun y => ?_, fun _ => ep⟩, by rw [el, em]; exact z1⟩, by rw [el, em]; exact K1.kx.trans z2, ?_⟩
      · unfold p_X7_readLine
        rw [a1, A3.2.1.1]
        exact ⟨w1, fun y => (n10 y).elim, fun _ => ⟨fun _ => ⟨trivial, Or.inl rfl, trivial⟩, fun y => (y c12).elim⟩⟩
      · rw [b1] at y; exact (n10 y).elim
      · rw [ec, eg, el, em]
        exact Or.inr ⟨rfl, z3⟩
  · obtain ⟨x1, x2, x3, P2, K2, F2, f2⟩ := ps_isw (j := 1) (j' := 23) (by omega) (by omega) (by decide) e1 P1
    have m2 : g_X12_isWord (mw1 hm) 23 = mw2 hm := rfl
    rw [m2] at P2 K2 F2 f2
    have K12 : KE hm (mw2 hm) := fun k y4 y5 => (K2 k y4 y5).trans (K1 k y4 y5)
    have F12 : (mw2 hm).1 57 0 = hm.1 57 0 := (F2 57 0 (by omega)).trans (F1 57 0 (by omega))
    rcases x3 with ⟨a2, b2, W⟩ | ⟨a2, b2⟩
    · have ec : f_X7_readLine h = (if 8 ≤ h.1 1 (h.2.2 7 0 3) 1 then f_X7_fail h 4 else f_X7_readProduct h) := by unfold f_X7_readLine; rw [a1, if_pos rfl, a2, if_neg n10]
      have eg : g_X7_readLine h = (if 8 ≤ h.1 1 (h.2.2 7 0 3) 1 then g_X7_fail h 4 else g_X7_readProduct h) := by unfold g_X7_readLine; rw [a1, if_pos rfl, a2, if_neg n10]
      have el : lb hm = g_X12_product (mw2 hm) := by unfold lb; rw [b1, if_pos rfl, b2, if_neg n10]
      rw [A3.2.1.2] at ec eg
      by_cases d : T 1 < 8
      · have c12 : ¬ (8 : Int32) ≤ nI (T 1) := nI_ge (b := 8) d (by omega)
        rw [if_neg c12] at ec eg
        obtain ⟨z1, z2, z3, z4, z5⟩ := pl_product A W d P2 K12 F12
        have ff : f_X7_readProduct h = 0 ∨ f_X7_readProduct h = 1 := by
          rcases z5 with y | y
          · exact Or.inr y.1
          · exact Or.inl y.1
        refine ⟨?_, ⟨w2, ⟨fun _ => ⟨x2, fun y => ?_, fun _ => z2⟩, fun y => ?_⟩, by rw [el]; exact z3⟩, by rw [el]; exact K12.kx.trans z4, ?_⟩
        · unfold p_X7_readLine
          rw [a1, a2, A3.2.1.2]
          exact ⟨w1, fun _ => ⟨x1, fun y => (n10 y).elim, fun _ => ⟨fun y => (c12 y).elim, fun _ => ⟨z1, ff, trivial⟩⟩⟩, fun y => (n00 y).elim⟩
        · rw [b2] at y; exact (n10 y).elim
        · rw [b1] at y; exact (n00 y).elim
        · rw [ec, eg, el]
          rcases z5 with ⟨y1, T', s', y2, y3⟩ | y
          · exact Or.inl ⟨y1, T', rr, s', y2, y3⟩
          · exact Or.inr y
      · have c12 : (8 : Int32) ≤ nI (T 1) := nI_le (a := 8) (by omega) (by omega)
        rw [if_pos c12] at ec eg
        obtain ⟨z1, z2, z3, z4⟩ := ps_ff (c := 4) P2 f2
        have r0 : (mw2 hm).1 57 0 1 = nI (T 1) := by rw [F12]; exact A2 1 (by omega)
        have nF : ¬ f_X12_hasFailed (g_X12_must (mw2 hm) 0 4) = 0 := by
          have : f_X12_hasFailed (g_X12_must (mw2 hm) 0 4) = 1 := z4
          rw [this]; exact n10
        have em : g_X12_product (mw2 hm) = g_X12_must (mw2 hm) 0 4 := by unfold g_X12_product; rw [r0, if_pos c12, if_neg nF]
        have ep : p_X12_product (mw2 hm) := by
          unfold p_X12_product
          rw [r0, if_pos c12]
          exact ⟨m_pM _ _ _, m_pF _, fun y => (nF y).elim, fun _ => trivial⟩
        refine ⟨?_, ⟨w2, ⟨fun _ => ⟨x2, fun y => ?_, fun _ => ep⟩, fun y => ?_⟩, by rw [el, em]; exact z1⟩, by rw [el, em]; exact K12.kx.trans z2, ?_⟩
        · unfold p_X7_readLine
          rw [a1, a2, A3.2.1.2]
          exact ⟨w1, fun _ => ⟨x1, fun y => (n10 y).elim, fun _ => ⟨fun _ => ⟨trivial, Or.inl rfl, trivial⟩, fun y => (y c12).elim⟩⟩, fun y => (n00 y).elim⟩
        · rw [b2] at y; exact (n10 y).elim
        · rw [b1] at y; exact (n00 y).elim
        · rw [ec, eg, el, em]
          exact Or.inr ⟨rfl, z3⟩
    · obtain ⟨y1, y2, y3, P3, K3, F3, f3⟩ := ps_isw (j := 2) (j' := 24) (by omega) (by omega) (by decide) e2 P2
      have m3 : g_X12_isWord (mw2 hm) 24 = mw3 hm := rfl
      rw [m3] at P3 K3 F3 f3
      have K13 : KE hm (mw3 hm) := fun k y4 y5 => (K3 k y4 y5).trans (K12 k y4 y5)
      have F13 : (mw3 hm).1 57 0 = hm.1 57 0 := (F3 57 0 (by omega)).trans F12
      rcases y3 with ⟨a3, b3, W⟩ | ⟨a3, b3⟩
      · have ec : f_X7_readLine h = (if 6 ≤ h.1 1 (h.2.2 7 0 3) 2 then f_X7_fail h 4 else f_X7_readRung h) := by unfold f_X7_readLine; rw [a1, if_pos rfl, a2, if_pos rfl, a3, if_neg n10]
        have eg : g_X7_readLine h = (if 6 ≤ h.1 1 (h.2.2 7 0 3) 2 then g_X7_fail h 4 else g_X7_readRung h) := by unfold g_X7_readLine; rw [a1, if_pos rfl, a2, if_pos rfl, a3, if_neg n10]
        have el : lb hm = g_X12_rung (mw3 hm) := by unfold lb; rw [b1, if_pos rfl, b2, if_pos rfl, b3, if_neg n10]
        have hr6 := A4.2.1
        rw [A4.1] at ec eg
        by_cases d : rr < 6
        · have c12 : ¬ (6 : Int32) ≤ nI rr := nI_ge (b := 6) d (by omega)
          rw [if_neg c12] at ec eg
          obtain ⟨z1, z2, z3, z4, z5⟩ := pl_rung A W d P3 K13 F13
          have ff : f_X7_readRung h = 0 ∨ f_X7_readRung h = 1 := by
            rcases z5 with y | y
            · exact Or.inr y.1
            · exact Or.inl y.1
          refine ⟨?_, ⟨w2, ⟨fun _ => ⟨x2, fun _ => ⟨y2, fun y => ?_, fun _ => z2⟩, fun y => ?_⟩, fun y => ?_⟩, by rw [el]; exact z3⟩, by rw [el]; exact K13.kx.trans z4, ?_⟩
          · unfold p_X7_readLine
            rw [a1, a2, a3, A4.1]
            exact ⟨w1, fun _ => ⟨x1, fun _ => ⟨y1, fun y => (n10 y).elim, fun _ => ⟨fun y => (c12 y).elim, fun _ => ⟨z1, ff, trivial⟩⟩⟩, fun y => (n00 y).elim⟩, fun y => (n00 y).elim⟩
          · rw [b3] at y; exact (n10 y).elim
          · rw [b2] at y; exact (n00 y).elim
          · rw [b1] at y; exact (n00 y).elim
          · rw [ec, eg, el]
            rcases z5 with ⟨y1, T', s', y2, y3⟩ | y
            · exact Or.inl ⟨y1, T', rr + 1, s', y2, y3⟩
            · exact Or.inr y
        · have c12 : (6 : Int32) ≤ nI rr := nI_le (a := 6) (by omega) (by omega)
          rw [if_pos c12] at ec eg
          obtain ⟨z1, z2, z3, z4⟩ := ps_ff (c := 4) P3 f3
          have r0 : (mw3 hm).1 12 0 13 = nI rr := by rw [K13 13 (by omega) (by omega)]; exact A6
          have nF : ¬ f_X12_hasFailed (g_X12_must (mw3 hm) 0 4) = 0 := by
            have : f_X12_hasFailed (g_X12_must (mw3 hm) 0 4) = 1 := z4
            rw [this]; exact n10
          have em : g_X12_rung (mw3 hm) = g_X12_must (mw3 hm) 0 4 := by unfold g_X12_rung; rw [r0, if_pos c12, if_neg nF]
          have ep : p_X12_rung (mw3 hm) := by
            unfold p_X12_rung
            rw [r0, if_pos c12]
            exact ⟨m_pM _ _ _, m_pF _, fun y => (nF y).elim, fun _ => trivial⟩
          refine ⟨?_, ⟨w2, ⟨fun _ => ⟨x2, fun _ => ⟨y2, fun y => ?_, fun _ => ep⟩, fun y => ?_⟩, fun y => ?_⟩, by rw [el, em]; exact z1⟩, by rw [el, em]; exact K13.kx.trans z2, ?_⟩
          · unfold p_X7_readLine
            rw [a1, a2, a3, A4.1]
            exact ⟨w1, fun _ => ⟨x1, fun _ => ⟨y1, fun y => (n10 y).elim, fun _ => ⟨fun _ => ⟨trivial, Or.inl rfl, trivial⟩, fun y => (y c12).elim⟩⟩, fun y => (n00 y).elim⟩, fun y => (n00 y).elim⟩
          · rw [b3] at y; exact (n10 y).elim
          · rw [b2] at y; exact (n00 y).elim
          · rw [b1] at y; exact (n00 y).elim
          · rw [ec, eg, el, em]
            exact Or.inr ⟨rfl, z3⟩
      · obtain ⟨t1, t2, t3, P4, K4, F4, f4⟩ := ps_isw (j := 3) (j' := 25) (by omega) (by omega) (by decide) e3 P3
        have m4 : g_X12_isWord (mw3 hm) 25 = mw4 hm := rfl
        rw [m4] at P4 K4 F4 f4
        have K14 : KE hm (mw4 hm) := fun k y4 y5 => (K4 k y4 y5).trans (K13 k y4 y5)
        have F14 : (mw4 hm).1 57 0 = hm.1 57 0 := (F4 57 0 (by omega)).trans F13
        rcases t3 with ⟨a4, b4, W⟩ | ⟨a4, b4⟩
        · have ec : f_X7_readLine h = (if 20 ≤ h.1 6 (h.2.2 7 0 4) 0 then f_X7_fail h 4 else f_X7_readOrder h) := by unfold f_X7_readLine; rw [a1, if_pos rfl, a2, if_pos rfl, a3, if_pos rfl, a4, if_neg n10]
          have eg : g_X7_readLine h = (if 20 ≤ h.1 6 (h.2.2 7 0 4) 0 then g_X7_fail h 4 else g_X7_readOrder h) := by unfold g_X7_readLine; rw [a1, if_pos rfl, a2, if_pos rfl, a3, if_pos rfl, a4, if_neg n10]
          have el : lb hm = og (mw4 hm) := by unfold lb; rw [b1, if_pos rfl, b2, if_pos rfl, b3, if_pos rfl, b4, if_neg n10]
          have ho := A5.1
          rw [A5.2.1] at ec eg
          by_cases d : T 3 < 20
          · have c12 : ¬ (20 : Int32) ≤ nI (T 3) := nI_ge (b := 20) d (by omega)
            rw [if_neg c12] at ec eg
            obtain ⟨z1, z2, z3, z4, z5⟩ := pl_order A W d P4 K14 F14
            have ff : f_X7_readOrder h = 0 ∨ f_X7_readOrder h = 1 := by
              rcases z5 with y | y
              · exact Or.inr y.1
              · exact Or.inl y.1
            refine ⟨?_, ⟨w2, ⟨fun _ => ⟨x2, fun _ => ⟨y2, fun _ => ⟨t2, fun _ => z2⟩, fun y => ?_⟩, fun y => ?_⟩, fun y => ?_⟩, by rw [el]; exact z3⟩, by rw [el]; exact K14.kx.trans z4, ?_⟩
            · unfold p_X7_readLine
              rw [a1, a2, a3, a4, A5.2.1]
              exact ⟨w1, fun _ => ⟨x1, fun _ => ⟨y1, fun _ => ⟨t1, fun y => (n10 y).elim, fun _ => ⟨fun y => (c12 y).elim, fun _ => ⟨z1, ff, trivial⟩⟩⟩, fun y => (n00 y).elim⟩, fun y => (n00 y).elim⟩, fun y => (n00 y).elim⟩
            · rw [b3] at y; exact (n00 y).elim
            · rw [b2] at y; exact (n00 y).elim
            · rw [b1] at y; exact (n00 y).elim
            · rw [ec, eg, el]
              rcases z5 with ⟨y1, T', s', y2, y3⟩ | y
              · exact Or.inl ⟨y1, T', rr, s', y2, y3⟩
              · exact Or.inr y
          · have c12 : (20 : Int32) ≤ nI (T 3) := nI_le (a := 20) (by omega) (by omega)
            rw [if_pos c12] at ec eg
            obtain ⟨z1, z2, z3, z4⟩ := ps_ff (c := 4) P4 f4
            have r0 : (mw4 hm).1 57 0 3 = nI (T 3) := by rw [F14]; exact A2 3 (by omega)
            have nF : ¬ f_X12_hasFailed (g_X12_must (mw4 hm) 0 4) = 0 := by
              have : f_X12_hasFailed (g_X12_must (mw4 hm) 0 4) = 1 := z4
              rw [this]; exact n10
            have e1' : og1 (mw4 hm) = g_X12_must (mw4 hm) 0 4 := by unfold og1; rw [r0, if_pos c12]
            have em : og (mw4 hm) = g_X12_must (mw4 hm) 0 4 := by unfold og; rw [e1', if_neg nF]
            have ep : op (mw4 hm) := by
              intro y
              rw [e1'] at y
              exact (nF y).elim
            refine ⟨?_, ⟨w2, ⟨fun _ => ⟨x2, fun _ => ⟨y2, fun _ => ⟨t2, fun _ => ep⟩, fun y => ?_⟩, fun y => ?_⟩, fun y => ?_⟩, by rw [el, em]; exact z1⟩, by rw [el, em]; exact K14.kx.trans z2, ?_⟩
            · unfold p_X7_readLine
              rw [a1, a2, a3, a4, A5.2.1]
              exact ⟨w1, fun _ => ⟨x1, fun _ => ⟨y1, fun _ => ⟨t1, fun y => (n10 y).elim, fun _ => ⟨fun _ => ⟨trivial, Or.inl rfl, trivial⟩, fun y => (y c12).elim⟩⟩, fun y => (n00 y).elim⟩, fun y => (n00 y).elim⟩, fun y => (n00 y).elim⟩
            · rw [b3] at y; exact (n00 y).elim
            · rw [b2] at y; exact (n00 y).elim
            · rw [b1] at y; exact (n00 y).elim
            · rw [ec, eg, el, em]
              exact Or.inr ⟨rfl, z3⟩
        · have ec : f_X7_readLine h = 0 := by unfold f_X7_readLine; rw [a1, if_pos rfl, a2, if_pos rfl, a3, if_pos rfl, a4, if_pos rfl]; rfl
          have eg : g_X7_readLine h = g_X7_fail h 1 := by unfold g_X7_readLine; rw [a1, if_pos rfl, a2, if_pos rfl, a3, if_pos rfl, a4, if_pos rfl]
          have el : lb hm = g_X12_must (mw4 hm) 0 1 := by unfold lb; rw [b1, if_pos rfl, b2, if_pos rfl, b3, if_pos rfl, b4, if_pos rfl]
          obtain ⟨z1, z2, z3, z4⟩ := ps_ff (c := 1) P4 f4
          refine ⟨?_, ⟨w2, ⟨fun _ => ⟨x2, fun _ => ⟨y2, fun _ => ⟨t2, fun y => ?_⟩, fun y => ?_⟩, fun y => ?_⟩, fun y => ?_⟩, by rw [el]; exact z1⟩, by rw [el]; exact K14.kx.trans z2, ?_⟩
          · unfold p_X7_readLine
            rw [a1, a2, a3, a4]
            exact ⟨w1, fun _ => ⟨x1, fun _ => ⟨y1, fun _ => ⟨t1, fun _ => ⟨trivial, Or.inl rfl, trivial⟩, fun y => (n00 y).elim⟩, fun y => (n00 y).elim⟩, fun y => (n00 y).elim⟩, fun y => (n00 y).elim⟩
          · rw [b4] at y; exact (n00 y).elim
          · rw [b3] at y; exact (n00 y).elim
          · rw [b2] at y; exact (n00 y).elim
          · rw [b1] at y; exact (n00 y).elim
          · rw [ec, eg, el]
            exact Or.inr ⟨rfl, z3⟩
end LNE
