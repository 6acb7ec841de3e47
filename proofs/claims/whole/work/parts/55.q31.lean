section QAM
variable {h hm hm0 : Hp} {c L : Nat} {T w F t lf qt gt gt0 : Nat → Nat} {fr gv : Nat → Int32} {n r : Nat} {D : Int32}
theorem oa_srt_inj {m i j : Nat} (S : oa_srt w t m) (hi : i < m) (hj : j < m) (e : t i = t j) : i = j := by
  rcases Nat.lt_trichotomy i j with z | z | z
  · have := S.2.1 i j z hj
    rw [e] at this
    exact (oa_ah_as this this).elim
  · exact z
  · have := S.2.1 j i z hi
    rw [e] at this
    exact (oa_ah_as this this).elim
/-- the first that may be served is the one whose turn it is -/
theorem ob_pick {P : Nat → Bool} {i : Nat} (S : oa_srt w t (w 1)) (hi : i < w 1) (h1 : P (t i) = true) (h2 : ∀ j, j < i → P (t j) = false) : oa_nx w P (w 1) 0 none = some (t i) := by
  obtain ⟨a, b⟩ := oa_nx_all (w := w) (P := P) (w 1)
  cases e : oa_nx w P (w 1) 0 none with
  | none =>
    have := b e (t i) (S.1 i hi)
    rw [this] at h1
    exact (Bool.false_ne_true h1).elim
  | some o =>
    obtain ⟨a1, a2, a3⟩ := a o e
    obtain ⟨j, hj, rfl⟩ := S.2.2 o a1
    congr 1
    rcases Nat.lt_trichotomy j i with z | z | z
    · have := h2 j z
      rw [this] at a2
      exact (Bool.false_ne_true a2).elim
    · rw [z]
    · have x1 := S.2.1 i j z hj
      rcases a3 (t i) (S.1 i hi) h1 with y | y
      · exact y.symm
      · exact (oa_ah_as x1 y).elim
theorem ob_pick0 {P : Nat → Bool} (S : oa_srt w t (w 1)) (h2 : ∀ j, j < w 1 → P (t j) = false) : oa_nx w P (w 1) 0 none = none := by
  obtain ⟨a, b⟩ := oa_nx_all (w := w) (P := P) (w 1)
  cases e : oa_nx w P (w 1) 0 none with
  | none => rfl
  | some o =>
    obtain ⟨a1, a2, a3⟩ := a o e
    obtain ⟨j, hj, rfl⟩ := S.2.2 o a1
    have := h2 j hj
    rw [this] at a2
    exact (Bool.false_ne_true a2).elim
theorem a_takesIn {o : Nat} (J : IT T) (I : IW T w n) (C : RC h c T) (ho : o < w 1) (hr : r < T 2) : p_X1_rungTakes h c (nI r) (nI (w (93 + 8 * o + 2))) ∧ f_X1_rungTakes h c (nI r) (nI (w (93 + 8 * o + 2))) = if T (388 + 3 * r) ≤ w (93 + 8 * o + 2) ∧ w (93 + 8 * o + 2) ≤ T (388 + 3 * r + 1) then 1 else 0 := by
  have bT := J.1
  have i := I.2.2.2 o ho
  have jr := J.2.2.2.2.2.2.1 r hr
  obtain ⟨c1, c2, c3⟩ := C.2.2.2.2.2.2.1 r hr
  have ai := a_inside h hr (by omega)
  have vr : vp_in (nI r) 6 := vp_in_nI (by omega) (by omega)
  have l1 : (nI (w (93 + 8 * o + 2)) < nI (T (388 + 3 * r))) ↔ w (93 + 8 * o + 2) < T (388 + 3 * r) := nI_ltI (by omega) (by omega)
  have l2 : (nI (T (388 + 3 * r + 1)) < nI (w (93 + 8 * o + 2))) ↔ T (388 + 3 * r + 1) < w (93 + 8 * o + 2) := nI_ltI (by omega) (by omega)
  unfold p_X1_rungTakes f_X1_rungTakes
  simp only [C.1.2.2, ai, nI_clamp (show r < 2 ^ 31 by omega), c1, c2, l1, l2]
  by_cases d1 : w (93 + 8 * o + 2) < T (388 + 3 * r)
  · have d3 : ¬ T (388 + 3 * r) ≤ w (93 + 8 * o + 2) := by omega
    simp [d1, d3, vr]
  · by_cases d2 : T (388 + 3 * r + 1) < w (93 + 8 * o + 2)
    · have d3 : ¬ w (93 + 8 * o + 2) ≤ T (388 + 3 * r + 1) := by omega
      simp [d1, d2, d3, vr]
    · have d3 : T (388 + 3 * r) ≤ w (93 + 8 * o + 2) ∧ w (93 + 8 * o + 2) ≤ T (388 + 3 * r + 1) := by omega
      simp [d1, d2, d3, vr]
/-- a rung, both sides -/
theorem s_rung (J : IT T) (I : IW T w n) (St : oa_srt w t (w 1)) (hr : r < T 2) : ∀ (m i e e' : Nat) (h hm : Hp) (lf qt gt : Nat → Nat) (fr gv : Nat → Int32) (D : Int32), i + m = w 1 → SC h c L T w t lf qt gt fr gv → SM hm0 hm T w lf qt gt fr gv r D → NL T w F lf qt gt →
    (∀ o, o < w 1 → (bt D o = true ↔ ∃ j, j < i ∧ t j = o ∧ ob_el T w gt0 r o = true)) → (∀ o, o < w 1 → bt D o = false → gt o = gt0 o) →
    pi_X0_tryOut_27 (m + 1 + e) h c L (nI r) (nI i) ∧ pw_X12_triesRung_62 (m + 1 + e') hm (nI r) (f_X12_nextIn hm (nI r)) ∧ ∃ lf' qt' gt' fr' gv' D', SC (iw_h_X0_tryOut_27 (m + 1 + e) h c L (nI r) (nI i)) c L T w t lf' qt' gt' fr' gv' ∧ SM hm0 (gw_X12_triesRung_62 (m + 1 + e') hm (nI r) (f_X12_nextIn hm (nI r))) T w lf' qt' gt' fr' gv' r D' ∧ NL T w F lf' qt' gt' ∧ (∀ j, ¬ j = r → gv' j = gv j) := by
  have hw := I.1.2.1
  have bT := J.1
  intro m
  induction m with
  | zero =>
    intro i e e' h hm lf qt gt fr gv D hi C M N B1 B2
    rw [show 0 + 1 + e = e + 1 by omega, show 0 + 1 + e' = e' + 1 by omega]
    obtain rfl : i = w 1 := by omega
    have nx := m_nextIn (gt := gt) J M.1 I hr M.2.2.1 (fun o ho => ⟨(M.2.1.2.1 o ho).1, N.2.1 o ho⟩)
    rw [ob_pick0 St (fun j hj => by
      cases e : oa_pn T w gt r D (t j) with
      | false => rfl
      | true =>
        have := ob_pn_el.mp e
        have tj := St.1 j hj
        have z := (B1 (t j) tj).mpr ⟨j, hj, rfl, by
          have g := B2 (t j) tj this.1
          have := this.2
          unfold ob_el at this ⊢
          rw [← g]
          exact this⟩
        rw [this.1] at z
        exact (Bool.false_ne_true z).elim)] at nx
    have o1 : oa_oi none = -1 := rfl
    rw [o1] at nx
    have c1 : nI (w 1) ≤ nI (w 1) := nI_le (by omega) (by omega)
    have ec : iw_h_X0_tryOut_27 (e + 1) h c L (nI r) (nI (w 1)) = h := by rw [iw_h_X0_tryOut_27, C.2.1.1.2.1, if_pos c1]
    have em : gw_X12_triesRung_62 (e' + 1) hm (nI r) (-1) = hm := by rw [gw_X12_triesRung_62, if_pos rfl]
    rw [nx.2, ec, em]
    refine ⟨?_, ?_, lf, qt, gt, fr, gv, D, C, M, N, fun _ _ => rfl⟩
    · simp [pi_X0_tryOut_27, C.2.1.1.2.1]
    · simp [pw_X12_triesRung_62]
  | succ m ih =>
    intro i e e' h hm lf qt gt fr gv D hi C M N B1 B2
    rw [show m + 1 + 1 + e = (m + 1 + e) + 1 by omega]
    have hi2 : i < w 1 := by omega
    have ho := St.1 i hi2
    obtain ⟨C1, C2, C3, C4⟩ := id C
    have tn := C4 i hi2
    have c1 : ¬ nI (w 1) ≤ nI i := nI_ge (by omega) (by omega)
    have c2 : ¬ (20 : Int32) ≤ nI i := nI_ge (b := 20) (by omega) (by omega)
    have vi : vp_in (nI i) 20 := vp_in_nI (by omega) (by omega)
    have a1 := a_ord C2 I ho
    have a2 := a_takesIn (r := r) J I C1 ho hr
    have bD : bt D (t i) = false := by
      cases e : bt D (t i) with
      | false => rfl
      | true =>
        obtain ⟨j, hj, ej, -⟩ := (B1 (t i) ho).mp e
        have := oa_srt_inj St (show j < w 1 by omega) hi2 ej
        omega
    have g0 := B2 (t i) ho bD
    -- a turn that serves nobody
    have skip : ob_el T w gt0 r (t i) = false → pi_X0_tryOut_27 (m + 1 + e) h c L (nI r) (nI i + 1) ∧ pw_X12_triesRung_62 (m + 1 + 1 + e') hm (nI r) (f_X12_nextIn hm (nI r)) ∧ ∃ lf' qt' gt' fr' gv' D', SC (iw_h_X0_tryOut_27 (m + 1 + e) h c L (nI r) (nI i + 1)) c L T w t lf' qt' gt' fr' gv' ∧ SM hm0 (gw_X12_triesRung_62 (m + 1 + 1 + e') hm (nI r) (f_X12_nextIn hm (nI r))) T w lf' qt' gt' fr' gv' r D' ∧ NL T w F lf' qt' gt' ∧ (∀ j, ¬ j = r → gv' j = gv j) := by
      intro el
      have := ih (i + 1) e (e' + 1) h hm lf qt gt fr gv D (by omega) C M N (fun o ho => (B1 o ho).trans ⟨fun ⟨j, x1, x2, x3⟩ => ⟨j, by omega, x2, x3⟩, fun ⟨j, x1, x2, x3⟩ => ⟨j, by
        have : j ≠ i := by
          rintro rfl
          rw [← x2, el] at x3
          exact Bool.false_ne_true x3
        omega, x2, x3⟩⟩) B2
      rw [nI_succ, show m + 1 + (e' + 1) = m + 1 + 1 + e' by omega] at this
      exact this
    by_cases d2 : T (388 + 3 * r) ≤ w (93 + 8 * t i + 2) ∧ w (93 + 8 * t i + 2) ≤ T (388 + 3 * r + 1)
    · rw [if_pos d2] at a2
      have sv := a_serve (r := r) J I C1 C2 C3 N ho (by omega)
      by_cases d1 : gt (t i) < oa_open w (t i)
      · -- it is the model's turn too
        have el : ob_el T w gt0 r (t i) = true := by
          unfold ob_el
          rw [← g0]
          simp [d1, d2]
        have nx := m_nextIn (gt := gt) J M.1 I hr M.2.2.1 (fun o ho => ⟨(M.2.1.2.1 o ho).1, N.2.1 o ho⟩)
        rw [ob_pick St hi2 (ob_pn_el.mpr ⟨bD, by unfold ob_el; simp [d1, d2]⟩) (fun j hj => by
          cases e : oa_pn T w gt r D (t j) with
          | false => rfl
          | true =>
            have := ob_pn_el.mp e
            have tj := St.1 j (by omega)
            have z := (B1 (t j) tj).mpr ⟨j, hj, rfl, by
              have g := B2 (t j) tj this.1
              have := this.2
              unfold ob_el at this ⊢
              rw [← g]
              exact this⟩
            rw [this.1] at z
            exact (Bool.false_ne_true z).elim)] at nx
        have o1 : oa_oi (some (t i)) = nI (t i) := rfl
        rw [o1] at nx
        rw [nx.2, show m + 1 + 1 + e' = (m + 1 + e') + 1 by omega]
        have B1' : ∀ o, o < w 1 → (bt (D ||| (1 <<< (nI (t i) &&& 31))) o = true ↔ ∃ j, j < i + 1 ∧ t j = o ∧ ob_el T w gt0 r o = true) := by
          intro o hoo
          rw [bt_set D (show t i < 32 by omega) (show o < 32 by omega)]
          constructor
          · intro z
            rcases Bool.or_eq_true_iff.mp z with z | z
            · obtain ⟨j, x1, x2, x3⟩ := (B1 o hoo).mp z
              exact ⟨j, by omega, x2, x3⟩
            · have z := of_decide_eq_true z
              exact ⟨i, by omega, z.symm, by rw [z]; exact el⟩
          · intro ⟨j, x1, x2, x3⟩
            by_cases y : j = i
            · rw [Bool.or_eq_true_iff]
              exact Or.inr (decide_eq_true (by rw [← x2, y]))
            · rw [Bool.or_eq_true_iff]
              exact Or.inl ((B1 o hoo).mpr ⟨j, by omega, x2, x3⟩)
        by_cases d3 : ob_ok T w qt gt (t i) = true
        · obtain ⟨hm', S', st⟩ := m_stepY J I M N ho hr d3
          have A' := sv.2.2 d3
          have C' : SC (g_X0_serve h c L (nI (t i)) (nI r)) c L T w t _ _ _ _ _ := ⟨C1.same (fun t ht i => fr_X0_serve (by omega) (by omega) (by omega) (by omega) (by omega)) gl_X0_serve, C2.same (fun t ht => fr_X0_serve (by omega) (by omega) (by omega) (by omega) (by omega)), A', fun j hj => by rw [fr_X0_serve (by omega) (by omega) (by omega) (by omega) (by omega)]; exact C4 j hj⟩
          obtain ⟨r1, r2, r3⟩ := ih (i + 1) e e' _ hm' _ _ _ _ _ _ (by omega) C' S' (N.step J I ho) B1' (fun o hoo z => by
            rw [bt_set D (show t i < 32 by omega) (show o < 32 by omega)] at z
            have z2 := Bool.or_eq_false_iff.mp z
            have z3 := of_decide_eq_false z2.2
            unfold ob_at
            rw [if_neg z3]
            exact B2 o hoo z2.1)
          rw [nI_succ] at r1 r3
          rw [(st (m + 1 + e')).2]
          refine ⟨?_, (st _).1 r2, ?_⟩
          · simp only [pi_X0_tryOut_27, C2.1.2.1, nI_clamp (show i < 2 ^ 31 by omega), tn, a1, a2.2]
            simp [c1, c2, vi, a2.1, sv.1, r1]
          · have ef : iw_h_X0_tryOut_27 ((m + 1 + e) + 1) h c L (nI r) (nI i) = iw_h_X0_tryOut_27 (m + 1 + e) (g_X0_serve h c L (nI (t i)) (nI r)) c L (nI r) (nI i + 1) := by
              rw [iw_h_X0_tryOut_27]
              simp only [C2.1.2.1, nI_clamp (show i < 2 ^ 31 by omega), tn, a1, a2.2]
              rw [if_neg c1, if_neg c2, if_neg (by decide)]
            rw [ef]
            obtain ⟨lf', qt', gt', fr', gv', D', s1, s2, s3, s4⟩ := r3
            exact ⟨lf', qt', gt', fr', gv', D', s1, s2, s3, fun j hj => (s4 j hj).trans (by unfold ob_at; rw [if_neg hj])⟩
        · have d3' : ob_ok T w qt gt (t i) = false := by simpa using d3
          obtain ⟨hm', S', st⟩ := m_stepN J I M N ho hr d3'
          have hs := sv.2.1 d3'
          obtain ⟨r1, r2, r3⟩ := ih (i + 1) e e' _ hm' _ _ _ _ _ _ (by omega) C S' N B1' (fun o hoo z => by
            rw [bt_set D (show t i < 32 by omega) (show o < 32 by omega)] at z
            exact B2 o hoo (Bool.or_eq_false_iff.mp z).1)
          rw [nI_succ] at r1 r3
          rw [(st (m + 1 + e')).2]
          refine ⟨?_, (st _).1 r2, ?_⟩
          · simp only [pi_X0_tryOut_27, C2.1.2.1, nI_clamp (show i < 2 ^ 31 by omega), tn, a1, a2.2]
            rw [hs]
            simp [c1, c2, vi, a2.1, sv.1, r1]
          · have ef : iw_h_X0_tryOut_27 ((m + 1 + e) + 1) h c L (nI r) (nI i) = iw_h_X0_tryOut_27 (m + 1 + e) h c L (nI r) (nI i + 1) := by
              rw [iw_h_X0_tryOut_27]
              simp only [C2.1.2.1, nI_clamp (show i < 2 ^ 31 by omega), tn, a1, a2.2]
              rw [if_neg c1, if_neg c2, if_neg (by decide), hs]
            rw [ef]
            exact r3
      · -- nothing open
        have el : ob_el T w gt0 r (t i) = false := by
          unfold ob_el
          rw [← g0]
          simp [d1]
        have d3 : ob_ok T w qt gt (t i) = false := by
          unfold ob_ok
          have : ob_u T w qt gt (t i) = 0 := by
            have : ob_u T w qt gt (t i) ≤ oa_open w (t i) - gt (t i) := Nat.min_le_left _ _
            omega
          rw [this]
          simp
        have hs := sv.2.1 d3
        obtain ⟨r1, r2, r3⟩ := skip el
        refine ⟨?_, r2, ?_⟩
        · simp only [pi_X0_tryOut_27, C2.1.2.1, nI_clamp (show i < 2 ^ 31 by omega), tn, a1, a2.2]
          rw [hs]
          simp [c1, c2, vi, a2.1, sv.1, r1]
        · have ef : iw_h_X0_tryOut_27 ((m + 1 + e) + 1) h c L (nI r) (nI i) = iw_h_X0_tryOut_27 (m + 1 + e) h c L (nI r) (nI i + 1) := by
            rw [iw_h_X0_tryOut_27]
            simp only [C2.1.2.1, nI_clamp (show i < 2 ^ 31 by omega), tn, a1, a2.2]
            rw [if_neg c1, if_neg c2, if_neg (by decide), hs]
          rw [ef]
          exact r3
    · rw [if_neg d2] at a2
      have el : ob_el T w gt0 r (t i) = false := by
        unfold ob_el
        simp [d2]
      obtain ⟨r1, r2, r3⟩ := skip el
      refine ⟨?_, r2, ?_⟩
      · simp only [pi_X0_tryOut_27, C2.1.2.1, nI_clamp (show i < 2 ^ 31 by omega), tn, a1, a2.2]
        simp [c1, c2, vi, a2.1, r1]
      · have ef : iw_h_X0_tryOut_27 ((m + 1 + e) + 1) h c L (nI r) (nI i) = iw_h_X0_tryOut_27 (m + 1 + e) h c L (nI r) (nI i + 1) := by
          rw [iw_h_X0_tryOut_27]
          simp only [C2.1.2.1, nI_clamp (show i < 2 ^ 31 by omega), tn, a1, a2.2]
          rw [if_neg c1, if_neg c2, if_pos trivial]
        rw [ef]
        exact r3
end QAM
