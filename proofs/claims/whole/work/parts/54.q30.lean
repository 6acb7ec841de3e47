/-! allocation: a rung -/
def ob_el (T w gt : Nat → Nat) (r o : Nat) : Bool := decide (gt o < oa_open w o ∧ T (388 + 3 * r) ≤ w (93 + 8 * o + 2) ∧ w (93 + 8 * o + 2) ≤ T (388 + 3 * r + 1))
def SM (hm0 hm : Hp) (T w lf qt gt : Nat → Nat) (fr gv : Nat → Int32) (r : Nat) (D : Int32) : Prop := RM hm T w ∧ ML hm lf qt gt fr gv (r + 1) ∧ hm.1 12 0 22 = D ∧ (∀ k, ¬ k = 22 → hm.1 12 0 k = hm0.1 12 0 k)
def SC (h : Hp) (c L : Nat) (T w t lf qt gt : Nat → Nat) (fr gv : Nat → Int32) : Prop := RC h c T ∧ RG h L w ∧ AL h lf qt gt fr gv ∧ ∀ j, j < w 1 → h.1 15 0 j = nI (t j)
section QAL
variable {h hm hm0 : Hp} {c L : Nat} {T w F t lf qt gt gt0 : Nat → Nat} {fr gv : Nat → Int32} {n r : Nat} {D : Int32}
theorem ob_pn_el {o : Nat} : oa_pn T w gt r D o = true ↔ bt D o = false ∧ ob_el T w gt r o = true := by
  unfold oa_pn ob_el
  simp
theorem ob_ok_i {o : Nat} : ob_ok T w qt gt o = true ↔ 0 < ob_u T w qt gt o ∧ (ob_u T w qt gt o = oa_open w o - gt o ∨ w (93 + 8 * o + 4) = 0) := by
  unfold ob_ok
  exact decide_eq_true_iff
theorem ob_sum_at {nd : Nat → Nat} {o u : Nat} : ∀ (m k : Nat), oa_sum (fun j => ob_at gt o (gt o + u) j * nd j) k m = oa_sum (fun j => gt j * nd j) k m + (if k ≤ o ∧ o < k + m then u * nd o else 0) := by
  intro m
  induction m with
  | zero => intro k; rw [if_neg (by omega)]; rfl
  | succ m ih =>
    intro k
    have s1 : oa_sum (fun j => ob_at gt o (gt o + u) j * nd j) k (m + 1) = ob_at gt o (gt o + u) k * nd k + oa_sum (fun j => ob_at gt o (gt o + u) j * nd j) (k + 1) m := rfl
    have s2 : oa_sum (fun j => gt j * nd j) k (m + 1) = gt k * nd k + oa_sum (fun j => gt j * nd j) (k + 1) m := rfl
    rw [s1, s2, ih (k + 1)]
    by_cases d : k = o
    · subst d
      rw [if_neg (by omega), if_pos (by omega)]
      unfold ob_at
      rw [if_pos rfl, Nat.add_mul]
      omega
    · have e : ob_at gt o (gt o + u) k = gt k := by unfold ob_at; rw [if_neg d]
      rw [e]
      by_cases d2 : k ≤ o ∧ o < k + (m + 1)
      · rw [if_pos d2, if_pos (by omega)]; omega
      · rw [if_neg d2, if_neg (by omega)]; omega
theorem NL.step {o : Nat} (J : IT T) (I : IW T w n) (N : NL T w F lf qt gt) (ho : o < w 1) : NL T w F (ob_tk T (ob_u T w qt gt o) (w (93 + 8 * o)) lf) (ob_tk T (ob_u T w qt gt o) (w (93 + 8 * o)) qt) (ob_at gt o (gt o + ob_u T w qt gt o)) := by
  obtain ⟨n1, n2, n3, n4⟩ := N
  have fit := ob_u_fit (qt := qt) (gt := gt) J I ho
  have bT := J.1
  have ol := oa_open_le I ho
  have ul : ob_u T w qt gt o ≤ oa_open w o - gt o := Nat.min_le_left _ _
  have go := n3 o ho
  refine ⟨fun p hp => ?_, fun j hj => ?_, fun j hj => ?_, fun p hp => ?_⟩
  · have := n1 p hp
    unfold ob_tk
    split <;> omega
  · have := n2 j hj
    unfold ob_at
    split <;> omega
  · have := n3 j hj
    unfold ob_at
    by_cases d : j = o
    · rw [if_pos d, d]; omega
    · rw [if_neg d]; exact this
  · have q1 := n4 p hp
    have q2 := fit p hp
    have q3 := n1 p (by omega)
    rw [ob_sum_at, if_pos (by omega)]
    unfold ob_tk
    rw [if_pos hp]
    omega
theorem m_stepN {o : Nat} (J : IT T) (I : IW T w n) (S : SM hm0 hm T w lf qt gt fr gv r D) (N : NL T w F lf qt gt) (ho : o < w 1) (hr : r < T 2) (hk : ob_ok T w qt gt o = false) :
    ∃ hm', SM hm0 hm' T w lf qt gt fr gv r (D ||| (1 <<< (nI o &&& 31))) ∧ ∀ M, (pw_X12_triesRung_62 M hm' (nI r) (f_X12_nextIn hm' (nI r)) → pw_X12_triesRung_62 (M + 1) hm (nI r) (nI o)) ∧ gw_X12_triesRung_62 (M + 1) hm (nI r) (nI o) = gw_X12_triesRung_62 M hm' (nI r) (f_X12_nextIn hm' (nI r)) := by
  obtain ⟨R, ⟨l1, l2, l3⟩, d1, d2⟩ := S
  have hw := I.1.2.1
  have bT := J.1
  have R1 : RM (hp_i hm 12 0 22 (D ||| (1 <<< (nI o &&& 31)))) T w := R.done
  have cn := m_can (hm := hp_i hm 12 0 22 (D ||| (1 <<< (nI o &&& 31)))) (qt := qt) (gt := gt) J R1 I (fun p hp => ⟨(l1 p hp).2, by have := N.1 p hp; omega⟩) ho (l2 o (by omega)).1 (N.2.2.1 o ho)
  rw [hk, if_neg (by decide)] at cn
  have S1 : SM hm0 (hp_i hm 12 0 22 (D ||| (1 <<< (nI o &&& 31)))) T w lf qt gt fr gv r (D ||| (1 <<< (nI o &&& 31))) := ⟨R1, ⟨l1, l2, l3⟩, by rw [hp_i_g, if_pos rfl], fun k hk => by rw [hp_i_g, if_neg hk]; exact d2 k hk⟩
  have nx := m_nextIn (gt := gt) J R1 I hr S1.2.2.1 (fun o ho => ⟨(l2 o ho).1, N.2.1 o ho⟩)
  have c1 : ¬ nI o = -1 := by
    intro z
    have : (0 : Int32) ≤ nI o := nI_pos' (by omega)
    rw [z] at this
    revert this
    decide
  have c2 : nI 0 ≤ 0 := by decide
  refine ⟨_, S1, fun M => ⟨fun hp => ?_, ?_⟩⟩
  · rw [pw_X12_triesRung_62]
    simp only [d1, cn.2]
    simp [c1, c2, cn.1, nx.1, hp]
  · rw [gw_X12_triesRung_62]
    simp only [d1, cn.2]
    rw [if_neg c1, if_pos c2]
theorem m_stepY {o : Nat} (J : IT T) (I : IW T w n) (S : SM hm0 hm T w lf qt gt fr gv r D) (N : NL T w F lf qt gt) (ho : o < w 1) (hr : r < T 2) (hk : ob_ok T w qt gt o = true) :
    ∃ hm', SM hm0 hm' T w (ob_tk T (ob_u T w qt gt o) (w (93 + 8 * o)) lf) (ob_tk T (ob_u T w qt gt o) (w (93 + 8 * o)) qt) (ob_at gt o (gt o + ob_u T w qt gt o)) (ob_fr fr o r) (ob_at gv r (gv r + nI (ob_u T w qt gt o))) r (D ||| (1 <<< (nI o &&& 31))) ∧ ∀ M, (pw_X12_triesRung_62 M hm' (nI r) (f_X12_nextIn hm' (nI r)) → pw_X12_triesRung_62 (M + 1) hm (nI r) (nI o)) ∧ gw_X12_triesRung_62 (M + 1) hm (nI r) (nI o) = gw_X12_triesRung_62 M hm' (nI r) (f_X12_nextIn hm' (nI r)) := by
  have N' := N.step (T := T) (o := o) J I ho
  obtain ⟨R, ⟨l1, l2, l3⟩, d1, d2⟩ := S
  have hw := I.1.2.1
  have bT := J.1
  have ol := oa_open_le I ho
  have ul : ob_u T w qt gt o ≤ oa_open w o - gt o := Nat.min_le_left _ _
  have up := (ob_ok_i.mp hk).1
  have fit := ob_u_fit (qt := qt) (gt := gt) J I ho
  have R1 : RM (hp_i hm 12 0 22 (D ||| (1 <<< (nI o &&& 31)))) T w := R.done
  have cn := m_can (hm := hp_i hm 12 0 22 (D ||| (1 <<< (nI o &&& 31)))) (qt := qt) (gt := gt) J R1 I (fun p hp => ⟨(l1 p hp).2, by have := N.1 p hp; omega⟩) ho (l2 o (by omega)).1 (N.2.2.1 o ho)
  rw [hk, if_pos rfl] at cn
  obtain ⟨t1, t2, t3, t4⟩ := m_takes (hm := hp_i hm 12 0 22 (D ||| (1 <<< (nI o &&& 31)))) (u := ob_u T w qt gt o) J R1 I ho
  have f : ∀ t, ¬ t = 60 → ¬ t = 61 → ¬ t = 62 → (g_X12_takes0 (hp_i hm 12 0 22 (D ||| (1 <<< (nI o &&& 31)))) (nI o) (nI (ob_u T w qt gt o))).1 t 0 = (hp_i hm 12 0 22 (D ||| (1 <<< (nI o &&& 31)))).1 t 0 := fun t a b c => fr_X12_takes0 (by omega) (by omega) (by omega)
  have RT1 : RM (g_X12_takes0 (hp_i hm 12 0 22 (D ||| (1 <<< (nI o &&& 31)))) (nI o) (nI (ob_u T w qt gt o))) T w := R1.same (f 56 (by omega) (by omega) (by omega)) (f 58 (by omega) (by omega) (by omega))
  have f63 : (g_X12_takes0 (hp_i hm 12 0 22 (D ||| (1 <<< (nI o &&& 31)))) (nI o) (nI (ob_u T w qt gt o))).1 63 0 = hm.1 63 0 := f 63 (by omega) (by omega) (by omega)
  have f64 : (g_X12_takes0 (hp_i hm 12 0 22 (D ||| (1 <<< (nI o &&& 31)))) (nI o) (nI (ob_u T w qt gt o))).1 64 0 = hm.1 64 0 := f 64 (by omega) (by omega) (by omega)
  have f12 := f 12 (by omega) (by omega) (by omega)
  have e61 : ∀ p, p < 12 → (g_X12_takes0 (hp_i hm 12 0 22 (D ||| (1 <<< (nI o &&& 31)))) (nI o) (nI (ob_u T w qt gt o))).1 60 0 p = nI (ob_tk T (ob_u T w qt gt o) (w (93 + 8 * o)) lf p) ∧ (g_X12_takes0 (hp_i hm 12 0 22 (D ||| (1 <<< (nI o &&& 31)))) (nI o) (nI (ob_u T w qt gt o))).1 61 0 p = nI (ob_tk T (ob_u T w qt gt o) (w (93 + 8 * o)) qt p) := by
    intro p hp
    have nl := N.1 p hp
    have b60 : (hp_i hm 12 0 22 (D ||| (1 <<< (nI o &&& 31)))).1 60 0 p = nI (lf p) := (l1 p hp).1
    have b61 : (hp_i hm 12 0 22 (D ||| (1 <<< (nI o &&& 31)))).1 61 0 p = nI (qt p) := (l1 p hp).2
    unfold ob_tk
    by_cases d : p < T 0
    · have := fit p d
      rw [if_pos d, if_pos d, (t2 p d).1, (t2 p d).2, b60, b61, oa_sub (by omega), oa_sub (by omega)]
      exact ⟨rfl, rfl⟩
    · rw [if_neg d, if_neg d, (t3 p (by omega)).1, (t3 p (by omega)).2, b60, b61]
      exact ⟨rfl, rfl⟩
  have e62 : ∀ j, j < 20 → (g_X12_takes0 (hp_i hm 12 0 22 (D ||| (1 <<< (nI o &&& 31)))) (nI o) (nI (ob_u T w qt gt o))).1 62 0 j = nI (ob_at gt o (gt o + ob_u T w qt gt o) j) := by
    intro j hj
    have b62 : ∀ j, j < 20 → (hp_i hm 12 0 22 (D ||| (1 <<< (nI o &&& 31)))).1 62 0 j = nI (gt j) := fun j hj => (l2 j hj).1
    rw [t4 j]
    unfold ob_at
    by_cases d : j = o
    · rw [if_pos d, if_pos d, b62 o (by omega), nI_add]
    · rw [if_neg d, if_neg d, b62 j hj]
  generalize hH : g_X12_takes0 (hp_i hm 12 0 22 (D ||| (1 <<< (nI o &&& 31)))) (nI o) (nI (ob_u T w qt gt o)) = H at *
  have vo : vp_in (nI o) 20 := vp_in_nI (by omega) (by omega)
  have vr : vp_in (nI r) 6 := vp_in_nI (by omega) (by omega)
  have o63 : H.1 63 0 o = fr o := by rw [f63]; exact (l2 o (by omega)).2
  have o64 : H.1 64 0 r = gv r := by rw [f64]; exact l3 r (by omega)
  have S1 : SM hm0 (hp_i (hp_i H 63 0 o (ob_fr fr o r o)) 64 0 r (gv r + nI (ob_u T w qt gt o))) T w (ob_tk T (ob_u T w qt gt o) (w (93 + 8 * o)) lf) (ob_tk T (ob_u T w qt gt o) (w (93 + 8 * o)) qt) (ob_at gt o (gt o + ob_u T w qt gt o)) (ob_fr fr o r) (ob_at gv r (gv r + nI (ob_u T w qt gt o))) r (D ||| (1 <<< (nI o &&& 31))) := by
    refine ⟨(RT1.row (by omega)).row (by omega), ⟨fun p hp => e61 p hp, fun j hj => ⟨e62 j hj, ?_⟩, fun j hj => ?_⟩, ?_, fun k hk => ?_⟩
    · rw [hp_i_t (show ¬ 63 = 64 by omega), hp_i_g]
      by_cases d : j = o
      · rw [if_pos d, d]
      · rw [if_neg d, f63]
        unfold ob_fr
        rw [if_neg d]
        exact (l2 j hj).2
    · rw [hp_i_g]
      unfold ob_at
      by_cases d : j = r
      · rw [if_pos d, if_pos d]
      · rw [if_neg d, if_neg d, hp_i_t (show ¬ 64 = 63 by omega), f64]
        exact l3 j hj
    · rw [hp_i_t (show ¬ 12 = 64 by omega), hp_i_t (show ¬ 12 = 63 by omega), f12, hp_i_g, if_pos rfl]
    · rw [hp_i_t (show ¬ 12 = 64 by omega), hp_i_t (show ¬ 12 = 63 by omega), f12, hp_i_g, if_neg hk]
      exact d2 k hk
  have nx := m_nextIn J S1.1 I hr S1.2.2.1 (fun o ho => ⟨(S1.2.1.2.1 o ho).1, N'.2.1 o ho⟩)
  have c1 : ¬ nI o = -1 := by
    intro z
    have : (0 : Int32) ≤ nI o := nI_pos' (by omega)
    rw [z] at this
    revert this
    decide
  have c2 : ¬ nI (ob_u T w qt gt o) ≤ 0 := nI_nle up (by omega)
  refine ⟨_, S1, fun M => ?_⟩
  by_cases d5 : fr o = -1
  · have ef : ob_fr fr o r o = nI r := by unfold ob_fr; rw [if_pos rfl, if_pos d5]
    rw [ef] at nx ⊢
    refine ⟨fun hp => ?_, ?_⟩
    · rw [pw_X12_triesRung_62]
      simp only [d1, cn.2, hH, nI_clamp (show o < 2 ^ 31 by omega), nI_clamp (show r < 2 ^ 31 by omega), o63, o64]
      simp [c1, c2, cn.1, t1, vo, vr, d5, nx.1, hp]
    · rw [gw_X12_triesRung_62]
      simp only [d1, cn.2, hH, nI_clamp (show o < 2 ^ 31 by omega), nI_clamp (show r < 2 ^ 31 by omega), o63, o64]
      rw [if_neg c1, if_neg c2, if_neg (fun z => z d5)]
  · have ef : ob_fr fr o r o = fr o := by unfold ob_fr; rw [if_pos rfl, if_neg d5]
    rw [ef] at nx ⊢
    refine ⟨fun hp => ?_, ?_⟩
    · rw [pw_X12_triesRung_62]
      simp only [d1, cn.2, hH, nI_clamp (show o < 2 ^ 31 by omega), nI_clamp (show r < 2 ^ 31 by omega), o63, o64]
      simp [c1, c2, cn.1, t1, vo, vr, d5, nx.1, hp]
    · rw [gw_X12_triesRung_62]
      simp only [d1, cn.2, hH, nI_clamp (show o < 2 ^ 31 by omega), nI_clamp (show r < 2 ^ 31 by omega), o63, o64]
      rw [if_neg c1, if_neg c2, if_pos d5]
end QAL
