/-! the start's world stands for the start -/
theorem bz_chk : (oa_ix.all fun r => bz_ord[bz_ad r.1 r.2]? == some r && decide (r.1 < 67)) = true := by decide +kernel
theorem bz_chk1 {r : Nat × Nat} (h : r ∈ oa_ix) : bz_ord[bz_ad r.1 r.2]? = some r ∧ r.1 < 67 := by
  have a := List.all_eq_true.mp bz_chk r h
  rw [Bool.and_eq_true] at a
  exact ⟨beq_iff_eq.mp a.1, of_decide_eq_true a.2⟩
theorem bz_w_ad {g : BC} {ext : Nat → Nat} {t i : Nat} (h : t < 67) : (bz_w g ext).2.2.1 t i = g.1 + bz_ad t i := if_pos h
theorem bz_kd3 : (oa_kdL.all fun q => q.2.2.all fun f => !(f.1 == 3) || Nat.ble 2 (oa_cn f.2)) = true := by decide +kernel
theorem bz_kd4 : ((List.range 67).all fun t => !((oa_kd t).1 == 4) || (t == 40 || t == 41)) = true := by decide +kernel
theorem bz_kdn : oa_kdL.length = 67 := by decide +kernel
theorem st_ok : oa_ok bz_h := by
  refine ⟨fun t i k t' hk hi => ?_, fun t i k h4 => ?_⟩
  · have hle : bz_h.2.2 t i k ≤ 1 := by
      show (if t = 11 ∧ (k = 6 ∨ k = 7) then 1 else 0) ≤ 1
      by_cases c : t = 11 ∧ (k = 6 ∨ k = 7)
      · rw [if_pos c]; exact Nat.le_refl _
      · rw [if_neg c]; exact Nat.zero_le _
    have h2 : 2 ≤ oa_cn t' := by
      by_cases ht : t < 67
      · have hm : oa_kd t ∈ oa_kdL := by
          unfold oa_kd
          rw [List.getD_eq_getElem?_getD, List.getElem?_eq_getElem (by rw [bz_kdn]; exact ht)]
          exact List.getElem_mem _
        have a := List.all_eq_true.mp (List.all_eq_true.mp bz_kd3 _ hm) _ (List.mem_of_getElem? hk)
        simp only [beq_self_eq_true, Bool.not_true, Bool.false_or] at a
        exact Nat.le_of_ble_eq_true a
      · have : oa_kd t = (9, 0, []) := by
          unfold oa_kd
          rw [List.getD_eq_getElem?_getD, List.getElem?_eq_none (by rw [bz_kdn]; omega)]
          rfl
        rw [this] at hk
        cases hk
    omega
  · left
    by_cases ht : t < 67
    · have a := List.all_eq_true.mp bz_kd4 t (List.mem_range.mpr ht)
      rw [h4] at a
      simp only [beq_self_eq_true, Bool.not_true, Bool.false_or, Bool.or_eq_true, beq_iff_eq] at a
      rcases a with rfl | rfl <;> rfl
    · have : oa_kd t = (9, 0, []) := by
        unfold oa_kd
        rw [List.getD_eq_getElem?_getD, List.getElem?_eq_none (by rw [bz_kdn]; omega)]
        rfl
      rw [this] at h4
      cases h4
theorem st_RP {g : BC} {ext : Nat → Nat} {H : Heap} (hP : bz_P g (bz_all g) H) : oa_RP (bz_w g ext) bz_h H := by
  have key : ∀ (k : Nat) (q : Nat × va_E), (oa_ws (bz_w g ext) bz_h)[k]? = some q → ∃ r, oa_ix[k]? = some r ∧ q = (g.1 + bz_ad r.1 r.2, bz_en g ext r) ∧ bz_ord[bz_ad r.1 r.2]? = some r := by
    intro k q hk
    unfold oa_ws at hk
    rw [List.getElem?_map] at hk
    obtain ⟨r, hr, rfl⟩ := Option.map_eq_some_iff.mp hk
    obtain ⟨c1, c2⟩ := bz_chk1 (List.mem_of_getElem? hr)
    exact ⟨r, hr, by rw [bz_w_ad c2], c1⟩
  refine ⟨fun k q hk => ?_, ⟨fun i j x y hi hj hxy => ?_, fun k q hk => ?_⟩, st_ok⟩
  · obtain ⟨r, -, rfl, hr⟩ := key k q hk
    refine hP.1 (bz_ad r.1 r.2) _ ?_
    rw [bz_get, ly_all g ext, List.getElem?_map, hr]
    rfl
  · obtain ⟨r, h1, rfl, h2⟩ := key i x hi
    obtain ⟨r', h3, rfl, h4⟩ := key j y hj
    have e : g.1 + bz_ad r.1 r.2 = g.1 + bz_ad r'.1 r'.2 := hxy
    rw [show bz_ad r.1 r.2 = bz_ad r'.1 r'.2 by omega, h4] at h2
    cases h2
    exact oa_ix_inj i j r h1 h3
  · obtain ⟨r, -, rfl, -⟩ := key k q hk
    exact Nat.le_add_right _ _
/-- what the law's loop knows and owes -/
abbrev st_K (w : WD) (nS : Nat) (sc : Nat → Int32) (Qr : Option AV → Hp → Prop) (Qx : String → Hp → Prop) : BK := (fun l s c => c.exceptionTable.toList = tableOf [] ∧ oa_JF w l s s.heap ∧ oa_X nS sc w s, fun below args s mc ms => vx_MQ below (oa_QC w Qr) (oa_XC w Qx) args s mc ms (oa_A w))
theorem st_bw {g : BC} {ext : Nat → Nat} {nS d rb : Nat} {sc : Nat → Int32} {Qr : Option AV → Hp → Prop} {Qx : String → Hp → Prop} (k : AW (oa_X nS sc) d rb mL_law 23 [(0, vR 2000 0), (1, vR 11 0), (2, vR 12 0), (3, vR 66 0), (4, vI (nI (6 * 0)))] [] bz_h Qr Qx) :
    BW g d rb (6 * rb) mL_law 23 [(4, .int 0), (3, .ref (g.1 + 396)), (2, .ref (g.1 + 383)), (1, .ref (g.1 + 0)), (0, .ref (ext 2000))] [] (bz_all g) (st_K (bz_w g ext) nS sc Qr Qx) := by
  refine bw_sub (L2 := [(0, .ref (ext 2000)), (1, .ref (g.1 + 0)), (2, .ref (g.1 + 383)), (3, .ref (g.1 + 396)), (4, .int 0)]) [4, 3, 2, 1, 0] rfl ?_
  rw [Nat.mul_zero, nI_0] at k
  intro p l e R s m args below meth c mc ms F hf hlo hmc hms hg hX H locs cells slots ls hc hs hx hP hS hl
  refine k (bz_w g ext) p l e R s m args below meth c mc ms ⟨F.1, F.2.1, F.2.2.1, F.2.2.2.1, F.2.2.2.2.1, F.2.2.2.2.2.1, hX.1, hX.2.1⟩ hX.2.2 hf hlo hmc hms H locs cells slots ls hc hs (st_RP hP) hS hl ?_ (fun v hv => nomatch hv)
  intro q hq
  rcases List.mem_cons.mp hq with rfl | hq
  · exact (by decide : 0 < oa_cn 2000)
  rcases List.mem_cons.mp hq with rfl | hq
  · exact (by decide : 0 < oa_cn 11)
  rcases List.mem_cons.mp hq with rfl | hq
  · exact (by decide : 0 < oa_cn 12)
  rcases List.mem_cons.mp hq with rfl | hq
  · exact (by decide : 0 < oa_cn 66)
  rcases List.mem_cons.mp hq with rfl | hq
  · trivial
  cases hq
/-- the whole law, from its entry -/
theorem st_law {g : BC} {ext : Nat → Nat} {nS : Nat} {sc : Nat → Int32} {Qr : Option AV → Hp → Prop} {Qx : String → Hp → Prop} (hS : nS ≤ 3072) (kr : ∀ h, Qr (some (vI 1)) h) (A : RA bz_h bz_h 0) : BW g 16 (512 + 397) (6 * 512 + 12562) mL_law 0 [(0, .ref (ext 2000))] [] [] (st_K (bz_w g ext) nS sc Qr Qx) :=
  bw_law (d := 11) (st_bw (lw_loop (d := 5) hS kr 512 0 512 bz_h (by omega) (Nat.le_refl _) (by omega) A))
