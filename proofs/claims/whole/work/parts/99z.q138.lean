/-! the start's facts: classes, statics, all that every frame knows -/
section STG
variable {s : State} {args : Array Value}
theorem ss_gt (hts : ∀ w ∈ lw_tbl, w.before args s = true) : ∀ q ∈ oa_GT, ∀ a : Array Value, q.before a s = true := fun q hq a => word_at (State.WarmedH.refl s) (good_of_word (List.mem_filter.mp hq).2) (hts q (List.mem_filter.mp hq).1)
theorem ss_cls (hts : ∀ w ∈ lw_tbl, w.before args s = true) : ∃ (dC : Nat → ClassId) (dI : Nat → Nat → Nat), ∀ (c : Nat) (q : vw_C), vwCl[c]? = some q → u_Kn s q.1 q.2.1 q.2.2 (dC c) (dI c) := by
  have hgt : ∀ w ∈ oa_GT, w.before args s = true := fun w hw => ss_gt hts w hw args
  have key : ∀ c : Nat, ∃ p : ClassId × (Nat → Nat), ∀ q, vwCl[c]? = some q → u_Kn s q.1 q.2.1 q.2.2 p.1 p.2 := by
    intro c
    match c with
    | 0 =>
      obtain ⟨cC, iS, h⟩ := u_known (C := RX0) (T := TX0) (N := 6) (n := 6) (ws := oa_GT) hgt cg_0 (hgt _ gi_377)
      exact ⟨(cC, iS), fun q hq => by obtain rfl := Option.some.inj (cb_0.1.symm.trans hq); exact h⟩
    | 1 =>
      obtain ⟨cC, iS, h⟩ := u_known (C := RX1) (T := TX1) (N := 14) (n := 14) (ws := oa_GT) hgt cg_1 (hgt _ gi_165)
      exact ⟨(cC, iS), fun q hq => by obtain rfl := Option.some.inj (cb_1.1.symm.trans hq); exact h⟩
    | 2 =>
      obtain ⟨cC, iS, h⟩ := u_known (C := RX2) (T := TX2) (N := 2) (n := 2) (ws := oa_GT) hgt cg_2 (hgt _ gi_402)
      exact ⟨(cC, iS), fun q hq => by obtain rfl := Option.some.inj (cb_2.1.symm.trans hq); exact h⟩
    | 3 =>
      obtain ⟨cC, iS, h⟩ := u_known (C := RX3) (T := TX3) (N := 3) (n := 3) (ws := oa_GT) hgt cg_3 (hgt _ gi_357)
      exact ⟨(cC, iS), fun q hq => by obtain rfl := Option.some.inj (cb_3.1.symm.trans hq); exact h⟩
    | 4 =>
      obtain ⟨cC, iS, h⟩ := u_known (C := RX4) (T := TX4) (N := 2) (n := 2) (ws := oa_GT) hgt cg_4 (hgt _ gi_133)
      exact ⟨(cC, iS), fun q hq => by obtain rfl := Option.some.inj (cb_4.1.symm.trans hq); exact h⟩
    | 5 =>
      obtain ⟨cC, iS, h⟩ := u_known (C := RX5) (T := TX5) (N := 3) (n := 3) (ws := oa_GT) hgt cg_5 (hgt _ gi_226)
      exact ⟨(cC, iS), fun q hq => by obtain rfl := Option.some.inj (cb_5.1.symm.trans hq); exact h⟩
    | 6 =>
      obtain ⟨cC, iS, h⟩ := u_known (C := RX6) (T := TX6) (N := 9) (n := 9) (ws := oa_GT) hgt cg_6 (hgt _ gi_263)
      exact ⟨(cC, iS), fun q hq => by obtain rfl := Option.some.inj (cb_6.1.symm.trans hq); exact h⟩
    | 7 =>
      obtain ⟨cC, iS, h⟩ := u_known (C := RX7) (T := TX7) (N := 5) (n := 5) (ws := oa_GT) hgt cg_7 (hgt _ gi_121)
      exact ⟨(cC, iS), fun q hq => by obtain rfl := Option.some.inj (cb_7.1.symm.trans hq); exact h⟩
    | 8 =>
      obtain ⟨cC, iS, h⟩ := u_known (C := RX8) (T := TX8) (N := 4) (n := 4) (ws := oa_GT) hgt cg_8 (hgt _ gi_302)
      exact ⟨(cC, iS), fun q hq => by obtain rfl := Option.some.inj (cb_8.1.symm.trans hq); exact h⟩
    | 9 =>
      obtain ⟨cC, iS, h⟩ := u_known (C := RX9) (T := TX9) (N := 4) (n := 4) (ws := oa_GT) hgt cg_9 (hgt _ gi_127)
      exact ⟨(cC, iS), fun q hq => by obtain rfl := Option.some.inj (cb_9.1.symm.trans hq); exact h⟩
    | 10 =>
      obtain ⟨cC, iS, h⟩ := u_known (C := RX10) (T := TX10) (N := 7) (n := 7) (ws := oa_GT) hgt cg_10 (hgt _ gi_232)
      exact ⟨(cC, iS), fun q hq => by obtain rfl := Option.some.inj (cb_10.1.symm.trans hq); exact h⟩
    | 11 =>
      obtain ⟨cC, iS, h⟩ := u_known (C := RX11) (T := TX11) (N := 8) (n := 8) (ws := oa_GT) hgt cg_11 (hgt _ gi_113)
      exact ⟨(cC, iS), fun q hq => by obtain rfl := Option.some.inj (cb_11.1.symm.trans hq); exact h⟩
    | 12 =>
      obtain ⟨cC, iS, h⟩ := u_known (C := RX12) (T := TX12) (N := 25) (n := 25) (ws := oa_GT) hgt cg_12 (hgt _ gi_1581)
      exact ⟨(cC, iS), fun q hq => by obtain rfl := Option.some.inj (cb_12.1.symm.trans hq); exact h⟩
    | c + 13 => exact ⟨(0, fun _ => 0), fun q hq => by cases hq⟩
  obtain ⟨f, hf⟩ := Classical.axiomOfChoice key
  exact ⟨fun c => (f c).1, fun c => (f c).2, fun c q hq => hf c q hq⟩
theorem ss_K (hts : ∀ w ∈ lw_tbl, w.before args s = true) : ∃ (D : va_G) (tc : Nat → ClassId), ∀ n0 : Nat, va_K D vwCl (bz_tys (n0, D, tc)) s := by
  obtain ⟨dC, dI, h1⟩ := ss_cls hts
  have hgt : ∀ w ∈ oa_GT, w.before args s = true := fun w hw => ss_gt hts w hw args
  obtain ⟨c0, a0⟩ := ss_ac (ty := .int) (hgt _ gi_224) (fun C h => nomatch h)
  obtain ⟨c1, a1⟩ := ss_ac (ty := .byte) (hgt _ gi_147) (fun C h => nomatch h)
  obtain ⟨c2, a2⟩ := ss_ac (ty := .long) (hgt _ gi_223) (fun C h => nomatch h)
  obtain ⟨c3, a3⟩ := ss_ac (ty := .boolean) (hgt _ gi_300) (fun C h => nomatch h)
  obtain ⟨c4, a4⟩ := ss_ol (hts _ ni_363)
  obtain ⟨c5, a5⟩ := ss_oi (hts _ ni_171)
  refine ⟨(dC, dI), fun j => match j with | 0 => c0 | 1 => c1 | 2 => c2 | 3 => c3 | 4 => c4 | _ => c5, fun n0 => ⟨h1, fun k q hk => ?_⟩⟩
  match k, hk with
  | 0, hk => cases hk; exact a0
  | 1, hk => cases hk; exact a1
  | 2, hk => cases hk; exact a2
  | 3, hk => cases hk; exact a3
  | 4, hk => cases hk; exact a4
  | 5, hk => cases hk; exact a5
  | k + 6, hk => cases hk
theorem ss_JF {n0 : Nat} {D : va_G} {tc : Nat → ClassId} (hts : ∀ w ∈ lw_tbl, w.before args s = true) (hK : va_K D vwCl (bz_tys (n0, D, tc)) s) : bz_JF (n0, D, tc) s :=
  ⟨ss_gt hts, fun o i y n hn => va_Nw.of rfl (hts _ hn), hK, fun t ht a => hts _ ht⟩
theorem ss_oa {D : va_G} {tc : Nat → ClassId} {l : Launch} (b : Nat) (hl : l.flags = flags0) (hg : ∀ c ∈ bz_gv, c.before args s = true) (hts : ∀ w ∈ lw_tbl, w.before args s = true) (hK : va_K D vwCl (bz_tys (s.heap.size, D, tc)) s) :
    ∃ ext : Nat → Nat, ext 2000 = b ∧ oa_JF (bz_w (s.heap.size, D, tc) ext) l s s.heap := by
  have hA : ∀ a : Nat, a < s.heap.size → ¬ (fun q : Nat => s.heap.size ≤ q) a := fun a h => Nat.not_le.mpr h
  have key : ∀ j : Nat, ∃ p : Nat × Nat, ∀ q, oa_SL[j]? = some q → vk_R q.1 q.2.1 q.2.2.1 p.1 s ∧ va_O "java/lang/String" p.1 (fun q => s.heap.size ≤ q) s s.heap ∧ va_OF "java/lang/String" "coder" "B" (.int 0) p.1 (fun q => s.heap.size ≤ q) s s.heap ∧ va_OF "java/lang/String" "value" "[B" (.ref p.2) p.1 (fun q => s.heap.size ≤ q) s s.heap ∧ va_T .byte p.2 q.2.2.2.length (fun i => .int (q.2.2.2.getD i 0)) (fun q => s.heap.size ≤ q) s s.heap := by
    intro j
    cases hj : oa_SL[j]? with
    | none => exact ⟨(0, 0), fun q hq => by cases hq⟩
    | some q =>
      obtain ⟨a, v, h⟩ := ss_of (A := fun q => s.heap.size ≤ q) hg hts hA hj
      exact ⟨(a, v), fun q' hq => by cases hq; exact h⟩
  obtain ⟨ad, had⟩ := Classical.axiomOfChoice key
  have z1 := va_Zof (A := fun q => s.heap.size ≤ q) (C := "java/lang/String") (n := "COMPACT_STRINGS") (d := "Z") (v := .int 1) (hts _ (List.mem_of_getElem? (i := 805) (by decide +kernel))) (hts _ (List.mem_of_getElem? (i := 100) (by decide +kernel))) (va_eqt (hg _ (List.mem_of_getElem? (i := 4) (by decide +kernel)))) hA
  have z2 := va_Zqof (C := "jdk/internal/util/Preconditions") (n := "SIOOBE_FORMATTER") (d := "Ljava/util/function/BiFunction;") (A := fun q => s.heap.size ≤ q) (hts _ (List.mem_of_getElem? (i := 821) (by decide +kernel))) (hts _ (List.mem_of_getElem? (i := 102) (by decide +kernel))) (hg _ (List.mem_of_getElem? (i := 5) (by decide +kernel))) hA
  have z3 := vx_Zqof (C := Bundle.tN) (n := "UNASSIGNED_STACK") (d := Bundle.steD) (A := fun q => s.heap.size ≤ q) (hts _ (List.mem_of_getElem? (i := 989) (by decide +kernel))) (hts _ (List.mem_of_getElem? (i := 105) (by decide +kernel))) (hg _ (List.mem_of_getElem? (i := 9) (by decide +kernel))) hA
  have z4 := vx_Zqof (C := Bundle.tN) (n := "SUPPRESSED_SENTINEL") (d := Bundle.listD) (A := fun q => s.heap.size ≤ q) (hts _ (List.mem_of_getElem? (i := 991) (by decide +kernel))) (hts _ (List.mem_of_getElem? (i := 105) (by decide +kernel))) (hg _ (List.mem_of_getElem? (i := 10) (by decide +kernel))) hA
  have n0 : va_Nc "java/lang/IllegalArgumentException" "java/lang/IndexOutOfBoundsException" s := va_Nc.of (hg _ (List.mem_of_getElem? (i := 39) (by decide +kernel)))
  have n1 : va_Nc "java/lang/IllegalStateException" "java/lang/IndexOutOfBoundsException" s := va_Nc.of (hg _ (List.mem_of_getElem? (i := 40) (by decide +kernel)))
  have n2 : va_Nc "java/lang/IllegalStateException" "java/lang/IllegalArgumentException" s := va_Nc.of (hg _ (List.mem_of_getElem? (i := 25) (by decide +kernel)))
  obtain ⟨f3, hf3⟩ : ∃ f3 : Nat, va_Z "jdk/internal/util/Preconditions" "SIOOBE_FORMATTER" "Ljava/util/function/BiFunction;" .null (fun q => s.heap.size ≤ q) s s.heap ∨ va_Z "jdk/internal/util/Preconditions" "SIOOBE_FORMATTER" "Ljava/util/function/BiFunction;" (.ref f3) (fun q => s.heap.size ≤ q) s s.heap := by
    rcases z2 with z | ⟨t, z⟩
    · exact ⟨0, Or.inl z⟩
    · exact ⟨t, Or.inr z⟩
  refine ⟨fun t => if t = 2000 then b else if t = 3000 then f3 else if 1500 ≤ t then (ad (t - 1500)).2 else (ad (t - 1000)).1, rfl, hl, ss_gt hts, fun o i y n hn => va_Nw.of rfl (hts _ hn), hK, Nat.le_refl _, z3, z4, fun C T hc => va_Nw.of rfl (hts _ hc), fun x hx => va_Nw.of rfl (hts _ hx), fun j q hj => ?_, z1, hf3, fun q hq => ?_⟩
  · have hlt : j < 36 := by
      have := (List.getElem?_eq_some_iff.mp hj).1
      rw [bz_scl.1] at this
      exact this
    have e1 : (bz_w (s.heap.size, D, tc) (fun t => if t = 2000 then b else if t = 3000 then f3 else if 1500 ≤ t then (ad (t - 1500)).2 else (ad (t - 1000)).1)).2.2.1 (1000 + j) 0 = (ad j).1 := by
      show (if 1000 + j < 67 then _ else if 1000 + j = 2000 then b else if 1000 + j = 3000 then f3 else if 1500 ≤ 1000 + j then (ad (1000 + j - 1500)).2 else (ad (1000 + j - 1000)).1) = _
      rw [if_neg (by omega), if_neg (by omega), if_neg (by omega), if_neg (by omega), show 1000 + j - 1000 = j by omega]
    have e2 : (bz_w (s.heap.size, D, tc) (fun t => if t = 2000 then b else if t = 3000 then f3 else if 1500 ≤ t then (ad (t - 1500)).2 else (ad (t - 1000)).1)).2.2.1 (1500 + j) 0 = (ad j).2 := by
      show (if 1500 + j < 67 then _ else if 1500 + j = 2000 then b else if 1500 + j = 3000 then f3 else if 1500 ≤ 1500 + j then (ad (1500 + j - 1500)).2 else (ad (1500 + j - 1000)).1) = _
      rw [if_neg (by omega), if_neg (by omega), if_neg (by omega), if_pos (by omega), show 1500 + j - 1500 = j by omega]
    rw [e1, e2]
    exact had j q hj
  · rcases List.mem_cons.mp hq with rfl | hq
    · exact n0
    rcases List.mem_cons.mp hq with rfl | hq
    · exact n1
    rcases List.mem_cons.mp hq with rfl | hq
    · exact n2
    cases hq
end STG
