/-! load: over the whole relation -/
section LZL
variable {h hm K H2 : Hp} {x : Nat → Nat} {t s rr c L n : Nat} {T w : Nat → Nat}
theorem ob_int8 (z : Int8) : ∃ v, v < 256 ∧ z.toInt32 = ob_sb v := by
  refine ⟨z.toBitVec.toNat, z.toBitVec.isLt, ?_⟩
  unfold ob_sb
  congr 1
  apply Int8.toBitVec_inj.mp
  show z.toBitVec = BitVec.ofNat 8 z.toBitVec.toNat
  simp
theorem RC.at (C : RC h c T) (J : IT T) {h' : Hp} (e : ∀ a, a = 1 ∨ a = 20 ∨ a = 22 ∨ a = 23 ∨ a = 30 ∨ a = 31 ∨ a = 32 → h'.1 a c = h.1 a c) (er : ∀ a q, a = 25 ∨ a = 27 ∨ a = 29 → q < 8 → h'.1 a (8 * c + q) = h.1 a (8 * c + q)) (hl : ∀ a, h'.2.1 a c = h.2.1 a c) : RC h' c T := by
  have b := J.1
  obtain ⟨c1, c2, c3, c4, c5, c6, c7, c8, c9⟩ := C
  refine ⟨by rw [e 1 (by omega)]; exact c1, fun p hp => by rw [e 20 (by omega)]; exact c2 p hp, fun q hq => by rw [e 23 (by omega)]; exact c3 q hq, fun q l hq hl' => ?_, fun q p hq hp => ?_, fun q hq => by rw [e 22 (by omega)]; exact c6 q hq, fun r hr => by rw [e 30 (by omega), e 31 (by omega), e 32 (by omega)]; exact c7 r hr, fun p hp => by rw [hl 19]; exact c8 p hp, fun q hq => by rw [hl 21]; exact c9 q hq⟩
  · rw [er 25 q (by omega) (by omega), er 27 q (by omega) (by omega)]; exact c4 q l hq hl'
  · rw [er 29 q (by omega) (by omega)]; exact c5 q p hq hp
/-- the class takes its drafts -/
theorem a_swap (U : RU H2 (H2.2.2 7 0 3) T rr) (r1 : H2.2.2 7 0 3 + H2.2.2 11 0 6 = 1) : p_X7_swapCatalog H2 (H2.2.2 11 0 6) ∧ (∀ a i, ¬ (a = 3 ∧ i = 0) → ¬ (a = 1 ∧ i = H2.2.2 7 0 3) → ¬ (30 ≤ a ∧ a ≤ 32 ∧ i = H2.2.2 7 0 3) → (lgS H2).1 a i = H2.1 a i) ∧ (∀ k, (lgS H2).1 1 (H2.2.2 7 0 3) k = if k = 2 then nI (T 2) else H2.1 1 (H2.2.2 7 0 3) k) ∧
    (∀ r, r < T 2 → (lgS H2).1 30 (H2.2.2 7 0 3) r = nI (T (388 + 3 * r)) ∧ (lgS H2).1 31 (H2.2.2 7 0 3) r = nI (T (388 + 3 * r + 1)) ∧ (lgS H2).1 32 (H2.2.2 7 0 3) r = nI (T (388 + 3 * r + 2))) ∧ (∀ k, (lgS H2).1 3 0 k = if k = 0 then 0 else H2.1 3 0 k) ∧ (lgS H2).2.1 = H2.2.1 ∧ (lgS H2).2.2 11 0 6 = H2.2.2 7 0 3 ∧ (lgS H2).2.2 7 0 3 = H2.2.2 11 0 6 ∧ (lgS H2).2.2 11 0 7 = H2.2.2 7 0 4 ∧ (lgS H2).2.2 7 0 4 = H2.2.2 11 0 7 := by
  obtain ⟨u1, u2, u3, u4, u5⟩ := U
  have fc : f_X7_swapCatalog H2 (H2.2.2 11 0 6) = H2.2.2 7 0 3 := by unfold f_X7_swapCatalog; exact ite_self _
  -- the catalog with its usual rung
  have key : p_X7_swapCatalog H2 (H2.2.2 11 0 6) ∧ ∃ H, g_X7_swapCatalog H2 (H2.2.2 11 0 6) = hp_r H 7 0 3 (H2.2.2 11 0 6) ∧ (∀ a i, ¬ (a = 1 ∧ i = H2.2.2 7 0 3) → ¬ (30 ≤ a ∧ a ≤ 32 ∧ i = H2.2.2 7 0 3) → H.1 a i = H2.1 a i) ∧ (∀ k, H.1 1 (H2.2.2 7 0 3) k = if k = 2 then nI (T 2) else H2.1 1 (H2.2.2 7 0 3) k) ∧ (∀ r, r < T 2 → H.1 30 (H2.2.2 7 0 3) r = nI (T (388 + 3 * r)) ∧ H.1 31 (H2.2.2 7 0 3) r = nI (T (388 + 3 * r + 1)) ∧ H.1 32 (H2.2.2 7 0 3) r = nI (T (388 + 3 * r + 2))) ∧ H.2 = H2.2 := by
    unfold p_X7_swapCatalog g_X7_swapCatalog
    by_cases d : rr = 0
    · obtain ⟨z1, z2, z3, z4⟩ := u3 d
      have e0 : H2.1 1 (H2.2.2 7 0 3) 2 = 0 := by rw [u1, d]; rfl
      have n6 : ¬ (6 : Int32) ≤ H2.1 1 (H2.2.2 7 0 3) 2 := by rw [e0]; decide
      have v0 : vp_in (H2.1 1 (H2.2.2 7 0 3) 2) 6 := by rw [e0]; exact vp_in_nI (n := 0) (by omega) (by omega)
      have ga : g_X1_addRung H2 (H2.2.2 7 0 3) 0 9 100 = hp_i (hp_i (hp_i (hp_i H2 30 (H2.2.2 7 0 3) 0 0) 31 (H2.2.2 7 0 3) 0 9) 32 (H2.2.2 7 0 3) 0 100) 1 (H2.2.2 7 0 3) 2 1 := by
        unfold g_X1_addRung
        rw [if_neg n6, e0]
        rfl
      rw [if_neg (fun z => z e0), ga]
      refine ⟨⟨fun z => (z e0).elim, fun _ => ⟨⟨fun z => (n6 z).elim, fun _ => ⟨v0, v0, v0, trivial⟩⟩, trivial⟩⟩, _, rfl, fun a i y1 y2 => ?_, fun k => ?_, fun r hr => ?_, rfl⟩
      · rw [hp_i_n y1, hp_i_n (by omega), hp_i_n (by omega), hp_i_n (by omega)]
      · rw [hp_i_g, hp_i_t (by omega), hp_i_t (by omega), hp_i_t (by omega), z1]; rfl
      · have : r = 0 := by omega
        rw [this, show 388 + 3 * 0 = 388 by omega, z2, z3, z4]
        refine ⟨?_, ?_, ?_⟩
        · rw [hp_i_t (by omega), hp_i_t (by omega), hp_i_t (by omega), hp_i_g, if_pos rfl]; rfl
        · rw [hp_i_t (by omega), hp_i_t (by omega), hp_i_g, if_pos rfl]; rfl
        · rw [hp_i_t (by omega), hp_i_g, if_pos rfl]; rfl
    · have e0 : ¬ H2.1 1 (H2.2.2 7 0 3) 2 = 0 := by rw [u1]; exact fun z => d ((nI_eq (b := 0) (by omega) (by omega)).mp z)
      rw [if_pos e0]
      refine ⟨⟨fun _ => trivial, fun z => (e0 z).elim⟩, H2, rfl, fun _ _ _ _ => rfl, fun k => ?_, fun r hr => ?_, rfl⟩
      · by_cases y : k = 2
        · rw [if_pos y, y, u1, u4 (by omega)]
        · rw [if_neg y]
      · rw [u4 (by omega)] at hr
        exact (u5 r hr).1
  obtain ⟨k0, H, k1, k2, k3, k4, k5⟩ := key
  have e22 : H.2.2 = H2.2.2 := by rw [k5]
  have e21 : H.2.1 = H2.2.1 := by rw [k5]
  have eS : lgS H2 = hp_i (hp_r (hp_r (hp_r (hp_r H 7 0 3 (H2.2.2 11 0 6)) 11 0 6 (H2.2.2 7 0 3)) 7 0 4 (H2.2.2 11 0 7)) 11 0 7 (H2.2.2 7 0 4)) 3 0 0 0 := by
    unfold lgS lg4 lg3 g_X3_forget g_X7_swapLedger f_X7_swapLedger
    rw [fc, k1]
    have a1 : (hp_r (hp_r H 7 0 3 (H2.2.2 11 0 6)) 11 0 6 (H2.2.2 7 0 3)).2.2 11 0 7 = H2.2.2 11 0 7 := by
      unfold hp_r
      simp [e22]
    have a2 : (hp_r (hp_r H 7 0 3 (H2.2.2 11 0 6)) 11 0 6 (H2.2.2 7 0 3)).2.2 7 0 4 = H2.2.2 7 0 4 := by
      unfold hp_r
      simp [e22]
    rw [a1, a2]
  rw [eS]
  refine ⟨k0, fun a i y1 y2 y3 => ?_, fun k => ?_, fun r hr => ?_, fun k => ?_, e21, ?_, ?_, ?_, ?_⟩
  · rw [hp_i_n y1]; exact k2 a i y2 y3
  · rw [hp_i_t (by omega)]; exact k3 k
  · rw [hp_i_t (by omega), hp_i_t (by omega), hp_i_t (by omega)]; exact k4 r hr
  · rw [hp_i_g]
    by_cases y : k = 0
    · rw [if_pos y, if_pos y]
    · rw [if_neg y, if_neg y]
      exact congrFun (k2 3 0 (by omega) (by omega)) k
  · unfold hp_i hp_a hp_r; simp
  · unfold hp_i hp_a hp_r; simp
  · unfold hp_i hp_a hp_r; simp
  · unfold hp_i hp_a hp_r; simp
end LZL
