/-! load: a line of a bill added to the draft -/
section ADL
variable {h h' H k : Hp} {c q l p v m : Nat} {T T' : Nat → Nat}
/-- the last writes of addLine -/
def ob_AL (H : Hp) (c q l : Nat) (a b : Int32) : Hp := hp_i (hp_i (hp_i (hp_i H 22 c q (if H.1 22 c q < 1 + f_X1_levelOf H c (a - 100) then 1 + f_X1_levelOf H c (a - 100) else H.1 22 c q)) 25 (8 * c + q) l a) 27 (8 * c + q) l b) 23 c q (nI (l + 1))
theorem l_add (D : DR h c T) (h1 : T 1 < 8) (hm : VK T m) (hl : l < 6) (hN : ∀ p, p < 12 → h.1 29 (8 * c + T 1) p = nI (T (292 + 12 * T 1 + p))) : ∀ (n f p : Nat) (H : Hp), p + n = T 0 → (∀ a j, ¬ (a = 29 ∧ j = 8 * c + T 1) → H.1 a j = h.1 a j) → (∀ p', p ≤ p' → H.1 29 (8 * c + T 1) p' = h.1 29 (8 * c + T 1) p') →
    ∃ H', (∀ a j, ¬ (a = 29 ∧ j = 8 * c + T 1) → H'.1 a j = h.1 a j) ∧ (∀ p', H'.1 29 (8 * c + T 1) p' = if p ≤ p' ∧ p' < T 0 then nI (T (292 + 12 * T 1 + p') + v * ob_iu T m p') else H.1 29 (8 * c + T 1) p') ∧ H'.2 = H.2 ∧
      (p_X1_levelOf H' c (nI (ob_en m) - 100) → pw_X1_addLine_24 (n + 1 + f) H c (nI (ob_en m)) (nI v) (nI l) (nI p)) ∧ gw_X1_addLine_24 (n + 1 + f) H c (nI (ob_en m)) (nI v) (nI l) (nI p) = ob_AL H' c (T 1) l (nI (ob_en m)) (nI v) := by
  have b := D.1
  have e0 := D.2.1
  have vq : vp_in (nI (T 1)) 8 := vp_in_nI (by omega) (by omega)
  have vl : vp_in (nI l) 6 := vp_in_nI (by omega) (by omega)
  have el : nI l + 1 = nI (l + 1) := nI_add l 1
  intro n
  induction n with
  | zero =>
    intro f p H hp HC HN
    have f0 : H.1 1 c 0 = nI (T 0) := by rw [HC 1 c (by omega)]; exact e0.1
    have f1 : H.1 1 c 1 = nI (T 1) := by rw [HC 1 c (by omega)]; exact e0.2
    rw [show 0 + 1 + f = f + 1 by omega, pw_X1_addLine_24, gw_X1_addLine_24, f0, f1]
    have c1 : nI (T 0) ≤ nI p := nI_le (by omega) (by omega)
    rw [if_pos c1, nI_clamp (by omega), nI_clamp (by omega), nI_clamp (by omega), el]
    refine ⟨H, HC, fun p' => ?_, rfl, fun z => ⟨fun _ => ⟨vq, z, vq, vq, vl, vq, vl, vq, trivial⟩, fun z => (z c1).elim⟩, rfl⟩
    rw [if_neg (by omega)]
  | succ n ih =>
    intro f p H hp HC HN
    have f0 : H.1 1 c 0 = nI (T 0) := by rw [HC 1 c (by omega)]; exact e0.1
    have f1 : H.1 1 c 1 = nI (T 1) := by rw [HC 1 c (by omega)]; exact e0.2
    have nw := a_needWith (v := v) (h' := H) D h1 f0 f1 (fun q p hq => by rw [HC 29 _ (by omega)]) hm (show p < T 0 by omega) ((congrFun rfl p).trans ((HN p (Nat.le_refl _)).trans (hN p (by omega))))
    have c1 : ¬ nI (T 0) ≤ nI p := nI_ge (by omega) (by omega)
    have en : nI p + 1 = nI (p + 1) := nI_add p 1
    obtain ⟨H', r1, r2, r3, r4, r5⟩ := ih f (p + 1) (hp_i H 29 (8 * c + T 1) p (nI (T (292 + 12 * T 1 + p) + v * ob_iu T m p))) (by omega) (fun a j y => by rw [hp_i_n y]; exact HC a j y) (fun p' y => by rw [hp_i_g, if_neg (by omega)]; exact HN p' (by omega))
    rw [show n + 1 + 1 + f = (n + 1 + f) + 1 by omega, pw_X1_addLine_24, gw_X1_addLine_24, f0, f1, if_neg c1, nI_clamp (by omega), nI_clamp (by omega), nw.2, en]
    refine ⟨H', r1, fun p' => ?_, r3, fun z => ⟨fun z => (c1 z).elim, fun _ => ⟨vq, nw.1, vp_in_nI (by omega) (by omega), r4 z⟩⟩, r5⟩
    rw [r2 p', hp_i_g]
    by_cases d : p' = p
    · rw [if_neg (by omega), if_pos d, if_pos (by omega), d]
    · rw [if_neg d]
      by_cases d2 : p + 1 ≤ p' ∧ p' < T 0
      · rw [if_pos d2, if_pos (by omega)]
      · rw [if_neg d2, if_neg (by omega)]
theorem a_lvlOf (D : DR h c T) (e1 : H.1 1 c 1 = nI (T 1)) (e22 : ∀ q, q < T 1 → H.1 22 c q = h.1 22 c q) (hm : VK T m) : p_X1_levelOf H c (nI (ob_en m) - 100) ∧ f_X1_levelOf H c (nI (ob_en m) - 100) = nI (if m < 12 then 0 else oa_lvl T 8 (m - 12)) := by
  have b := D.1
  by_cases d : m < 12
  · have en : ob_en m = m := if_pos d
    have c1 := ob_n100 m d
    have fi : f_X11_isInside H (nI m - 100) (nI (T 1)) = 0 := by unfold f_X11_isInside; rw [if_pos c1]
    have pi : p_X11_isInside H (nI m - 100) (nI (T 1)) := by unfold p_X11_isInside; rw [if_pos c1]; exact ⟨Or.inl rfl, trivial⟩
    unfold p_X1_levelOf f_X1_levelOf
    rw [en, e1, fi, if_pos rfl, if_pos d]
    exact ⟨⟨pi, fun _ => trivial, fun z => (z rfl).elim⟩, rfl⟩
  · have en : ob_en m = m + 88 := if_neg d
    have hq : m - 12 < T 1 := by unfold VK at hm; omega
    have e : nI (m + 88) - 100 = nI (m - 12) := by
      have : nI (m + 88) - nI 100 = nI (m + 88 - 100) := oa_sub (by omega)
      rw [show m + 88 - 100 = m - 12 by omega] at this
      exact this
    have i := a_inside H hq (by omega)
    have n10 : ¬ (1 : Int32) = 0 := by decide
    unfold p_X1_levelOf f_X1_levelOf
    rw [en, e, e1, i.2, if_neg n10, nI_clamp (by omega), e22 _ hq, if_neg d, (D.2.2.2.1 (m - 12) hq).2.2.2.2]
    exact ⟨⟨i.1, fun z => (n10 z).elim, fun _ => ⟨vp_in_nI (by omega) (by omega), trivial⟩⟩, rfl⟩
/-- levels -/
theorem ob_lf_1 (n q : Nat) : ∀ l, 1 ≤ ob_lf T n q l := by
  intro l
  induction l with
  | zero => exact Nat.le_refl _
  | succ l ih => rw [ob_lf_s]; unfold ob_ls; split <;> omega
theorem ob_lf_c {n n' q : Nat} : ∀ l, (∀ j, j < l → T' (196 + 6 * q + j) = T (196 + 6 * q + j)) → (∀ j, j < l → ¬ T (196 + 6 * q + j) < 12 → oa_lvl T' n' (T (196 + 6 * q + j) - 12) = oa_lvl T n (T (196 + 6 * q + j) - 12)) → ob_lf T' n' q l = ob_lf T n q l := by
  intro l
  induction l with
  | zero => intro _ _; rfl
  | succ l ih =>
    intro a1 a2
    rw [ob_lf_s, ob_lf_s, ih (fun j hj => a1 j (by omega)) (fun j hj => a2 j (by omega))]
    unfold ob_ls
    rw [a1 l (by omega)]
    by_cases d : T (196 + 6 * q + l) < 12
    · rw [if_pos d, if_pos d]
    · rw [if_neg d, if_neg d, a2 l (by omega) d]
theorem oa_lvl_c : ∀ (n q : Nat), (∀ q', q' ≤ q → T' (188 + q') = T (188 + q') ∧ ∀ j, j < T (188 + q') → T' (196 + 6 * q' + j) = T (196 + 6 * q' + j) ∧ T (196 + 6 * q' + j) < 12 + q') → oa_lvl T' n q = oa_lvl T n q := by
  intro n
  induction n with
  | zero => intro q _; rfl
  | succ n ih =>
    intro q a
    rw [oa_lvl_f, oa_lvl_f, (a q (Nat.le_refl _)).1]
    refine ob_lf_c _ (fun j hj => ((a q (Nat.le_refl _)).2 j hj).1) (fun j hj d => ?_)
    have := ((a q (Nat.le_refl _)).2 j hj).2
    exact ih _ (fun q' hq' => a q' (by omega))
theorem oa_lvl_s : ∀ (n q : Nat), q < n → (∀ q', q' ≤ q → ∀ j, j < T (188 + q') → T (196 + 6 * q' + j) < 12 + q') → oa_lvl T (n + 1) q = oa_lvl T n q := by
  intro n
  induction n with
  | zero => intro q hq; omega
  | succ n ih =>
    intro q hq a
    rw [oa_lvl_f, oa_lvl_f]
    refine ob_lf_c _ (fun _ _ => rfl) (fun j hj d => ?_)
    have := a q (Nat.le_refl _) j hj
    exact ih _ (by omega) (fun q' hq' => a q' (by omega))
theorem oa_nm_c {k' : Nat} (e : ∀ i, i < 8 → T' (4 + 8 * k' + i) = T (4 + 8 * k' + i)) : oa_nm T' k' = oa_nm T k' := by
  unfold oa_nm
  rw [show List.range 8 = [0, 1, 2, 3, 4, 5, 6, 7] from rfl]
  simp only [List.foldl]
  rw [e 0 (by omega), e 1 (by omega), e 2 (by omega), e 3 (by omega), e 4 (by omega), e 5 (by omega), e 6 (by omega), e 7 (by omega)]
end ADL
