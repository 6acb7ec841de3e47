/-! formatted text: what is written, as lists of bytes -/
def ob_nb (a : Int32) : Int32 := vp_nar .byte a.toInt8.toInt32
/-- h is H, but the class's text is B -/
def TC (H h : Hp) (B : List Int32) : Prop := h.1 2 0 0 = nI B.length ∧ (∀ k, k < B.length → h.1 33 0 k = B.getD k 0) ∧ (∀ t i, ¬ (t = 2 ∧ i = 0) → ¬ (t = 33 ∧ i = 0) → h.1 t i = H.1 t i) ∧ h.2 = H.2
/-- h is H, but the model's text is B -/
def TM (H h : Hp) (B : List Int32) : Prop := h.1 12 0 24 = nI B.length ∧ (∀ k, k < B.length → h.1 65 0 k = B.getD k 0) ∧ (∀ t i, ¬ (t = 12 ∧ i = 0) → ¬ (t = 65 ∧ i = 0) → h.1 t i = H.1 t i) ∧ (∀ k, ¬ k = 24 → h.1 12 0 k = H.1 12 0 k) ∧ h.2 = H.2
section FMT
variable {H h : Hp} {B : List Int32} {a : Int32} {j v : Nat} {T w : Nat → Nat}
theorem ob_snoc {B : List Int32} {y : Int32} {k : Nat} : (B ++ [y]).getD k 0 = if k = B.length then y else B.getD k 0 := by
  rw [List.getD_eq_getElem?_getD, List.getD_eq_getElem?_getD]
  by_cases e : k = B.length
  · subst e; simp
  · rw [if_neg e]
    by_cases l : k < B.length
    · rw [List.getElem?_append_left l]
    · rw [List.getElem?_eq_none (by rw [List.length_append]; simp; omega), List.getElem?_eq_none (by omega)]
theorem s_put (t : TC H h B) (hl : B.length < 200) : p_X2_put h a ∧ TC H (g_X2_put h a) (B ++ [ob_nb a]) := by
  obtain ⟨t1, t2, t3, t4⟩ := t
  have in1 := a_inside h (k := B.length) (N := 200) hl (by omega)
  have e200 : nI 200 = 200 := rfl
  rw [e200] at in1
  have v1 : vp_in (nI B.length) 200 := vp_in_nI hl (by omega)
  refine ⟨?_, ?_⟩
  · unfold p_X2_put
    rw [t1]
    exact ⟨in1.1, fun _ => trivial, fun _ => ⟨v1, trivial⟩⟩
  · unfold g_X2_put
    rw [t1, in1.2, if_neg (by decide), nI_clamp (by omega)]
    refine ⟨?_, fun k hk => ?_, fun t i h1 h2 => ?_, t4⟩
    · rw [hp_i_g, if_pos rfl, List.length_append]
      exact nI_add B.length 1
    · rw [hp_i_t (by omega), hp_i_g, ob_snoc]
      rw [List.length_append] at hk
      by_cases e : k = B.length
      · rw [if_pos e, if_pos e]; rfl
      · rw [if_neg e, if_neg e]
        exact t2 k (by simp at hk; omega)
    · rw [hp_i_n h1, hp_i_n h2]; exact t3 t i h1 h2
theorem s_says (t : TM H h B) (hl : B.length < 320) : p_X12_says h a ∧ TM H (g_X12_says h a) (B ++ [ob_nb a]) := by
  obtain ⟨t1, t2, t3, t4, t5⟩ := t
  have v1 : vp_in (nI B.length) 320 := vp_in_nI hl (by omega)
  refine ⟨?_, ?_⟩
  · unfold p_X12_says
    rw [t1]
    exact ⟨v1, trivial⟩
  · unfold g_X12_says
    rw [t1, nI_clamp (by omega)]
    refine ⟨?_, fun k hk => ?_, fun t i h1 h2 => ?_, fun k hk => ?_, t5⟩
    · rw [hp_i_g, if_pos rfl, List.length_append]
      exact nI_add B.length 1
    · rw [hp_i_t (by omega), hp_i_g, ob_snoc]
      rw [List.length_append] at hk
      by_cases e : k = B.length
      · rw [if_pos e, if_pos e]; rfl
      · rw [if_neg e, if_neg e]
        exact t2 k (by simp at hk; omega)
    · rw [hp_i_n h1, hp_i_n h2]; exact t3 t i h1 h2
    · rw [hp_i_g, if_neg hk, hp_i_t (by omega)]; exact t4 k hk
def ob_tx (j : Nat) : List Int32 := (oa_by j).map ob_nb
theorem ob_drop {l : List Int32} {i : Nat} (hi : i < l.length) : (l.drop i).map ob_nb = ob_nb (l.getD i 0) :: (l.drop (i + 1)).map ob_nb := by
  rw [List.drop_eq_getElem_cons hi, List.map_cons, List.getD_eq_getElem?_getD, List.getElem?_eq_getElem hi]
  rfl
theorem l_text (hj : j < 36) : ∀ (m i e : Nat) (h : Hp) (B : List Int32), m + i = (oa_by j).length → TC H h B → B.length + m ≤ 200 → pw_X2_putText_2 (m + 1 + e) h j (nI i) ∧ TC H (gw_X2_putText_2 (m + 1 + e) h j (nI i)) (B ++ ((oa_by j).drop i).map ob_nb) := by
  have bl := (oa_by_ok j hj).1
  intro m
  induction m with
  | zero =>
    intro i e h B hi t hl
    rw [show 0 + 1 + e = e + 1 by omega]
    have c : nI (oa_by j).length ≤ nI i := nI_le (by omega) (by omega)
    have lc : f_J0_length_8abf5 h j ≤ nI i := c
    rw [pw_X2_putText_2, gw_X2_putText_2, if_pos lc, List.drop_eq_nil_of_le (by omega), List.map_nil, List.append_nil]
    exact ⟨⟨hj, fun _ => trivial, fun z => (z c).elim⟩, t⟩
  | succ m ih =>
    intro i e h B hi t hl
    rw [show m + 1 + 1 + e = (m + 1 + e) + 1 by omega]
    have c : ¬ nI (oa_by j).length ≤ nI i := nI_ge (by omega) (by omega)
    have e1 : nI i + 1 = nI (i + 1) := nI_add i 1
    have v1 : vp_in (nI i) (oa_by j).length := vp_in_nI (by omega) (by omega)
    have p := s_put (a := (oa_by j).getD i 0) t (by omega)
    have r := ih (i + 1) e _ _ (by omega) p.2 (by rw [List.length_append]; simp; omega)
    have lc : ¬ f_J0_length_8abf5 h j ≤ nI i := c
    have ch : f_J0_charAt_5068e h j (nI i) = (oa_by j).getD i 0 := by
      unfold f_J0_charAt_5068e
      rw [nI_clamp (by omega)]
    rw [pw_X2_putText_2, gw_X2_putText_2, if_neg lc, ch, e1, ob_drop (by omega)]
    refine ⟨⟨hj, fun z => (c z).elim, fun _ => ⟨⟨hj, v1⟩, p.1, r.1⟩⟩, ?_⟩
    have := r.2
    rw [List.append_assoc] at this
    exact this
theorem s_text (hj : j < 36) (t : TC H h B) (hl : B.length + (oa_by j).length ≤ 200) : p_X2_putText h j ∧ TC H (g_X2_putText h j) (B ++ ob_tx j) := by
  have bl := (oa_by_ok j hj).1
  obtain ⟨e, he⟩ := oa_fuel (show (oa_by j).length < 1000000 by omega)
  have r := l_text hj (oa_by j).length 0 e h B (by omega) t hl
  rw [← he, nI_0, List.drop_zero] at r
  exact r
theorem l_word (hj : j < 36) : ∀ (m i e : Nat) (h : Hp) (B : List Int32), m + i = (oa_by j).length → TM H h B → B.length + m ≤ 320 → pw_X12_saysWord_2 (m + 1 + e) h j (nI i) ∧ TM H (gw_X12_saysWord_2 (m + 1 + e) h j (nI i)) (B ++ ((oa_by j).drop i).map ob_nb) := by
  have bl := (oa_by_ok j hj).1
  intro m
  induction m with
  | zero =>
    intro i e h B hi t hl
    rw [show 0 + 1 + e = e + 1 by omega]
    have c : nI (oa_by j).length ≤ nI i := nI_le (by omega) (by omega)
    have lc : f_J0_length_8abf5 h j ≤ nI i := c
    rw [pw_X12_saysWord_2, gw_X12_saysWord_2, if_pos lc, List.drop_eq_nil_of_le (by omega), List.map_nil, List.append_nil]
    exact ⟨⟨hj, fun _ => trivial, fun z => (z c).elim⟩, t⟩
  | succ m ih =>
    intro i e h B hi t hl
    rw [show m + 1 + 1 + e = (m + 1 + e) + 1 by omega]
    have c : ¬ nI (oa_by j).length ≤ nI i := nI_ge (by omega) (by omega)
    have e1 : nI i + 1 = nI (i + 1) := nI_add i 1
    have v1 : vp_in (nI i) (oa_by j).length := vp_in_nI (by omega) (by omega)
    have p := s_says (a := (oa_by j).getD i 0) t (by omega)
    have r := ih (i + 1) e _ _ (by omega) p.2 (by rw [List.length_append]; simp; omega)
    have lc : ¬ f_J0_length_8abf5 h j ≤ nI i := c
    have ch : f_J0_charAt_5068e h j (nI i) = (oa_by j).getD i 0 := by
      unfold f_J0_charAt_5068e
      rw [nI_clamp (by omega)]
    rw [pw_X12_saysWord_2, gw_X12_saysWord_2, if_neg lc, ch, e1, ob_drop (by omega)]
    refine ⟨⟨hj, fun z => (c z).elim, fun _ => ⟨⟨hj, v1⟩, p.1, r.1⟩⟩, ?_⟩
    have := r.2
    rw [List.append_assoc] at this
    exact this
theorem s_word (hj : j < 36) (t : TM H h B) (hl : B.length + (oa_by j).length ≤ 320) : p_X12_saysWord h j ∧ TM H (g_X12_saysWord h j) (B ++ ob_tx j) := by
  have bl := (oa_by_ok j hj).1
  obtain ⟨e, he⟩ := oa_fuel (show (oa_by j).length < 1000000 by omega)
  have r := l_word hj (oa_by j).length 0 e h B (by omega) t hl
  rw [← he, nI_0, List.drop_zero] at r
  exact r
/-- digits -/
def ob_dg (v k : Nat) : Int32 := ob_nb (48 + nI (v / 10 ^ k % 10))
def ob_wd : Bool → Nat → Nat → List Int32
  | _, 0, v => [ob_dg v 0]
  | s, k + 1, v => if s = false ∧ v / 10 ^ (k + 1) % 10 = 0 then ob_wd false k v else ob_dg v (k + 1) :: ob_wd true k v
theorem ob_wd_len (v : Nat) : ∀ (k : Nat) (s : Bool), (ob_wd s k v).length ≤ k + 1 := by
  intro k
  induction k with
  | zero => intro s; exact Nat.le_refl _
  | succ k ih =>
    intro s
    unfold ob_wd
    split
    · have := ih false; omega
    · have := ih true; rw [List.length_cons]; omega
theorem ob_p10 {k : Nat} (hk : k ≤ 9) : 0 < 10 ^ k ∧ 10 ^ k < 2 ^ 31 := by
  refine ⟨Nat.pow_pos (by omega), ?_⟩
  exact Nat.lt_of_le_of_lt (Nat.pow_le_pow_right (by omega) hk) (by decide)
theorem l_num (hv : v < 2 ^ 31) : ∀ (k e : Nat) (h : Hp) (B : List Int32) (s : Bool), k ≤ 9 → TC H h B → B.length + (ob_wd s k v).length ≤ 200 → pw_X2_putNumbered_11 (k + 2 + e) h j (nI v) (if s = true then 1 else 0) (nI (10 ^ k)) ∧ TC H (gw_X2_putNumbered_11 (k + 2 + e) h j (nI v) (if s = true then 1 else 0) (nI (10 ^ k))) (B ++ ob_wd s k v) := by
  intro k
  induction k with
  | zero =>
    intro e h B s hk t hl
    rw [show 0 + 2 + e = (e + 1) + 1 by omega]
    have c1 : nI (10 ^ 0) = 1 := rfl
    have q1 : nI v / 1 = nI (v / 10 ^ 0) := pk_div (d := 1) hv (by omega) (by omega)
    have q2 : nI (v / 10 ^ 0) - nI (v / 10 ^ 0) / 10 * 10 = nI (v / 10 ^ 0 % 10) := pk_rem (d := 10) (by simpa using hv) (by omega) (by omega)
    have p := s_put (a := 48 + nI (v / 10 ^ 0 % 10)) t (by unfold ob_wd at hl; rw [List.length_singleton] at hl; omega)
    have z : (if ¬ (if s = true then (1 : Int32) else 0) = 0 then (1 : Int32) else (if ¬ nI (v / 10 ^ 0 % 10) = 0 then (1 : Int32) else (if ¬ (1 : Int32) = 1 then (0 : Int32) else 1))) = 1 := by
      cases s
      · by_cases y : nI (v / 10 ^ 0 % 10) = 0 <;> simp [y]
      · rfl
    have d1 : (1 : Int32) / 10 = 0 := by decide
    have r0 : ∀ h', pw_X2_putNumbered_11 (e + 1) h' j (nI v) 1 0 ∧ gw_X2_putNumbered_11 (e + 1) h' j (nI v) 1 0 = h' := by
      intro h'
      rw [pw_X2_putNumbered_11, gw_X2_putNumbered_11, if_pos (by decide)]
      exact ⟨⟨fun _ => trivial, fun y => absurd (by decide) y⟩, rfl⟩
    rw [pw_X2_putNumbered_11, gw_X2_putNumbered_11, c1, q1, q2, z, d1, if_neg (by decide), if_neg (by decide), (r0 _).2]
    exact ⟨⟨fun y => absurd y (by decide), fun _ => ⟨by decide, fun y => absurd y (by decide), fun _ => ⟨p.1, (r0 _).1⟩⟩⟩, p.2⟩
  | succ k ih =>
    intro e h B s hk t hl
    rw [show k + 1 + 2 + e = (k + 2 + e) + 1 by omega]
    have b1 := ob_p10 (k := k + 1) hk
    have b0 := ob_p10 (k := k) (by omega)
    have hp : 10 ^ (k + 1) = 10 ^ k * 10 := Nat.pow_succ 10 k
    have q1 : nI v / nI (10 ^ (k + 1)) = nI (v / 10 ^ (k + 1)) := pk_div hv b1.1 b1.2
    have q2 : nI (v / 10 ^ (k + 1)) - nI (v / 10 ^ (k + 1)) / 10 * 10 = nI (v / 10 ^ (k + 1) % 10) := pk_rem (d := 10) (Nat.lt_of_le_of_lt (Nat.div_le_self _ _) hv) (by omega) (by omega)
    have q3 : nI (10 ^ (k + 1)) / 10 = nI (10 ^ k) := by
      have : nI (10 ^ (k + 1)) / nI 10 = nI (10 ^ (k + 1) / 10) := pk_div b1.2 (by omega) (by omega)
      rw [show 10 ^ (k + 1) / 10 = 10 ^ k by omega] at this
      exact this
    have c1 : ¬ nI (10 ^ (k + 1)) ≤ 0 := nI_nle b1.1 b1.2
    have c2 : ¬ nI (10 ^ (k + 1)) = 0 := nI_ne0 b1.1 b1.2
    have c3 : ¬ nI (10 ^ (k + 1)) = 1 := fun z => by
      have := (nI_eq (b := 1) b1.2 (by omega)).mp z
      omega
    have c4 : nI (v / 10 ^ (k + 1) % 10) = 0 ↔ v / 10 ^ (k + 1) % 10 = 0 := nI_eq (b := 0) (by omega) (by omega)
    rw [pw_X2_putNumbered_11, gw_X2_putNumbered_11, q1, q2, q3]
    unfold ob_wd at hl ⊢
    by_cases d : s = false ∧ v / 10 ^ (k + 1) % 10 = 0
    · have z : (if ¬ (if s = true then (1 : Int32) else 0) = 0 then (1 : Int32) else (if ¬ nI (v / 10 ^ (k + 1) % 10) = 0 then (1 : Int32) else (if ¬ nI (10 ^ (k + 1)) = 1 then (0 : Int32) else 1))) = 0 := by
        rw [d.1, if_neg (by decide), if_neg (fun y => y (c4.mpr d.2)), if_pos c3]
      rw [if_pos d] at hl ⊢
      have r := ih e h B false (by omega) t hl
      rw [z, if_neg c1, if_pos rfl]
      exact ⟨⟨fun y => (c1 y).elim, fun _ => ⟨c2, fun _ => r.1, fun y => (y rfl).elim⟩⟩, r.2⟩
    · have z : (if ¬ (if s = true then (1 : Int32) else 0) = 0 then (1 : Int32) else (if ¬ nI (v / 10 ^ (k + 1) % 10) = 0 then (1 : Int32) else (if ¬ nI (10 ^ (k + 1)) = 1 then (0 : Int32) else 1))) = 1 := by
        cases s
        · rw [if_neg (by decide), if_pos (fun y => d ⟨rfl, c4.mp y⟩)]
        · rw [if_pos (by decide)]
      rw [if_neg d] at hl ⊢
      rw [List.length_cons] at hl
      have p := s_put (a := 48 + nI (v / 10 ^ (k + 1) % 10)) t (by omega)
      have r := ih e _ _ true (by omega) p.2 (by rw [List.length_append]; simp; omega)
      rw [z, if_neg c1, if_neg (by decide)]
      refine ⟨⟨fun y => (c1 y).elim, fun _ => ⟨c2, fun y => absurd y (by decide), fun _ => ⟨p.1, r.1⟩⟩⟩, ?_⟩
      have := r.2
      rw [List.append_assoc] at this
      exact this
end FMT
