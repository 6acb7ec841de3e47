/-! load: the model's line of an order, after a failure -/
section MXO
variable {h hm : Hp} {x : Nat → Nat} {t s c : Nat}
theorem mx_takes (hs : s < 2 ^ 31) (F : MX hm t s c) : p_X12_takes hm 26 ∧ f_X12_takes hm 26 = 0 ∧ g_X12_takes hm 26 = hm := by
  have hb := m_bad hs F.2.2.1
  have nF : ¬ f_X12_hasFailed hm = 0 := by rw [hb]; decide
  have z0 : pw_X12_isWord_26 oa_N hm 26 0 0 ∧ fw_X12_isWord_26 oa_N hm 26 0 0 = 0 := by
    obtain ⟨f, hf⟩ := oa_fuel (show 0 < 1000000 by omega)
    rw [hf, show 0 + 1 + f = f + 1 by omega, pw_X12_isWord_26, fw_X12_isWord_26, if_pos rfl]
    exact ⟨⟨fun _ => ⟨Or.inl rfl, trivial⟩, fun z => (z rfl).elim⟩, rfl⟩
  have w : p_X12_isWord hm 26 ∧ f_X12_isWord hm 26 = 0 ∧ g_X12_isWord hm 26 = hm := by
    unfold p_X12_isWord f_X12_isWord g_X12_isWord
    rw [if_pos nF, if_pos nF, id_gw_X12_isWord_26]
    exact ⟨⟨m_pF _, fun _ => z0.1, fun z => (nF z).elim⟩, z0.2, rfl⟩
  unfold p_X12_takes f_X12_takes g_X12_takes
  rw [w.2.1, w.2.2, if_pos rfl, if_pos rfl]
  exact ⟨⟨w.1, fun _ => ⟨Or.inl rfl, trivial⟩, fun z => (z rfl).elim⟩, rfl, rfl⟩
theorem mo_t {v z : Int32} {j : Nat} (hs : s ≤ t) (X : XM hm x t) (F : MX hm t s c) (C : FC h s c) : p_X12_takes hm 26 ∧ psm (hp_i (hp_i (g_X12_takes hm 26) 57 0 j v) 57 0 3 z) ∧ FB h (sm4 (hp_i (hp_i (g_X12_takes hm 26) 57 0 j v) 57 0 3 z)) ∧ KX hm (sm4 (hp_i (hp_i (g_X12_takes hm 26) 57 0 j v) 57 0 3 z)) := by
  have bt := X.1
  have w := mx_takes (by omega) F
  rw [w.2.2]
  have E := fb_end ((X.set57 (k := j) (v := v)).set57 (k := 3) (v := z)) hs F.set.set C
  exact ⟨w.1, E.1, E.2.1, (KX.set.trans KX.set).trans (fun k h4 h5 h7 h8 _ => E.2.2 k h4 h5 h7 h8)⟩
theorem mo_3 {v3 v z : Int32} {j3 j : Nat} (hs : s ≤ t) (X : XM hm x t) (F : MX hm t s c) (C : FC h s c) : p_X12_number hm 0 999 ∧ p_X12_takes (hp_i (g_X12_number hm 0 999) 57 0 j3 v3) 26 ∧ psm (hp_i (hp_i (g_X12_takes (hp_i (g_X12_number hm 0 999) 57 0 j3 v3) 26) 57 0 j v) 57 0 3 z) ∧ FB h (sm4 (hp_i (hp_i (g_X12_takes (hp_i (g_X12_number hm 0 999) 57 0 j3 v3) 26) 57 0 j v) 57 0 3 z)) ∧ KX hm (sm4 (hp_i (hp_i (g_X12_takes (hp_i (g_X12_number hm 0 999) 57 0 j3 v3) 26) 57 0 j v) 57 0 3 z)) := by
  have bt := X.1
  obtain ⟨r1, M1, K1, X1⟩ := mx_num (x := x) (a := 0) (b := 999) (v := v3) (j := j3) (by omega) F
  have X1 := X1 X
  generalize hp_i (g_X12_number hm 0 999) 57 0 j3 v3 = k1 at *
  have E := mo_t (v := v) (z := z) (j := j) hs X1 M1 C
  exact ⟨r1, E.1, E.2.1, E.2.2.1, K1.trans E.2.2.2⟩
theorem mo_2 {v2 v3 v z : Int32} {j2 j3 j : Nat} (hs : s ≤ t) (X : XM hm x t) (F : MX hm t s c) (C : FC h s c) : p_X12_number hm 0 9 ∧ p_X12_number (hp_i (g_X12_number hm 0 9) 57 0 j2 v2) 0 999 ∧ p_X12_takes (hp_i (g_X12_number (hp_i (g_X12_number hm 0 9) 57 0 j2 v2) 0 999) 57 0 j3 v3) 26 ∧ psm (hp_i (hp_i (g_X12_takes (hp_i (g_X12_number (hp_i (g_X12_number hm 0 9) 57 0 j2 v2) 0 999) 57 0 j3 v3) 26) 57 0 j v) 57 0 3 z) ∧ FB h (sm4 (hp_i (hp_i (g_X12_takes (hp_i (g_X12_number (hp_i (g_X12_number hm 0 9) 57 0 j2 v2) 0 999) 57 0 j3 v3) 26) 57 0 j v) 57 0 3 z)) ∧ KX hm (sm4 (hp_i (hp_i (g_X12_takes (hp_i (g_X12_number (hp_i (g_X12_number hm 0 9) 57 0 j2 v2) 0 999) 57 0 j3 v3) 26) 57 0 j v) 57 0 3 z)) := by
  have bt := X.1
  obtain ⟨r1, M1, K1, X1⟩ := mx_num (x := x) (a := 0) (b := 9) (v := v2) (j := j2) (by omega) F
  have X1 := X1 X
  generalize hp_i (g_X12_number hm 0 9) 57 0 j2 v2 = k1 at *
  have E := mo_3 (v3 := v3) (v := v) (z := z) (j3 := j3) (j := j) hs X1 M1 C
  exact ⟨r1, E.1, E.2.1, E.2.2.1, E.2.2.2.1, K1.trans E.2.2.2.2⟩
end MXO
