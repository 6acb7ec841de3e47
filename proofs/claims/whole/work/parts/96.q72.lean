/-! load: the line of a rung -/
section RNG
variable {h h' hm hm' H : Hp} {x : Nat → Nat} {t i k s c rr : Nat}
def KX (hm hm' : Hp) : Prop := ∀ k, ¬ k = 4 → ¬ k = 5 → ¬ k = 7 → ¬ k = 8 → ¬ k = 13 → hm'.1 12 0 k = hm.1 12 0 k
/-- the model failed, at s of kind c -/
def MX (hm : Hp) (t s c : Nat) : Prop := (∃ p, p ≤ t ∧ hm.1 12 0 4 = nI p) ∧ hm.1 12 0 5 = nI s ∧ hm.1 12 0 7 = nI s ∧ hm.1 12 0 8 = nI c
theorem MF.mx (F : MF H hm t s c) : MX hm t s c := ⟨F.1, F.2.1, F.2.2.1, F.2.2.2.1⟩
theorem MX.set {k : Nat} {v : Int32} (F : MX hm t s c) : MX (hp_i hm 57 0 k v) t s c := by
  unfold MX
  rw [hp_i_t (by omega)]
  exact F
theorem MX.set13 {v : Int32} (F : MX hm t s c) : MX (hp_i hm 12 0 13 v) t s c := by
  unfold MX
  rw [hp_i_g, hp_i_g, hp_i_g, hp_i_g, if_neg (by omega), if_neg (by omega), if_neg (by omega), if_neg (by omega)]
  exact F
theorem MX.f (F : MX hm t s c) : MF hm hm t s c := ⟨F.1, F.2.1, F.2.2.1, F.2.2.2, fun _ _ _ _ _ => rfl⟩
/-- both failed alike -/
def FB (h hm : Hp) : Prop := ∃ s c, s ≤ 900 ∧ FC h s c ∧ hm.1 12 0 7 = nI s ∧ hm.1 12 0 8 = nI c
theorem fb_end (X : XM hm x t) (hs : s ≤ t) (F : MX hm t s c) (C : FC h s c) : psm hm ∧ FB h (sm4 hm) ∧ ∀ k, ¬ k = 4 → ¬ k = 5 → ¬ k = 7 → ¬ k = 8 → (sm4 hm).1 12 0 k = hm.1 12 0 k := by
  have e := s_semiF X hs F.f
  exact ⟨e.1, ⟨s, c, by have := X.1; omega, C, e.2.1, e.2.2.1⟩, e.2.2.2⟩
theorem KE.kx (K : KE hm hm') : KX hm hm' := fun k h4 h5 _ _ _ => K k h4 h5
theorem MF.kx (F : MF H hm t s c) : KX H hm := fun k h4 h5 h7 h8 _ => F.2.2.2.2 k h4 h5 h7 h8
theorem KX.trans {a b d : Hp} (p : KX a b) (q : KX b d) : KX a d := fun k h4 h5 h7 h8 h13 => (q k h4 h5 h7 h8 h13).trans (p k h4 h5 h7 h8 h13)
theorem KX.set {j : Nat} {v : Int32} : KX hm (hp_i hm 57 0 j v) := fun k _ _ _ _ _ => by rw [hp_i_t (by omega)]
theorem KX.set4 {v : Int32} : KX hm (hp_i hm 12 0 4 v) := fun k h4 _ _ _ _ => by rw [hp_i_g, if_neg h4]
theorem KX.set13 {v : Int32} : KX hm (hp_i hm 12 0 13 v) := fun k _ _ _ _ h13 => by rw [hp_i_g, if_neg h13]
theorem PS.set57 {j : Nat} {v : Int32} (P : PS h hm x t s) : PS h (hp_i hm 57 0 j v) x t s := P.mod (by rw [hp_i_t (by omega)]) (by rw [hp_i_t (by omega)]) (by rw [hp_i_t (by omega)]) (hp_i_t (by omega))
theorem PS.set13 {v : Int32} (P : PS h hm x t s) : PS h (hp_i hm 12 0 13 v) x t s := P.mod (by rw [hp_i_g, if_neg (by omega)]) (by rw [hp_i_g, if_neg (by omega)]) (by rw [hp_i_g, if_neg (by omega)]) (hp_i_t (by omega))
/-- the same, and the model's point is there too -/
def PSE (h hm : Hp) (x : Nat → Nat) (t s : Nat) : Prop := PS h hm x t s ∧ hm.1 12 0 4 = nI s
/-- behind the body of a line: the sign ; -/
theorem ps_semi (P : PS h hm x t s) : p_X7_readSemicolon h ∧ psm hm ∧
    ((f_X7_readSemicolon h = 1 ∧ g_X7_readSemicolon h = g_X9_step h ∧ s < t ∧ (∃ s', s < s' ∧ PSE (g_X7_readSemicolon h) (sm4 hm) x t s') ∧ KE hm (sm4 hm)) ∨
     (f_X7_readSemicolon h = 0 ∧ FB (g_X7_readSemicolon h) (sm4 hm) ∧ KX hm (sm4 hm))) := by
  obtain ⟨p1, p2, p3, p4, p5, i, p6, p7, p8⟩ := id P
  have e := s_semi p1 p2 p4 p6 p7 p5 p8
  refine ⟨e.1, e.2.1, ?_⟩
  rcases e.2.2 with ⟨a1, a2, a3, a4, a5⟩ | ⟨a1, a2, a3⟩
  · refine Or.inl ⟨a1, a2, a3, ⟨ob_SK x t (s + 1), ?_, ?_⟩, a5.2.2⟩
    · have := (ob_SK_le (x := x) (show s + 1 ≤ t by omega)).1
      omega
    · rw [a2]
      have st := s_step p1 (show s + 1 ≤ t by omega) (p2.2.2.trans (by rw [a4]))
      have l := ob_SK_le (x := x) (show s + 1 ≤ t by omega)
      exact ⟨⟨st.2.2, st.2.1, l.2, p4.same (a5.2.2 6 (by omega) (by omega)) (fr_sm4 (by omega)), (a5.2.2 7 (by omega) (by omega)).trans p5, ob_SK x t (s + 1), l.2, a5.1, ob_SK_idem (by omega)⟩, a5.1⟩
  · refine Or.inr ⟨a1, ⟨s, 1, by have := p1.1; omega, ?_, a3.1, a3.2.1⟩, fun k h4 h5 h7 h8 _ => a3.2.2 k h4 h5 h7 h8⟩
    rw [a2]
    exact a_fail p2 1
/-- number and write of the model, after a failure -/
theorem mx_num {a b v : Int32} {j : Nat} (hs : s < 2 ^ 31) (F : MX hm t s c) : p_X12_number hm a b ∧ MX (hp_i (g_X12_number hm a b) 57 0 j v) t s c ∧ KX hm (hp_i (g_X12_number hm a b) 57 0 j v) ∧ (XM hm x t → XM (hp_i (g_X12_number hm a b) 57 0 j v) x t) := by
  have m := mf_num hs F.2.2.1 a b
  rw [m.2.2]
  exact ⟨m.1, F.set, KX.set, fun X => X.set57⟩
end RNG
