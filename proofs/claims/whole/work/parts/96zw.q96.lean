/-! load: the loop over the lines -/
section LOO
variable {h hm K : Hp} {x : Nat → Nat} {t s rr : Nat} {T T' : Nat → Nat}
def lgw : Nat → Hp → Int32 → Hp
  | 0, h, _ => h
  | n + 1, h, b => if b = 0 then h else (if f_X7_hasLine h = 0 then h else lgw n (g_X7_readLine h) (f_X7_readLine h))
def lfw : Nat → Hp → Int32 → Int32
  | 0, _, b => b
  | n + 1, h, b => if b = 0 then b else (if f_X7_hasLine h = 0 then b else lfw n (g_X7_readLine h) (f_X7_readLine h))
def lpw : Nat → Hp → Int32 → Prop
  | 0, _, _ => True
  | n + 1, h, b => ¬ b = 0 → ¬ f_X7_hasLine h = 0 → (p_X7_readLine h ∧ lpw n (g_X7_readLine h) (f_X7_readLine h))
theorem p_hasLine (h : Hp) : p_X7_hasLine h := by
  unfold p_X7_hasLine
  refine ⟨?_, trivial⟩
  split
  · exact Or.inl rfl
  · exact Or.inr rfl
theorem cf_lgw : ∀ (n : Nat) (h : Hp) (b : Int32), CF (h.2.2 7 0 3) (h.2.2 7 0 4) h (lgw n h b) := by
  intro n
  induction n with
  | zero => intro h b; exact CF.refl
  | succ n ih =>
    intro h b
    rw [lgw]
    split
    · exact CF.refl
    · split
      · exact CF.refl
      · have r := ih (g_X7_readLine h) (f_X7_readLine h)
        rw [gr_X7_readLine] at r
        exact cf_line.trans r
/-- the class's loop -/
theorem aw_cl {X : WD → State → Prop} {d rb : Nat} {Qr : Option AV → Hp → Prop} {Qx : String → Hp → Prop} : ∀ (n j : Nat) (h : Hp) (b : Int32), j + n = 900 → lpw n h b →
    (∀ j' : Int32, CL 0 (d + 8) mX4_shorten [vR 4 0, vI 0] (lgw n h b) (oI fun r2 h1 => ((¬ lfw n h b = 0) → CL 0 (d + 8) mX7_swapCatalog [vR 7 0, vR 1 (h1.2.2 11 0 6)] h1 (oR 1 fun r4 h3 => CL 0 (d + 8) mX7_swapLedger [vR 7 0, vR 5 ((hp_r h3 11 0 6 r4).2.2 11 0 7)] (hp_r h3 11 0 6 r4) (oR 5 fun r6 h5 => CL 0 (d + 8) mX3_forget [vR 3 0] (hp_r h5 11 0 7 r6) (oV fun h7 => Qr (some (vI (h7.1 1 (h7.2.2 11 0 6) 1))) h7) Qx) Qx) Qx) ∧ ((lfw n h b = 0) → AW X (d + 8 + 1) rb mX11_load 59 [(0, vR 11 0), (1, vI (lfw n h b)), (2, vI j')] [] h1 Qr Qx)) Qx) →
    AW X (d + 8 + 1) rb mX11_load 11 [(0, vR 11 0), (1, vI b), (2, vI (nI j))] [] h Qr Qx := by
  intro n
  induction n with
  | zero =>
    intro j h b hj _ k
    refine vc_X11_load_11 ⟨fun _ => k _, fun z => (z ?_).elim⟩
    exact nI_le (a := 900) (by omega) (by omega)
  | succ n ih =>
    intro j h b hj p k
    have c9 : ¬ (900 : Int32) ≤ nI j := nI_ge (b := 900) (by omega) (by omega)
    refine vc_X11_load_11 ⟨fun z => (c9 z).elim, fun _ => ⟨fun z => ?_, fun z => ?_⟩⟩
    · rw [lgw, lfw, if_pos z, if_pos z] at k
      exact k _
    · refine c_X7_hasLine (d := d + 7) (p_hasLine h) ⟨fun y => ?_, fun y => ?_⟩
      · rw [lgw, lfw, if_neg z, if_neg z, if_pos y, if_pos y] at k
        exact k _
      · rw [lpw] at p
        obtain ⟨p1, p2⟩ := p z y
        refine c_X7_readLine (d := d) p1 ?_
        rw [show nI j + 1 = nI (j + 1) from nI_add j 1]
        refine ih (j + 1) _ _ (by omega) p2 ?_
        rw [lgw, lfw, if_neg z, if_neg z, if_neg y, if_neg y] at k
        exact k
/-- one turn of the model's loop -/
theorem aw_line {X : WD → State → Prop} {d rb : Nat} {Qr : Option AV → Hp → Prop} {Qx : String → Hp → Prop} {x1 : Int32} (e7 : hm.1 12 0 7 = -1) (hl : ¬ hm.1 12 0 6 ≤ hm.1 12 0 4) (p : lp hm) (k : AW X (d + 9 + 1) rb mX12_load 68 [(0, vR 12 0), (1, vI x1)] [] (sm4 (lb hm)) Qr Qx) : AW X (d + 9 + 1) rb mX12_load 68 [(0, vR 12 0), (1, vI x1)] [] hm Qr Qx := by
  have hF := m_ok e7
  obtain ⟨p1, ⟨p2, p3⟩, S⟩ := p
  unfold sm4 sm3 sm2 sm1 at k
  unfold psm sm3 sm2 sm1 at S
  generalize hL : lb hm = L at S k
  obtain ⟨s1, s2, s3, s4⟩ := S
  -- the end of a line
  have tail : ∀ H, H = L → CL 0 (d + 9) mX12_blanks0 [vR 12 0] H (oV fun h22 => CL 0 (d + 9) mX12_isAt [vR 12 0, vI 59, vI 59] h22 (oI fun r24 h23 => CL 0 (d + 9) mX12_must [vR 12 0, vI r24, vI 1] h23 (oV fun h25 => CL 0 (d + 9) mX12_blanks0 [vR 12 0] (hp_i h25 12 0 4 ((h25.1 12 0 4) + 1)) (oV fun h26 => AW X (d + 9 + 1) rb mX12_load 68 [(0, vR 12 0), (1, vI x1)] [] h26 Qr Qx) Qx) Qx) Qx) Qx := by
    intro H hH
    rw [hH]
    refine c_X12_blanks0 (d := d + 6) s1 ?_
    refine c_X12_isAt (d := d + 8) s2 ?_
    refine c_X12_must (d := d + 7) s3 ?_
    exact c_X12_blanks0 (d := d + 6) s4 k
  refine vc_X12_load_68 (d := d + 9) ?_
  refine c_X12_hasFailed (d := d + 8) (m_pF _) ⟨fun z => (z hF).elim, fun _ => ⟨fun z => (hl z).elim, fun _ => ?_⟩⟩
  refine c_X12_isWord (j1 := 22) (d := d + 3) (by omega) p1 ⟨fun z => ?_, fun z => ?_⟩
  · obtain ⟨q1, q2, q3⟩ := p2 z
    refine c_X12_isWord (j1 := 23) (d := d + 3) (by omega) q1 ⟨fun y => ?_, fun y => ?_⟩
    · obtain ⟨r1, r2, r3⟩ := q2 y
      refine c_X12_isWord (j1 := 24) (d := d + 3) (by omega) r1 ⟨fun w => ?_, fun w => ?_⟩
      · obtain ⟨t1, t2⟩ := r2 w
        refine c_X12_isWord (j1 := 25) (d := d + 3) (by omega) t1 ⟨fun v => ?_, fun v => ?_⟩
        · refine c_X12_must (d := d + 7) (m_pM _ _ _) ?_
          refine tail _ ?_
          rw [← hL]
          unfold lb mw4 mw3 mw2 mw1
          rw [if_pos z, if_pos y, if_pos w]
          exact (if_pos v).symm
        · refine c_X12_order (d := d) (t2 v) ?_
          refine tail _ ?_
          rw [← hL]
          unfold lb mw4 mw3 mw2 mw1
          rw [if_pos z, if_pos y, if_pos w]
          exact (if_neg v).symm
      · refine c_X12_rung (d := d + 5) (r3 w) ?_
        refine tail _ ?_
        rw [← hL]
        unfold lb mw4 mw3 mw2 mw1
        rw [if_pos z, if_pos y]
        exact (if_neg w).symm
    · refine c_X12_product (d := d + 3) (q3 y) ?_
      refine tail _ ?_
      rw [← hL]
      unfold lb mw4 mw3 mw2 mw1
      rw [if_pos z]
      exact (if_neg y).symm
  · refine c_X12_part (d := d + 3) (p3 z) ?_
    refine tail _ ?_
    rw [← hL]
    unfold lb mw4 mw3 mw2 mw1
    exact (if_neg z).symm
theorem ob_kk_lt (v : Nat) : ob_kk v < 4 := by
  unfold ob_kk
  split
  · omega
  · split <;> omega
/-- both loops -/
theorem l_load : ∀ (n : Nat) (h hm : Hp) (s : Nat) (T : Nat → Nat) (rr : Nat), PL h hm x t s T rr → t - s ≤ n → lpw n h 1 ∧ ∃ K, KX hm K ∧ (∀ a i, ¬ (a = 12 ∧ i = 0) → ¬ (a = 57 ∧ i = 0) → K.1 a i = hm.1 a i) ∧
    (∀ {X : WD → State → Prop} {d rb : Nat} {Qr : Option AV → Hp → Prop} {Qx : String → Hp → Prop} {x1 : Int32}, AW X (d + 9 + 1) rb mX12_load 68 [(0, vR 12 0), (1, vI x1)] [] K Qr Qx → AW X (d + 9 + 1) rb mX12_load 68 [(0, vR 12 0), (1, vI x1)] [] hm Qr Qx) ∧
    ((lfw n h 1 = 1 ∧ ∃ T' rr', PL (lgw n h 1) K x t t T' rr') ∨ (lfw n h 1 = 0 ∧ FB (lgw n h 1) K)) := by
  have n10 : ¬ (1 : Int32) = 0 := by decide
  intro n
  induction n with
  | zero =>
    intro h hm s T rr A hn
    have hs := A.1.1.2.2.1
    have : s = t := by omega
    subst this
    exact ⟨trivial, hm, fun _ _ _ _ _ _ => rfl, fun _ _ _ _ => rfl, fun k => k, Or.inl ⟨rfl, T, rr, A⟩⟩
  | succ n ih =>
    intro h hm s T rr A hn
    have hs := A.1.1.2.2.1
    have bt := A.1.1.1.1
    have kd : h.1 9 0 0 = nI (ob_kd x t s) := A.1.1.2.1.2.1
    rw [lpw, lfw, lgw, if_neg n10, if_neg n10]
    by_cases d : s < t
    · have k0 : ¬ h.1 9 0 0 = 0 := by
        rw [kd]
        unfold ob_kd
        rw [if_pos d]
        intro z
        have := (nI_eq (a := ob_kk (x s)) (b := 0) (by have := ob_kk_lt (x s); omega) (by omega)).mp z
        unfold ob_kk at this
        split at this
        · omega
        · split at this <;> omega
      have hl : ¬ f_X7_hasLine h = 0 := by unfold f_X7_hasLine; rw [if_neg k0]; exact n10
      rw [if_neg hl, if_neg hl]
      obtain ⟨a1, a2, a3, a4⟩ := ps_line A
      have e7 := A.1.1.2.2.2.2.1
      have el : ¬ hm.1 12 0 6 ≤ hm.1 12 0 4 := by
        rw [A.1.1.2.2.2.1.2.1, A.1.2]
        exact nI_ge d (by omega)
      have fr : ∀ a i, ¬ (a = 12 ∧ i = 0) → ¬ (a = 57 ∧ i = 0) → (sm4 (lb hm)).1 a i = hm.1 a i := fun a i y1 y2 => (fr_sm4 y1).trans (fr_lb y1 y2)
      rcases a4 with ⟨f1, T', rr', s', l1, PP⟩ | ⟨f0, F⟩
      · rw [f1]
        obtain ⟨r1, K, r2, r3, r4, r5⟩ := ih _ _ s' T' rr' PP (by omega)
        exact ⟨fun _ _ => ⟨a1, r1⟩, K, a3.trans r2, fun a i y1 y2 => (r3 a i y1 y2).trans (fr a i y1 y2), fun k => aw_line e7 el a2 (r4 k), r5⟩
      · rw [f0]
        have z0 : lfw n (g_X7_readLine h) 0 = 0 ∧ lgw n (g_X7_readLine h) 0 = g_X7_readLine h ∧ lpw n (g_X7_readLine h) 0 := by
          cases n with
          | zero => exact ⟨rfl, rfl, trivial⟩
          | succ n =>
            rw [lfw, lgw, lpw, if_pos rfl, if_pos rfl]
            exact ⟨rfl, rfl, fun z => (z rfl).elim⟩
        rw [z0.1, z0.2.1]
        exact ⟨fun _ _ => ⟨a1, z0.2.2⟩, sm4 (lb hm), a3, fr, fun k => aw_line e7 el a2 k, Or.inr ⟨rfl, F⟩⟩
    · have : s = t := by omega
      subst this
      have k0 : h.1 9 0 0 = 0 := by
        rw [kd]
        unfold ob_kd
        rw [if_neg (by omega)]
        rfl
      have hl : f_X7_hasLine h = 0 := by unfold f_X7_hasLine; rw [if_pos k0]
      rw [if_pos hl, if_pos hl]
      exact ⟨fun _ z => (z hl).elim, hm, fun _ _ _ _ _ _ => rfl, fun _ _ _ _ => rfl, fun k => k, Or.inl ⟨rfl, T, rr, A⟩⟩
end LOO
