theorem hp_i_2 {h : Hp} {t i k : Nat} {x : Int32} : (hp_i h t i k x).2 = h.2 := rfl
theorem hp_a_2 {h : Hp} {t i : Nat} {f : Nat → Int32} : (hp_a h t i f).2 = h.2 := rfl
theorem hp_r_21 {h : Hp} {t i k z : Nat} : (hp_r h t i k z).2.1 = h.2.1 := rfl
theorem hp_l_22 {h : Hp} {t i k : Nat} {x : Int64} : (hp_l h t i k x).2.2 = h.2.2 := rfl
theorem hp_r_1 {h : Hp} {t i k z : Nat} : (hp_r h t i k z).1 = h.1 := rfl
theorem hp_l_1 {h : Hp} {t i k : Nat} {x : Int64} : (hp_l h t i k x).1 = h.1 := rfl
theorem hp_i_n {h : Hp} {t0 i0 k t i : Nat} {x : Int32} (hn : ¬ (t = t0 ∧ i = i0)) : (hp_i h t0 i0 k x).1 t i = h.1 t i := hp_a_n hn
theorem oa_ite {c : Prop} [Decidable c] {A B h : Hp} {t i : Nat} (h1 : A.1 t i = h.1 t i) (h2 : B.1 t i = h.1 t i) : (if c then A else B).1 t i = h.1 t i := by split <;> assumption
theorem oa_iteL {c : Prop} [Decidable c] {A B h : Hp} (h1 : A.2.1 = h.2.1) (h2 : B.2.1 = h.2.1) : (if c then A else B).2.1 = h.2.1 := by split <;> assumption
theorem oa_iteR {c : Prop} [Decidable c] {A B h : Hp} (h1 : A.2.2 = h.2.2) (h2 : B.2.2 = h.2.2) : (if c then A else B).2.2 = h.2.2 := by split <;> assumption
theorem hp_i_21 {h : Hp} {t i k : Nat} {x : Int32} : (hp_i h t i k x).2.1 = h.2.1 := rfl
theorem hp_i_22 {h : Hp} {t i k : Nat} {x : Int32} : (hp_i h t i k x).2.2 = h.2.2 := rfl
theorem hp_a_21 {h : Hp} {t i : Nat} {f : Nat → Int32} : (hp_a h t i f).2.1 = h.2.1 := rfl
theorem hp_a_22 {h : Hp} {t i : Nat} {f : Nat → Int32} : (hp_a h t i f).2.2 = h.2.2 := rfl
theorem hp_l_f {h : Hp} {t0 i0 k t i : Nat} {x : Int64} : (hp_l h t0 i0 k x).1 t i = h.1 t i := rfl
theorem hp_r_f {h : Hp} {t0 i0 k z t i : Nat} : (hp_r h t0 i0 k z).1 t i = h.1 t i := rfl
theorem hp_i_t {h : Hp} {t0 i0 k t i : Nat} {x : Int32} (hn : ¬ t = t0) : (hp_i h t0 i0 k x).1 t i = h.1 t i := hp_a_n (fun z => hn z.1)
set_option maxHeartbeats 20000 in
theorem gl_gw_X0_setQuotas_2 : ∀ (n : Nat) (h : Hp) (x1 : Int32) (x2 : Int32), (gw_X0_setQuotas_2 n h x1 x2).2.1 = h.2.1 := by
  intro n
  induction n with
  | zero => intros; rfl
  | succ n ih =>
    intro h x1 x2
    rw [gw_X0_setQuotas_2]
    exact oa_iteL (rfl) ((ih _ _ _).trans (hp_i_21))
set_option maxHeartbeats 20000 in
theorem gr_gw_X0_setQuotas_2 : ∀ (n : Nat) (h : Hp) (x1 : Int32) (x2 : Int32), (gw_X0_setQuotas_2 n h x1 x2).2.2 = h.2.2 := by
  intro n
  induction n with
  | zero => intros; rfl
  | succ n ih =>
    intro h x1 x2
    rw [gw_X0_setQuotas_2]
    exact oa_iteR (rfl) ((ih _ _ _).trans (hp_i_22))
set_option maxHeartbeats 20000 in
theorem gl_X0_setQuotas {h : Hp} {a1 : Int32} : (g_X0_setQuotas h a1).2.1 = h.2.1 := by
  unfold g_X0_setQuotas
  exact gl_gw_X0_setQuotas_2  _ _ _ _
set_option maxHeartbeats 20000 in
theorem gr_X0_setQuotas {h : Hp} {a1 : Int32} : (g_X0_setQuotas h a1).2.2 = h.2.2 := by
  unfold g_X0_setQuotas
  exact gr_gw_X0_setQuotas_2  _ _ _ _
set_option maxHeartbeats 100000 in
theorem fr_gw_X0_setQuotas_2 {t i : Nat}  (c0 : ¬ (t = 14 ∧ i = 0)) : ∀ (n : Nat) (h : Hp) (x1 : Int32) (x2 : Int32), (gw_X0_setQuotas_2 n h x1 x2).1 t i = h.1 t i := by
  intro n
  induction n with
  | zero => intros; rfl
  | succ n ih =>
    intro h x1 x2
    rw [gw_X0_setQuotas_2]
    exact oa_ite (rfl) ((ih _ _ _).trans (hp_i_n c0))
set_option maxHeartbeats 100000 in
theorem fr_X0_setQuotas {h : Hp} {a1 : Int32} {t i : Nat} (c0 : ¬ (t = 14 ∧ i = 0)) : (g_X0_setQuotas h a1).1 t i = h.1 t i := by
  unfold g_X0_setQuotas
  exact fr_gw_X0_setQuotas_2 c0 _ _ _ _
set_option maxHeartbeats 20000 in
theorem gl_X1_clear {h : Hp} {i0 : Nat} : (g_X1_clear h i0).2.1 = h.2.1 := by
  unfold g_X1_clear
  exact (hp_i_21).trans ((hp_i_21).trans (hp_i_21))
set_option maxHeartbeats 20000 in
theorem gr_X1_clear {h : Hp} {i0 : Nat} : (g_X1_clear h i0).2.2 = h.2.2 := by
  unfold g_X1_clear
  exact (hp_i_22).trans ((hp_i_22).trans (hp_i_22))
set_option maxHeartbeats 100000 in
theorem fr_X1_clear {h : Hp} {i0 : Nat} {t i : Nat} (c0 : ¬ (t = 1 ∧ i = i0)) : (g_X1_clear h i0).1 t i = h.1 t i := by
  unfold g_X1_clear
  exact (hp_i_n c0).trans ((hp_i_n c0).trans (hp_i_n c0))
set_option maxHeartbeats 20000 in
theorem gr_X1_addPart {h : Hp} {i0 : Nat} {a1 : Int64} {a3 : Int32} : (g_X1_addPart h i0 a1 a3).2.2 = h.2.2 := by
  unfold g_X1_addPart
  exact oa_iteR (rfl) ((hp_i_22).trans ((hp_i_22).trans (hp_l_22)))
set_option maxHeartbeats 100000 in
theorem fr_X1_addPart {h : Hp} {i0 : Nat} {a1 : Int64} {a3 : Int32} {t i : Nat} (c0 : ¬ (t = 1 ∧ i = i0)) (c1 : ¬ (t = 20 ∧ i = i0)) : (g_X1_addPart h i0 a1 a3).1 t i = h.1 t i := by
  unfold g_X1_addPart
  exact oa_ite (rfl) ((hp_i_n c0).trans ((hp_i_n c1).trans (hp_l_f)))
set_option maxHeartbeats 20000 in
theorem gl_X1_addRung {h : Hp} {i0 : Nat} {a1 : Int32} {a2 : Int32} {a3 : Int32} : (g_X1_addRung h i0 a1 a2 a3).2.1 = h.2.1 := by
  unfold g_X1_addRung
  exact oa_iteL (rfl) ((hp_i_21).trans ((hp_i_21).trans ((hp_i_21).trans (hp_i_21))))
set_option maxHeartbeats 20000 in
theorem gr_X1_addRung {h : Hp} {i0 : Nat} {a1 : Int32} {a2 : Int32} {a3 : Int32} : (g_X1_addRung h i0 a1 a2 a3).2.2 = h.2.2 := by
  unfold g_X1_addRung
  exact oa_iteR (rfl) ((hp_i_22).trans ((hp_i_22).trans ((hp_i_22).trans (hp_i_22))))
set_option maxHeartbeats 100000 in
theorem fr_X1_addRung {h : Hp} {i0 : Nat} {a1 : Int32} {a2 : Int32} {a3 : Int32} {t i : Nat} (c0 : ¬ (t = 1 ∧ i = i0)) (c1 : ¬ (t = 30 ∧ i = i0)) (c2 : ¬ (t = 31 ∧ i = i0)) (c3 : ¬ (t = 32 ∧ i = i0)) : (g_X1_addRung h i0 a1 a2 a3).1 t i = h.1 t i := by
  unfold g_X1_addRung
  exact oa_ite (rfl) ((hp_i_n c0).trans ((hp_i_n c3).trans ((hp_i_n c2).trans (hp_i_n c1))))
set_option maxHeartbeats 20000 in
theorem gl_X1_endProduct {h : Hp} {i0 : Nat} : (g_X1_endProduct h i0).2.1 = h.2.1 := by
  unfold g_X1_endProduct
  exact oa_iteL (rfl) (hp_i_21)
set_option maxHeartbeats 20000 in
theorem gr_X1_endProduct {h : Hp} {i0 : Nat} : (g_X1_endProduct h i0).2.2 = h.2.2 := by
  unfold g_X1_endProduct
  exact oa_iteR (rfl) (hp_i_22)
set_option maxHeartbeats 100000 in
theorem fr_X1_endProduct {h : Hp} {i0 : Nat} {t i : Nat} (c0 : ¬ (t = 1 ∧ i = i0)) : (g_X1_endProduct h i0).1 t i = h.1 t i := by
  unfold g_X1_endProduct
  exact oa_ite (rfl) (hp_i_n c0)
set_option maxHeartbeats 20000 in
theorem gl_gw_X1_takePieces_3 : ∀ (n : Nat) (h : Hp) (i0 : Nat) (x1 : Int32) (x2 : Int32) (t3 : Nat) (i3 : Nat) (n3 : Nat) (x4 : Int32), (gw_X1_takePieces_3 n h i0 x1 x2 t3 i3 n3 x4).2.1 = h.2.1 := by
  intro n
  induction n with
  | zero => intros; rfl
  | succ n ih =>
    intro h i0 x1 x2 t3 i3 n3 x4
    rw [gw_X1_takePieces_3]
    exact oa_iteL (rfl) (oa_iteL (rfl) ((ih _ _ _ _ _ _ _ _).trans (hp_i_21)))
set_option maxHeartbeats 20000 in
theorem gr_gw_X1_takePieces_3 : ∀ (n : Nat) (h : Hp) (i0 : Nat) (x1 : Int32) (x2 : Int32) (t3 : Nat) (i3 : Nat) (n3 : Nat) (x4 : Int32), (gw_X1_takePieces_3 n h i0 x1 x2 t3 i3 n3 x4).2.2 = h.2.2 := by
  intro n
  induction n with
  | zero => intros; rfl
  | succ n ih =>
    intro h i0 x1 x2 t3 i3 n3 x4
    rw [gw_X1_takePieces_3]
    exact oa_iteR (rfl) (oa_iteR (rfl) ((ih _ _ _ _ _ _ _ _).trans (hp_i_22)))
set_option maxHeartbeats 20000 in
theorem gl_X1_takePieces {h : Hp} {i0 : Nat} {a1 : Int32} {a2 : Int32} {t3 : Nat} {i3 : Nat} {n3 : Nat} : (g_X1_takePieces h i0 a1 a2 t3 i3 n3).2.1 = h.2.1 := by
  unfold g_X1_takePieces
  exact gl_gw_X1_takePieces_3  _ _ _ _ _ _ _ _ _
set_option maxHeartbeats 20000 in
theorem gr_X1_takePieces {h : Hp} {i0 : Nat} {a1 : Int32} {a2 : Int32} {t3 : Nat} {i3 : Nat} {n3 : Nat} : (g_X1_takePieces h i0 a1 a2 t3 i3 n3).2.2 = h.2.2 := by
  unfold g_X1_takePieces
  exact gr_gw_X1_takePieces_3  _ _ _ _ _ _ _ _ _
set_option maxHeartbeats 100000 in
theorem fr_gw_X1_takePieces_3 {i3 : Nat} {t3 : Nat} {t i : Nat}  (c0 : ¬ (t = t3 ∧ i = i3)) : ∀ (n : Nat) (h : Hp) (i0 : Nat) (x1 : Int32) (x2 : Int32) (n3 : Nat) (x4 : Int32), (gw_X1_takePieces_3 n h i0 x1 x2 t3 i3 n3 x4).1 t i = h.1 t i := by
  intro n
  induction n with
  | zero => intros; rfl
  | succ n ih =>
    intro h i0 x1 x2 n3 x4
    rw [gw_X1_takePieces_3]
    exact oa_ite (rfl) (oa_ite (rfl) ((ih _ _ _ _ _ _).trans (hp_i_n c0)))
set_option maxHeartbeats 100000 in
theorem fr_X1_takePieces {h : Hp} {i0 : Nat} {a1 : Int32} {a2 : Int32} {t3 : Nat} {i3 : Nat} {n3 : Nat} {t i : Nat} (c0 : ¬ (t = t3 ∧ i = i3)) : (g_X1_takePieces h i0 a1 a2 t3 i3 n3).1 t i = h.1 t i := by
  unfold g_X1_takePieces
  exact fr_gw_X1_takePieces_3 c0 _ _ _ _ _ _ _
set_option maxHeartbeats 20000 in
theorem gl_X3_forget {h : Hp}  : (g_X3_forget h ).2.1 = h.2.1 := by
  unfold g_X3_forget
  exact hp_i_21
set_option maxHeartbeats 20000 in
theorem gr_X3_forget {h : Hp}  : (g_X3_forget h ).2.2 = h.2.2 := by
  unfold g_X3_forget
  exact hp_i_22
set_option maxHeartbeats 100000 in
theorem fr_X3_forget {h : Hp}  {t i : Nat} (c0 : ¬ (t = 3 ∧ i = 0)) : (g_X3_forget h ).1 t i = h.1 t i := by
  unfold g_X3_forget
  exact hp_i_n c0
set_option maxHeartbeats 20000 in
theorem gl_X4_shorten {h : Hp} {a1 : Int32} : (g_X4_shorten h a1).2.1 = h.2.1 := by
  unfold g_X4_shorten
  exact oa_iteL (rfl) (oa_iteL (hp_i_21) (rfl))
set_option maxHeartbeats 20000 in
theorem gr_X4_shorten {h : Hp} {a1 : Int32} : (g_X4_shorten h a1).2.2 = h.2.2 := by
  unfold g_X4_shorten
  exact oa_iteR (rfl) (oa_iteR (hp_i_22) (rfl))
set_option maxHeartbeats 100000 in
theorem fr_X4_shorten {h : Hp} {a1 : Int32} {t i : Nat} (c0 : ¬ (t = 4 ∧ i = 0)) : (g_X4_shorten h a1).1 t i = h.1 t i := by
  unfold g_X4_shorten
  exact oa_ite (rfl) (oa_ite (hp_i_n c0) (rfl))
set_option maxHeartbeats 20000 in
theorem gl_gw_X6_copyFrom_100 : ∀ (n : Nat) (h : Hp) (i0 : Nat) (i1 : Nat) (x2 : Int32), (gw_X6_copyFrom_100 n h i0 i1 x2).2.1 = h.2.1 := by
  intro n
  induction n with
  | zero => intros; rfl
  | succ n ih =>
    intro h i0 i1 x2
    rw [gw_X6_copyFrom_100]
    exact oa_iteL (rfl) ((ih _ _ _ _).trans ((hp_i_21).trans (hp_i_21)))
set_option maxHeartbeats 20000 in
theorem gr_gw_X6_copyFrom_100 : ∀ (n : Nat) (h : Hp) (i0 : Nat) (i1 : Nat) (x2 : Int32), (gw_X6_copyFrom_100 n h i0 i1 x2).2.2 = h.2.2 := by
  intro n
  induction n with
  | zero => intros; rfl
  | succ n ih =>
    intro h i0 i1 x2
    rw [gw_X6_copyFrom_100]
    exact oa_iteR (rfl) ((ih _ _ _ _).trans ((hp_i_22).trans (hp_i_22)))
set_option maxHeartbeats 20000 in
theorem gl_X6_copyFrom {h : Hp} {i0 : Nat} {i1 : Nat} : (g_X6_copyFrom h i0 i1).2.1 = h.2.1 := by
  unfold g_X6_copyFrom
  exact (gl_gw_X6_copyFrom_100  _ _ _ _ _).trans ((hp_a_21).trans ((hp_a_21).trans ((hp_a_21).trans ((hp_a_21).trans ((hp_a_21).trans ((hp_a_21).trans (hp_i_21)))))))
set_option maxHeartbeats 20000 in
theorem gr_X6_copyFrom {h : Hp} {i0 : Nat} {i1 : Nat} : (g_X6_copyFrom h i0 i1).2.2 = h.2.2 := by
  unfold g_X6_copyFrom
  exact (gr_gw_X6_copyFrom_100  _ _ _ _ _).trans ((hp_a_22).trans ((hp_a_22).trans ((hp_a_22).trans ((hp_a_22).trans ((hp_a_22).trans ((hp_a_22).trans (hp_i_22)))))))
set_option maxHeartbeats 100000 in
theorem fr_gw_X6_copyFrom_100 {i0 : Nat} {t i : Nat}  (c0 : ¬ (t = 36 ∧ i = i0)) (c1 : ¬ (t = 37 ∧ i = i0)) (c2 : ¬ (t = 38 ∧ i = i0)) (c3 : ¬ (t = 39 ∧ i = i0)) (c4 : ¬ (t = 40 ∧ i = i0)) (c5 : ¬ (t = 41 ∧ i = i0)) (c6 : ¬ (t = 42 ∧ i = i0)) (c7 : ¬ (t = 43 ∧ i = i0)) (c8 : ¬ (t = 6 ∧ i = i0)) : ∀ (n : Nat) (h : Hp) (i1 : Nat) (x2 : Int32), (gw_X6_copyFrom_100 n h i0 i1 x2).1 t i = h.1 t i := by
  intro n
  induction n with
  | zero => intros; rfl
  | succ n ih =>
    intro h i1 x2
    rw [gw_X6_copyFrom_100]
    exact oa_ite (rfl) ((ih _ _ _).trans ((hp_i_n c5).trans (hp_i_n c4)))
set_option maxHeartbeats 100000 in
theorem fr_X6_copyFrom {h : Hp} {i0 : Nat} {i1 : Nat} {t i : Nat} (c0 : ¬ (t = 36 ∧ i = i0)) (c1 : ¬ (t = 37 ∧ i = i0)) (c2 : ¬ (t = 38 ∧ i = i0)) (c3 : ¬ (t = 39 ∧ i = i0)) (c4 : ¬ (t = 40 ∧ i = i0)) (c5 : ¬ (t = 41 ∧ i = i0)) (c6 : ¬ (t = 42 ∧ i = i0)) (c7 : ¬ (t = 43 ∧ i = i0)) (c8 : ¬ (t = 6 ∧ i = i0)) : (g_X6_copyFrom h i0 i1).1 t i = h.1 t i := by
  unfold g_X6_copyFrom
  exact (fr_gw_X6_copyFrom_100 c0 c1 c2 c3 c4 c5 c6 c7 c8 _ _ _ _).trans ((hp_a_n c7).trans ((hp_a_n c6).trans ((hp_a_n c3).trans ((hp_a_n c2).trans ((hp_a_n c1).trans ((hp_a_n c0).trans (hp_i_n c8)))))))
set_option maxHeartbeats 20000 in
theorem gl_X6_enter {h : Hp} {i0 : Nat} {a1 : Int32} {a2 : Int32} {a3 : Int32} {a4 : Int32} {a5 : Int32} : (g_X6_enter h i0 a1 a2 a3 a4 a5).2.1 = h.2.1 := by
  unfold g_X6_enter
  exact oa_iteL ((hp_i_21).trans ((hp_i_21).trans ((hp_i_21).trans ((hp_i_21).trans ((hp_i_21).trans ((hp_i_21).trans ((hp_i_21).trans ((hp_i_21).trans (hp_i_21))))))))) (rfl)
set_option maxHeartbeats 20000 in
theorem gr_X6_enter {h : Hp} {i0 : Nat} {a1 : Int32} {a2 : Int32} {a3 : Int32} {a4 : Int32} {a5 : Int32} : (g_X6_enter h i0 a1 a2 a3 a4 a5).2.2 = h.2.2 := by
  unfold g_X6_enter
  exact oa_iteR ((hp_i_22).trans ((hp_i_22).trans ((hp_i_22).trans ((hp_i_22).trans ((hp_i_22).trans ((hp_i_22).trans ((hp_i_22).trans ((hp_i_22).trans (hp_i_22))))))))) (rfl)
set_option maxHeartbeats 100000 in
theorem fr_X6_enter {h : Hp} {i0 : Nat} {a1 : Int32} {a2 : Int32} {a3 : Int32} {a4 : Int32} {a5 : Int32} {t i : Nat} (c0 : ¬ (t = 36 ∧ i = i0)) (c1 : ¬ (t = 37 ∧ i = i0)) (c2 : ¬ (t = 38 ∧ i = i0)) (c3 : ¬ (t = 39 ∧ i = i0)) (c4 : ¬ (t = 40 ∧ i = i0)) (c5 : ¬ (t = 41 ∧ i = i0)) (c6 : ¬ (t = 42 ∧ i = i0)) (c7 : ¬ (t = 43 ∧ i = i0)) (c8 : ¬ (t = 6 ∧ i = i0)) : (g_X6_enter h i0 a1 a2 a3 a4 a5).1 t i = h.1 t i := by
  unfold g_X6_enter
  exact oa_ite ((hp_i_n c8).trans ((hp_i_n c7).trans ((hp_i_n c6).trans ((hp_i_n c5).trans ((hp_i_n c4).trans ((hp_i_n c3).trans ((hp_i_n c2).trans ((hp_i_n c1).trans (hp_i_n c0))))))))) (rfl)
set_option maxHeartbeats 20000 in
theorem gl_X7_swapCatalog {h : Hp} {i1 : Nat} : (g_X7_swapCatalog h i1).2.1 = h.2.1 := by
  unfold g_X7_swapCatalog
  exact oa_iteL (hp_r_21) ((hp_r_21).trans (gl_X1_addRung))
set_option maxHeartbeats 100000 in
theorem fr_X7_swapCatalog {h : Hp} {i1 : Nat} {t i : Nat} (c0 : ¬ (t = 1 ∧ i = (h.2.2 7 0 3))) (c1 : ¬ (t = 30 ∧ i = (h.2.2 7 0 3))) (c2 : ¬ (t = 31 ∧ i = (h.2.2 7 0 3))) (c3 : ¬ (t = 32 ∧ i = (h.2.2 7 0 3))) : (g_X7_swapCatalog h i1).1 t i = h.1 t i := by
  unfold g_X7_swapCatalog
  exact oa_ite (hp_r_f) ((hp_r_f).trans (fr_X1_addRung (by simpa only [gr_X1_addRung, hp_a_2, hp_i_2, hp_l_22] using c0) (by simpa only [gr_X1_addRung, hp_a_2, hp_i_2, hp_l_22] using c1) (by simpa only [gr_X1_addRung, hp_a_2, hp_i_2, hp_l_22] using c2) (by simpa only [gr_X1_addRung, hp_a_2, hp_i_2, hp_l_22] using c3)))
set_option maxHeartbeats 20000 in
theorem gl_X7_swapLedger {h : Hp} {i1 : Nat} : (g_X7_swapLedger h i1).2.1 = h.2.1 := by
  unfold g_X7_swapLedger
  exact hp_r_21
set_option maxHeartbeats 100000 in
theorem fr_X7_swapLedger {h : Hp} {i1 : Nat} {t i : Nat}  : (g_X7_swapLedger h i1).1 t i = h.1 t i := by
  unfold g_X7_swapLedger
  exact hp_r_f
set_option maxHeartbeats 20000 in
theorem gl_X7_fail {h : Hp} {a1 : Int32} : (g_X7_fail h a1).2.1 = h.2.1 := by
  unfold g_X7_fail
  exact (hp_i_21).trans (hp_i_21)
set_option maxHeartbeats 20000 in
theorem gr_X7_fail {h : Hp} {a1 : Int32} : (g_X7_fail h a1).2.2 = h.2.2 := by
  unfold g_X7_fail
  exact (hp_i_22).trans (hp_i_22)
set_option maxHeartbeats 100000 in
theorem fr_X7_fail {h : Hp} {a1 : Int32} {t i : Nat} (c0 : ¬ (t = 7 ∧ i = 0)) : (g_X7_fail h a1).1 t i = h.1 t i := by
  unfold g_X7_fail
  exact (hp_i_n c0).trans (hp_i_n c0)
set_option maxHeartbeats 20000 in
theorem gl_X8_copyFrom {h : Hp} {i0 : Nat} {i1 : Nat} : (g_X8_copyFrom h i0 i1).2.1 = h.2.1 := by
  unfold g_X8_copyFrom
  exact (hp_a_21).trans ((hp_a_21).trans ((hp_a_21).trans (hp_a_21)))
set_option maxHeartbeats 20000 in
theorem gr_X8_copyFrom {h : Hp} {i0 : Nat} {i1 : Nat} : (g_X8_copyFrom h i0 i1).2.2 = h.2.2 := by
  unfold g_X8_copyFrom
  exact (hp_a_22).trans ((hp_a_22).trans ((hp_a_22).trans (hp_a_22)))
set_option maxHeartbeats 100000 in
theorem fr_X8_copyFrom {h : Hp} {i0 : Nat} {i1 : Nat} {t i : Nat} (c0 : ¬ (t = 44 ∧ i = i0)) (c1 : ¬ (t = 45 ∧ i = i0)) (c2 : ¬ (t = 46 ∧ i = i0)) (c3 : ¬ (t = 47 ∧ i = i0)) : (g_X8_copyFrom h i0 i1).1 t i = h.1 t i := by
  unfold g_X8_copyFrom
  exact (hp_a_n c3).trans ((hp_a_n c2).trans ((hp_a_n c1).trans (hp_a_n c0)))
set_option maxHeartbeats 20000 in
theorem gl_X8_addBought {h : Hp} {i0 : Nat} {a1 : Int32} : (g_X8_addBought h i0 a1).2.1 = h.2.1 := by
  unfold g_X8_addBought
  exact hp_i_21
set_option maxHeartbeats 20000 in
theorem gr_X8_addBought {h : Hp} {i0 : Nat} {a1 : Int32} : (g_X8_addBought h i0 a1).2.2 = h.2.2 := by
  unfold g_X8_addBought
  exact hp_i_22
set_option maxHeartbeats 100000 in
theorem fr_X8_addBought {h : Hp} {i0 : Nat} {a1 : Int32} {t i : Nat} (c0 : ¬ (t = 44 ∧ i = i0)) : (g_X8_addBought h i0 a1).1 t i = h.1 t i := by
  unfold g_X8_addBought
  exact hp_i_n c0
set_option maxHeartbeats 20000 in
theorem gl_X10_copyFrom {h : Hp} {i0 : Nat} {i1 : Nat} : (g_X10_copyFrom h i0 i1).2.1 = h.2.1 := by
  unfold g_X10_copyFrom
  exact (hp_a_21).trans ((hp_a_21).trans ((hp_a_21).trans ((hp_a_21).trans ((hp_a_21).trans ((hp_i_21).trans (hp_i_21))))))
set_option maxHeartbeats 20000 in
theorem gr_X10_copyFrom {h : Hp} {i0 : Nat} {i1 : Nat} : (g_X10_copyFrom h i0 i1).2.2 = h.2.2 := by
  unfold g_X10_copyFrom
  exact (hp_a_22).trans ((hp_a_22).trans ((hp_a_22).trans ((hp_a_22).trans ((hp_a_22).trans ((hp_i_22).trans (hp_i_22))))))
set_option maxHeartbeats 100000 in
theorem fr_X10_copyFrom {h : Hp} {i0 : Nat} {i1 : Nat} {t i : Nat} (c0 : ¬ (t = 10 ∧ i = i0)) (c1 : ¬ (t = 48 ∧ i = i0)) (c2 : ¬ (t = 49 ∧ i = i0)) (c3 : ¬ (t = 50 ∧ i = i0)) (c4 : ¬ (t = 51 ∧ i = i0)) (c5 : ¬ (t = 52 ∧ i = i0)) : (g_X10_copyFrom h i0 i1).1 t i = h.1 t i := by
  unfold g_X10_copyFrom
  exact (hp_a_n c5).trans ((hp_a_n c4).trans ((hp_a_n c3).trans ((hp_a_n c2).trans ((hp_a_n c1).trans ((hp_i_n c0).trans (hp_i_n c0))))))
set_option maxHeartbeats 20000 in
theorem gl_X10_addArrival {h : Hp} {i0 : Nat} {a1 : Int32} {a2 : Int32} {a3 : Int32} : (g_X10_addArrival h i0 a1 a2 a3).2.1 = h.2.1 := by
  unfold g_X10_addArrival
  exact oa_iteL (rfl) ((hp_i_21).trans ((hp_i_21).trans ((hp_i_21).trans (hp_i_21))))
set_option maxHeartbeats 20000 in
theorem gr_X10_addArrival {h : Hp} {i0 : Nat} {a1 : Int32} {a2 : Int32} {a3 : Int32} : (g_X10_addArrival h i0 a1 a2 a3).2.2 = h.2.2 := by
  unfold g_X10_addArrival
  exact oa_iteR (rfl) ((hp_i_22).trans ((hp_i_22).trans ((hp_i_22).trans (hp_i_22))))
set_option maxHeartbeats 100000 in
theorem fr_X10_addArrival {h : Hp} {i0 : Nat} {a1 : Int32} {a2 : Int32} {a3 : Int32} {t i : Nat} (c0 : ¬ (t = 10 ∧ i = i0)) (c1 : ¬ (t = 50 ∧ i = i0)) (c2 : ¬ (t = 51 ∧ i = i0)) (c3 : ¬ (t = 52 ∧ i = i0)) : (g_X10_addArrival h i0 a1 a2 a3).1 t i = h.1 t i := by
  unfold g_X10_addArrival
  exact oa_ite (rfl) ((hp_i_n c0).trans ((hp_i_n c3).trans ((hp_i_n c2).trans (hp_i_n c1))))
set_option maxHeartbeats 20000 in
theorem gl_X11_truncate {h : Hp} {a1 : Int32} : (g_X11_truncate h a1).2.1 = h.2.1 := by
  unfold g_X11_truncate
  exact gl_X4_shorten
set_option maxHeartbeats 20000 in
theorem gr_X11_truncate {h : Hp} {a1 : Int32} : (g_X11_truncate h a1).2.2 = h.2.2 := by
  unfold g_X11_truncate
  exact gr_X4_shorten
set_option maxHeartbeats 100000 in
theorem fr_X11_truncate {h : Hp} {a1 : Int32} {t i : Nat} (c0 : ¬ (t = 4 ∧ i = 0)) : (g_X11_truncate h a1).1 t i = h.1 t i := by
  unfold g_X11_truncate
  exact fr_X4_shorten c0
set_option maxHeartbeats 20000 in
theorem gl_X12_throwsIf {h : Hp} {a1 : Int32} {a2 : Int32} : (g_X12_throwsIf h a1 a2).2.1 = h.2.1 := by
  unfold g_X12_throwsIf
  exact oa_iteL (rfl) (hp_i_21)
set_option maxHeartbeats 20000 in
theorem gr_X12_throwsIf {h : Hp} {a1 : Int32} {a2 : Int32} : (g_X12_throwsIf h a1 a2).2.2 = h.2.2 := by
  unfold g_X12_throwsIf
  exact oa_iteR (rfl) (hp_i_22)
set_option maxHeartbeats 100000 in
theorem fr_X12_throwsIf {h : Hp} {a1 : Int32} {a2 : Int32} {t i : Nat} (c0 : ¬ (t = 12 ∧ i = 0)) : (g_X12_throwsIf h a1 a2).1 t i = h.1 t i := by
  unfold g_X12_throwsIf
  exact oa_ite (rfl) (hp_i_n c0)
set_option maxHeartbeats 20000 in
theorem gl_gw_X12_append_60 : ∀ (n : Nat) (h : Hp) (x1 : Int32) (x2 : Int32) (x3 : Int32) (x4 : Int32) (x5 : Int32) (x6 : Int32), (gw_X12_append_60 n h x1 x2 x3 x4 x5 x6).2.1 = h.2.1 := by
  intro n
  induction n with
  | zero => intros; rfl
  | succ n ih =>
    intro h x1 x2 x3 x4 x5 x6
    rw [gw_X12_append_60]
    exact oa_iteL (hp_i_21) ((ih _ _ _ _ _ _ _).trans (hp_i_21))
set_option maxHeartbeats 20000 in
theorem gr_gw_X12_append_60 : ∀ (n : Nat) (h : Hp) (x1 : Int32) (x2 : Int32) (x3 : Int32) (x4 : Int32) (x5 : Int32) (x6 : Int32), (gw_X12_append_60 n h x1 x2 x3 x4 x5 x6).2.2 = h.2.2 := by
  intro n
  induction n with
  | zero => intros; rfl
  | succ n ih =>
    intro h x1 x2 x3 x4 x5 x6
    rw [gw_X12_append_60]
    exact oa_iteR (hp_i_22) ((ih _ _ _ _ _ _ _).trans (hp_i_22))
set_option maxHeartbeats 20000 in
theorem gl_X12_append {h : Hp} {a1 : Int32} {a2 : Int32} {a3 : Int32} {a4 : Int32} {a5 : Int32} : (g_X12_append h a1 a2 a3 a4 a5).2.1 = h.2.1 := by
  unfold g_X12_append
  exact oa_iteL ((gl_gw_X12_append_60  _ _ _ _ _ _ _ _).trans ((hp_i_21).trans ((hp_i_21).trans ((hp_i_21).trans ((hp_i_21).trans ((hp_i_21).trans (hp_i_21))))))) (hp_i_21)
set_option maxHeartbeats 20000 in
theorem gr_X12_append {h : Hp} {a1 : Int32} {a2 : Int32} {a3 : Int32} {a4 : Int32} {a5 : Int32} : (g_X12_append h a1 a2 a3 a4 a5).2.2 = h.2.2 := by
  unfold g_X12_append
  exact oa_iteR ((gr_gw_X12_append_60  _ _ _ _ _ _ _ _).trans ((hp_i_22).trans ((hp_i_22).trans ((hp_i_22).trans ((hp_i_22).trans ((hp_i_22).trans (hp_i_22))))))) (hp_i_22)
set_option maxHeartbeats 100000 in
theorem fr_gw_X12_append_60 {t i : Nat}  (c0 : ¬ (t = 12 ∧ i = 0)) (c1 : ¬ (t = 54 ∧ i = 0)) (c2 : ¬ (t = 55 ∧ i = 0)) : ∀ (n : Nat) (h : Hp) (x1 : Int32) (x2 : Int32) (x3 : Int32) (x4 : Int32) (x5 : Int32) (x6 : Int32), (gw_X12_append_60 n h x1 x2 x3 x4 x5 x6).1 t i = h.1 t i := by
  intro n
  induction n with
  | zero => intros; rfl
  | succ n ih =>
    intro h x1 x2 x3 x4 x5 x6
    rw [gw_X12_append_60]
    exact oa_ite (hp_i_n c0) ((ih _ _ _ _ _ _ _).trans (hp_i_n c1))
set_option maxHeartbeats 100000 in
theorem fr_X12_append {h : Hp} {a1 : Int32} {a2 : Int32} {a3 : Int32} {a4 : Int32} {a5 : Int32} {t i : Nat} (c0 : ¬ (t = 12 ∧ i = 0)) (c1 : ¬ (t = 54 ∧ i = 0)) (c2 : ¬ (t = 55 ∧ i = 0)) : (g_X12_append h a1 a2 a3 a4 a5).1 t i = h.1 t i := by
  unfold g_X12_append
  exact oa_ite ((fr_gw_X12_append_60 c0 c1 c2 _ _ _ _ _ _ _ _).trans ((hp_i_n c2).trans ((hp_i_n c2).trans ((hp_i_n c2).trans ((hp_i_n c2).trans ((hp_i_n c2).trans (hp_i_n c0))))))) (hp_i_n c0)
set_option maxHeartbeats 20000 in
theorem gl_X12_truncate {h : Hp} {a1 : Int32} : (g_X12_truncate h a1).2.1 = h.2.1 := by
  unfold g_X12_truncate
  exact oa_iteL (hp_i_21) (oa_iteL ((hp_i_21).trans (hp_i_21)) (hp_i_21))
set_option maxHeartbeats 20000 in
theorem gr_X12_truncate {h : Hp} {a1 : Int32} : (g_X12_truncate h a1).2.2 = h.2.2 := by
  unfold g_X12_truncate
  exact oa_iteR (hp_i_22) (oa_iteR ((hp_i_22).trans (hp_i_22)) (hp_i_22))
set_option maxHeartbeats 100000 in
theorem fr_X12_truncate {h : Hp} {a1 : Int32} {t i : Nat} (c0 : ¬ (t = 12 ∧ i = 0)) : (g_X12_truncate h a1).1 t i = h.1 t i := by
  unfold g_X12_truncate
  exact oa_ite (hp_i_n c0) (oa_ite ((hp_i_n c0).trans (hp_i_n c0)) (hp_i_n c0))
set_option maxHeartbeats 20000 in
theorem gl_X12_errorOffset {h : Hp}  : (g_X12_errorOffset h ).2.1 = h.2.1 := by
  unfold g_X12_errorOffset
  exact hp_i_21
set_option maxHeartbeats 20000 in
theorem gr_X12_errorOffset {h : Hp}  : (g_X12_errorOffset h ).2.2 = h.2.2 := by
  unfold g_X12_errorOffset
  exact hp_i_22
set_option maxHeartbeats 100000 in
theorem fr_X12_errorOffset {h : Hp}  {t i : Nat} (c0 : ¬ (t = 12 ∧ i = 0)) : (g_X12_errorOffset h ).1 t i = h.1 t i := by
  unfold g_X12_errorOffset
  exact hp_i_n c0
set_option maxHeartbeats 20000 in
theorem gl_X12_errorKind {h : Hp}  : (g_X12_errorKind h ).2.1 = h.2.1 := by
  unfold g_X12_errorKind
  exact hp_i_21
set_option maxHeartbeats 20000 in
theorem gr_X12_errorKind {h : Hp}  : (g_X12_errorKind h ).2.2 = h.2.2 := by
  unfold g_X12_errorKind
  exact hp_i_22
set_option maxHeartbeats 100000 in
theorem fr_X12_errorKind {h : Hp}  {t i : Nat} (c0 : ¬ (t = 12 ∧ i = 0)) : (g_X12_errorKind h ).1 t i = h.1 t i := by
  unfold g_X12_errorKind
  exact hp_i_n c0
set_option maxHeartbeats 20000 in
theorem gl_gw_X12_blanks_0 : ∀ (n : Nat) (h : Hp) , (gw_X12_blanks_0 n h ).2.1 = h.2.1 := by
  intro n
  induction n with
  | zero => intros; rfl
  | succ n ih =>
    intro h 
    rw [gw_X12_blanks_0]
    exact oa_iteL ((ih _ ).trans (hp_i_21)) (oa_iteL (hp_i_21) ((ih _ ).trans (hp_i_21)))
set_option maxHeartbeats 20000 in
theorem gr_gw_X12_blanks_0 : ∀ (n : Nat) (h : Hp) , (gw_X12_blanks_0 n h ).2.2 = h.2.2 := by
  intro n
  induction n with
  | zero => intros; rfl
  | succ n ih =>
    intro h 
    rw [gw_X12_blanks_0]
    exact oa_iteR ((ih _ ).trans (hp_i_22)) (oa_iteR (hp_i_22) ((ih _ ).trans (hp_i_22)))
set_option maxHeartbeats 20000 in
theorem gl_X12_blanks {h : Hp}  : (g_X12_blanks h ).2.1 = h.2.1 := by
  unfold g_X12_blanks
  exact oa_iteL ((gl_gw_X12_blanks_0  _ _ ).trans (hp_i_21)) (oa_iteL (hp_i_21) ((gl_gw_X12_blanks_0  _ _ ).trans (hp_i_21)))
set_option maxHeartbeats 20000 in
theorem gr_X12_blanks {h : Hp}  : (g_X12_blanks h ).2.2 = h.2.2 := by
  unfold g_X12_blanks
  exact oa_iteR ((gr_gw_X12_blanks_0  _ _ ).trans (hp_i_22)) (oa_iteR (hp_i_22) ((gr_gw_X12_blanks_0  _ _ ).trans (hp_i_22)))
set_option maxHeartbeats 100000 in
theorem fr_gw_X12_blanks_0 {t i : Nat}  (c0 : ¬ (t = 12 ∧ i = 0)) : ∀ (n : Nat) (h : Hp) , (gw_X12_blanks_0 n h ).1 t i = h.1 t i := by
  intro n
  induction n with
  | zero => intros; rfl
  | succ n ih =>
    intro h 
    rw [gw_X12_blanks_0]
    exact oa_ite ((ih _ ).trans (hp_i_n c0)) (oa_ite (hp_i_n c0) ((ih _ ).trans (hp_i_n c0)))
set_option maxHeartbeats 100000 in
theorem fr_X12_blanks {h : Hp}  {t i : Nat} (c0 : ¬ (t = 12 ∧ i = 0)) : (g_X12_blanks h ).1 t i = h.1 t i := by
  unfold g_X12_blanks
  exact oa_ite ((fr_gw_X12_blanks_0 c0 _ _ ).trans (hp_i_n c0)) (oa_ite (hp_i_n c0) ((fr_gw_X12_blanks_0 c0 _ _ ).trans (hp_i_n c0)))
set_option maxHeartbeats 20000 in
theorem gl_X12_must {h : Hp} {a1 : Int32} {a2 : Int32} : (g_X12_must h a1 a2).2.1 = h.2.1 := by
  unfold g_X12_must
  exact oa_iteL (rfl) (oa_iteL ((hp_i_21).trans (hp_i_21)) (rfl))
set_option maxHeartbeats 20000 in
theorem gr_X12_must {h : Hp} {a1 : Int32} {a2 : Int32} : (g_X12_must h a1 a2).2.2 = h.2.2 := by
  unfold g_X12_must
  exact oa_iteR (rfl) (oa_iteR ((hp_i_22).trans (hp_i_22)) (rfl))
set_option maxHeartbeats 100000 in
theorem fr_X12_must {h : Hp} {a1 : Int32} {a2 : Int32} {t i : Nat} (c0 : ¬ (t = 12 ∧ i = 0)) : (g_X12_must h a1 a2).1 t i = h.1 t i := by
  unfold g_X12_must
  exact oa_ite (rfl) (oa_ite ((hp_i_n c0).trans (hp_i_n c0)) (rfl))
set_option maxHeartbeats 20000 in
theorem gl_gw_X12_letters_9 : ∀ (n : Nat) (h : Hp) (x1 : Int32), (gw_X12_letters_9 n h x1).2.1 = h.2.1 := by
  intro n
  induction n with
  | zero => intros; rfl
  | succ n ih =>
    intro h x1
    rw [gw_X12_letters_9]
    exact oa_iteL (rfl) (oa_iteL (rfl) (oa_iteL (rfl) (ih _ _)))
set_option maxHeartbeats 20000 in
theorem gr_gw_X12_letters_9 : ∀ (n : Nat) (h : Hp) (x1 : Int32), (gw_X12_letters_9 n h x1).2.2 = h.2.2 := by
  intro n
  induction n with
  | zero => intros; rfl
  | succ n ih =>
    intro h x1
    rw [gw_X12_letters_9]
    exact oa_iteR (rfl) (oa_iteR (rfl) (oa_iteR (rfl) (ih _ _)))
set_option maxHeartbeats 20000 in
theorem gl_X12_letters {h : Hp}  : (g_X12_letters h ).2.1 = h.2.1 := by
  unfold g_X12_letters
  exact (gl_gw_X12_letters_9  _ _ _).trans (gl_X12_blanks)
set_option maxHeartbeats 20000 in
theorem gr_X12_letters {h : Hp}  : (g_X12_letters h ).2.2 = h.2.2 := by
  unfold g_X12_letters
  exact (gr_gw_X12_letters_9  _ _ _).trans (gr_X12_blanks)
set_option maxHeartbeats 100000 in
theorem fr_gw_X12_letters_9 {t i : Nat}  (c0 : ¬ (t = 12 ∧ i = 0)) : ∀ (n : Nat) (h : Hp) (x1 : Int32), (gw_X12_letters_9 n h x1).1 t i = h.1 t i := by
  intro n
  induction n with
  | zero => intros; rfl
  | succ n ih =>
    intro h x1
    rw [gw_X12_letters_9]
    exact oa_ite (rfl) (oa_ite (rfl) (oa_ite (rfl) (ih _ _)))
set_option maxHeartbeats 100000 in
theorem fr_X12_letters {h : Hp}  {t i : Nat} (c0 : ¬ (t = 12 ∧ i = 0)) : (g_X12_letters h ).1 t i = h.1 t i := by
  unfold g_X12_letters
  exact (fr_gw_X12_letters_9 c0 _ _ _).trans (fr_X12_blanks c0)
set_option maxHeartbeats 20000 in
theorem gl_gw_X12_isWord_26 : ∀ (n : Nat) (h : Hp) (j1 : Nat) (x2 : Int32) (x3 : Int32), (gw_X12_isWord_26 n h j1 x2 x3).2.1 = h.2.1 := by
  intro n
  induction n with
  | zero => intros; rfl
  | succ n ih =>
    intro h j1 x2 x3
    rw [gw_X12_isWord_26]
    exact oa_iteL (rfl) (oa_iteL (rfl) (ih _ _ _ _))
set_option maxHeartbeats 20000 in
theorem gr_gw_X12_isWord_26 : ∀ (n : Nat) (h : Hp) (j1 : Nat) (x2 : Int32) (x3 : Int32), (gw_X12_isWord_26 n h j1 x2 x3).2.2 = h.2.2 := by
  intro n
  induction n with
  | zero => intros; rfl
  | succ n ih =>
    intro h j1 x2 x3
    rw [gw_X12_isWord_26]
    exact oa_iteR (rfl) (oa_iteR (rfl) (ih _ _ _ _))
set_option maxHeartbeats 20000 in
theorem gl_X12_isWord {h : Hp} {j1 : Nat} : (g_X12_isWord h j1).2.1 = h.2.1 := by
  unfold g_X12_isWord
  exact oa_iteL (gl_gw_X12_isWord_26  _ _ _ _ _) ((gl_gw_X12_isWord_26  _ _ _ _ _).trans (gl_X12_letters))
set_option maxHeartbeats 20000 in
theorem gr_X12_isWord {h : Hp} {j1 : Nat} : (g_X12_isWord h j1).2.2 = h.2.2 := by
  unfold g_X12_isWord
  exact oa_iteR (gr_gw_X12_isWord_26  _ _ _ _ _) ((gr_gw_X12_isWord_26  _ _ _ _ _).trans (gr_X12_letters))
set_option maxHeartbeats 100000 in
theorem fr_gw_X12_isWord_26 {t i : Nat}  (c0 : ¬ (t = 12 ∧ i = 0)) : ∀ (n : Nat) (h : Hp) (j1 : Nat) (x2 : Int32) (x3 : Int32), (gw_X12_isWord_26 n h j1 x2 x3).1 t i = h.1 t i := by
  intro n
  induction n with
  | zero => intros; rfl
  | succ n ih =>
    intro h j1 x2 x3
    rw [gw_X12_isWord_26]
    exact oa_ite (rfl) (oa_ite (rfl) (ih _ _ _ _))
set_option maxHeartbeats 100000 in
theorem fr_X12_isWord {h : Hp} {j1 : Nat} {t i : Nat} (c0 : ¬ (t = 12 ∧ i = 0)) : (g_X12_isWord h j1).1 t i = h.1 t i := by
  unfold g_X12_isWord
  exact oa_ite (fr_gw_X12_isWord_26 c0 _ _ _ _ _) ((fr_gw_X12_isWord_26 c0 _ _ _ _ _).trans (fr_X12_letters c0))
set_option maxHeartbeats 20000 in
theorem gl_X12_takes {h : Hp} {j1 : Nat} : (g_X12_takes h j1).2.1 = h.2.1 := by
  unfold g_X12_takes
  exact oa_iteL (gl_X12_isWord) ((hp_i_21).trans (gl_X12_isWord))
set_option maxHeartbeats 20000 in
theorem gr_X12_takes {h : Hp} {j1 : Nat} : (g_X12_takes h j1).2.2 = h.2.2 := by
  unfold g_X12_takes
  exact oa_iteR (gr_X12_isWord) ((hp_i_22).trans (gr_X12_isWord))
set_option maxHeartbeats 100000 in
theorem fr_X12_takes {h : Hp} {j1 : Nat} {t i : Nat} (c0 : ¬ (t = 12 ∧ i = 0)) : (g_X12_takes h j1).1 t i = h.1 t i := by
  unfold g_X12_takes
  exact oa_ite (fr_X12_isWord c0) ((hp_i_n c0).trans (fr_X12_isWord c0))
set_option maxHeartbeats 20000 in
theorem gl_gw_X12_number_28 : ∀ (n : Nat) (h : Hp) (x1 : Int32) (x2 : Int32) (x3 : Int32), (gw_X12_number_28 n h x1 x2 x3).2.1 = h.2.1 := by
  intro n
  induction n with
  | zero => intros; rfl
  | succ n ih =>
    intro h x1 x2 x3
    rw [gw_X12_number_28]
    exact oa_iteL (oa_iteL (gl_X12_must) (gl_X12_must)) (oa_iteL ((ih _ _ _ _).trans (hp_i_21)) ((ih _ _ _ _).trans (hp_i_21)))
set_option maxHeartbeats 20000 in
theorem gr_gw_X12_number_28 : ∀ (n : Nat) (h : Hp) (x1 : Int32) (x2 : Int32) (x3 : Int32), (gw_X12_number_28 n h x1 x2 x3).2.2 = h.2.2 := by
  intro n
  induction n with
  | zero => intros; rfl
  | succ n ih =>
    intro h x1 x2 x3
    rw [gw_X12_number_28]
    exact oa_iteR (oa_iteR (gr_X12_must) (gr_X12_must)) (oa_iteR ((ih _ _ _ _).trans (hp_i_22)) ((ih _ _ _ _).trans (hp_i_22)))
set_option maxHeartbeats 20000 in
theorem gl_X12_number {h : Hp} {a1 : Int32} {a2 : Int32} : (g_X12_number h a1 a2).2.1 = h.2.1 := by
  unfold g_X12_number
  exact oa_iteL ((gl_gw_X12_number_28  _ _ _ _ _).trans ((gl_X12_must).trans (gl_X12_blanks))) (rfl)
set_option maxHeartbeats 20000 in
theorem gr_X12_number {h : Hp} {a1 : Int32} {a2 : Int32} : (g_X12_number h a1 a2).2.2 = h.2.2 := by
  unfold g_X12_number
  exact oa_iteR ((gr_gw_X12_number_28  _ _ _ _ _).trans ((gr_X12_must).trans (gr_X12_blanks))) (rfl)
set_option maxHeartbeats 100000 in
theorem fr_gw_X12_number_28 {t i : Nat}  (c0 : ¬ (t = 12 ∧ i = 0)) : ∀ (n : Nat) (h : Hp) (x1 : Int32) (x2 : Int32) (x3 : Int32), (gw_X12_number_28 n h x1 x2 x3).1 t i = h.1 t i := by
  intro n
  induction n with
  | zero => intros; rfl
  | succ n ih =>
    intro h x1 x2 x3
    rw [gw_X12_number_28]
    exact oa_ite (oa_ite (fr_X12_must c0) (fr_X12_must c0)) (oa_ite ((ih _ _ _ _).trans (hp_i_n c0)) ((ih _ _ _ _).trans (hp_i_n c0)))
set_option maxHeartbeats 100000 in
theorem fr_X12_number {h : Hp} {a1 : Int32} {a2 : Int32} {t i : Nat} (c0 : ¬ (t = 12 ∧ i = 0)) : (g_X12_number h a1 a2).1 t i = h.1 t i := by
  unfold g_X12_number
  exact oa_ite ((fr_gw_X12_number_28 c0 _ _ _ _ _).trans ((fr_X12_must c0).trans (fr_X12_blanks c0))) (rfl)
set_option maxHeartbeats 20000 in
theorem gl_X12_usualRung {h : Hp}  : (g_X12_usualRung h ).2.1 = h.2.1 := by
  unfold g_X12_usualRung
  exact (hp_i_21).trans ((hp_i_21).trans ((hp_i_21).trans (hp_i_21)))
set_option maxHeartbeats 20000 in
theorem gr_X12_usualRung {h : Hp}  : (g_X12_usualRung h ).2.2 = h.2.2 := by
  unfold g_X12_usualRung
  exact (hp_i_22).trans ((hp_i_22).trans ((hp_i_22).trans (hp_i_22)))
set_option maxHeartbeats 100000 in
theorem fr_X12_usualRung {h : Hp}  {t i : Nat} (c0 : ¬ (t = 57 ∧ i = 0)) : (g_X12_usualRung h ).1 t i = h.1 t i := by
  unfold g_X12_usualRung
  exact (hp_i_n c0).trans ((hp_i_n c0).trans ((hp_i_n c0).trans (hp_i_n c0)))
set_option maxHeartbeats 20000 in
theorem gl_gw_X12_named_19 : ∀ (n : Nat) (h : Hp) (x1 : Int32) (x2 : Int32), (gw_X12_named_19 n h x1 x2).2.1 = h.2.1 := by
  intro n
  induction n with
  | zero => intros; rfl
  | succ n ih =>
    intro h x1 x2
    rw [gw_X12_named_19]
    exact oa_iteL (rfl) (oa_iteL (rfl) (oa_iteL (oa_iteL (ih _ _ _) (rfl)) (oa_iteL (ih _ _ _) (rfl))))
set_option maxHeartbeats 20000 in
theorem gr_gw_X12_named_19 : ∀ (n : Nat) (h : Hp) (x1 : Int32) (x2 : Int32), (gw_X12_named_19 n h x1 x2).2.2 = h.2.2 := by
  intro n
  induction n with
  | zero => intros; rfl
  | succ n ih =>
    intro h x1 x2
    rw [gw_X12_named_19]
    exact oa_iteR (rfl) (oa_iteR (rfl) (oa_iteR (oa_iteR (ih _ _ _) (rfl)) (oa_iteR (ih _ _ _) (rfl))))
set_option maxHeartbeats 20000 in
theorem gl_X12_named {h : Hp}  : (g_X12_named h ).2.1 = h.2.1 := by
  unfold g_X12_named
  exact (gl_gw_X12_named_19  _ _ _ _).trans ((gl_X12_must).trans (gl_X12_letters))
set_option maxHeartbeats 20000 in
theorem gr_X12_named {h : Hp}  : (g_X12_named h ).2.2 = h.2.2 := by
  unfold g_X12_named
  exact (gr_gw_X12_named_19  _ _ _ _).trans ((gr_X12_must).trans (gr_X12_letters))
set_option maxHeartbeats 100000 in
theorem fr_gw_X12_named_19 {t i : Nat}  (c0 : ¬ (t = 12 ∧ i = 0)) : ∀ (n : Nat) (h : Hp) (x1 : Int32) (x2 : Int32), (gw_X12_named_19 n h x1 x2).1 t i = h.1 t i := by
  intro n
  induction n with
  | zero => intros; rfl
  | succ n ih =>
    intro h x1 x2
    rw [gw_X12_named_19]
    exact oa_ite (rfl) (oa_ite (rfl) (oa_ite (oa_ite (ih _ _ _) (rfl)) (oa_ite (ih _ _ _) (rfl))))
set_option maxHeartbeats 100000 in
theorem fr_X12_named {h : Hp}  {t i : Nat} (c0 : ¬ (t = 12 ∧ i = 0)) : (g_X12_named h ).1 t i = h.1 t i := by
  unfold g_X12_named
  exact (fr_gw_X12_named_19 c0 _ _ _ _).trans ((fr_X12_must c0).trans (fr_X12_letters c0))
set_option maxHeartbeats 20000 in
theorem gl_gw_X12_newName_47 : ∀ (n : Nat) (h : Hp) (x1 : Int32) (x2 : Int32) (x3 : Int32) (x4 : Int32), (gw_X12_newName_47 n h x1 x2 x3 x4).2.1 = h.2.1 := by
  intro n
  induction n with
  | zero => intros; rfl
  | succ n ih =>
    intro h x1 x2 x3 x4
    rw [gw_X12_newName_47]
    exact oa_iteL (hp_i_21) (oa_iteL ((ih _ _ _ _ _).trans (hp_i_21)) ((ih _ _ _ _ _).trans (hp_i_21)))
set_option maxHeartbeats 20000 in
theorem gr_gw_X12_newName_47 : ∀ (n : Nat) (h : Hp) (x1 : Int32) (x2 : Int32) (x3 : Int32) (x4 : Int32), (gw_X12_newName_47 n h x1 x2 x3 x4).2.2 = h.2.2 := by
  intro n
  induction n with
  | zero => intros; rfl
  | succ n ih =>
    intro h x1 x2 x3 x4
    rw [gw_X12_newName_47]
    exact oa_iteR (hp_i_22) (oa_iteR ((ih _ _ _ _ _).trans (hp_i_22)) ((ih _ _ _ _ _).trans (hp_i_22)))
set_option maxHeartbeats 20000 in
theorem gl_X12_newName {h : Hp} {a1 : Int32} : (g_X12_newName h a1).2.1 = h.2.1 := by
  unfold g_X12_newName
  exact oa_iteL (oa_iteL ((gl_gw_X12_newName_47  _ _ _ _ _ _).trans ((gl_X12_letters).trans ((gl_X12_must).trans (gl_X12_named)))) ((gl_X12_must).trans (gl_X12_named))) (oa_iteL ((gl_gw_X12_newName_47  _ _ _ _ _ _).trans ((gl_X12_letters).trans (gl_X12_must))) (gl_X12_must))
set_option maxHeartbeats 20000 in
theorem gr_X12_newName {h : Hp} {a1 : Int32} : (g_X12_newName h a1).2.2 = h.2.2 := by
  unfold g_X12_newName
  exact oa_iteR (oa_iteR ((gr_gw_X12_newName_47  _ _ _ _ _ _).trans ((gr_X12_letters).trans ((gr_X12_must).trans (gr_X12_named)))) ((gr_X12_must).trans (gr_X12_named))) (oa_iteR ((gr_gw_X12_newName_47  _ _ _ _ _ _).trans ((gr_X12_letters).trans (gr_X12_must))) (gr_X12_must))
set_option maxHeartbeats 100000 in
theorem fr_gw_X12_newName_47 {t i : Nat}  (c0 : ¬ (t = 12 ∧ i = 0)) (c1 : ¬ (t = 57 ∧ i = 0)) : ∀ (n : Nat) (h : Hp) (x1 : Int32) (x2 : Int32) (x3 : Int32) (x4 : Int32), (gw_X12_newName_47 n h x1 x2 x3 x4).1 t i = h.1 t i := by
  intro n
  induction n with
  | zero => intros; rfl
  | succ n ih =>
    intro h x1 x2 x3 x4
    rw [gw_X12_newName_47]
    exact oa_ite (hp_i_n c0) (oa_ite ((ih _ _ _ _ _).trans (hp_i_n c1)) ((ih _ _ _ _ _).trans (hp_i_n c1)))
set_option maxHeartbeats 100000 in
theorem fr_X12_newName {h : Hp} {a1 : Int32} {t i : Nat} (c0 : ¬ (t = 12 ∧ i = 0)) (c1 : ¬ (t = 57 ∧ i = 0)) : (g_X12_newName h a1).1 t i = h.1 t i := by
  unfold g_X12_newName
  exact oa_ite (oa_ite ((fr_gw_X12_newName_47 c0 c1 _ _ _ _ _ _).trans ((fr_X12_letters c0).trans ((fr_X12_must c0).trans (fr_X12_named c0)))) ((fr_X12_must c0).trans (fr_X12_named c0))) (oa_ite ((fr_gw_X12_newName_47 c0 c1 _ _ _ _ _ _).trans ((fr_X12_letters c0).trans (fr_X12_must c0))) (fr_X12_must c0))
set_option maxHeartbeats 20000 in
theorem gl_X12_part {h : Hp}  : (g_X12_part h ).2.1 = h.2.1 := by
  unfold g_X12_part
  exact oa_iteL ((hp_i_21).trans ((hp_i_21).trans ((gl_X12_number).trans ((hp_i_21).trans ((gl_X12_number).trans ((gl_X12_newName).trans ((hp_i_21).trans (gl_X12_must)))))))) (gl_X12_must)
set_option maxHeartbeats 20000 in
theorem gr_X12_part {h : Hp}  : (g_X12_part h ).2.2 = h.2.2 := by
  unfold g_X12_part
  exact oa_iteR ((hp_i_22).trans ((hp_i_22).trans ((gr_X12_number).trans ((hp_i_22).trans ((gr_X12_number).trans ((gr_X12_newName).trans ((hp_i_22).trans (gr_X12_must)))))))) (gr_X12_must)
set_option maxHeartbeats 100000 in
theorem fr_X12_part {h : Hp}  {t i : Nat} (c0 : ¬ (t = 12 ∧ i = 0)) (c1 : ¬ (t = 57 ∧ i = 0)) : (g_X12_part h ).1 t i = h.1 t i := by
  unfold g_X12_part
  exact oa_ite ((hp_i_n c1).trans ((hp_i_n c1).trans ((fr_X12_number c0).trans ((hp_i_n c1).trans ((fr_X12_number c0).trans ((fr_X12_newName c0 c1).trans ((hp_i_n c0).trans (fr_X12_must c0)))))))) (fr_X12_must c0)
set_option maxHeartbeats 20000 in
theorem gl_X12_blanks0 {h : Hp}  : (g_X12_blanks0 h ).2.1 = h.2.1 := by
  unfold g_X12_blanks0
  exact oa_iteL (rfl) (gl_X12_blanks)
set_option maxHeartbeats 20000 in
theorem gr_X12_blanks0 {h : Hp}  : (g_X12_blanks0 h ).2.2 = h.2.2 := by
  unfold g_X12_blanks0
  exact oa_iteR (rfl) (gr_X12_blanks)
set_option maxHeartbeats 100000 in
theorem fr_X12_blanks0 {h : Hp}  {t i : Nat} (c0 : ¬ (t = 12 ∧ i = 0)) : (g_X12_blanks0 h ).1 t i = h.1 t i := by
  unfold g_X12_blanks0
  exact oa_ite (rfl) (fr_X12_blanks c0)
set_option maxHeartbeats 20000 in
theorem gl_gw_X12_line_118 : ∀ (n : Nat) (h : Hp) (x1 : Int32) (x2 : Int32) (x3 : Int32) (x4 : Int32) (x5 : Int32), (gw_X12_line_118 n h x1 x2 x3 x4 x5).2.1 = h.2.1 := by
  intro n
  induction n with
  | zero => intros; rfl
  | succ n ih =>
    intro h x1 x2 x3 x4 x5
    rw [gw_X12_line_118]
    exact oa_iteL (oa_iteL ((hp_i_21).trans ((hp_i_21).trans ((hp_i_21).trans (gl_X12_letters)))) (rfl)) (oa_iteL (oa_iteL ((hp_i_21).trans ((hp_i_21).trans ((hp_i_21).trans (gl_X12_letters)))) (rfl)) (oa_iteL ((ih _ _ _ _ _ _).trans ((gl_X12_must).trans (hp_i_21))) ((ih _ _ _ _ _ _).trans ((gl_X12_must).trans (hp_i_21)))))
set_option maxHeartbeats 20000 in
theorem gr_gw_X12_line_118 : ∀ (n : Nat) (h : Hp) (x1 : Int32) (x2 : Int32) (x3 : Int32) (x4 : Int32) (x5 : Int32), (gw_X12_line_118 n h x1 x2 x3 x4 x5).2.2 = h.2.2 := by
  intro n
  induction n with
  | zero => intros; rfl
  | succ n ih =>
    intro h x1 x2 x3 x4 x5
    rw [gw_X12_line_118]
    exact oa_iteR (oa_iteR ((hp_i_22).trans ((hp_i_22).trans ((hp_i_22).trans (gr_X12_letters)))) (rfl)) (oa_iteR (oa_iteR ((hp_i_22).trans ((hp_i_22).trans ((hp_i_22).trans (gr_X12_letters)))) (rfl)) (oa_iteR ((ih _ _ _ _ _ _).trans ((gr_X12_must).trans (hp_i_22))) ((ih _ _ _ _ _ _).trans ((gr_X12_must).trans (hp_i_22)))))
set_option maxHeartbeats 20000 in
theorem gl_gw_X12_line_72 : ∀ (n : Nat) (h : Hp) (x1 : Int32) (x2 : Int32) (x3 : Int32) (x4 : Int32) (x5 : Int32), (gw_X12_line_72 n h x1 x2 x3 x4 x5).2.1 = h.2.1 := by
  intro n
  induction n with
  | zero => intros; rfl
  | succ n ih =>
    intro h x1 x2 x3 x4 x5
    rw [gw_X12_line_72]
    exact oa_iteL (gl_gw_X12_line_118  _ _ _ _ _ _ _) ((ih _ _ _ _ _ _).trans (gl_X12_must))
set_option maxHeartbeats 20000 in
theorem gr_gw_X12_line_72 : ∀ (n : Nat) (h : Hp) (x1 : Int32) (x2 : Int32) (x3 : Int32) (x4 : Int32) (x5 : Int32), (gw_X12_line_72 n h x1 x2 x3 x4 x5).2.2 = h.2.2 := by
  intro n
  induction n with
  | zero => intros; rfl
  | succ n ih =>
    intro h x1 x2 x3 x4 x5
    rw [gw_X12_line_72]
    exact oa_iteR (gr_gw_X12_line_118  _ _ _ _ _ _ _) ((ih _ _ _ _ _ _).trans (gr_X12_must))
set_option maxHeartbeats 20000 in
theorem gl_X12_line {h : Hp} {a1 : Int32} {a2 : Int32} : (g_X12_line h a1 a2).2.1 = h.2.1 := by
  unfold g_X12_line
  exact oa_iteL (oa_iteL ((gl_gw_X12_line_72  _ _ _ _ _ _ _).trans ((gl_X12_must).trans ((gl_X12_named).trans ((gl_X12_number).trans ((gl_X12_must).trans (gl_X12_blanks)))))) ((gl_X12_number).trans ((gl_X12_must).trans (gl_X12_blanks)))) (oa_iteL ((gl_gw_X12_line_72  _ _ _ _ _ _ _).trans ((gl_X12_must).trans ((gl_X12_named).trans ((gl_X12_number).trans ((gl_X12_must).trans (gl_X12_blanks)))))) ((gl_X12_number).trans ((gl_X12_must).trans (gl_X12_blanks))))
set_option maxHeartbeats 20000 in
theorem gr_X12_line {h : Hp} {a1 : Int32} {a2 : Int32} : (g_X12_line h a1 a2).2.2 = h.2.2 := by
  unfold g_X12_line
  exact oa_iteR (oa_iteR ((gr_gw_X12_line_72  _ _ _ _ _ _ _).trans ((gr_X12_must).trans ((gr_X12_named).trans ((gr_X12_number).trans ((gr_X12_must).trans (gr_X12_blanks)))))) ((gr_X12_number).trans ((gr_X12_must).trans (gr_X12_blanks)))) (oa_iteR ((gr_gw_X12_line_72  _ _ _ _ _ _ _).trans ((gr_X12_must).trans ((gr_X12_named).trans ((gr_X12_number).trans ((gr_X12_must).trans (gr_X12_blanks)))))) ((gr_X12_number).trans ((gr_X12_must).trans (gr_X12_blanks))))
set_option maxHeartbeats 100000 in
theorem fr_gw_X12_line_118 {t i : Nat}  (c0 : ¬ (t = 12 ∧ i = 0)) (c1 : ¬ (t = 57 ∧ i = 0)) : ∀ (n : Nat) (h : Hp) (x1 : Int32) (x2 : Int32) (x3 : Int32) (x4 : Int32) (x5 : Int32), (gw_X12_line_118 n h x1 x2 x3 x4 x5).1 t i = h.1 t i := by
  intro n
  induction n with
  | zero => intros; rfl
  | succ n ih =>
    intro h x1 x2 x3 x4 x5
    rw [gw_X12_line_118]
    exact oa_ite (oa_ite ((hp_i_n c1).trans ((hp_i_n c1).trans ((hp_i_n c0).trans (fr_X12_letters c0)))) (rfl)) (oa_ite (oa_ite ((hp_i_n c1).trans ((hp_i_n c1).trans ((hp_i_n c0).trans (fr_X12_letters c0)))) (rfl)) (oa_ite ((ih _ _ _ _ _ _).trans ((fr_X12_must c0).trans (hp_i_n c1))) ((ih _ _ _ _ _ _).trans ((fr_X12_must c0).trans (hp_i_n c1)))))
set_option maxHeartbeats 100000 in
theorem fr_gw_X12_line_72 {t i : Nat}  (c0 : ¬ (t = 12 ∧ i = 0)) (c1 : ¬ (t = 57 ∧ i = 0)) : ∀ (n : Nat) (h : Hp) (x1 : Int32) (x2 : Int32) (x3 : Int32) (x4 : Int32) (x5 : Int32), (gw_X12_line_72 n h x1 x2 x3 x4 x5).1 t i = h.1 t i := by
  intro n
  induction n with
  | zero => intros; rfl
  | succ n ih =>
    intro h x1 x2 x3 x4 x5
    rw [gw_X12_line_72]
    exact oa_ite (fr_gw_X12_line_118 c0 c1 _ _ _ _ _ _ _) ((ih _ _ _ _ _ _).trans (fr_X12_must c0))
set_option maxHeartbeats 100000 in
theorem fr_X12_line {h : Hp} {a1 : Int32} {a2 : Int32} {t i : Nat} (c0 : ¬ (t = 12 ∧ i = 0)) (c1 : ¬ (t = 57 ∧ i = 0)) : (g_X12_line h a1 a2).1 t i = h.1 t i := by
  unfold g_X12_line
  exact oa_ite (oa_ite ((fr_gw_X12_line_72 c0 c1 _ _ _ _ _ _ _).trans ((fr_X12_must c0).trans ((fr_X12_named c0).trans ((fr_X12_number c0).trans ((fr_X12_must c0).trans (fr_X12_blanks c0)))))) ((fr_X12_number c0).trans ((fr_X12_must c0).trans (fr_X12_blanks c0)))) (oa_ite ((fr_gw_X12_line_72 c0 c1 _ _ _ _ _ _ _).trans ((fr_X12_must c0).trans ((fr_X12_named c0).trans ((fr_X12_number c0).trans ((fr_X12_must c0).trans (fr_X12_blanks c0)))))) ((fr_X12_number c0).trans ((fr_X12_must c0).trans (fr_X12_blanks c0))))
set_option maxHeartbeats 20000 in
theorem gl_X12_rung {h : Hp}  : (g_X12_rung h ).2.1 = h.2.1 := by
  unfold g_X12_rung
  exact oa_iteL ((hp_i_21).trans ((hp_i_21).trans ((hp_i_21).trans ((gl_X12_number).trans ((hp_i_21).trans ((gl_X12_number).trans ((hp_i_21).trans ((gl_X12_number).trans ((hp_i_21).trans (gl_X12_must)))))))))) (gl_X12_must)
set_option maxHeartbeats 20000 in
theorem gr_X12_rung {h : Hp}  : (g_X12_rung h ).2.2 = h.2.2 := by
  unfold g_X12_rung
  exact oa_iteR ((hp_i_22).trans ((hp_i_22).trans ((hp_i_22).trans ((gr_X12_number).trans ((hp_i_22).trans ((gr_X12_number).trans ((hp_i_22).trans ((gr_X12_number).trans ((hp_i_22).trans (gr_X12_must)))))))))) (gr_X12_must)
set_option maxHeartbeats 100000 in
theorem fr_X12_rung {h : Hp}  {t i : Nat} (c0 : ¬ (t = 12 ∧ i = 0)) (c1 : ¬ (t = 57 ∧ i = 0)) : (g_X12_rung h ).1 t i = h.1 t i := by
  unfold g_X12_rung
  exact oa_ite ((hp_i_n c1).trans ((hp_i_n c0).trans ((hp_i_n c1).trans ((fr_X12_number c0).trans ((hp_i_n c1).trans ((fr_X12_number c0).trans ((hp_i_n c1).trans ((fr_X12_number c0).trans ((hp_i_n c0).trans (fr_X12_must c0)))))))))) (fr_X12_must c0)
set_option maxHeartbeats 20000 in
theorem gl_iw_h_X12_takesOver_108 : ∀ (n : Nat) (h : Hp) (x1 : Int32) (x2 : Int32), (iw_h_X12_takesOver_108 n h x1 x2).2.1 = h.2.1 := by
  intro n
  induction n with
  | zero => intros; rfl
  | succ n ih =>
    intro h x1 x2
    rw [iw_h_X12_takesOver_108]
    exact oa_iteL (rfl) ((ih _ _ _).trans (hp_i_21))
set_option maxHeartbeats 20000 in
theorem gr_iw_h_X12_takesOver_108 : ∀ (n : Nat) (h : Hp) (x1 : Int32) (x2 : Int32), (iw_h_X12_takesOver_108 n h x1 x2).2.2 = h.2.2 := by
  intro n
  induction n with
  | zero => intros; rfl
  | succ n ih =>
    intro h x1 x2
    rw [iw_h_X12_takesOver_108]
    exact oa_iteR (rfl) ((ih _ _ _).trans (hp_i_22))
set_option maxHeartbeats 20000 in
theorem gl_gw_X12_takesOver_96 : ∀ (n : Nat) (h : Hp) (x1 : Int32), (gw_X12_takesOver_96 n h x1).2.1 = h.2.1 := by
  intro n
  induction n with
  | zero => intros; rfl
  | succ n ih =>
    intro h x1
    rw [gw_X12_takesOver_96]
    exact oa_iteL (hp_i_21) ((ih _ _).trans (gl_iw_h_X12_takesOver_108  _ _ _ _))
set_option maxHeartbeats 20000 in
theorem gr_gw_X12_takesOver_96 : ∀ (n : Nat) (h : Hp) (x1 : Int32), (gw_X12_takesOver_96 n h x1).2.2 = h.2.2 := by
  intro n
  induction n with
  | zero => intros; rfl
  | succ n ih =>
    intro h x1
    rw [gw_X12_takesOver_96]
    exact oa_iteR (hp_i_22) ((ih _ _).trans (gr_iw_h_X12_takesOver_108  _ _ _ _))
set_option maxHeartbeats 20000 in
theorem gl_gw_X12_takesOver_51 : ∀ (n : Nat) (h : Hp) (x1 : Int32), (gw_X12_takesOver_51 n h x1).2.1 = h.2.1 := by
  intro n
  induction n with
  | zero => intros; rfl
  | succ n ih =>
    intro h x1
    rw [gw_X12_takesOver_51]
    exact oa_iteL ((gl_gw_X12_takesOver_96  _ _ _).trans (hp_i_21)) ((ih _ _).trans (hp_i_21))
set_option maxHeartbeats 20000 in
theorem gr_gw_X12_takesOver_51 : ∀ (n : Nat) (h : Hp) (x1 : Int32), (gw_X12_takesOver_51 n h x1).2.2 = h.2.2 := by
  intro n
  induction n with
  | zero => intros; rfl
  | succ n ih =>
    intro h x1
    rw [gw_X12_takesOver_51]
    exact oa_iteR ((gr_gw_X12_takesOver_96  _ _ _).trans (hp_i_22)) ((ih _ _).trans (hp_i_22))
set_option maxHeartbeats 20000 in
theorem gl_gw_X12_takesOver_29 : ∀ (n : Nat) (h : Hp) (x1 : Int32), (gw_X12_takesOver_29 n h x1).2.1 = h.2.1 := by
  intro n
  induction n with
  | zero => intros; rfl
  | succ n ih =>
    intro h x1
    rw [gw_X12_takesOver_29]
    exact oa_iteL (gl_gw_X12_takesOver_51  _ _ _) ((ih _ _).trans (hp_i_21))
set_option maxHeartbeats 20000 in
theorem gr_gw_X12_takesOver_29 : ∀ (n : Nat) (h : Hp) (x1 : Int32), (gw_X12_takesOver_29 n h x1).2.2 = h.2.2 := by
  intro n
  induction n with
  | zero => intros; rfl
  | succ n ih =>
    intro h x1
    rw [gw_X12_takesOver_29]
    exact oa_iteR (gr_gw_X12_takesOver_51  _ _ _) ((ih _ _).trans (hp_i_22))
set_option maxHeartbeats 20000 in
theorem gl_gw_X12_takesOver_2 : ∀ (n : Nat) (h : Hp) (x1 : Int32), (gw_X12_takesOver_2 n h x1).2.1 = h.2.1 := by
  intro n
  induction n with
  | zero => intros; rfl
  | succ n ih =>
    intro h x1
    rw [gw_X12_takesOver_2]
    exact oa_iteL (gl_gw_X12_takesOver_29  _ _ _) ((ih _ _).trans (hp_i_21))
set_option maxHeartbeats 20000 in
theorem gr_gw_X12_takesOver_2 : ∀ (n : Nat) (h : Hp) (x1 : Int32), (gw_X12_takesOver_2 n h x1).2.2 = h.2.2 := by
  intro n
  induction n with
  | zero => intros; rfl
  | succ n ih =>
    intro h x1
    rw [gw_X12_takesOver_2]
    exact oa_iteR (gr_gw_X12_takesOver_29  _ _ _) ((ih _ _).trans (hp_i_22))
set_option maxHeartbeats 20000 in
theorem gl_X12_takesOver {h : Hp}  : (g_X12_takesOver h ).2.1 = h.2.1 := by
  unfold g_X12_takesOver
  exact gl_gw_X12_takesOver_2  _ _ _
set_option maxHeartbeats 20000 in
theorem gr_X12_takesOver {h : Hp}  : (g_X12_takesOver h ).2.2 = h.2.2 := by
  unfold g_X12_takesOver
  exact gr_gw_X12_takesOver_2  _ _ _
set_option maxHeartbeats 100000 in
theorem fr_iw_h_X12_takesOver_108 {t i : Nat}  (c0 : ¬ (t = 12 ∧ i = 0)) (c1 : ¬ (t = 56 ∧ i = 0)) (c2 : ¬ (t = 58 ∧ i = 0)) : ∀ (n : Nat) (h : Hp) (x1 : Int32) (x2 : Int32), (iw_h_X12_takesOver_108 n h x1 x2).1 t i = h.1 t i := by
  intro n
  induction n with
  | zero => intros; rfl
  | succ n ih =>
    intro h x1 x2
    rw [iw_h_X12_takesOver_108]
    exact oa_ite (rfl) ((ih _ _ _).trans (hp_i_n c2))
set_option maxHeartbeats 100000 in
theorem fr_gw_X12_takesOver_96 {t i : Nat}  (c0 : ¬ (t = 12 ∧ i = 0)) (c1 : ¬ (t = 56 ∧ i = 0)) (c2 : ¬ (t = 58 ∧ i = 0)) : ∀ (n : Nat) (h : Hp) (x1 : Int32), (gw_X12_takesOver_96 n h x1).1 t i = h.1 t i := by
  intro n
  induction n with
  | zero => intros; rfl
  | succ n ih =>
    intro h x1
    rw [gw_X12_takesOver_96]
    exact oa_ite (hp_i_n c0) ((ih _ _).trans (fr_iw_h_X12_takesOver_108 c0 c1 c2 _ _ _ _))
set_option maxHeartbeats 100000 in
theorem fr_gw_X12_takesOver_51 {t i : Nat}  (c0 : ¬ (t = 12 ∧ i = 0)) (c1 : ¬ (t = 56 ∧ i = 0)) (c2 : ¬ (t = 58 ∧ i = 0)) : ∀ (n : Nat) (h : Hp) (x1 : Int32), (gw_X12_takesOver_51 n h x1).1 t i = h.1 t i := by
  intro n
  induction n with
  | zero => intros; rfl
  | succ n ih =>
    intro h x1
    rw [gw_X12_takesOver_51]
    exact oa_ite ((fr_gw_X12_takesOver_96 c0 c1 c2 _ _ _).trans (hp_i_n c2)) ((ih _ _).trans (hp_i_n c2))
set_option maxHeartbeats 100000 in
theorem fr_gw_X12_takesOver_29 {t i : Nat}  (c0 : ¬ (t = 12 ∧ i = 0)) (c1 : ¬ (t = 56 ∧ i = 0)) (c2 : ¬ (t = 58 ∧ i = 0)) : ∀ (n : Nat) (h : Hp) (x1 : Int32), (gw_X12_takesOver_29 n h x1).1 t i = h.1 t i := by
  intro n
  induction n with
  | zero => intros; rfl
  | succ n ih =>
    intro h x1
    rw [gw_X12_takesOver_29]
    exact oa_ite (fr_gw_X12_takesOver_51 c0 c1 c2 _ _ _) ((ih _ _).trans (hp_i_n c2))
set_option maxHeartbeats 100000 in
theorem fr_gw_X12_takesOver_2 {t i : Nat}  (c0 : ¬ (t = 12 ∧ i = 0)) (c1 : ¬ (t = 56 ∧ i = 0)) (c2 : ¬ (t = 58 ∧ i = 0)) : ∀ (n : Nat) (h : Hp) (x1 : Int32), (gw_X12_takesOver_2 n h x1).1 t i = h.1 t i := by
  intro n
  induction n with
  | zero => intros; rfl
  | succ n ih =>
    intro h x1
    rw [gw_X12_takesOver_2]
    exact oa_ite (fr_gw_X12_takesOver_29 c0 c1 c2 _ _ _) ((ih _ _).trans (hp_i_n c1))
set_option maxHeartbeats 100000 in
theorem fr_X12_takesOver {h : Hp}  {t i : Nat} (c0 : ¬ (t = 12 ∧ i = 0)) (c1 : ¬ (t = 56 ∧ i = 0)) (c2 : ¬ (t = 58 ∧ i = 0)) : (g_X12_takesOver h ).1 t i = h.1 t i := by
  unfold g_X12_takesOver
  exact fr_gw_X12_takesOver_2 c0 c1 c2 _ _ _
set_option maxHeartbeats 20000 in
theorem gl_gw_X12_keeps_54 : ∀ (n : Nat) (h : Hp) (x1 : Int32), (gw_X12_keeps_54 n h x1).2.1 = h.2.1 := by
  intro n
  induction n with
  | zero => intros; rfl
  | succ n ih =>
    intro h x1
    rw [gw_X12_keeps_54]
    exact oa_iteL (hp_i_21) ((ih _ _).trans (hp_i_21))
set_option maxHeartbeats 20000 in
theorem gr_gw_X12_keeps_54 : ∀ (n : Nat) (h : Hp) (x1 : Int32), (gw_X12_keeps_54 n h x1).2.2 = h.2.2 := by
  intro n
  induction n with
  | zero => intros; rfl
  | succ n ih =>
    intro h x1
    rw [gw_X12_keeps_54]
    exact oa_iteR (hp_i_22) ((ih _ _).trans (hp_i_22))
set_option maxHeartbeats 20000 in
theorem gl_gw_X12_keeps_13 : ∀ (n : Nat) (h : Hp) (x1 : Int32), (gw_X12_keeps_13 n h x1).2.1 = h.2.1 := by
  intro n
  induction n with
  | zero => intros; rfl
  | succ n ih =>
    intro h x1
    rw [gw_X12_keeps_13]
    exact oa_iteL ((gl_gw_X12_keeps_54  _ _ _).trans (hp_i_21)) ((ih _ _).trans (hp_i_21))
set_option maxHeartbeats 20000 in
theorem gr_gw_X12_keeps_13 : ∀ (n : Nat) (h : Hp) (x1 : Int32), (gw_X12_keeps_13 n h x1).2.2 = h.2.2 := by
  intro n
  induction n with
  | zero => intros; rfl
  | succ n ih =>
    intro h x1
    rw [gw_X12_keeps_13]
    exact oa_iteR ((gr_gw_X12_keeps_54  _ _ _).trans (hp_i_22)) ((ih _ _).trans (hp_i_22))
set_option maxHeartbeats 20000 in
theorem gl_X12_keeps {h : Hp}  : (g_X12_keeps h ).2.1 = h.2.1 := by
  unfold g_X12_keeps
  exact oa_iteL (gl_gw_X12_keeps_54  _ _ _) (gl_gw_X12_keeps_13  _ _ _)
set_option maxHeartbeats 20000 in
theorem gr_X12_keeps {h : Hp}  : (g_X12_keeps h ).2.2 = h.2.2 := by
  unfold g_X12_keeps
  exact oa_iteR (gr_gw_X12_keeps_54  _ _ _) (gr_gw_X12_keeps_13  _ _ _)
set_option maxHeartbeats 100000 in
theorem fr_gw_X12_keeps_54 {t i : Nat}  (c0 : ¬ (t = 12 ∧ i = 0)) (c1 : ¬ (t = 59 ∧ i = 0)) : ∀ (n : Nat) (h : Hp) (x1 : Int32), (gw_X12_keeps_54 n h x1).1 t i = h.1 t i := by
  intro n
  induction n with
  | zero => intros; rfl
  | succ n ih =>
    intro h x1
    rw [gw_X12_keeps_54]
    exact oa_ite (hp_i_n c0) ((ih _ _).trans (hp_i_n c1))
set_option maxHeartbeats 100000 in
theorem fr_gw_X12_keeps_13 {t i : Nat}  (c0 : ¬ (t = 12 ∧ i = 0)) (c1 : ¬ (t = 59 ∧ i = 0)) : ∀ (n : Nat) (h : Hp) (x1 : Int32), (gw_X12_keeps_13 n h x1).1 t i = h.1 t i := by
  intro n
  induction n with
  | zero => intros; rfl
  | succ n ih =>
    intro h x1
    rw [gw_X12_keeps_13]
    exact oa_ite ((fr_gw_X12_keeps_54 c0 c1 _ _ _).trans (hp_i_n c0)) ((ih _ _).trans (hp_i_n c1))
set_option maxHeartbeats 100000 in
theorem fr_X12_keeps {h : Hp}  {t i : Nat} (c0 : ¬ (t = 12 ∧ i = 0)) (c1 : ¬ (t = 59 ∧ i = 0)) : (g_X12_keeps h ).1 t i = h.1 t i := by
  unfold g_X12_keeps
  exact oa_ite (fr_gw_X12_keeps_54 c0 c1 _ _ _) (fr_gw_X12_keeps_13 c0 c1 _ _ _)
set_option maxHeartbeats 20000 in
theorem gl_gw_X12_undo_26 : ∀ (n : Nat) (h : Hp) (x1 : Int32), (gw_X12_undo_26 n h x1).2.1 = h.2.1 := by
  intro n
  induction n with
  | zero => intros; rfl
  | succ n ih =>
    intro h x1
    rw [gw_X12_undo_26]
    exact oa_iteL (rfl) ((ih _ _).trans (hp_i_21))
set_option maxHeartbeats 20000 in
theorem gr_gw_X12_undo_26 : ∀ (n : Nat) (h : Hp) (x1 : Int32), (gw_X12_undo_26 n h x1).2.2 = h.2.2 := by
  intro n
  induction n with
  | zero => intros; rfl
  | succ n ih =>
    intro h x1
    rw [gw_X12_undo_26]
    exact oa_iteR (rfl) ((ih _ _).trans (hp_i_22))
set_option maxHeartbeats 20000 in
theorem gl_X12_undo {h : Hp}  : (g_X12_undo h ).2.1 = h.2.1 := by
  unfold g_X12_undo
  exact oa_iteL ((gl_gw_X12_undo_26  _ _ _).trans ((hp_i_21).trans (hp_i_21))) (hp_i_21)
set_option maxHeartbeats 20000 in
theorem gr_X12_undo {h : Hp}  : (g_X12_undo h ).2.2 = h.2.2 := by
  unfold g_X12_undo
  exact oa_iteR ((gr_gw_X12_undo_26  _ _ _).trans ((hp_i_22).trans (hp_i_22))) (hp_i_22)
set_option maxHeartbeats 100000 in
theorem fr_gw_X12_undo_26 {t i : Nat}  (c0 : ¬ (t = 12 ∧ i = 0)) (c1 : ¬ (t = 58 ∧ i = 0)) : ∀ (n : Nat) (h : Hp) (x1 : Int32), (gw_X12_undo_26 n h x1).1 t i = h.1 t i := by
  intro n
  induction n with
  | zero => intros; rfl
  | succ n ih =>
    intro h x1
    rw [gw_X12_undo_26]
    exact oa_ite (rfl) ((ih _ _).trans (hp_i_n c1))
set_option maxHeartbeats 100000 in
theorem fr_X12_undo {h : Hp}  {t i : Nat} (c0 : ¬ (t = 12 ∧ i = 0)) (c1 : ¬ (t = 58 ∧ i = 0)) : (g_X12_undo h ).1 t i = h.1 t i := by
  unfold g_X12_undo
  exact oa_ite ((fr_gw_X12_undo_26 c0 c1 _ _ _).trans ((hp_i_n c0).trans (hp_i_n c0))) (hp_i_n c0)
set_option maxHeartbeats 20000 in
theorem gl_X12_undoDepth {h : Hp}  : (g_X12_undoDepth h ).2.1 = h.2.1 := by
  unfold g_X12_undoDepth
  exact hp_i_21
set_option maxHeartbeats 20000 in
theorem gr_X12_undoDepth {h : Hp}  : (g_X12_undoDepth h ).2.2 = h.2.2 := by
  unfold g_X12_undoDepth
  exact hp_i_22
set_option maxHeartbeats 100000 in
theorem fr_X12_undoDepth {h : Hp}  {t i : Nat} (c0 : ¬ (t = 12 ∧ i = 0)) : (g_X12_undoDepth h ).1 t i = h.1 t i := by
  unfold g_X12_undoDepth
  exact hp_i_n c0
set_option maxHeartbeats 20000 in
theorem gl_X12_noPart {h : Hp} {a1 : Int32} : (g_X12_noPart h a1).2.1 = h.2.1 := by
  unfold g_X12_noPart
  exact gl_X12_throwsIf
set_option maxHeartbeats 20000 in
theorem gr_X12_noPart {h : Hp} {a1 : Int32} : (g_X12_noPart h a1).2.2 = h.2.2 := by
  unfold g_X12_noPart
  exact gr_X12_throwsIf
set_option maxHeartbeats 100000 in
theorem fr_X12_noPart {h : Hp} {a1 : Int32} {t i : Nat} (c0 : ¬ (t = 12 ∧ i = 0)) : (g_X12_noPart h a1).1 t i = h.1 t i := by
  unfold g_X12_noPart
  exact fr_X12_throwsIf c0
set_option maxHeartbeats 20000 in
theorem gl_X12_noProduct {h : Hp} {a1 : Int32} : (g_X12_noProduct h a1).2.1 = h.2.1 := by
  unfold g_X12_noProduct
  exact gl_X12_throwsIf
set_option maxHeartbeats 20000 in
theorem gr_X12_noProduct {h : Hp} {a1 : Int32} : (g_X12_noProduct h a1).2.2 = h.2.2 := by
  unfold g_X12_noProduct
  exact gr_X12_throwsIf
set_option maxHeartbeats 100000 in
theorem fr_X12_noProduct {h : Hp} {a1 : Int32} {t i : Nat} (c0 : ¬ (t = 12 ∧ i = 0)) : (g_X12_noProduct h a1).1 t i = h.1 t i := by
  unfold g_X12_noProduct
  exact fr_X12_throwsIf c0
set_option maxHeartbeats 20000 in
theorem gl_X12_noOrder {h : Hp} {a1 : Int32} : (g_X12_noOrder h a1).2.1 = h.2.1 := by
  unfold g_X12_noOrder
  exact gl_X12_throwsIf
set_option maxHeartbeats 20000 in
theorem gr_X12_noOrder {h : Hp} {a1 : Int32} : (g_X12_noOrder h a1).2.2 = h.2.2 := by
  unfold g_X12_noOrder
  exact gr_X12_throwsIf
set_option maxHeartbeats 100000 in
theorem fr_X12_noOrder {h : Hp} {a1 : Int32} {t i : Nat} (c0 : ¬ (t = 12 ∧ i = 0)) : (g_X12_noOrder h a1).1 t i = h.1 t i := by
  unfold g_X12_noOrder
  exact fr_X12_throwsIf c0
set_option maxHeartbeats 20000 in
theorem gl_X12_grows {h : Hp} {a1 : Int32} {a2 : Int32} {a3 : Int32} : (g_X12_grows h a1 a2 a3).2.1 = h.2.1 := by
  unfold g_X12_grows
  exact hp_i_21
set_option maxHeartbeats 20000 in
theorem gr_X12_grows {h : Hp} {a1 : Int32} {a2 : Int32} {a3 : Int32} : (g_X12_grows h a1 a2 a3).2.2 = h.2.2 := by
  unfold g_X12_grows
  exact hp_i_22
set_option maxHeartbeats 100000 in
theorem fr_X12_grows {h : Hp} {a1 : Int32} {a2 : Int32} {a3 : Int32} {t i : Nat} (c0 : ¬ (t = 58 ∧ i = 0)) : (g_X12_grows h a1 a2 a3).1 t i = h.1 t i := by
  unfold g_X12_grows
  exact hp_i_n c0
set_option maxHeartbeats 20000 in
theorem gl_X12_count {h : Hp} {a1 : Int32} : (g_X12_count h a1).2.1 = h.2.1 := by
  unfold g_X12_count
  exact oa_iteL (hp_i_21) (oa_iteL (hp_i_21) (oa_iteL (hp_i_21) (oa_iteL (hp_i_21) (oa_iteL (hp_i_21) (hp_i_21)))))
set_option maxHeartbeats 20000 in
theorem gr_X12_count {h : Hp} {a1 : Int32} : (g_X12_count h a1).2.2 = h.2.2 := by
  unfold g_X12_count
  exact oa_iteR (hp_i_22) (oa_iteR (hp_i_22) (oa_iteR (hp_i_22) (oa_iteR (hp_i_22) (oa_iteR (hp_i_22) (hp_i_22)))))
set_option maxHeartbeats 100000 in
theorem fr_X12_count {h : Hp} {a1 : Int32} {t i : Nat} (c0 : ¬ (t = 12 ∧ i = 0)) : (g_X12_count h a1).1 t i = h.1 t i := by
  unfold g_X12_count
  exact oa_ite (hp_i_n c0) (oa_ite (hp_i_n c0) (oa_ite (hp_i_n c0) (oa_ite (hp_i_n c0) (oa_ite (hp_i_n c0) (hp_i_n c0)))))
set_option maxHeartbeats 20000 in
theorem gl_X12_lineCount {h : Hp} {a1 : Int32} : (g_X12_lineCount h a1).2.1 = h.2.1 := by
  unfold g_X12_lineCount
  exact oa_iteL ((gl_X12_noProduct).trans (hp_i_21)) ((gl_X12_noProduct).trans (hp_i_21))
set_option maxHeartbeats 20000 in
theorem gr_X12_lineCount {h : Hp} {a1 : Int32} : (g_X12_lineCount h a1).2.2 = h.2.2 := by
  unfold g_X12_lineCount
  exact oa_iteR ((gr_X12_noProduct).trans (hp_i_22)) ((gr_X12_noProduct).trans (hp_i_22))
set_option maxHeartbeats 100000 in
theorem fr_X12_lineCount {h : Hp} {a1 : Int32} {t i : Nat} (c0 : ¬ (t = 12 ∧ i = 0)) : (g_X12_lineCount h a1).1 t i = h.1 t i := by
  unfold g_X12_lineCount
  exact oa_ite ((fr_X12_noProduct c0).trans (hp_i_n c0)) ((fr_X12_noProduct c0).trans (hp_i_n c0))
set_option maxHeartbeats 20000 in
theorem gl_X12_lineItem {h : Hp} {a1 : Int32} {a2 : Int32} : (g_X12_lineItem h a1 a2).2.1 = h.2.1 := by
  unfold g_X12_lineItem
  exact oa_iteL (oa_iteL ((gl_X12_noProduct).trans (hp_i_21)) ((gl_X12_noProduct).trans (hp_i_21))) ((gl_X12_noProduct).trans (hp_i_21))
set_option maxHeartbeats 20000 in
theorem gr_X12_lineItem {h : Hp} {a1 : Int32} {a2 : Int32} : (g_X12_lineItem h a1 a2).2.2 = h.2.2 := by
  unfold g_X12_lineItem
  exact oa_iteR (oa_iteR ((gr_X12_noProduct).trans (hp_i_22)) ((gr_X12_noProduct).trans (hp_i_22))) ((gr_X12_noProduct).trans (hp_i_22))
set_option maxHeartbeats 100000 in
theorem fr_X12_lineItem {h : Hp} {a1 : Int32} {a2 : Int32} {t i : Nat} (c0 : ¬ (t = 12 ∧ i = 0)) : (g_X12_lineItem h a1 a2).1 t i = h.1 t i := by
  unfold g_X12_lineItem
  exact oa_ite (oa_ite ((fr_X12_noProduct c0).trans (hp_i_n c0)) ((fr_X12_noProduct c0).trans (hp_i_n c0))) ((fr_X12_noProduct c0).trans (hp_i_n c0))
set_option maxHeartbeats 20000 in
theorem gl_X12_lineQuantity {h : Hp} {a1 : Int32} {a2 : Int32} : (g_X12_lineQuantity h a1 a2).2.1 = h.2.1 := by
  unfold g_X12_lineQuantity
  exact oa_iteL (oa_iteL ((gl_X12_noProduct).trans (hp_i_21)) ((gl_X12_noProduct).trans (hp_i_21))) ((gl_X12_noProduct).trans (hp_i_21))
set_option maxHeartbeats 20000 in
theorem gr_X12_lineQuantity {h : Hp} {a1 : Int32} {a2 : Int32} : (g_X12_lineQuantity h a1 a2).2.2 = h.2.2 := by
  unfold g_X12_lineQuantity
  exact oa_iteR (oa_iteR ((gr_X12_noProduct).trans (hp_i_22)) ((gr_X12_noProduct).trans (hp_i_22))) ((gr_X12_noProduct).trans (hp_i_22))
set_option maxHeartbeats 100000 in
theorem fr_X12_lineQuantity {h : Hp} {a1 : Int32} {a2 : Int32} {t i : Nat} (c0 : ¬ (t = 12 ∧ i = 0)) : (g_X12_lineQuantity h a1 a2).1 t i = h.1 t i := by
  unfold g_X12_lineQuantity
  exact oa_ite (oa_ite ((fr_X12_noProduct c0).trans (hp_i_n c0)) ((fr_X12_noProduct c0).trans (hp_i_n c0))) ((fr_X12_noProduct c0).trans (hp_i_n c0))
set_option maxHeartbeats 20000 in
theorem gl_X12_need {h : Hp} {a1 : Int32} {a2 : Int32} : (g_X12_need h a1 a2).2.1 = h.2.1 := by
  unfold g_X12_need
  exact oa_iteL ((gl_X12_noProduct).trans (hp_i_21)) (oa_iteL ((gl_X12_noPart).trans ((gl_X12_noProduct).trans (hp_i_21))) ((gl_X12_noPart).trans ((gl_X12_noProduct).trans (hp_i_21))))
set_option maxHeartbeats 20000 in
theorem gr_X12_need {h : Hp} {a1 : Int32} {a2 : Int32} : (g_X12_need h a1 a2).2.2 = h.2.2 := by
  unfold g_X12_need
  exact oa_iteR ((gr_X12_noProduct).trans (hp_i_22)) (oa_iteR ((gr_X12_noPart).trans ((gr_X12_noProduct).trans (hp_i_22))) ((gr_X12_noPart).trans ((gr_X12_noProduct).trans (hp_i_22))))
set_option maxHeartbeats 100000 in
theorem fr_X12_need {h : Hp} {a1 : Int32} {a2 : Int32} {t i : Nat} (c0 : ¬ (t = 12 ∧ i = 0)) : (g_X12_need h a1 a2).1 t i = h.1 t i := by
  unfold g_X12_need
  exact oa_ite ((fr_X12_noProduct c0).trans (hp_i_n c0)) (oa_ite ((fr_X12_noPart c0).trans ((fr_X12_noProduct c0).trans (hp_i_n c0))) ((fr_X12_noPart c0).trans ((fr_X12_noProduct c0).trans (hp_i_n c0))))
set_option maxHeartbeats 20000 in
theorem gl_gw_X12_pieces_19 : ∀ (n : Nat) (h : Hp) (x1 : Int32) (x2 : Int32) (x3 : Int32), (gw_X12_pieces_19 n h x1 x2 x3).2.1 = h.2.1 := by
  intro n
  induction n with
  | zero => intros; rfl
  | succ n ih =>
    intro h x1 x2 x3
    rw [gw_X12_pieces_19]
    exact oa_iteL (rfl) (ih _ _ _ _)
set_option maxHeartbeats 20000 in
theorem gr_gw_X12_pieces_19 : ∀ (n : Nat) (h : Hp) (x1 : Int32) (x2 : Int32) (x3 : Int32), (gw_X12_pieces_19 n h x1 x2 x3).2.2 = h.2.2 := by
  intro n
  induction n with
  | zero => intros; rfl
  | succ n ih =>
    intro h x1 x2 x3
    rw [gw_X12_pieces_19]
    exact oa_iteR (rfl) (ih _ _ _ _)
set_option maxHeartbeats 20000 in
theorem gl_X12_pieces {h : Hp} {a1 : Int32} : (g_X12_pieces h a1).2.1 = h.2.1 := by
  unfold g_X12_pieces
  exact oa_iteL ((gl_gw_X12_pieces_19  _ _ _ _ _).trans ((gl_X12_noProduct).trans (hp_i_21))) ((gl_X12_noProduct).trans (hp_i_21))
set_option maxHeartbeats 20000 in
theorem gr_X12_pieces {h : Hp} {a1 : Int32} : (g_X12_pieces h a1).2.2 = h.2.2 := by
  unfold g_X12_pieces
  exact oa_iteR ((gr_gw_X12_pieces_19  _ _ _ _ _).trans ((gr_X12_noProduct).trans (hp_i_22))) ((gr_X12_noProduct).trans (hp_i_22))
set_option maxHeartbeats 100000 in
theorem fr_gw_X12_pieces_19 {t i : Nat}  (c0 : ¬ (t = 12 ∧ i = 0)) : ∀ (n : Nat) (h : Hp) (x1 : Int32) (x2 : Int32) (x3 : Int32), (gw_X12_pieces_19 n h x1 x2 x3).1 t i = h.1 t i := by
  intro n
  induction n with
  | zero => intros; rfl
  | succ n ih =>
    intro h x1 x2 x3
    rw [gw_X12_pieces_19]
    exact oa_ite (rfl) (ih _ _ _ _)
set_option maxHeartbeats 100000 in
theorem fr_X12_pieces {h : Hp} {a1 : Int32} {t i : Nat} (c0 : ¬ (t = 12 ∧ i = 0)) : (g_X12_pieces h a1).1 t i = h.1 t i := by
  unfold g_X12_pieces
  exact oa_ite ((fr_gw_X12_pieces_19 c0 _ _ _ _ _).trans ((fr_X12_noProduct c0).trans (hp_i_n c0))) ((fr_X12_noProduct c0).trans (hp_i_n c0))
set_option maxHeartbeats 20000 in
theorem gl_gw_X12_usedBy_19 : ∀ (n : Nat) (h : Hp) (x1 : Int32) (x2 : Int32) (x3 : Int32), (gw_X12_usedBy_19 n h x1 x2 x3).2.1 = h.2.1 := by
  intro n
  induction n with
  | zero => intros; rfl
  | succ n ih =>
    intro h x1 x2 x3
    rw [gw_X12_usedBy_19]
    exact oa_iteL (rfl) (oa_iteL (ih _ _ _ _) (ih _ _ _ _))
set_option maxHeartbeats 20000 in
theorem gr_gw_X12_usedBy_19 : ∀ (n : Nat) (h : Hp) (x1 : Int32) (x2 : Int32) (x3 : Int32), (gw_X12_usedBy_19 n h x1 x2 x3).2.2 = h.2.2 := by
  intro n
  induction n with
  | zero => intros; rfl
  | succ n ih =>
    intro h x1 x2 x3
    rw [gw_X12_usedBy_19]
    exact oa_iteR (rfl) (oa_iteR (ih _ _ _ _) (ih _ _ _ _))
set_option maxHeartbeats 20000 in
theorem gl_X12_usedBy {h : Hp} {a1 : Int32} : (g_X12_usedBy h a1).2.1 = h.2.1 := by
  unfold g_X12_usedBy
  exact oa_iteL ((gl_gw_X12_usedBy_19  _ _ _ _ _).trans ((gl_X12_noPart).trans (hp_i_21))) ((gl_X12_noPart).trans (hp_i_21))
set_option maxHeartbeats 20000 in
theorem gr_X12_usedBy {h : Hp} {a1 : Int32} : (g_X12_usedBy h a1).2.2 = h.2.2 := by
  unfold g_X12_usedBy
  exact oa_iteR ((gr_gw_X12_usedBy_19  _ _ _ _ _).trans ((gr_X12_noPart).trans (hp_i_22))) ((gr_X12_noPart).trans (hp_i_22))
set_option maxHeartbeats 100000 in
theorem fr_gw_X12_usedBy_19 {t i : Nat}  (c0 : ¬ (t = 12 ∧ i = 0)) : ∀ (n : Nat) (h : Hp) (x1 : Int32) (x2 : Int32) (x3 : Int32), (gw_X12_usedBy_19 n h x1 x2 x3).1 t i = h.1 t i := by
  intro n
  induction n with
  | zero => intros; rfl
  | succ n ih =>
    intro h x1 x2 x3
    rw [gw_X12_usedBy_19]
    exact oa_ite (rfl) (oa_ite (ih _ _ _ _) (ih _ _ _ _))
set_option maxHeartbeats 100000 in
theorem fr_X12_usedBy {h : Hp} {a1 : Int32} {t i : Nat} (c0 : ¬ (t = 12 ∧ i = 0)) : (g_X12_usedBy h a1).1 t i = h.1 t i := by
  unfold g_X12_usedBy
  exact oa_ite ((fr_gw_X12_usedBy_19 c0 _ _ _ _ _).trans ((fr_X12_noPart c0).trans (hp_i_n c0))) ((fr_X12_noPart c0).trans (hp_i_n c0))
set_option maxHeartbeats 20000 in
theorem gl_gw_X12_commonParts_28 : ∀ (n : Nat) (h : Hp) (x1 : Int32) (x2 : Int32) (x3 : Int32) (x4 : Int32), (gw_X12_commonParts_28 n h x1 x2 x3 x4).2.1 = h.2.1 := by
  intro n
  induction n with
  | zero => intros; rfl
  | succ n ih =>
    intro h x1 x2 x3 x4
    rw [gw_X12_commonParts_28]
    exact oa_iteL (rfl) (oa_iteL (ih _ _ _ _ _) (oa_iteL (ih _ _ _ _ _) (ih _ _ _ _ _)))
set_option maxHeartbeats 20000 in
theorem gr_gw_X12_commonParts_28 : ∀ (n : Nat) (h : Hp) (x1 : Int32) (x2 : Int32) (x3 : Int32) (x4 : Int32), (gw_X12_commonParts_28 n h x1 x2 x3 x4).2.2 = h.2.2 := by
  intro n
  induction n with
  | zero => intros; rfl
  | succ n ih =>
    intro h x1 x2 x3 x4
    rw [gw_X12_commonParts_28]
    exact oa_iteR (rfl) (oa_iteR (ih _ _ _ _ _) (oa_iteR (ih _ _ _ _ _) (ih _ _ _ _ _)))
set_option maxHeartbeats 20000 in
theorem gl_X12_commonParts {h : Hp} {a1 : Int32} {a2 : Int32} : (g_X12_commonParts h a1 a2).2.1 = h.2.1 := by
  unfold g_X12_commonParts
  exact oa_iteL ((gl_X12_noProduct).trans (hp_i_21)) (oa_iteL ((gl_gw_X12_commonParts_28  _ _ _ _ _ _).trans ((gl_X12_noProduct).trans ((gl_X12_noProduct).trans (hp_i_21)))) ((gl_X12_noProduct).trans ((gl_X12_noProduct).trans (hp_i_21))))
set_option maxHeartbeats 20000 in
theorem gr_X12_commonParts {h : Hp} {a1 : Int32} {a2 : Int32} : (g_X12_commonParts h a1 a2).2.2 = h.2.2 := by
  unfold g_X12_commonParts
  exact oa_iteR ((gr_X12_noProduct).trans (hp_i_22)) (oa_iteR ((gr_gw_X12_commonParts_28  _ _ _ _ _ _).trans ((gr_X12_noProduct).trans ((gr_X12_noProduct).trans (hp_i_22)))) ((gr_X12_noProduct).trans ((gr_X12_noProduct).trans (hp_i_22))))
set_option maxHeartbeats 100000 in
theorem fr_gw_X12_commonParts_28 {t i : Nat}  (c0 : ¬ (t = 12 ∧ i = 0)) : ∀ (n : Nat) (h : Hp) (x1 : Int32) (x2 : Int32) (x3 : Int32) (x4 : Int32), (gw_X12_commonParts_28 n h x1 x2 x3 x4).1 t i = h.1 t i := by
  intro n
  induction n with
  | zero => intros; rfl
  | succ n ih =>
    intro h x1 x2 x3 x4
    rw [gw_X12_commonParts_28]
    exact oa_ite (rfl) (oa_ite (ih _ _ _ _ _) (oa_ite (ih _ _ _ _ _) (ih _ _ _ _ _)))
set_option maxHeartbeats 100000 in
theorem fr_X12_commonParts {h : Hp} {a1 : Int32} {a2 : Int32} {t i : Nat} (c0 : ¬ (t = 12 ∧ i = 0)) : (g_X12_commonParts h a1 a2).1 t i = h.1 t i := by
  unfold g_X12_commonParts
  exact oa_ite ((fr_X12_noProduct c0).trans (hp_i_n c0)) (oa_ite ((fr_gw_X12_commonParts_28 c0 _ _ _ _ _ _).trans ((fr_X12_noProduct c0).trans ((fr_X12_noProduct c0).trans (hp_i_n c0)))) ((fr_X12_noProduct c0).trans ((fr_X12_noProduct c0).trans (hp_i_n c0))))
set_option maxHeartbeats 20000 in
theorem gl_X12_day {h : Hp}  : (g_X12_day h ).2.1 = h.2.1 := by
  unfold g_X12_day
  exact hp_i_21
set_option maxHeartbeats 20000 in
theorem gr_X12_day {h : Hp}  : (g_X12_day h ).2.2 = h.2.2 := by
  unfold g_X12_day
  exact hp_i_22
set_option maxHeartbeats 100000 in
theorem fr_X12_day {h : Hp}  {t i : Nat} (c0 : ¬ (t = 12 ∧ i = 0)) : (g_X12_day h ).1 t i = h.1 t i := by
  unfold g_X12_day
  exact hp_i_n c0
set_option maxHeartbeats 20000 in
theorem gl_X12_stock {h : Hp} {a1 : Int32} : (g_X12_stock h a1).2.1 = h.2.1 := by
  unfold g_X12_stock
  exact oa_iteL ((gl_X12_noPart).trans (hp_i_21)) ((gl_X12_noPart).trans (hp_i_21))
set_option maxHeartbeats 20000 in
theorem gr_X12_stock {h : Hp} {a1 : Int32} : (g_X12_stock h a1).2.2 = h.2.2 := by
  unfold g_X12_stock
  exact oa_iteR ((gr_X12_noPart).trans (hp_i_22)) ((gr_X12_noPart).trans (hp_i_22))
set_option maxHeartbeats 100000 in
theorem fr_X12_stock {h : Hp} {a1 : Int32} {t i : Nat} (c0 : ¬ (t = 12 ∧ i = 0)) : (g_X12_stock h a1).1 t i = h.1 t i := by
  unfold g_X12_stock
  exact oa_ite ((fr_X12_noPart c0).trans (hp_i_n c0)) ((fr_X12_noPart c0).trans (hp_i_n c0))
set_option maxHeartbeats 20000 in
theorem gl_X12_reserved {h : Hp} {a1 : Int32} : (g_X12_reserved h a1).2.1 = h.2.1 := by
  unfold g_X12_reserved
  exact oa_iteL ((gl_X12_noPart).trans (hp_i_21)) ((gl_X12_noPart).trans (hp_i_21))
set_option maxHeartbeats 20000 in
theorem gr_X12_reserved {h : Hp} {a1 : Int32} : (g_X12_reserved h a1).2.2 = h.2.2 := by
  unfold g_X12_reserved
  exact oa_iteR ((gr_X12_noPart).trans (hp_i_22)) ((gr_X12_noPart).trans (hp_i_22))
set_option maxHeartbeats 100000 in
theorem fr_X12_reserved {h : Hp} {a1 : Int32} {t i : Nat} (c0 : ¬ (t = 12 ∧ i = 0)) : (g_X12_reserved h a1).1 t i = h.1 t i := by
  unfold g_X12_reserved
  exact oa_ite ((fr_X12_noPart c0).trans (hp_i_n c0)) ((fr_X12_noPart c0).trans (hp_i_n c0))
set_option maxHeartbeats 20000 in
theorem gl_X12_arriving {h : Hp} {a1 : Int32} : (g_X12_arriving h a1).2.1 = h.2.1 := by
  unfold g_X12_arriving
  exact oa_iteL ((gl_X12_noPart).trans (hp_i_21)) ((gl_X12_noPart).trans (hp_i_21))
set_option maxHeartbeats 20000 in
theorem gr_X12_arriving {h : Hp} {a1 : Int32} : (g_X12_arriving h a1).2.2 = h.2.2 := by
  unfold g_X12_arriving
  exact oa_iteR ((gr_X12_noPart).trans (hp_i_22)) ((gr_X12_noPart).trans (hp_i_22))
set_option maxHeartbeats 100000 in
theorem fr_X12_arriving {h : Hp} {a1 : Int32} {t i : Nat} (c0 : ¬ (t = 12 ∧ i = 0)) : (g_X12_arriving h a1).1 t i = h.1 t i := by
  unfold g_X12_arriving
  exact oa_ite ((fr_X12_noPart c0).trans (hp_i_n c0)) ((fr_X12_noPart c0).trans (hp_i_n c0))
set_option maxHeartbeats 20000 in
theorem gl_gw_X12_nextArrival_19 : ∀ (n : Nat) (h : Hp) (x1 : Int32) (x2 : Int32) (x3 : Int32), (gw_X12_nextArrival_19 n h x1 x2 x3).2.1 = h.2.1 := by
  intro n
  induction n with
  | zero => intros; rfl
  | succ n ih =>
    intro h x1 x2 x3
    rw [gw_X12_nextArrival_19]
    exact oa_iteL (rfl) (oa_iteL (ih _ _ _ _) (oa_iteL (ih _ _ _ _) (oa_iteL (ih _ _ _ _) (ih _ _ _ _))))
set_option maxHeartbeats 20000 in
theorem gr_gw_X12_nextArrival_19 : ∀ (n : Nat) (h : Hp) (x1 : Int32) (x2 : Int32) (x3 : Int32), (gw_X12_nextArrival_19 n h x1 x2 x3).2.2 = h.2.2 := by
  intro n
  induction n with
  | zero => intros; rfl
  | succ n ih =>
    intro h x1 x2 x3
    rw [gw_X12_nextArrival_19]
    exact oa_iteR (rfl) (oa_iteR (ih _ _ _ _) (oa_iteR (ih _ _ _ _) (oa_iteR (ih _ _ _ _) (ih _ _ _ _))))
set_option maxHeartbeats 20000 in
theorem gl_X12_nextArrival {h : Hp} {a1 : Int32} : (g_X12_nextArrival h a1).2.1 = h.2.1 := by
  unfold g_X12_nextArrival
  exact oa_iteL ((gl_gw_X12_nextArrival_19  _ _ _ _ _).trans ((gl_X12_noPart).trans (hp_i_21))) ((gl_X12_noPart).trans (hp_i_21))
set_option maxHeartbeats 20000 in
theorem gr_X12_nextArrival {h : Hp} {a1 : Int32} : (g_X12_nextArrival h a1).2.2 = h.2.2 := by
  unfold g_X12_nextArrival
  exact oa_iteR ((gr_gw_X12_nextArrival_19  _ _ _ _ _).trans ((gr_X12_noPart).trans (hp_i_22))) ((gr_X12_noPart).trans (hp_i_22))
set_option maxHeartbeats 100000 in
theorem fr_gw_X12_nextArrival_19 {t i : Nat}  (c0 : ¬ (t = 12 ∧ i = 0)) : ∀ (n : Nat) (h : Hp) (x1 : Int32) (x2 : Int32) (x3 : Int32), (gw_X12_nextArrival_19 n h x1 x2 x3).1 t i = h.1 t i := by
  intro n
  induction n with
  | zero => intros; rfl
  | succ n ih =>
    intro h x1 x2 x3
    rw [gw_X12_nextArrival_19]
    exact oa_ite (rfl) (oa_ite (ih _ _ _ _) (oa_ite (ih _ _ _ _) (oa_ite (ih _ _ _ _) (ih _ _ _ _))))
set_option maxHeartbeats 100000 in
theorem fr_X12_nextArrival {h : Hp} {a1 : Int32} {t i : Nat} (c0 : ¬ (t = 12 ∧ i = 0)) : (g_X12_nextArrival h a1).1 t i = h.1 t i := by
  unfold g_X12_nextArrival
  exact oa_ite ((fr_gw_X12_nextArrival_19 c0 _ _ _ _ _).trans ((fr_X12_noPart c0).trans (hp_i_n c0))) ((fr_X12_noPart c0).trans (hp_i_n c0))
set_option maxHeartbeats 20000 in
theorem gl_X12_buildable {h : Hp} {a1 : Int32} : (g_X12_buildable h a1).2.1 = h.2.1 := by
  unfold g_X12_buildable
  exact oa_iteL ((gl_X12_noProduct).trans (hp_i_21)) ((gl_X12_noProduct).trans (hp_i_21))
set_option maxHeartbeats 20000 in
theorem gr_X12_buildable {h : Hp} {a1 : Int32} : (g_X12_buildable h a1).2.2 = h.2.2 := by
  unfold g_X12_buildable
  exact oa_iteR ((gr_X12_noProduct).trans (hp_i_22)) ((gr_X12_noProduct).trans (hp_i_22))
set_option maxHeartbeats 100000 in
theorem fr_X12_buildable {h : Hp} {a1 : Int32} {t i : Nat} (c0 : ¬ (t = 12 ∧ i = 0)) : (g_X12_buildable h a1).1 t i = h.1 t i := by
  unfold g_X12_buildable
  exact oa_ite ((fr_X12_noProduct c0).trans (hp_i_n c0)) ((fr_X12_noProduct c0).trans (hp_i_n c0))
set_option maxHeartbeats 20000 in
theorem gl_X12_bottleneck {h : Hp} {a1 : Int32} : (g_X12_bottleneck h a1).2.1 = h.2.1 := by
  unfold g_X12_bottleneck
  exact oa_iteL ((gl_X12_noProduct).trans (hp_i_21)) ((gl_X12_noProduct).trans (hp_i_21))
set_option maxHeartbeats 20000 in
theorem gr_X12_bottleneck {h : Hp} {a1 : Int32} : (g_X12_bottleneck h a1).2.2 = h.2.2 := by
  unfold g_X12_bottleneck
  exact oa_iteR ((gr_X12_noProduct).trans (hp_i_22)) ((gr_X12_noProduct).trans (hp_i_22))
set_option maxHeartbeats 100000 in
theorem fr_X12_bottleneck {h : Hp} {a1 : Int32} {t i : Nat} (c0 : ¬ (t = 12 ∧ i = 0)) : (g_X12_bottleneck h a1).1 t i = h.1 t i := by
  unfold g_X12_bottleneck
  exact oa_ite ((fr_X12_noProduct c0).trans (hp_i_n c0)) ((fr_X12_noProduct c0).trans (hp_i_n c0))
set_option maxHeartbeats 20000 in
theorem gl_gw_X12_buildableTogether_46 : ∀ (n : Nat) (h : Hp) (x1 : Int32) (x2 : Int32) (x3 : Int32) (x4 : Int32), (gw_X12_buildableTogether_46 n h x1 x2 x3 x4).2.1 = h.2.1 := by
  intro n
  induction n with
  | zero => intros; rfl
  | succ n ih =>
    intro h x1 x2 x3 x4
    rw [gw_X12_buildableTogether_46]
    exact oa_iteL (rfl) (ih _ _ _ _ _)
set_option maxHeartbeats 20000 in
theorem gr_gw_X12_buildableTogether_46 : ∀ (n : Nat) (h : Hp) (x1 : Int32) (x2 : Int32) (x3 : Int32) (x4 : Int32), (gw_X12_buildableTogether_46 n h x1 x2 x3 x4).2.2 = h.2.2 := by
  intro n
  induction n with
  | zero => intros; rfl
  | succ n ih =>
    intro h x1 x2 x3 x4
    rw [gw_X12_buildableTogether_46]
    exact oa_iteR (rfl) (ih _ _ _ _ _)
set_option maxHeartbeats 20000 in
theorem gl_X12_buildableTogether {h : Hp} {a1 : Int32} {a2 : Int32} : (g_X12_buildableTogether h a1 a2).2.1 = h.2.1 := by
  unfold g_X12_buildableTogether
  exact oa_iteL ((gl_X12_noProduct).trans (hp_i_21)) (oa_iteL ((gl_X12_noProduct).trans ((gl_X12_noProduct).trans (hp_i_21))) (oa_iteL ((gl_gw_X12_buildableTogether_46  _ _ _ _ _ _).trans ((gl_X12_throwsIf).trans ((gl_X12_noProduct).trans ((gl_X12_noProduct).trans (hp_i_21))))) ((gl_X12_throwsIf).trans ((gl_X12_noProduct).trans ((gl_X12_noProduct).trans (hp_i_21))))))
set_option maxHeartbeats 20000 in
theorem gr_X12_buildableTogether {h : Hp} {a1 : Int32} {a2 : Int32} : (g_X12_buildableTogether h a1 a2).2.2 = h.2.2 := by
  unfold g_X12_buildableTogether
  exact oa_iteR ((gr_X12_noProduct).trans (hp_i_22)) (oa_iteR ((gr_X12_noProduct).trans ((gr_X12_noProduct).trans (hp_i_22))) (oa_iteR ((gr_gw_X12_buildableTogether_46  _ _ _ _ _ _).trans ((gr_X12_throwsIf).trans ((gr_X12_noProduct).trans ((gr_X12_noProduct).trans (hp_i_22))))) ((gr_X12_throwsIf).trans ((gr_X12_noProduct).trans ((gr_X12_noProduct).trans (hp_i_22))))))
set_option maxHeartbeats 100000 in
theorem fr_gw_X12_buildableTogether_46 {t i : Nat}  (c0 : ¬ (t = 12 ∧ i = 0)) : ∀ (n : Nat) (h : Hp) (x1 : Int32) (x2 : Int32) (x3 : Int32) (x4 : Int32), (gw_X12_buildableTogether_46 n h x1 x2 x3 x4).1 t i = h.1 t i := by
  intro n
  induction n with
  | zero => intros; rfl
  | succ n ih =>
    intro h x1 x2 x3 x4
    rw [gw_X12_buildableTogether_46]
    exact oa_ite (rfl) (ih _ _ _ _ _)
set_option maxHeartbeats 100000 in
theorem fr_X12_buildableTogether {h : Hp} {a1 : Int32} {a2 : Int32} {t i : Nat} (c0 : ¬ (t = 12 ∧ i = 0)) : (g_X12_buildableTogether h a1 a2).1 t i = h.1 t i := by
  unfold g_X12_buildableTogether
  exact oa_ite ((fr_X12_noProduct c0).trans (hp_i_n c0)) (oa_ite ((fr_X12_noProduct c0).trans ((fr_X12_noProduct c0).trans (hp_i_n c0))) (oa_ite ((fr_gw_X12_buildableTogether_46 c0 _ _ _ _ _ _).trans ((fr_X12_throwsIf c0).trans ((fr_X12_noProduct c0).trans ((fr_X12_noProduct c0).trans (hp_i_n c0))))) ((fr_X12_throwsIf c0).trans ((fr_X12_noProduct c0).trans ((fr_X12_noProduct c0).trans (hp_i_n c0))))))
set_option maxHeartbeats 20000 in
theorem gl_X12_stateOf {h : Hp} {a1 : Int32} : (g_X12_stateOf h a1).2.1 = h.2.1 := by
  unfold g_X12_stateOf
  exact oa_iteL (oa_iteL (oa_iteL ((gl_X12_noOrder).trans (hp_i_21)) ((gl_X12_noOrder).trans (hp_i_21))) ((gl_X12_noOrder).trans (hp_i_21))) ((gl_X12_noOrder).trans (hp_i_21))
set_option maxHeartbeats 20000 in
theorem gr_X12_stateOf {h : Hp} {a1 : Int32} : (g_X12_stateOf h a1).2.2 = h.2.2 := by
  unfold g_X12_stateOf
  exact oa_iteR (oa_iteR (oa_iteR ((gr_X12_noOrder).trans (hp_i_22)) ((gr_X12_noOrder).trans (hp_i_22))) ((gr_X12_noOrder).trans (hp_i_22))) ((gr_X12_noOrder).trans (hp_i_22))
set_option maxHeartbeats 100000 in
theorem fr_X12_stateOf {h : Hp} {a1 : Int32} {t i : Nat} (c0 : ¬ (t = 12 ∧ i = 0)) : (g_X12_stateOf h a1).1 t i = h.1 t i := by
  unfold g_X12_stateOf
  exact oa_ite (oa_ite (oa_ite ((fr_X12_noOrder c0).trans (hp_i_n c0)) ((fr_X12_noOrder c0).trans (hp_i_n c0))) ((fr_X12_noOrder c0).trans (hp_i_n c0))) ((fr_X12_noOrder c0).trans (hp_i_n c0))
set_option maxHeartbeats 20000 in
theorem gl_X12_openUnits {h : Hp} {a1 : Int32} : (g_X12_openUnits h a1).2.1 = h.2.1 := by
  unfold g_X12_openUnits
  exact oa_iteL ((gl_X12_noOrder).trans (hp_i_21)) ((gl_X12_noOrder).trans (hp_i_21))
set_option maxHeartbeats 20000 in
theorem gr_X12_openUnits {h : Hp} {a1 : Int32} : (g_X12_openUnits h a1).2.2 = h.2.2 := by
  unfold g_X12_openUnits
  exact oa_iteR ((gr_X12_noOrder).trans (hp_i_22)) ((gr_X12_noOrder).trans (hp_i_22))
set_option maxHeartbeats 100000 in
theorem fr_X12_openUnits {h : Hp} {a1 : Int32} {t i : Nat} (c0 : ¬ (t = 12 ∧ i = 0)) : (g_X12_openUnits h a1).1 t i = h.1 t i := by
  unfold g_X12_openUnits
  exact oa_ite ((fr_X12_noOrder c0).trans (hp_i_n c0)) ((fr_X12_noOrder c0).trans (hp_i_n c0))
set_option maxHeartbeats 20000 in
theorem gl_X12_reservedUnits {h : Hp} {a1 : Int32} : (g_X12_reservedUnits h a1).2.1 = h.2.1 := by
  unfold g_X12_reservedUnits
  exact oa_iteL ((gl_X12_noOrder).trans (hp_i_21)) ((gl_X12_noOrder).trans (hp_i_21))
set_option maxHeartbeats 20000 in
theorem gr_X12_reservedUnits {h : Hp} {a1 : Int32} : (g_X12_reservedUnits h a1).2.2 = h.2.2 := by
  unfold g_X12_reservedUnits
  exact oa_iteR ((gr_X12_noOrder).trans (hp_i_22)) ((gr_X12_noOrder).trans (hp_i_22))
set_option maxHeartbeats 100000 in
theorem fr_X12_reservedUnits {h : Hp} {a1 : Int32} {t i : Nat} (c0 : ¬ (t = 12 ∧ i = 0)) : (g_X12_reservedUnits h a1).1 t i = h.1 t i := by
  unfold g_X12_reservedUnits
  exact oa_ite ((fr_X12_noOrder c0).trans (hp_i_n c0)) ((fr_X12_noOrder c0).trans (hp_i_n c0))
set_option maxHeartbeats 20000 in
theorem gl_X12_shippedUnits {h : Hp} {a1 : Int32} : (g_X12_shippedUnits h a1).2.1 = h.2.1 := by
  unfold g_X12_shippedUnits
  exact oa_iteL ((gl_X12_noOrder).trans (hp_i_21)) ((gl_X12_noOrder).trans (hp_i_21))
set_option maxHeartbeats 20000 in
theorem gr_X12_shippedUnits {h : Hp} {a1 : Int32} : (g_X12_shippedUnits h a1).2.2 = h.2.2 := by
  unfold g_X12_shippedUnits
  exact oa_iteR ((gr_X12_noOrder).trans (hp_i_22)) ((gr_X12_noOrder).trans (hp_i_22))
set_option maxHeartbeats 100000 in
theorem fr_X12_shippedUnits {h : Hp} {a1 : Int32} {t i : Nat} (c0 : ¬ (t = 12 ∧ i = 0)) : (g_X12_shippedUnits h a1).1 t i = h.1 t i := by
  unfold g_X12_shippedUnits
  exact oa_ite ((fr_X12_noOrder c0).trans (hp_i_n c0)) ((fr_X12_noOrder c0).trans (hp_i_n c0))
set_option maxHeartbeats 20000 in
theorem gl_X12_orderField {h : Hp} {a1 : Int32} {a2 : Int32} : (g_X12_orderField h a1 a2).2.1 = h.2.1 := by
  unfold g_X12_orderField
  exact oa_iteL (oa_iteL ((gl_X12_noOrder).trans (hp_i_21)) ((gl_X12_noOrder).trans (hp_i_21))) ((gl_X12_noOrder).trans (hp_i_21))
set_option maxHeartbeats 20000 in
theorem gr_X12_orderField {h : Hp} {a1 : Int32} {a2 : Int32} : (g_X12_orderField h a1 a2).2.2 = h.2.2 := by
  unfold g_X12_orderField
  exact oa_iteR (oa_iteR ((gr_X12_noOrder).trans (hp_i_22)) ((gr_X12_noOrder).trans (hp_i_22))) ((gr_X12_noOrder).trans (hp_i_22))
set_option maxHeartbeats 100000 in
theorem fr_X12_orderField {h : Hp} {a1 : Int32} {a2 : Int32} {t i : Nat} (c0 : ¬ (t = 12 ∧ i = 0)) : (g_X12_orderField h a1 a2).1 t i = h.1 t i := by
  unfold g_X12_orderField
  exact oa_ite (oa_ite ((fr_X12_noOrder c0).trans (hp_i_n c0)) ((fr_X12_noOrder c0).trans (hp_i_n c0))) ((fr_X12_noOrder c0).trans (hp_i_n c0))
set_option maxHeartbeats 20000 in
theorem gl_X12_missing {h : Hp} {a1 : Int32} {a2 : Int32} : (g_X12_missing h a1 a2).2.1 = h.2.1 := by
  unfold g_X12_missing
  exact oa_iteL ((gl_X12_noOrder).trans (hp_i_21)) (oa_iteL ((gl_X12_noPart).trans ((gl_X12_noOrder).trans (hp_i_21))) ((gl_X12_noPart).trans ((gl_X12_noOrder).trans (hp_i_21))))
set_option maxHeartbeats 20000 in
theorem gr_X12_missing {h : Hp} {a1 : Int32} {a2 : Int32} : (g_X12_missing h a1 a2).2.2 = h.2.2 := by
  unfold g_X12_missing
  exact oa_iteR ((gr_X12_noOrder).trans (hp_i_22)) (oa_iteR ((gr_X12_noPart).trans ((gr_X12_noOrder).trans (hp_i_22))) ((gr_X12_noPart).trans ((gr_X12_noOrder).trans (hp_i_22))))
set_option maxHeartbeats 100000 in
theorem fr_X12_missing {h : Hp} {a1 : Int32} {a2 : Int32} {t i : Nat} (c0 : ¬ (t = 12 ∧ i = 0)) : (g_X12_missing h a1 a2).1 t i = h.1 t i := by
  unfold g_X12_missing
  exact oa_ite ((fr_X12_noOrder c0).trans (hp_i_n c0)) (oa_ite ((fr_X12_noPart c0).trans ((fr_X12_noOrder c0).trans (hp_i_n c0))) ((fr_X12_noPart c0).trans ((fr_X12_noOrder c0).trans (hp_i_n c0))))
set_option maxHeartbeats 20000 in
theorem gl_X12_toBuy {h : Hp} {a1 : Int32} : (g_X12_toBuy h a1).2.1 = h.2.1 := by
  unfold g_X12_toBuy
  exact oa_iteL ((gl_X12_noPart).trans (hp_i_21)) ((gl_X12_noPart).trans (hp_i_21))
set_option maxHeartbeats 20000 in
theorem gr_X12_toBuy {h : Hp} {a1 : Int32} : (g_X12_toBuy h a1).2.2 = h.2.2 := by
  unfold g_X12_toBuy
  exact oa_iteR ((gr_X12_noPart).trans (hp_i_22)) ((gr_X12_noPart).trans (hp_i_22))
set_option maxHeartbeats 100000 in
theorem fr_X12_toBuy {h : Hp} {a1 : Int32} {t i : Nat} (c0 : ¬ (t = 12 ∧ i = 0)) : (g_X12_toBuy h a1).1 t i = h.1 t i := by
  unfold g_X12_toBuy
  exact oa_ite ((fr_X12_noPart c0).trans (hp_i_n c0)) ((fr_X12_noPart c0).trans (hp_i_n c0))
set_option maxHeartbeats 20000 in
theorem gl_gw_X12_scarcestPart_9 : ∀ (n : Nat) (h : Hp) (x1 : Int32) (x2 : Int32), (gw_X12_scarcestPart_9 n h x1 x2).2.1 = h.2.1 := by
  intro n
  induction n with
  | zero => intros; rfl
  | succ n ih =>
    intro h x1 x2
    rw [gw_X12_scarcestPart_9]
    exact oa_iteL (rfl) (oa_iteL (oa_iteL (ih _ _ _) (ih _ _ _)) (oa_iteL (ih _ _ _) (ih _ _ _)))
set_option maxHeartbeats 20000 in
theorem gr_gw_X12_scarcestPart_9 : ∀ (n : Nat) (h : Hp) (x1 : Int32) (x2 : Int32), (gw_X12_scarcestPart_9 n h x1 x2).2.2 = h.2.2 := by
  intro n
  induction n with
  | zero => intros; rfl
  | succ n ih =>
    intro h x1 x2
    rw [gw_X12_scarcestPart_9]
    exact oa_iteR (rfl) (oa_iteR (oa_iteR (ih _ _ _) (ih _ _ _)) (oa_iteR (ih _ _ _) (ih _ _ _)))
set_option maxHeartbeats 20000 in
theorem gl_X12_scarcestPart {h : Hp}  : (g_X12_scarcestPart h ).2.1 = h.2.1 := by
  unfold g_X12_scarcestPart
  exact (gl_gw_X12_scarcestPart_9  _ _ _ _).trans (hp_i_21)
set_option maxHeartbeats 20000 in
theorem gr_X12_scarcestPart {h : Hp}  : (g_X12_scarcestPart h ).2.2 = h.2.2 := by
  unfold g_X12_scarcestPart
  exact (gr_gw_X12_scarcestPart_9  _ _ _ _).trans (hp_i_22)
set_option maxHeartbeats 100000 in
theorem fr_gw_X12_scarcestPart_9 {t i : Nat}  (c0 : ¬ (t = 12 ∧ i = 0)) : ∀ (n : Nat) (h : Hp) (x1 : Int32) (x2 : Int32), (gw_X12_scarcestPart_9 n h x1 x2).1 t i = h.1 t i := by
  intro n
  induction n with
  | zero => intros; rfl
  | succ n ih =>
    intro h x1 x2
    rw [gw_X12_scarcestPart_9]
    exact oa_ite (rfl) (oa_ite (oa_ite (ih _ _ _) (ih _ _ _)) (oa_ite (ih _ _ _) (ih _ _ _)))
set_option maxHeartbeats 100000 in
theorem fr_X12_scarcestPart {h : Hp}  {t i : Nat} (c0 : ¬ (t = 12 ∧ i = 0)) : (g_X12_scarcestPart h ).1 t i = h.1 t i := by
  unfold g_X12_scarcestPart
  exact (fr_gw_X12_scarcestPart_9 c0 _ _ _ _).trans (hp_i_n c0)
set_option maxHeartbeats 20000 in
theorem gl_X12_promise {h : Hp} {a1 : Int32} {a2 : Int32} : (g_X12_promise h a1 a2).2.1 = h.2.1 := by
  unfold g_X12_promise
  exact oa_iteL ((gl_X12_noProduct).trans (hp_i_21)) (oa_iteL ((gl_X12_throwsIf).trans ((gl_X12_noProduct).trans (hp_i_21))) ((gl_X12_throwsIf).trans ((gl_X12_noProduct).trans (hp_i_21))))
set_option maxHeartbeats 20000 in
theorem gr_X12_promise {h : Hp} {a1 : Int32} {a2 : Int32} : (g_X12_promise h a1 a2).2.2 = h.2.2 := by
  unfold g_X12_promise
  exact oa_iteR ((gr_X12_noProduct).trans (hp_i_22)) (oa_iteR ((gr_X12_throwsIf).trans ((gr_X12_noProduct).trans (hp_i_22))) ((gr_X12_throwsIf).trans ((gr_X12_noProduct).trans (hp_i_22))))
set_option maxHeartbeats 100000 in
theorem fr_X12_promise {h : Hp} {a1 : Int32} {a2 : Int32} {t i : Nat} (c0 : ¬ (t = 12 ∧ i = 0)) : (g_X12_promise h a1 a2).1 t i = h.1 t i := by
  unfold g_X12_promise
  exact oa_ite ((fr_X12_noProduct c0).trans (hp_i_n c0)) (oa_ite ((fr_X12_throwsIf c0).trans ((fr_X12_noProduct c0).trans (hp_i_n c0))) ((fr_X12_throwsIf c0).trans ((fr_X12_noProduct c0).trans (hp_i_n c0))))
set_option maxHeartbeats 20000 in
theorem gl_X12_promiseOf {h : Hp} {a1 : Int32} : (g_X12_promiseOf h a1).2.1 = h.2.1 := by
  unfold g_X12_promiseOf
  exact oa_iteL (oa_iteL ((gl_X12_noOrder).trans (hp_i_21)) ((gl_X12_noOrder).trans (hp_i_21))) ((gl_X12_noOrder).trans (hp_i_21))
set_option maxHeartbeats 20000 in
theorem gr_X12_promiseOf {h : Hp} {a1 : Int32} : (g_X12_promiseOf h a1).2.2 = h.2.2 := by
  unfold g_X12_promiseOf
  exact oa_iteR (oa_iteR ((gr_X12_noOrder).trans (hp_i_22)) ((gr_X12_noOrder).trans (hp_i_22))) ((gr_X12_noOrder).trans (hp_i_22))
set_option maxHeartbeats 100000 in
theorem fr_X12_promiseOf {h : Hp} {a1 : Int32} {t i : Nat} (c0 : ¬ (t = 12 ∧ i = 0)) : (g_X12_promiseOf h a1).1 t i = h.1 t i := by
  unfold g_X12_promiseOf
  exact oa_ite (oa_ite ((fr_X12_noOrder c0).trans (hp_i_n c0)) ((fr_X12_noOrder c0).trans (hp_i_n c0))) ((fr_X12_noOrder c0).trans (hp_i_n c0))
set_option maxHeartbeats 20000 in
theorem gl_gw_X12_delayingPart_34 : ∀ (n : Nat) (h : Hp) (x1 : Int32) (x2 : Int32) (x3 : Int32) (x4 : Int32) (x5 : Int32), (gw_X12_delayingPart_34 n h x1 x2 x3 x4 x5).2.1 = h.2.1 := by
  intro n
  induction n with
  | zero => intros; rfl
  | succ n ih =>
    intro h x1 x2 x3 x4 x5
    rw [gw_X12_delayingPart_34]
    exact oa_iteL (rfl) (oa_iteL (rfl) (oa_iteL (ih _ _ _ _ _ _) (oa_iteL (ih _ _ _ _ _ _) (oa_iteL (ih _ _ _ _ _ _) (ih _ _ _ _ _ _)))))
set_option maxHeartbeats 20000 in
theorem gr_gw_X12_delayingPart_34 : ∀ (n : Nat) (h : Hp) (x1 : Int32) (x2 : Int32) (x3 : Int32) (x4 : Int32) (x5 : Int32), (gw_X12_delayingPart_34 n h x1 x2 x3 x4 x5).2.2 = h.2.2 := by
  intro n
  induction n with
  | zero => intros; rfl
  | succ n ih =>
    intro h x1 x2 x3 x4 x5
    rw [gw_X12_delayingPart_34]
    exact oa_iteR (rfl) (oa_iteR (rfl) (oa_iteR (ih _ _ _ _ _ _) (oa_iteR (ih _ _ _ _ _ _) (oa_iteR (ih _ _ _ _ _ _) (ih _ _ _ _ _ _)))))
set_option maxHeartbeats 20000 in
theorem gl_X12_delayingPart {h : Hp} {a1 : Int32} : (g_X12_delayingPart h a1).2.1 = h.2.1 := by
  unfold g_X12_delayingPart
  exact oa_iteL ((gl_gw_X12_delayingPart_34  _ _ _ _ _ _ _).trans ((gl_X12_noOrder).trans (hp_i_21))) ((gl_X12_noOrder).trans (hp_i_21))
set_option maxHeartbeats 20000 in
theorem gr_X12_delayingPart {h : Hp} {a1 : Int32} : (g_X12_delayingPart h a1).2.2 = h.2.2 := by
  unfold g_X12_delayingPart
  exact oa_iteR ((gr_gw_X12_delayingPart_34  _ _ _ _ _ _ _).trans ((gr_X12_noOrder).trans (hp_i_22))) ((gr_X12_noOrder).trans (hp_i_22))
set_option maxHeartbeats 100000 in
theorem fr_gw_X12_delayingPart_34 {t i : Nat}  (c0 : ¬ (t = 12 ∧ i = 0)) : ∀ (n : Nat) (h : Hp) (x1 : Int32) (x2 : Int32) (x3 : Int32) (x4 : Int32) (x5 : Int32), (gw_X12_delayingPart_34 n h x1 x2 x3 x4 x5).1 t i = h.1 t i := by
  intro n
  induction n with
  | zero => intros; rfl
  | succ n ih =>
    intro h x1 x2 x3 x4 x5
    rw [gw_X12_delayingPart_34]
    exact oa_ite (rfl) (oa_ite (rfl) (oa_ite (ih _ _ _ _ _ _) (oa_ite (ih _ _ _ _ _ _) (oa_ite (ih _ _ _ _ _ _) (ih _ _ _ _ _ _)))))
set_option maxHeartbeats 100000 in
theorem fr_X12_delayingPart {h : Hp} {a1 : Int32} {t i : Nat} (c0 : ¬ (t = 12 ∧ i = 0)) : (g_X12_delayingPart h a1).1 t i = h.1 t i := by
  unfold g_X12_delayingPart
  exact oa_ite ((fr_gw_X12_delayingPart_34 c0 _ _ _ _ _ _ _).trans ((fr_X12_noOrder c0).trans (hp_i_n c0))) ((fr_X12_noOrder c0).trans (hp_i_n c0))
set_option maxHeartbeats 20000 in
theorem gl_gw_X12_lateOrders_9 : ∀ (n : Nat) (h : Hp) (x1 : Int32) (x2 : Int32), (gw_X12_lateOrders_9 n h x1 x2).2.1 = h.2.1 := by
  intro n
  induction n with
  | zero => intros; rfl
  | succ n ih =>
    intro h x1 x2
    rw [gw_X12_lateOrders_9]
    exact oa_iteL (rfl) (oa_iteL (ih _ _ _) (oa_iteL (ih _ _ _) (ih _ _ _)))
set_option maxHeartbeats 20000 in
theorem gr_gw_X12_lateOrders_9 : ∀ (n : Nat) (h : Hp) (x1 : Int32) (x2 : Int32), (gw_X12_lateOrders_9 n h x1 x2).2.2 = h.2.2 := by
  intro n
  induction n with
  | zero => intros; rfl
  | succ n ih =>
    intro h x1 x2
    rw [gw_X12_lateOrders_9]
    exact oa_iteR (rfl) (oa_iteR (ih _ _ _) (oa_iteR (ih _ _ _) (ih _ _ _)))
set_option maxHeartbeats 20000 in
theorem gl_X12_lateOrders {h : Hp}  : (g_X12_lateOrders h ).2.1 = h.2.1 := by
  unfold g_X12_lateOrders
  exact (gl_gw_X12_lateOrders_9  _ _ _ _).trans (hp_i_21)
set_option maxHeartbeats 20000 in
theorem gr_X12_lateOrders {h : Hp}  : (g_X12_lateOrders h ).2.2 = h.2.2 := by
  unfold g_X12_lateOrders
  exact (gr_gw_X12_lateOrders_9  _ _ _ _).trans (hp_i_22)
set_option maxHeartbeats 100000 in
theorem fr_gw_X12_lateOrders_9 {t i : Nat}  (c0 : ¬ (t = 12 ∧ i = 0)) : ∀ (n : Nat) (h : Hp) (x1 : Int32) (x2 : Int32), (gw_X12_lateOrders_9 n h x1 x2).1 t i = h.1 t i := by
  intro n
  induction n with
  | zero => intros; rfl
  | succ n ih =>
    intro h x1 x2
    rw [gw_X12_lateOrders_9]
    exact oa_ite (rfl) (oa_ite (ih _ _ _) (oa_ite (ih _ _ _) (ih _ _ _)))
set_option maxHeartbeats 100000 in
theorem fr_X12_lateOrders {h : Hp}  {t i : Nat} (c0 : ¬ (t = 12 ∧ i = 0)) : (g_X12_lateOrders h ).1 t i = h.1 t i := by
  unfold g_X12_lateOrders
  exact (fr_gw_X12_lateOrders_9 c0 _ _ _ _).trans (hp_i_n c0)
set_option maxHeartbeats 20000 in
theorem gl_gw_X12_takes0_12 : ∀ (n : Nat) (h : Hp) (x1 : Int32) (x2 : Int32) (x3 : Int32), (gw_X12_takes0_12 n h x1 x2 x3).2.1 = h.2.1 := by
  intro n
  induction n with
  | zero => intros; rfl
  | succ n ih =>
    intro h x1 x2 x3
    rw [gw_X12_takes0_12]
    exact oa_iteL (rfl) ((ih _ _ _ _).trans ((hp_i_21).trans (hp_i_21)))
set_option maxHeartbeats 20000 in
theorem gr_gw_X12_takes0_12 : ∀ (n : Nat) (h : Hp) (x1 : Int32) (x2 : Int32) (x3 : Int32), (gw_X12_takes0_12 n h x1 x2 x3).2.2 = h.2.2 := by
  intro n
  induction n with
  | zero => intros; rfl
  | succ n ih =>
    intro h x1 x2 x3
    rw [gw_X12_takes0_12]
    exact oa_iteR (rfl) ((ih _ _ _ _).trans ((hp_i_22).trans (hp_i_22)))
set_option maxHeartbeats 20000 in
theorem gl_X12_takes0 {h : Hp} {a1 : Int32} {a2 : Int32} : (g_X12_takes0 h a1 a2).2.1 = h.2.1 := by
  unfold g_X12_takes0
  exact (gl_gw_X12_takes0_12  _ _ _ _ _).trans (hp_i_21)
set_option maxHeartbeats 20000 in
theorem gr_X12_takes0 {h : Hp} {a1 : Int32} {a2 : Int32} : (g_X12_takes0 h a1 a2).2.2 = h.2.2 := by
  unfold g_X12_takes0
  exact (gr_gw_X12_takes0_12  _ _ _ _ _).trans (hp_i_22)
set_option maxHeartbeats 100000 in
theorem fr_gw_X12_takes0_12 {t i : Nat}  (c0 : ¬ (t = 60 ∧ i = 0)) (c1 : ¬ (t = 61 ∧ i = 0)) (c2 : ¬ (t = 62 ∧ i = 0)) : ∀ (n : Nat) (h : Hp) (x1 : Int32) (x2 : Int32) (x3 : Int32), (gw_X12_takes0_12 n h x1 x2 x3).1 t i = h.1 t i := by
  intro n
  induction n with
  | zero => intros; rfl
  | succ n ih =>
    intro h x1 x2 x3
    rw [gw_X12_takes0_12]
    exact oa_ite (rfl) ((ih _ _ _ _).trans ((hp_i_n c0).trans (hp_i_n c1)))
set_option maxHeartbeats 100000 in
theorem fr_X12_takes0 {h : Hp} {a1 : Int32} {a2 : Int32} {t i : Nat} (c0 : ¬ (t = 60 ∧ i = 0)) (c1 : ¬ (t = 61 ∧ i = 0)) (c2 : ¬ (t = 62 ∧ i = 0)) : (g_X12_takes0 h a1 a2).1 t i = h.1 t i := by
  unfold g_X12_takes0
  exact (fr_gw_X12_takes0_12 c0 c1 c2 _ _ _ _ _).trans (hp_i_n c2)
set_option maxHeartbeats 20000 in
theorem gl_gw_X12_missingPieces_19 : ∀ (n : Nat) (h : Hp) (x1 : Int32) (x2 : Int32) (x3 : Int32), (gw_X12_missingPieces_19 n h x1 x2 x3).2.1 = h.2.1 := by
  intro n
  induction n with
  | zero => intros; rfl
  | succ n ih =>
    intro h x1 x2 x3
    rw [gw_X12_missingPieces_19]
    exact oa_iteL (rfl) (ih _ _ _ _)
set_option maxHeartbeats 20000 in
theorem gr_gw_X12_missingPieces_19 : ∀ (n : Nat) (h : Hp) (x1 : Int32) (x2 : Int32) (x3 : Int32), (gw_X12_missingPieces_19 n h x1 x2 x3).2.2 = h.2.2 := by
  intro n
  induction n with
  | zero => intros; rfl
  | succ n ih =>
    intro h x1 x2 x3
    rw [gw_X12_missingPieces_19]
    exact oa_iteR (rfl) (ih _ _ _ _)
set_option maxHeartbeats 20000 in
theorem gl_X12_missingPieces {h : Hp} {a1 : Int32} : (g_X12_missingPieces h a1).2.1 = h.2.1 := by
  unfold g_X12_missingPieces
  exact oa_iteL ((gl_gw_X12_missingPieces_19  _ _ _ _ _).trans ((gl_X12_noOrder).trans (hp_i_21))) ((gl_X12_noOrder).trans (hp_i_21))
set_option maxHeartbeats 20000 in
theorem gr_X12_missingPieces {h : Hp} {a1 : Int32} : (g_X12_missingPieces h a1).2.2 = h.2.2 := by
  unfold g_X12_missingPieces
  exact oa_iteR ((gr_gw_X12_missingPieces_19  _ _ _ _ _).trans ((gr_X12_noOrder).trans (hp_i_22))) ((gr_X12_noOrder).trans (hp_i_22))
set_option maxHeartbeats 100000 in
theorem fr_gw_X12_missingPieces_19 {t i : Nat}  (c0 : ¬ (t = 12 ∧ i = 0)) : ∀ (n : Nat) (h : Hp) (x1 : Int32) (x2 : Int32) (x3 : Int32), (gw_X12_missingPieces_19 n h x1 x2 x3).1 t i = h.1 t i := by
  intro n
  induction n with
  | zero => intros; rfl
  | succ n ih =>
    intro h x1 x2 x3
    rw [gw_X12_missingPieces_19]
    exact oa_ite (rfl) (ih _ _ _ _)
set_option maxHeartbeats 100000 in
theorem fr_X12_missingPieces {h : Hp} {a1 : Int32} {t i : Nat} (c0 : ¬ (t = 12 ∧ i = 0)) : (g_X12_missingPieces h a1).1 t i = h.1 t i := by
  unfold g_X12_missingPieces
  exact oa_ite ((fr_gw_X12_missingPieces_19 c0 _ _ _ _ _).trans ((fr_X12_noOrder c0).trans (hp_i_n c0))) ((fr_X12_noOrder c0).trans (hp_i_n c0))
set_option maxHeartbeats 20000 in
theorem gl_gw_X12_buildableAfter_62 : ∀ (n : Nat) (h : Hp) (x1 : Int32) (x2 : Int32) (x3 : Int32) (x4 : Int32) (x5 : Int32), (gw_X12_buildableAfter_62 n h x1 x2 x3 x4 x5).2.1 = h.2.1 := by
  intro n
  induction n with
  | zero => intros; rfl
  | succ n ih =>
    intro h x1 x2 x3 x4 x5
    rw [gw_X12_buildableAfter_62]
    exact oa_iteL (rfl) (oa_iteL (oa_iteL (ih _ _ _ _ _ _) (ih _ _ _ _ _ _)) (oa_iteL (oa_iteL (ih _ _ _ _ _ _) (ih _ _ _ _ _ _)) (rfl)))
set_option maxHeartbeats 20000 in
theorem gr_gw_X12_buildableAfter_62 : ∀ (n : Nat) (h : Hp) (x1 : Int32) (x2 : Int32) (x3 : Int32) (x4 : Int32) (x5 : Int32), (gw_X12_buildableAfter_62 n h x1 x2 x3 x4 x5).2.2 = h.2.2 := by
  intro n
  induction n with
  | zero => intros; rfl
  | succ n ih =>
    intro h x1 x2 x3 x4 x5
    rw [gw_X12_buildableAfter_62]
    exact oa_iteR (rfl) (oa_iteR (oa_iteR (ih _ _ _ _ _ _) (ih _ _ _ _ _ _)) (oa_iteR (oa_iteR (ih _ _ _ _ _ _) (ih _ _ _ _ _ _)) (rfl)))
set_option maxHeartbeats 20000 in
theorem gl_X12_buildableAfter {h : Hp} {a1 : Int32} {a2 : Int32} {a3 : Int32} : (g_X12_buildableAfter h a1 a2 a3).2.1 = h.2.1 := by
  unfold g_X12_buildableAfter
  exact oa_iteL ((gl_X12_noProduct).trans (hp_i_21)) (oa_iteL ((gl_X12_noProduct).trans ((gl_X12_noProduct).trans (hp_i_21))) (oa_iteL (oa_iteL ((gl_gw_X12_buildableAfter_62  _ _ _ _ _ _ _).trans ((gl_X12_throwsIf).trans ((gl_X12_noProduct).trans ((gl_X12_noProduct).trans (hp_i_21))))) ((gl_X12_throwsIf).trans ((gl_X12_noProduct).trans ((gl_X12_noProduct).trans (hp_i_21))))) (oa_iteL ((gl_gw_X12_buildableAfter_62  _ _ _ _ _ _ _).trans ((gl_X12_throwsIf).trans ((gl_X12_noProduct).trans ((gl_X12_noProduct).trans (hp_i_21))))) ((gl_X12_throwsIf).trans ((gl_X12_noProduct).trans ((gl_X12_noProduct).trans (hp_i_21)))))))
set_option maxHeartbeats 20000 in
theorem gr_X12_buildableAfter {h : Hp} {a1 : Int32} {a2 : Int32} {a3 : Int32} : (g_X12_buildableAfter h a1 a2 a3).2.2 = h.2.2 := by
  unfold g_X12_buildableAfter
  exact oa_iteR ((gr_X12_noProduct).trans (hp_i_22)) (oa_iteR ((gr_X12_noProduct).trans ((gr_X12_noProduct).trans (hp_i_22))) (oa_iteR (oa_iteR ((gr_gw_X12_buildableAfter_62  _ _ _ _ _ _ _).trans ((gr_X12_throwsIf).trans ((gr_X12_noProduct).trans ((gr_X12_noProduct).trans (hp_i_22))))) ((gr_X12_throwsIf).trans ((gr_X12_noProduct).trans ((gr_X12_noProduct).trans (hp_i_22))))) (oa_iteR ((gr_gw_X12_buildableAfter_62  _ _ _ _ _ _ _).trans ((gr_X12_throwsIf).trans ((gr_X12_noProduct).trans ((gr_X12_noProduct).trans (hp_i_22))))) ((gr_X12_throwsIf).trans ((gr_X12_noProduct).trans ((gr_X12_noProduct).trans (hp_i_22)))))))
set_option maxHeartbeats 100000 in
theorem fr_gw_X12_buildableAfter_62 {t i : Nat}  (c0 : ¬ (t = 12 ∧ i = 0)) : ∀ (n : Nat) (h : Hp) (x1 : Int32) (x2 : Int32) (x3 : Int32) (x4 : Int32) (x5 : Int32), (gw_X12_buildableAfter_62 n h x1 x2 x3 x4 x5).1 t i = h.1 t i := by
  intro n
  induction n with
  | zero => intros; rfl
  | succ n ih =>
    intro h x1 x2 x3 x4 x5
    rw [gw_X12_buildableAfter_62]
    exact oa_ite (rfl) (oa_ite (oa_ite (ih _ _ _ _ _ _) (ih _ _ _ _ _ _)) (oa_ite (oa_ite (ih _ _ _ _ _ _) (ih _ _ _ _ _ _)) (rfl)))
set_option maxHeartbeats 100000 in
theorem fr_X12_buildableAfter {h : Hp} {a1 : Int32} {a2 : Int32} {a3 : Int32} {t i : Nat} (c0 : ¬ (t = 12 ∧ i = 0)) : (g_X12_buildableAfter h a1 a2 a3).1 t i = h.1 t i := by
  unfold g_X12_buildableAfter
  exact oa_ite ((fr_X12_noProduct c0).trans (hp_i_n c0)) (oa_ite ((fr_X12_noProduct c0).trans ((fr_X12_noProduct c0).trans (hp_i_n c0))) (oa_ite (oa_ite ((fr_gw_X12_buildableAfter_62 c0 _ _ _ _ _ _ _).trans ((fr_X12_throwsIf c0).trans ((fr_X12_noProduct c0).trans ((fr_X12_noProduct c0).trans (hp_i_n c0))))) ((fr_X12_throwsIf c0).trans ((fr_X12_noProduct c0).trans ((fr_X12_noProduct c0).trans (hp_i_n c0))))) (oa_ite ((fr_gw_X12_buildableAfter_62 c0 _ _ _ _ _ _ _).trans ((fr_X12_throwsIf c0).trans ((fr_X12_noProduct c0).trans ((fr_X12_noProduct c0).trans (hp_i_n c0))))) ((fr_X12_throwsIf c0).trans ((fr_X12_noProduct c0).trans ((fr_X12_noProduct c0).trans (hp_i_n c0)))))))
set_option maxHeartbeats 20000 in
theorem gl_gw_X12_isCovered_48 : ∀ (n : Nat) (h : Hp) (x1 : Int32) (x2 : Int32), (gw_X12_isCovered_48 n h x1 x2).2.1 = h.2.1 := by
  intro n
  induction n with
  | zero => intros; rfl
  | succ n ih =>
    intro h x1 x2
    rw [gw_X12_isCovered_48]
    exact oa_iteL (rfl) ((ih _ _ _).trans (hp_i_21))
set_option maxHeartbeats 20000 in
theorem gr_gw_X12_isCovered_48 : ∀ (n : Nat) (h : Hp) (x1 : Int32) (x2 : Int32), (gw_X12_isCovered_48 n h x1 x2).2.2 = h.2.2 := by
  intro n
  induction n with
  | zero => intros; rfl
  | succ n ih =>
    intro h x1 x2
    rw [gw_X12_isCovered_48]
    exact oa_iteR (rfl) ((ih _ _ _).trans (hp_i_22))
set_option maxHeartbeats 20000 in
theorem gl_gw_X12_isCovered_2 : ∀ (n : Nat) (h : Hp) (x1 : Int32) (x2 : Int32), (gw_X12_isCovered_2 n h x1 x2).2.1 = h.2.1 := by
  intro n
  induction n with
  | zero => intros; rfl
  | succ n ih =>
    intro h x1 x2
    rw [gw_X12_isCovered_2]
    exact oa_iteL (gl_gw_X12_isCovered_48  _ _ _ _) (oa_iteL (ih _ _ _) (rfl))
set_option maxHeartbeats 20000 in
theorem gr_gw_X12_isCovered_2 : ∀ (n : Nat) (h : Hp) (x1 : Int32) (x2 : Int32), (gw_X12_isCovered_2 n h x1 x2).2.2 = h.2.2 := by
  intro n
  induction n with
  | zero => intros; rfl
  | succ n ih =>
    intro h x1 x2
    rw [gw_X12_isCovered_2]
    exact oa_iteR (gr_gw_X12_isCovered_48  _ _ _ _) (oa_iteR (ih _ _ _) (rfl))
set_option maxHeartbeats 20000 in
theorem gl_X12_isCovered {h : Hp} {a1 : Int32} : (g_X12_isCovered h a1).2.1 = h.2.1 := by
  unfold g_X12_isCovered
  exact gl_gw_X12_isCovered_2  _ _ _ _
set_option maxHeartbeats 20000 in
theorem gr_X12_isCovered {h : Hp} {a1 : Int32} : (g_X12_isCovered h a1).2.2 = h.2.2 := by
  unfold g_X12_isCovered
  exact gr_gw_X12_isCovered_2  _ _ _ _
set_option maxHeartbeats 100000 in
theorem fr_gw_X12_isCovered_48 {t i : Nat}  (c0 : ¬ (t = 60 ∧ i = 0)) : ∀ (n : Nat) (h : Hp) (x1 : Int32) (x2 : Int32), (gw_X12_isCovered_48 n h x1 x2).1 t i = h.1 t i := by
  intro n
  induction n with
  | zero => intros; rfl
  | succ n ih =>
    intro h x1 x2
    rw [gw_X12_isCovered_48]
    exact oa_ite (rfl) ((ih _ _ _).trans (hp_i_n c0))
set_option maxHeartbeats 100000 in
theorem fr_gw_X12_isCovered_2 {t i : Nat}  (c0 : ¬ (t = 60 ∧ i = 0)) : ∀ (n : Nat) (h : Hp) (x1 : Int32) (x2 : Int32), (gw_X12_isCovered_2 n h x1 x2).1 t i = h.1 t i := by
  intro n
  induction n with
  | zero => intros; rfl
  | succ n ih =>
    intro h x1 x2
    rw [gw_X12_isCovered_2]
    exact oa_ite (fr_gw_X12_isCovered_48 c0 _ _ _ _) (oa_ite (ih _ _ _) (rfl))
set_option maxHeartbeats 100000 in
theorem fr_X12_isCovered {h : Hp} {a1 : Int32} {t i : Nat} (c0 : ¬ (t = 60 ∧ i = 0)) : (g_X12_isCovered h a1).1 t i = h.1 t i := by
  unfold g_X12_isCovered
  exact fr_gw_X12_isCovered_2 c0 _ _ _ _
set_option maxHeartbeats 20000 in
theorem gl_gw_X12_promiseOfAll_14 : ∀ (n : Nat) (h : Hp) (x1 : Int32) (x2 : Int32), (gw_X12_promiseOfAll_14 n h x1 x2).2.1 = h.2.1 := by
  intro n
  induction n with
  | zero => intros; rfl
  | succ n ih =>
    intro h x1 x2
    rw [gw_X12_promiseOfAll_14]
    exact oa_iteL (rfl) (oa_iteL (ih _ _ _) (ih _ _ _))
set_option maxHeartbeats 20000 in
theorem gr_gw_X12_promiseOfAll_14 : ∀ (n : Nat) (h : Hp) (x1 : Int32) (x2 : Int32), (gw_X12_promiseOfAll_14 n h x1 x2).2.2 = h.2.2 := by
  intro n
  induction n with
  | zero => intros; rfl
  | succ n ih =>
    intro h x1 x2
    rw [gw_X12_promiseOfAll_14]
    exact oa_iteR (rfl) (oa_iteR (ih _ _ _) (ih _ _ _))
set_option maxHeartbeats 20000 in
theorem gl_X12_promiseOfAll {h : Hp}  : (g_X12_promiseOfAll h ).2.1 = h.2.1 := by
  unfold g_X12_promiseOfAll
  exact (gl_gw_X12_promiseOfAll_14  _ _ _ _).trans (hp_i_21)
set_option maxHeartbeats 20000 in
theorem gr_X12_promiseOfAll {h : Hp}  : (g_X12_promiseOfAll h ).2.2 = h.2.2 := by
  unfold g_X12_promiseOfAll
  exact (gr_gw_X12_promiseOfAll_14  _ _ _ _).trans (hp_i_22)
set_option maxHeartbeats 100000 in
theorem fr_gw_X12_promiseOfAll_14 {t i : Nat}  (c0 : ¬ (t = 12 ∧ i = 0)) : ∀ (n : Nat) (h : Hp) (x1 : Int32) (x2 : Int32), (gw_X12_promiseOfAll_14 n h x1 x2).1 t i = h.1 t i := by
  intro n
  induction n with
  | zero => intros; rfl
  | succ n ih =>
    intro h x1 x2
    rw [gw_X12_promiseOfAll_14]
    exact oa_ite (rfl) (oa_ite (ih _ _ _) (ih _ _ _))
set_option maxHeartbeats 100000 in
theorem fr_X12_promiseOfAll {h : Hp}  {t i : Nat} (c0 : ¬ (t = 12 ∧ i = 0)) : (g_X12_promiseOfAll h ).1 t i = h.1 t i := by
  unfold g_X12_promiseOfAll
  exact (fr_gw_X12_promiseOfAll_14 c0 _ _ _ _).trans (hp_i_n c0)
set_option maxHeartbeats 20000 in
theorem gl_gw_X12_addOrder_109 : ∀ (n : Nat) (h : Hp) (x1 : Int32) (x2 : Int32) (x3 : Int32) (x4 : Int32) (x5 : Int32) (x6 : Int32) (x7 : Int32) (x8 : Int32), (gw_X12_addOrder_109 n h x1 x2 x3 x4 x5 x6 x7 x8).2.1 = h.2.1 := by
  intro n
  induction n with
  | zero => intros; rfl
  | succ n ih =>
    intro h x1 x2 x3 x4 x5 x6 x7 x8
    rw [gw_X12_addOrder_109]
    exact oa_iteL ((hp_i_21).trans ((hp_i_21).trans ((hp_i_21).trans ((hp_i_21).trans ((hp_i_21).trans (hp_i_21)))))) ((ih _ _ _ _ _ _ _ _ _).trans (hp_i_21))
set_option maxHeartbeats 20000 in
theorem gr_gw_X12_addOrder_109 : ∀ (n : Nat) (h : Hp) (x1 : Int32) (x2 : Int32) (x3 : Int32) (x4 : Int32) (x5 : Int32) (x6 : Int32) (x7 : Int32) (x8 : Int32), (gw_X12_addOrder_109 n h x1 x2 x3 x4 x5 x6 x7 x8).2.2 = h.2.2 := by
  intro n
  induction n with
  | zero => intros; rfl
  | succ n ih =>
    intro h x1 x2 x3 x4 x5 x6 x7 x8
    rw [gw_X12_addOrder_109]
    exact oa_iteR ((hp_i_22).trans ((hp_i_22).trans ((hp_i_22).trans ((hp_i_22).trans ((hp_i_22).trans (hp_i_22)))))) ((ih _ _ _ _ _ _ _ _ _).trans (hp_i_22))
set_option maxHeartbeats 20000 in
theorem gl_X12_addOrder {h : Hp} {a1 : Int32} {a2 : Int32} {a3 : Int32} {a4 : Int32} {a5 : Int32} : (g_X12_addOrder h a1 a2 a3 a4 a5).2.1 = h.2.1 := by
  unfold g_X12_addOrder
  exact oa_iteL (oa_iteL ((gl_X12_noProduct).trans (hp_i_21)) (oa_iteL ((gl_X12_throwsIf).trans ((gl_X12_noProduct).trans (hp_i_21))) (oa_iteL ((gl_gw_X12_addOrder_109  _ _ _ _ _ _ _ _ _ _).trans ((gl_X12_keeps).trans ((gl_X12_throwsIf).trans ((gl_X12_throwsIf).trans ((gl_X12_noProduct).trans (hp_i_21)))))) ((gl_X12_throwsIf).trans ((gl_X12_throwsIf).trans ((gl_X12_noProduct).trans (hp_i_21))))))) (oa_iteL (oa_iteL ((gl_X12_noProduct).trans (hp_i_21)) (oa_iteL ((gl_X12_throwsIf).trans ((gl_X12_noProduct).trans (hp_i_21))) (oa_iteL ((gl_gw_X12_addOrder_109  _ _ _ _ _ _ _ _ _ _).trans ((gl_X12_keeps).trans ((gl_X12_throwsIf).trans ((gl_X12_throwsIf).trans ((gl_X12_noProduct).trans (hp_i_21)))))) ((gl_X12_throwsIf).trans ((gl_X12_throwsIf).trans ((gl_X12_noProduct).trans (hp_i_21))))))) (oa_iteL ((gl_X12_noProduct).trans (hp_i_21)) (oa_iteL ((gl_X12_throwsIf).trans ((gl_X12_noProduct).trans (hp_i_21))) (oa_iteL ((gl_gw_X12_addOrder_109  _ _ _ _ _ _ _ _ _ _).trans ((gl_X12_keeps).trans ((gl_X12_throwsIf).trans ((gl_X12_throwsIf).trans ((gl_X12_noProduct).trans (hp_i_21)))))) ((gl_X12_throwsIf).trans ((gl_X12_throwsIf).trans ((gl_X12_noProduct).trans (hp_i_21))))))))
set_option maxHeartbeats 20000 in
theorem gr_X12_addOrder {h : Hp} {a1 : Int32} {a2 : Int32} {a3 : Int32} {a4 : Int32} {a5 : Int32} : (g_X12_addOrder h a1 a2 a3 a4 a5).2.2 = h.2.2 := by
  unfold g_X12_addOrder
  exact oa_iteR (oa_iteR ((gr_X12_noProduct).trans (hp_i_22)) (oa_iteR ((gr_X12_throwsIf).trans ((gr_X12_noProduct).trans (hp_i_22))) (oa_iteR ((gr_gw_X12_addOrder_109  _ _ _ _ _ _ _ _ _ _).trans ((gr_X12_keeps).trans ((gr_X12_throwsIf).trans ((gr_X12_throwsIf).trans ((gr_X12_noProduct).trans (hp_i_22)))))) ((gr_X12_throwsIf).trans ((gr_X12_throwsIf).trans ((gr_X12_noProduct).trans (hp_i_22))))))) (oa_iteR (oa_iteR ((gr_X12_noProduct).trans (hp_i_22)) (oa_iteR ((gr_X12_throwsIf).trans ((gr_X12_noProduct).trans (hp_i_22))) (oa_iteR ((gr_gw_X12_addOrder_109  _ _ _ _ _ _ _ _ _ _).trans ((gr_X12_keeps).trans ((gr_X12_throwsIf).trans ((gr_X12_throwsIf).trans ((gr_X12_noProduct).trans (hp_i_22)))))) ((gr_X12_throwsIf).trans ((gr_X12_throwsIf).trans ((gr_X12_noProduct).trans (hp_i_22))))))) (oa_iteR ((gr_X12_noProduct).trans (hp_i_22)) (oa_iteR ((gr_X12_throwsIf).trans ((gr_X12_noProduct).trans (hp_i_22))) (oa_iteR ((gr_gw_X12_addOrder_109  _ _ _ _ _ _ _ _ _ _).trans ((gr_X12_keeps).trans ((gr_X12_throwsIf).trans ((gr_X12_throwsIf).trans ((gr_X12_noProduct).trans (hp_i_22)))))) ((gr_X12_throwsIf).trans ((gr_X12_throwsIf).trans ((gr_X12_noProduct).trans (hp_i_22))))))))
set_option maxHeartbeats 100000 in
theorem fr_gw_X12_addOrder_109 {t i : Nat}  (c0 : ¬ (t = 12 ∧ i = 0)) (c1 : ¬ (t = 58 ∧ i = 0)) (c2 : ¬ (t = 59 ∧ i = 0)) : ∀ (n : Nat) (h : Hp) (x1 : Int32) (x2 : Int32) (x3 : Int32) (x4 : Int32) (x5 : Int32) (x6 : Int32) (x7 : Int32) (x8 : Int32), (gw_X12_addOrder_109 n h x1 x2 x3 x4 x5 x6 x7 x8).1 t i = h.1 t i := by
  intro n
  induction n with
  | zero => intros; rfl
  | succ n ih =>
    intro h x1 x2 x3 x4 x5 x6 x7 x8
    rw [gw_X12_addOrder_109]
    exact oa_ite ((hp_i_n c1).trans ((hp_i_n c1).trans ((hp_i_n c1).trans ((hp_i_n c1).trans ((hp_i_n c1).trans (hp_i_n c1)))))) ((ih _ _ _ _ _ _ _ _ _).trans (hp_i_n c1))
set_option maxHeartbeats 100000 in
theorem fr_X12_addOrder {h : Hp} {a1 : Int32} {a2 : Int32} {a3 : Int32} {a4 : Int32} {a5 : Int32} {t i : Nat} (c0 : ¬ (t = 12 ∧ i = 0)) (c1 : ¬ (t = 58 ∧ i = 0)) (c2 : ¬ (t = 59 ∧ i = 0)) : (g_X12_addOrder h a1 a2 a3 a4 a5).1 t i = h.1 t i := by
  unfold g_X12_addOrder
  exact oa_ite (oa_ite ((fr_X12_noProduct c0).trans (hp_i_n c0)) (oa_ite ((fr_X12_throwsIf c0).trans ((fr_X12_noProduct c0).trans (hp_i_n c0))) (oa_ite ((fr_gw_X12_addOrder_109 c0 c1 c2 _ _ _ _ _ _ _ _ _ _).trans ((fr_X12_keeps c0 c2).trans ((fr_X12_throwsIf c0).trans ((fr_X12_throwsIf c0).trans ((fr_X12_noProduct c0).trans (hp_i_n c0)))))) ((fr_X12_throwsIf c0).trans ((fr_X12_throwsIf c0).trans ((fr_X12_noProduct c0).trans (hp_i_n c0))))))) (oa_ite (oa_ite ((fr_X12_noProduct c0).trans (hp_i_n c0)) (oa_ite ((fr_X12_throwsIf c0).trans ((fr_X12_noProduct c0).trans (hp_i_n c0))) (oa_ite ((fr_gw_X12_addOrder_109 c0 c1 c2 _ _ _ _ _ _ _ _ _ _).trans ((fr_X12_keeps c0 c2).trans ((fr_X12_throwsIf c0).trans ((fr_X12_throwsIf c0).trans ((fr_X12_noProduct c0).trans (hp_i_n c0)))))) ((fr_X12_throwsIf c0).trans ((fr_X12_throwsIf c0).trans ((fr_X12_noProduct c0).trans (hp_i_n c0))))))) (oa_ite ((fr_X12_noProduct c0).trans (hp_i_n c0)) (oa_ite ((fr_X12_throwsIf c0).trans ((fr_X12_noProduct c0).trans (hp_i_n c0))) (oa_ite ((fr_gw_X12_addOrder_109 c0 c1 c2 _ _ _ _ _ _ _ _ _ _).trans ((fr_X12_keeps c0 c2).trans ((fr_X12_throwsIf c0).trans ((fr_X12_throwsIf c0).trans ((fr_X12_noProduct c0).trans (hp_i_n c0)))))) ((fr_X12_throwsIf c0).trans ((fr_X12_throwsIf c0).trans ((fr_X12_noProduct c0).trans (hp_i_n c0))))))))
set_option maxHeartbeats 20000 in
theorem gl_gw_X12_holds_10 : ∀ (n : Nat) (h : Hp) (x1 : Int32) (x2 : Int32) (x3 : Int32), (gw_X12_holds_10 n h x1 x2 x3).2.1 = h.2.1 := by
  intro n
  induction n with
  | zero => intros; rfl
  | succ n ih =>
    intro h x1 x2 x3
    rw [gw_X12_holds_10]
    exact oa_iteL (rfl) ((ih _ _ _ _).trans (hp_i_21))
set_option maxHeartbeats 20000 in
theorem gr_gw_X12_holds_10 : ∀ (n : Nat) (h : Hp) (x1 : Int32) (x2 : Int32) (x3 : Int32), (gw_X12_holds_10 n h x1 x2 x3).2.2 = h.2.2 := by
  intro n
  induction n with
  | zero => intros; rfl
  | succ n ih =>
    intro h x1 x2 x3
    rw [gw_X12_holds_10]
    exact oa_iteR (rfl) ((ih _ _ _ _).trans (hp_i_22))
set_option maxHeartbeats 20000 in
theorem gl_X12_holds {h : Hp} {a1 : Int32} {a2 : Int32} : (g_X12_holds h a1 a2).2.1 = h.2.1 := by
  unfold g_X12_holds
  exact (gl_gw_X12_holds_10  _ _ _ _ _).trans (gl_X12_grows)
set_option maxHeartbeats 20000 in
theorem gr_X12_holds {h : Hp} {a1 : Int32} {a2 : Int32} : (g_X12_holds h a1 a2).2.2 = h.2.2 := by
  unfold g_X12_holds
  exact (gr_gw_X12_holds_10  _ _ _ _ _).trans (gr_X12_grows)
set_option maxHeartbeats 100000 in
theorem fr_gw_X12_holds_10 {t i : Nat}  (c0 : ¬ (t = 58 ∧ i = 0)) : ∀ (n : Nat) (h : Hp) (x1 : Int32) (x2 : Int32) (x3 : Int32), (gw_X12_holds_10 n h x1 x2 x3).1 t i = h.1 t i := by
  intro n
  induction n with
  | zero => intros; rfl
  | succ n ih =>
    intro h x1 x2 x3
    rw [gw_X12_holds_10]
    exact oa_ite (rfl) ((ih _ _ _ _).trans (hp_i_n c0))
set_option maxHeartbeats 100000 in
theorem fr_X12_holds {h : Hp} {a1 : Int32} {a2 : Int32} {t i : Nat} (c0 : ¬ (t = 58 ∧ i = 0)) : (g_X12_holds h a1 a2).1 t i = h.1 t i := by
  unfold g_X12_holds
  exact (fr_gw_X12_holds_10 c0 _ _ _ _ _).trans (fr_X12_grows c0)
set_option maxHeartbeats 20000 in
theorem gl_X12_cancel {h : Hp} {a1 : Int32} : (g_X12_cancel h a1).2.1 = h.2.1 := by
  unfold g_X12_cancel
  exact oa_iteL ((gl_X12_noOrder).trans (hp_i_21)) (oa_iteL ((gl_X12_grows).trans ((gl_X12_holds).trans ((gl_X12_keeps).trans ((gl_X12_throwsIf).trans ((gl_X12_noOrder).trans (hp_i_21)))))) ((gl_X12_throwsIf).trans ((gl_X12_noOrder).trans (hp_i_21))))
set_option maxHeartbeats 20000 in
theorem gr_X12_cancel {h : Hp} {a1 : Int32} : (g_X12_cancel h a1).2.2 = h.2.2 := by
  unfold g_X12_cancel
  exact oa_iteR ((gr_X12_noOrder).trans (hp_i_22)) (oa_iteR ((gr_X12_grows).trans ((gr_X12_holds).trans ((gr_X12_keeps).trans ((gr_X12_throwsIf).trans ((gr_X12_noOrder).trans (hp_i_22)))))) ((gr_X12_throwsIf).trans ((gr_X12_noOrder).trans (hp_i_22))))
set_option maxHeartbeats 100000 in
theorem fr_X12_cancel {h : Hp} {a1 : Int32} {t i : Nat} (c0 : ¬ (t = 12 ∧ i = 0)) (c1 : ¬ (t = 58 ∧ i = 0)) (c2 : ¬ (t = 59 ∧ i = 0)) : (g_X12_cancel h a1).1 t i = h.1 t i := by
  unfold g_X12_cancel
  exact oa_ite ((fr_X12_noOrder c0).trans (hp_i_n c0)) (oa_ite ((fr_X12_grows c1).trans ((fr_X12_holds c1).trans ((fr_X12_keeps c0 c2).trans ((fr_X12_throwsIf c0).trans ((fr_X12_noOrder c0).trans (hp_i_n c0)))))) ((fr_X12_throwsIf c0).trans ((fr_X12_noOrder c0).trans (hp_i_n c0))))
set_option maxHeartbeats 20000 in
theorem gl_X12_reserve {h : Hp} {a1 : Int32} {a2 : Int32} : (g_X12_reserve h a1 a2).2.1 = h.2.1 := by
  unfold g_X12_reserve
  exact oa_iteL ((gl_X12_noOrder).trans (hp_i_21)) (oa_iteL ((gl_X12_throwsIf).trans ((gl_X12_noOrder).trans (hp_i_21))) (oa_iteL (oa_iteL ((gl_X12_holds).trans ((gl_X12_keeps).trans ((gl_X12_throwsIf).trans ((gl_X12_throwsIf).trans ((gl_X12_noOrder).trans (hp_i_21)))))) ((gl_X12_throwsIf).trans ((gl_X12_throwsIf).trans ((gl_X12_noOrder).trans (hp_i_21))))) (oa_iteL (oa_iteL ((gl_X12_holds).trans ((gl_X12_keeps).trans ((gl_X12_throwsIf).trans ((gl_X12_throwsIf).trans ((gl_X12_noOrder).trans (hp_i_21)))))) ((gl_X12_throwsIf).trans ((gl_X12_throwsIf).trans ((gl_X12_noOrder).trans (hp_i_21))))) (oa_iteL ((gl_X12_holds).trans ((gl_X12_keeps).trans ((gl_X12_throwsIf).trans ((gl_X12_throwsIf).trans ((gl_X12_noOrder).trans (hp_i_21)))))) ((gl_X12_throwsIf).trans ((gl_X12_throwsIf).trans ((gl_X12_noOrder).trans (hp_i_21))))))))
set_option maxHeartbeats 20000 in
theorem gr_X12_reserve {h : Hp} {a1 : Int32} {a2 : Int32} : (g_X12_reserve h a1 a2).2.2 = h.2.2 := by
  unfold g_X12_reserve
  exact oa_iteR ((gr_X12_noOrder).trans (hp_i_22)) (oa_iteR ((gr_X12_throwsIf).trans ((gr_X12_noOrder).trans (hp_i_22))) (oa_iteR (oa_iteR ((gr_X12_holds).trans ((gr_X12_keeps).trans ((gr_X12_throwsIf).trans ((gr_X12_throwsIf).trans ((gr_X12_noOrder).trans (hp_i_22)))))) ((gr_X12_throwsIf).trans ((gr_X12_throwsIf).trans ((gr_X12_noOrder).trans (hp_i_22))))) (oa_iteR (oa_iteR ((gr_X12_holds).trans ((gr_X12_keeps).trans ((gr_X12_throwsIf).trans ((gr_X12_throwsIf).trans ((gr_X12_noOrder).trans (hp_i_22)))))) ((gr_X12_throwsIf).trans ((gr_X12_throwsIf).trans ((gr_X12_noOrder).trans (hp_i_22))))) (oa_iteR ((gr_X12_holds).trans ((gr_X12_keeps).trans ((gr_X12_throwsIf).trans ((gr_X12_throwsIf).trans ((gr_X12_noOrder).trans (hp_i_22)))))) ((gr_X12_throwsIf).trans ((gr_X12_throwsIf).trans ((gr_X12_noOrder).trans (hp_i_22))))))))
set_option maxHeartbeats 100000 in
theorem fr_X12_reserve {h : Hp} {a1 : Int32} {a2 : Int32} {t i : Nat} (c0 : ¬ (t = 12 ∧ i = 0)) (c1 : ¬ (t = 58 ∧ i = 0)) (c2 : ¬ (t = 59 ∧ i = 0)) : (g_X12_reserve h a1 a2).1 t i = h.1 t i := by
  unfold g_X12_reserve
  exact oa_ite ((fr_X12_noOrder c0).trans (hp_i_n c0)) (oa_ite ((fr_X12_throwsIf c0).trans ((fr_X12_noOrder c0).trans (hp_i_n c0))) (oa_ite (oa_ite ((fr_X12_holds c1).trans ((fr_X12_keeps c0 c2).trans ((fr_X12_throwsIf c0).trans ((fr_X12_throwsIf c0).trans ((fr_X12_noOrder c0).trans (hp_i_n c0)))))) ((fr_X12_throwsIf c0).trans ((fr_X12_throwsIf c0).trans ((fr_X12_noOrder c0).trans (hp_i_n c0))))) (oa_ite (oa_ite ((fr_X12_holds c1).trans ((fr_X12_keeps c0 c2).trans ((fr_X12_throwsIf c0).trans ((fr_X12_throwsIf c0).trans ((fr_X12_noOrder c0).trans (hp_i_n c0)))))) ((fr_X12_throwsIf c0).trans ((fr_X12_throwsIf c0).trans ((fr_X12_noOrder c0).trans (hp_i_n c0))))) (oa_ite ((fr_X12_holds c1).trans ((fr_X12_keeps c0 c2).trans ((fr_X12_throwsIf c0).trans ((fr_X12_throwsIf c0).trans ((fr_X12_noOrder c0).trans (hp_i_n c0)))))) ((fr_X12_throwsIf c0).trans ((fr_X12_throwsIf c0).trans ((fr_X12_noOrder c0).trans (hp_i_n c0))))))))
set_option maxHeartbeats 20000 in
theorem gl_X12_release {h : Hp} {a1 : Int32} {a2 : Int32} : (g_X12_release h a1 a2).2.1 = h.2.1 := by
  unfold g_X12_release
  exact oa_iteL ((gl_X12_noOrder).trans (hp_i_21)) (oa_iteL ((gl_X12_throwsIf).trans ((gl_X12_noOrder).trans (hp_i_21))) (oa_iteL (oa_iteL ((gl_X12_holds).trans ((gl_X12_keeps).trans ((gl_X12_throwsIf).trans ((gl_X12_throwsIf).trans ((gl_X12_noOrder).trans (hp_i_21)))))) ((gl_X12_throwsIf).trans ((gl_X12_throwsIf).trans ((gl_X12_noOrder).trans (hp_i_21))))) (oa_iteL ((gl_X12_holds).trans ((gl_X12_keeps).trans ((gl_X12_throwsIf).trans ((gl_X12_throwsIf).trans ((gl_X12_noOrder).trans (hp_i_21)))))) ((gl_X12_throwsIf).trans ((gl_X12_throwsIf).trans ((gl_X12_noOrder).trans (hp_i_21)))))))
set_option maxHeartbeats 20000 in
theorem gr_X12_release {h : Hp} {a1 : Int32} {a2 : Int32} : (g_X12_release h a1 a2).2.2 = h.2.2 := by
  unfold g_X12_release
  exact oa_iteR ((gr_X12_noOrder).trans (hp_i_22)) (oa_iteR ((gr_X12_throwsIf).trans ((gr_X12_noOrder).trans (hp_i_22))) (oa_iteR (oa_iteR ((gr_X12_holds).trans ((gr_X12_keeps).trans ((gr_X12_throwsIf).trans ((gr_X12_throwsIf).trans ((gr_X12_noOrder).trans (hp_i_22)))))) ((gr_X12_throwsIf).trans ((gr_X12_throwsIf).trans ((gr_X12_noOrder).trans (hp_i_22))))) (oa_iteR ((gr_X12_holds).trans ((gr_X12_keeps).trans ((gr_X12_throwsIf).trans ((gr_X12_throwsIf).trans ((gr_X12_noOrder).trans (hp_i_22)))))) ((gr_X12_throwsIf).trans ((gr_X12_throwsIf).trans ((gr_X12_noOrder).trans (hp_i_22)))))))
set_option maxHeartbeats 100000 in
theorem fr_X12_release {h : Hp} {a1 : Int32} {a2 : Int32} {t i : Nat} (c0 : ¬ (t = 12 ∧ i = 0)) (c1 : ¬ (t = 58 ∧ i = 0)) (c2 : ¬ (t = 59 ∧ i = 0)) : (g_X12_release h a1 a2).1 t i = h.1 t i := by
  unfold g_X12_release
  exact oa_ite ((fr_X12_noOrder c0).trans (hp_i_n c0)) (oa_ite ((fr_X12_throwsIf c0).trans ((fr_X12_noOrder c0).trans (hp_i_n c0))) (oa_ite (oa_ite ((fr_X12_holds c1).trans ((fr_X12_keeps c0 c2).trans ((fr_X12_throwsIf c0).trans ((fr_X12_throwsIf c0).trans ((fr_X12_noOrder c0).trans (hp_i_n c0)))))) ((fr_X12_throwsIf c0).trans ((fr_X12_throwsIf c0).trans ((fr_X12_noOrder c0).trans (hp_i_n c0))))) (oa_ite ((fr_X12_holds c1).trans ((fr_X12_keeps c0 c2).trans ((fr_X12_throwsIf c0).trans ((fr_X12_throwsIf c0).trans ((fr_X12_noOrder c0).trans (hp_i_n c0)))))) ((fr_X12_throwsIf c0).trans ((fr_X12_throwsIf c0).trans ((fr_X12_noOrder c0).trans (hp_i_n c0)))))))
set_option maxHeartbeats 20000 in
theorem gl_gw_X12_logs_13 : ∀ (n : Nat) (h : Hp) (x1 : Int32) (x2 : Int32) (x3 : Int32), (gw_X12_logs_13 n h x1 x2 x3).2.1 = h.2.1 := by
  intro n
  induction n with
  | zero => intros; rfl
  | succ n ih =>
    intro h x1 x2 x3
    rw [gw_X12_logs_13]
    exact oa_iteL ((hp_i_21).trans ((hp_i_21).trans ((hp_i_21).trans ((hp_i_21).trans (hp_i_21))))) ((ih _ _ _ _).trans (hp_i_21))
set_option maxHeartbeats 20000 in
theorem gr_gw_X12_logs_13 : ∀ (n : Nat) (h : Hp) (x1 : Int32) (x2 : Int32) (x3 : Int32), (gw_X12_logs_13 n h x1 x2 x3).2.2 = h.2.2 := by
  intro n
  induction n with
  | zero => intros; rfl
  | succ n ih =>
    intro h x1 x2 x3
    rw [gw_X12_logs_13]
    exact oa_iteR ((hp_i_22).trans ((hp_i_22).trans ((hp_i_22).trans ((hp_i_22).trans (hp_i_22))))) ((ih _ _ _ _).trans (hp_i_22))
set_option maxHeartbeats 20000 in
theorem gl_X12_logs {h : Hp} {a1 : Int32} {a2 : Int32} : (g_X12_logs h a1 a2).2.1 = h.2.1 := by
  unfold g_X12_logs
  exact oa_iteL ((hp_i_21).trans ((hp_i_21).trans ((hp_i_21).trans (hp_i_21)))) (gl_gw_X12_logs_13  _ _ _ _ _)
set_option maxHeartbeats 20000 in
theorem gr_X12_logs {h : Hp} {a1 : Int32} {a2 : Int32} : (g_X12_logs h a1 a2).2.2 = h.2.2 := by
  unfold g_X12_logs
  exact oa_iteR ((hp_i_22).trans ((hp_i_22).trans ((hp_i_22).trans (hp_i_22)))) (gr_gw_X12_logs_13  _ _ _ _ _)
set_option maxHeartbeats 100000 in
theorem fr_gw_X12_logs_13 {t i : Nat}  (c0 : ¬ (t = 58 ∧ i = 0)) : ∀ (n : Nat) (h : Hp) (x1 : Int32) (x2 : Int32) (x3 : Int32), (gw_X12_logs_13 n h x1 x2 x3).1 t i = h.1 t i := by
  intro n
  induction n with
  | zero => intros; rfl
  | succ n ih =>
    intro h x1 x2 x3
    rw [gw_X12_logs_13]
    exact oa_ite ((hp_i_n c0).trans ((hp_i_n c0).trans ((hp_i_n c0).trans ((hp_i_n c0).trans (hp_i_n c0))))) ((ih _ _ _ _).trans (hp_i_n c0))
set_option maxHeartbeats 100000 in
theorem fr_X12_logs {h : Hp} {a1 : Int32} {a2 : Int32} {t i : Nat} (c0 : ¬ (t = 58 ∧ i = 0)) : (g_X12_logs h a1 a2).1 t i = h.1 t i := by
  unfold g_X12_logs
  exact oa_ite ((hp_i_n c0).trans ((hp_i_n c0).trans ((hp_i_n c0).trans (hp_i_n c0)))) (fr_gw_X12_logs_13 c0 _ _ _ _ _)
set_option maxHeartbeats 20000 in
theorem gl_X12_buy {h : Hp} {a1 : Int32} {a2 : Int32} : (g_X12_buy h a1 a2).2.1 = h.2.1 := by
  unfold g_X12_buy
  exact oa_iteL ((gl_X12_noPart).trans (hp_i_21)) (oa_iteL ((gl_X12_throwsIf).trans ((gl_X12_noPart).trans (hp_i_21))) (oa_iteL ((hp_i_21).trans ((hp_i_21).trans ((hp_i_21).trans ((hp_i_21).trans ((hp_i_21).trans ((gl_X12_keeps).trans ((gl_X12_throwsIf).trans ((gl_X12_throwsIf).trans ((gl_X12_noPart).trans (hp_i_21)))))))))) ((gl_X12_throwsIf).trans ((gl_X12_throwsIf).trans ((gl_X12_noPart).trans (hp_i_21))))))
set_option maxHeartbeats 20000 in
theorem gr_X12_buy {h : Hp} {a1 : Int32} {a2 : Int32} : (g_X12_buy h a1 a2).2.2 = h.2.2 := by
  unfold g_X12_buy
  exact oa_iteR ((gr_X12_noPart).trans (hp_i_22)) (oa_iteR ((gr_X12_throwsIf).trans ((gr_X12_noPart).trans (hp_i_22))) (oa_iteR ((hp_i_22).trans ((hp_i_22).trans ((hp_i_22).trans ((hp_i_22).trans ((hp_i_22).trans ((gr_X12_keeps).trans ((gr_X12_throwsIf).trans ((gr_X12_throwsIf).trans ((gr_X12_noPart).trans (hp_i_22)))))))))) ((gr_X12_throwsIf).trans ((gr_X12_throwsIf).trans ((gr_X12_noPart).trans (hp_i_22))))))
set_option maxHeartbeats 100000 in
theorem fr_X12_buy {h : Hp} {a1 : Int32} {a2 : Int32} {t i : Nat} (c0 : ¬ (t = 12 ∧ i = 0)) (c1 : ¬ (t = 58 ∧ i = 0)) (c2 : ¬ (t = 59 ∧ i = 0)) : (g_X12_buy h a1 a2).1 t i = h.1 t i := by
  unfold g_X12_buy
  exact oa_ite ((fr_X12_noPart c0).trans (hp_i_n c0)) (oa_ite ((fr_X12_throwsIf c0).trans ((fr_X12_noPart c0).trans (hp_i_n c0))) (oa_ite ((hp_i_n c1).trans ((hp_i_n c1).trans ((hp_i_n c1).trans ((hp_i_n c1).trans ((hp_i_n c1).trans ((fr_X12_keeps c0 c2).trans ((fr_X12_throwsIf c0).trans ((fr_X12_throwsIf c0).trans ((fr_X12_noPart c0).trans (hp_i_n c0)))))))))) ((fr_X12_throwsIf c0).trans ((fr_X12_throwsIf c0).trans ((fr_X12_noPart c0).trans (hp_i_n c0))))))
set_option maxHeartbeats 20000 in
theorem gl_gw_X12_adjust_55 : ∀ (n : Nat) (h : Hp) (x1 : Int32) (x2 : Int32) (x3 : Int32), (gw_X12_adjust_55 n h x1 x2 x3).2.1 = h.2.1 := by
  intro n
  induction n with
  | zero => intros; rfl
  | succ n ih =>
    intro h x1 x2 x3
    rw [gw_X12_adjust_55]
    exact oa_iteL (rfl) (oa_iteL ((ih _ _ _ _).trans (gl_X12_holds)) ((ih _ _ _ _).trans (gl_X12_holds)))
set_option maxHeartbeats 20000 in
theorem gr_gw_X12_adjust_55 : ∀ (n : Nat) (h : Hp) (x1 : Int32) (x2 : Int32) (x3 : Int32), (gw_X12_adjust_55 n h x1 x2 x3).2.2 = h.2.2 := by
  intro n
  induction n with
  | zero => intros; rfl
  | succ n ih =>
    intro h x1 x2 x3
    rw [gw_X12_adjust_55]
    exact oa_iteR (rfl) (oa_iteR ((ih _ _ _ _).trans (gr_X12_holds)) ((ih _ _ _ _).trans (gr_X12_holds)))
set_option maxHeartbeats 20000 in
theorem gl_X12_adjust {h : Hp} {a1 : Int32} {a2 : Int32} : (g_X12_adjust h a1 a2).2.1 = h.2.1 := by
  unfold g_X12_adjust
  exact oa_iteL ((gl_X12_noPart).trans (hp_i_21)) (oa_iteL ((gl_gw_X12_adjust_55  _ _ _ _ _).trans ((hp_i_21).trans ((gl_X12_keeps).trans ((gl_X12_throwsIf).trans ((gl_X12_noPart).trans (hp_i_21)))))) ((gl_X12_throwsIf).trans ((gl_X12_noPart).trans (hp_i_21))))
set_option maxHeartbeats 20000 in
theorem gr_X12_adjust {h : Hp} {a1 : Int32} {a2 : Int32} : (g_X12_adjust h a1 a2).2.2 = h.2.2 := by
  unfold g_X12_adjust
  exact oa_iteR ((gr_X12_noPart).trans (hp_i_22)) (oa_iteR ((gr_gw_X12_adjust_55  _ _ _ _ _).trans ((hp_i_22).trans ((gr_X12_keeps).trans ((gr_X12_throwsIf).trans ((gr_X12_noPart).trans (hp_i_22)))))) ((gr_X12_throwsIf).trans ((gr_X12_noPart).trans (hp_i_22))))
set_option maxHeartbeats 100000 in
theorem fr_gw_X12_adjust_55 {t i : Nat}  (c0 : ¬ (t = 12 ∧ i = 0)) (c1 : ¬ (t = 58 ∧ i = 0)) (c2 : ¬ (t = 59 ∧ i = 0)) : ∀ (n : Nat) (h : Hp) (x1 : Int32) (x2 : Int32) (x3 : Int32), (gw_X12_adjust_55 n h x1 x2 x3).1 t i = h.1 t i := by
  intro n
  induction n with
  | zero => intros; rfl
  | succ n ih =>
    intro h x1 x2 x3
    rw [gw_X12_adjust_55]
    exact oa_ite (rfl) (oa_ite ((ih _ _ _ _).trans (fr_X12_holds c1)) ((ih _ _ _ _).trans (fr_X12_holds c1)))
set_option maxHeartbeats 100000 in
theorem fr_X12_adjust {h : Hp} {a1 : Int32} {a2 : Int32} {t i : Nat} (c0 : ¬ (t = 12 ∧ i = 0)) (c1 : ¬ (t = 58 ∧ i = 0)) (c2 : ¬ (t = 59 ∧ i = 0)) : (g_X12_adjust h a1 a2).1 t i = h.1 t i := by
  unfold g_X12_adjust
  exact oa_ite ((fr_X12_noPart c0).trans (hp_i_n c0)) (oa_ite ((fr_gw_X12_adjust_55 c0 c1 c2 _ _ _ _ _).trans ((hp_i_n c1).trans ((fr_X12_keeps c0 c2).trans ((fr_X12_throwsIf c0).trans ((fr_X12_noPart c0).trans (hp_i_n c0)))))) ((fr_X12_throwsIf c0).trans ((fr_X12_noPart c0).trans (hp_i_n c0))))
set_option maxHeartbeats 20000 in
theorem gl_iw_h_X12_comesNow_78 : ∀ (n : Nat) (h : Hp) (x1 : Int32) (x2 : Int32) (x3 : Int32) (x4 : Int32) (x5 : Int32), (iw_h_X12_comesNow_78 n h x1 x2 x3 x4 x5).2.1 = h.2.1 := by
  intro n
  induction n with
  | zero => intros; rfl
  | succ n ih =>
    intro h x1 x2 x3 x4 x5
    rw [iw_h_X12_comesNow_78]
    exact oa_iteL (rfl) ((ih _ _ _ _ _ _).trans (hp_i_21))
set_option maxHeartbeats 20000 in
theorem gr_iw_h_X12_comesNow_78 : ∀ (n : Nat) (h : Hp) (x1 : Int32) (x2 : Int32) (x3 : Int32) (x4 : Int32) (x5 : Int32), (iw_h_X12_comesNow_78 n h x1 x2 x3 x4 x5).2.2 = h.2.2 := by
  intro n
  induction n with
  | zero => intros; rfl
  | succ n ih =>
    intro h x1 x2 x3 x4 x5
    rw [iw_h_X12_comesNow_78]
    exact oa_iteR (rfl) ((ih _ _ _ _ _ _).trans (hp_i_22))
set_option maxHeartbeats 20000 in
theorem gl_gw_X12_comesNow_6 : ∀ (n : Nat) (h : Hp) (x1 : Int32) (x2 : Int32) (x3 : Int32), (gw_X12_comesNow_6 n h x1 x2 x3).2.1 = h.2.1 := by
  intro n
  induction n with
  | zero => intros; rfl
  | succ n ih =>
    intro h x1 x2 x3
    rw [gw_X12_comesNow_6]
    exact oa_iteL (hp_i_21) (oa_iteL ((ih _ _ _ _).trans (gl_iw_h_X12_comesNow_78  _ _ _ _ _ _ _)) ((ih _ _ _ _).trans (hp_i_21)))
set_option maxHeartbeats 20000 in
theorem gr_gw_X12_comesNow_6 : ∀ (n : Nat) (h : Hp) (x1 : Int32) (x2 : Int32) (x3 : Int32), (gw_X12_comesNow_6 n h x1 x2 x3).2.2 = h.2.2 := by
  intro n
  induction n with
  | zero => intros; rfl
  | succ n ih =>
    intro h x1 x2 x3
    rw [gw_X12_comesNow_6]
    exact oa_iteR (hp_i_22) (oa_iteR ((ih _ _ _ _).trans (gr_iw_h_X12_comesNow_78  _ _ _ _ _ _ _)) ((ih _ _ _ _).trans (hp_i_22)))
set_option maxHeartbeats 20000 in
theorem gl_X12_comesNow {h : Hp}  : (g_X12_comesNow h ).2.1 = h.2.1 := by
  unfold g_X12_comesNow
  exact gl_gw_X12_comesNow_6  _ _ _ _ _
set_option maxHeartbeats 20000 in
theorem gr_X12_comesNow {h : Hp}  : (g_X12_comesNow h ).2.2 = h.2.2 := by
  unfold g_X12_comesNow
  exact gr_gw_X12_comesNow_6  _ _ _ _ _
set_option maxHeartbeats 100000 in
theorem fr_iw_h_X12_comesNow_78 {t i : Nat}  (c0 : ¬ (t = 58 ∧ i = 0)) : ∀ (n : Nat) (h : Hp) (x1 : Int32) (x2 : Int32) (x3 : Int32) (x4 : Int32) (x5 : Int32), (iw_h_X12_comesNow_78 n h x1 x2 x3 x4 x5).1 t i = h.1 t i := by
  intro n
  induction n with
  | zero => intros; rfl
  | succ n ih =>
    intro h x1 x2 x3 x4 x5
    rw [iw_h_X12_comesNow_78]
    exact oa_ite (rfl) ((ih _ _ _ _ _ _).trans (hp_i_n c0))
set_option maxHeartbeats 100000 in
theorem fr_gw_X12_comesNow_6 {t i : Nat}  (c0 : ¬ (t = 58 ∧ i = 0)) : ∀ (n : Nat) (h : Hp) (x1 : Int32) (x2 : Int32) (x3 : Int32), (gw_X12_comesNow_6 n h x1 x2 x3).1 t i = h.1 t i := by
  intro n
  induction n with
  | zero => intros; rfl
  | succ n ih =>
    intro h x1 x2 x3
    rw [gw_X12_comesNow_6]
    exact oa_ite (hp_i_n c0) (oa_ite ((ih _ _ _ _).trans (fr_iw_h_X12_comesNow_78 c0 _ _ _ _ _ _ _)) ((ih _ _ _ _).trans (hp_i_n c0)))
set_option maxHeartbeats 100000 in
theorem fr_X12_comesNow {h : Hp}  {t i : Nat} (c0 : ¬ (t = 58 ∧ i = 0)) : (g_X12_comesNow h ).1 t i = h.1 t i := by
  unfold g_X12_comesNow
  exact fr_gw_X12_comesNow_6 c0 _ _ _ _ _
set_option maxHeartbeats 20000 in
theorem gl_gw_X12_advance_38 : ∀ (n : Nat) (h : Hp) (x1 : Int32) (x2 : Int32) (x3 : Int32), (gw_X12_advance_38 n h x1 x2 x3).2.1 = h.2.1 := by
  intro n
  induction n with
  | zero => intros; rfl
  | succ n ih =>
    intro h x1 x2 x3
    rw [gw_X12_advance_38]
    exact oa_iteL (rfl) ((ih _ _ _ _).trans ((gl_X12_comesNow).trans (hp_i_21)))
set_option maxHeartbeats 20000 in
theorem gr_gw_X12_advance_38 : ∀ (n : Nat) (h : Hp) (x1 : Int32) (x2 : Int32) (x3 : Int32), (gw_X12_advance_38 n h x1 x2 x3).2.2 = h.2.2 := by
  intro n
  induction n with
  | zero => intros; rfl
  | succ n ih =>
    intro h x1 x2 x3
    rw [gw_X12_advance_38]
    exact oa_iteR (rfl) ((ih _ _ _ _).trans ((gr_X12_comesNow).trans (hp_i_22)))
set_option maxHeartbeats 20000 in
theorem gl_X12_advance {h : Hp} {a1 : Int32} : (g_X12_advance h a1).2.1 = h.2.1 := by
  unfold g_X12_advance
  exact oa_iteL ((gl_gw_X12_advance_38  _ _ _ _ _).trans ((gl_X12_keeps).trans ((gl_X12_throwsIf).trans (hp_i_21)))) ((gl_X12_throwsIf).trans (hp_i_21))
set_option maxHeartbeats 20000 in
theorem gr_X12_advance {h : Hp} {a1 : Int32} : (g_X12_advance h a1).2.2 = h.2.2 := by
  unfold g_X12_advance
  exact oa_iteR ((gr_gw_X12_advance_38  _ _ _ _ _).trans ((gr_X12_keeps).trans ((gr_X12_throwsIf).trans (hp_i_22)))) ((gr_X12_throwsIf).trans (hp_i_22))
set_option maxHeartbeats 100000 in
theorem fr_gw_X12_advance_38 {t i : Nat}  (c0 : ¬ (t = 12 ∧ i = 0)) (c1 : ¬ (t = 58 ∧ i = 0)) (c2 : ¬ (t = 59 ∧ i = 0)) : ∀ (n : Nat) (h : Hp) (x1 : Int32) (x2 : Int32) (x3 : Int32), (gw_X12_advance_38 n h x1 x2 x3).1 t i = h.1 t i := by
  intro n
  induction n with
  | zero => intros; rfl
  | succ n ih =>
    intro h x1 x2 x3
    rw [gw_X12_advance_38]
    exact oa_ite (rfl) ((ih _ _ _ _).trans ((fr_X12_comesNow c1).trans (hp_i_n c1)))
set_option maxHeartbeats 100000 in
theorem fr_X12_advance {h : Hp} {a1 : Int32} {t i : Nat} (c0 : ¬ (t = 12 ∧ i = 0)) (c1 : ¬ (t = 58 ∧ i = 0)) (c2 : ¬ (t = 59 ∧ i = 0)) : (g_X12_advance h a1).1 t i = h.1 t i := by
  unfold g_X12_advance
  exact oa_ite ((fr_gw_X12_advance_38 c0 c1 c2 _ _ _ _ _).trans ((fr_X12_keeps c0 c2).trans ((fr_X12_throwsIf c0).trans (hp_i_n c0)))) ((fr_X12_throwsIf c0).trans (hp_i_n c0))
set_option maxHeartbeats 20000 in
theorem gl_X12_total {h : Hp} {a1 : Int32} : (g_X12_total h a1).2.1 = h.2.1 := by
  unfold g_X12_total
  exact oa_iteL (hp_i_21) (hp_i_21)
set_option maxHeartbeats 20000 in
theorem gr_X12_total {h : Hp} {a1 : Int32} : (g_X12_total h a1).2.2 = h.2.2 := by
  unfold g_X12_total
  exact oa_iteR (hp_i_22) (hp_i_22)
set_option maxHeartbeats 100000 in
theorem fr_X12_total {h : Hp} {a1 : Int32} {t i : Nat} (c0 : ¬ (t = 12 ∧ i = 0)) : (g_X12_total h a1).1 t i = h.1 t i := by
  unfold g_X12_total
  exact oa_ite (hp_i_n c0) (hp_i_n c0)
set_option maxHeartbeats 20000 in
theorem gl_X12_shipment {h : Hp} {a1 : Int32} {a2 : Int32} : (g_X12_shipment h a1 a2).2.1 = h.2.1 := by
  unfold g_X12_shipment
  exact oa_iteL (hp_i_21) (oa_iteL (hp_i_21) (hp_i_21))
set_option maxHeartbeats 20000 in
theorem gr_X12_shipment {h : Hp} {a1 : Int32} {a2 : Int32} : (g_X12_shipment h a1 a2).2.2 = h.2.2 := by
  unfold g_X12_shipment
  exact oa_iteR (hp_i_22) (oa_iteR (hp_i_22) (hp_i_22))
set_option maxHeartbeats 100000 in
theorem fr_X12_shipment {h : Hp} {a1 : Int32} {a2 : Int32} {t i : Nat} (c0 : ¬ (t = 12 ∧ i = 0)) : (g_X12_shipment h a1 a2).1 t i = h.1 t i := by
  unfold g_X12_shipment
  exact oa_ite (hp_i_n c0) (oa_ite (hp_i_n c0) (hp_i_n c0))
set_option maxHeartbeats 20000 in
theorem gl_X12_says {h : Hp} {a1 : Int32} : (g_X12_says h a1).2.1 = h.2.1 := by
  unfold g_X12_says
  exact (hp_i_21).trans (hp_i_21)
set_option maxHeartbeats 20000 in
theorem gr_X12_says {h : Hp} {a1 : Int32} : (g_X12_says h a1).2.2 = h.2.2 := by
  unfold g_X12_says
  exact (hp_i_22).trans (hp_i_22)
set_option maxHeartbeats 100000 in
theorem fr_X12_says {h : Hp} {a1 : Int32} {t i : Nat} (c0 : ¬ (t = 12 ∧ i = 0)) (c1 : ¬ (t = 65 ∧ i = 0)) : (g_X12_says h a1).1 t i = h.1 t i := by
  unfold g_X12_says
  exact (hp_i_n c0).trans (hp_i_n c1)
set_option maxHeartbeats 20000 in
theorem gl_gw_X12_saysWord_2 : ∀ (n : Nat) (h : Hp) (j1 : Nat) (x2 : Int32), (gw_X12_saysWord_2 n h j1 x2).2.1 = h.2.1 := by
  intro n
  induction n with
  | zero => intros; rfl
  | succ n ih =>
    intro h j1 x2
    rw [gw_X12_saysWord_2]
    exact oa_iteL (rfl) ((ih _ _ _).trans (gl_X12_says))
set_option maxHeartbeats 20000 in
theorem gr_gw_X12_saysWord_2 : ∀ (n : Nat) (h : Hp) (j1 : Nat) (x2 : Int32), (gw_X12_saysWord_2 n h j1 x2).2.2 = h.2.2 := by
  intro n
  induction n with
  | zero => intros; rfl
  | succ n ih =>
    intro h j1 x2
    rw [gw_X12_saysWord_2]
    exact oa_iteR (rfl) ((ih _ _ _).trans (gr_X12_says))
set_option maxHeartbeats 20000 in
theorem gl_X12_saysWord {h : Hp} {j1 : Nat} : (g_X12_saysWord h j1).2.1 = h.2.1 := by
  unfold g_X12_saysWord
  exact gl_gw_X12_saysWord_2  _ _ _ _
set_option maxHeartbeats 20000 in
theorem gr_X12_saysWord {h : Hp} {j1 : Nat} : (g_X12_saysWord h j1).2.2 = h.2.2 := by
  unfold g_X12_saysWord
  exact gr_gw_X12_saysWord_2  _ _ _ _
set_option maxHeartbeats 100000 in
theorem fr_gw_X12_saysWord_2 {t i : Nat}  (c0 : ¬ (t = 12 ∧ i = 0)) (c1 : ¬ (t = 65 ∧ i = 0)) : ∀ (n : Nat) (h : Hp) (j1 : Nat) (x2 : Int32), (gw_X12_saysWord_2 n h j1 x2).1 t i = h.1 t i := by
  intro n
  induction n with
  | zero => intros; rfl
  | succ n ih =>
    intro h j1 x2
    rw [gw_X12_saysWord_2]
    exact oa_ite (rfl) ((ih _ _ _).trans (fr_X12_says c0 c1))
set_option maxHeartbeats 100000 in
theorem fr_X12_saysWord {h : Hp} {j1 : Nat} {t i : Nat} (c0 : ¬ (t = 12 ∧ i = 0)) (c1 : ¬ (t = 65 ∧ i = 0)) : (g_X12_saysWord h j1).1 t i = h.1 t i := by
  unfold g_X12_saysWord
  exact fr_gw_X12_saysWord_2 c0 c1 _ _ _ _
set_option maxHeartbeats 20000 in
theorem gl_gw_X12_saysName_2 : ∀ (n : Nat) (h : Hp) (x1 : Int32) (x2 : Int32), (gw_X12_saysName_2 n h x1 x2).2.1 = h.2.1 := by
  intro n
  induction n with
  | zero => intros; rfl
  | succ n ih =>
    intro h x1 x2
    rw [gw_X12_saysName_2]
    exact oa_iteL (rfl) (oa_iteL (ih _ _ _) ((ih _ _ _).trans (gl_X12_says)))
set_option maxHeartbeats 20000 in
theorem gr_gw_X12_saysName_2 : ∀ (n : Nat) (h : Hp) (x1 : Int32) (x2 : Int32), (gw_X12_saysName_2 n h x1 x2).2.2 = h.2.2 := by
  intro n
  induction n with
  | zero => intros; rfl
  | succ n ih =>
    intro h x1 x2
    rw [gw_X12_saysName_2]
    exact oa_iteR (rfl) (oa_iteR (ih _ _ _) ((ih _ _ _).trans (gr_X12_says)))
set_option maxHeartbeats 20000 in
theorem gl_X12_saysName {h : Hp} {a1 : Int32} : (g_X12_saysName h a1).2.1 = h.2.1 := by
  unfold g_X12_saysName
  exact gl_gw_X12_saysName_2  _ _ _ _
set_option maxHeartbeats 20000 in
theorem gr_X12_saysName {h : Hp} {a1 : Int32} : (g_X12_saysName h a1).2.2 = h.2.2 := by
  unfold g_X12_saysName
  exact gr_gw_X12_saysName_2  _ _ _ _
set_option maxHeartbeats 100000 in
theorem fr_gw_X12_saysName_2 {t i : Nat}  (c0 : ¬ (t = 12 ∧ i = 0)) (c1 : ¬ (t = 65 ∧ i = 0)) : ∀ (n : Nat) (h : Hp) (x1 : Int32) (x2 : Int32), (gw_X12_saysName_2 n h x1 x2).1 t i = h.1 t i := by
  intro n
  induction n with
  | zero => intros; rfl
  | succ n ih =>
    intro h x1 x2
    rw [gw_X12_saysName_2]
    exact oa_ite (rfl) (oa_ite (ih _ _ _) ((ih _ _ _).trans (fr_X12_says c0 c1)))
set_option maxHeartbeats 100000 in
theorem fr_X12_saysName {h : Hp} {a1 : Int32} {t i : Nat} (c0 : ¬ (t = 12 ∧ i = 0)) (c1 : ¬ (t = 65 ∧ i = 0)) : (g_X12_saysName h a1).1 t i = h.1 t i := by
  unfold g_X12_saysName
  exact fr_gw_X12_saysName_2 c0 c1 _ _ _ _
set_option maxHeartbeats 20000 in
theorem gl_X12_formattedByte {h : Hp} {a1 : Int32} : (g_X12_formattedByte h a1).2.1 = h.2.1 := by
  unfold g_X12_formattedByte
  exact oa_iteL (hp_i_21) (hp_i_21)
set_option maxHeartbeats 20000 in
theorem gr_X12_formattedByte {h : Hp} {a1 : Int32} : (g_X12_formattedByte h a1).2.2 = h.2.2 := by
  unfold g_X12_formattedByte
  exact oa_iteR (hp_i_22) (hp_i_22)
set_option maxHeartbeats 100000 in
theorem fr_X12_formattedByte {h : Hp} {a1 : Int32} {t i : Nat} (c0 : ¬ (t = 12 ∧ i = 0)) : (g_X12_formattedByte h a1).1 t i = h.1 t i := by
  unfold g_X12_formattedByte
  exact oa_ite (hp_i_n c0) (hp_i_n c0)
set_option maxHeartbeats 20000 in
theorem gl_gw_J7_fill_53178_5 : ∀ (n : Nat) (h : Hp) (t0 : Nat) (i0 : Nat) (n0 : Nat) (x1 : Int32) (x2 : Int32) (x3 : Int32), (gw_J7_fill_53178_5 n h t0 i0 n0 x1 x2 x3).2.1 = h.2.1 := by
  intro n
  induction n with
  | zero => intros; rfl
  | succ n ih =>
    intro h t0 i0 n0 x1 x2 x3
    rw [gw_J7_fill_53178_5]
    exact oa_iteL (rfl) ((ih _ _ _ _ _ _ _).trans (hp_i_21))
set_option maxHeartbeats 20000 in
theorem gr_gw_J7_fill_53178_5 : ∀ (n : Nat) (h : Hp) (t0 : Nat) (i0 : Nat) (n0 : Nat) (x1 : Int32) (x2 : Int32) (x3 : Int32), (gw_J7_fill_53178_5 n h t0 i0 n0 x1 x2 x3).2.2 = h.2.2 := by
  intro n
  induction n with
  | zero => intros; rfl
  | succ n ih =>
    intro h t0 i0 n0 x1 x2 x3
    rw [gw_J7_fill_53178_5]
    exact oa_iteR (rfl) ((ih _ _ _ _ _ _ _).trans (hp_i_22))
set_option maxHeartbeats 20000 in
theorem gl_J7_fill_53178 {h : Hp} {t0 : Nat} {i0 : Nat} {n0 : Nat} {a1 : Int32} : (g_J7_fill_53178 h t0 i0 n0 a1).2.1 = h.2.1 := by
  unfold g_J7_fill_53178
  exact gl_gw_J7_fill_53178_5  _ _ _ _ _ _ _ _
set_option maxHeartbeats 20000 in
theorem gr_J7_fill_53178 {h : Hp} {t0 : Nat} {i0 : Nat} {n0 : Nat} {a1 : Int32} : (g_J7_fill_53178 h t0 i0 n0 a1).2.2 = h.2.2 := by
  unfold g_J7_fill_53178
  exact gr_gw_J7_fill_53178_5  _ _ _ _ _ _ _ _
set_option maxHeartbeats 100000 in
theorem fr_gw_J7_fill_53178_5 {i0 : Nat} {t0 : Nat} {t i : Nat}  (c0 : ¬ (t = t0 ∧ i = i0)) : ∀ (n : Nat) (h : Hp) (n0 : Nat) (x1 : Int32) (x2 : Int32) (x3 : Int32), (gw_J7_fill_53178_5 n h t0 i0 n0 x1 x2 x3).1 t i = h.1 t i := by
  intro n
  induction n with
  | zero => intros; rfl
  | succ n ih =>
    intro h n0 x1 x2 x3
    rw [gw_J7_fill_53178_5]
    exact oa_ite (rfl) ((ih _ _ _ _ _).trans (hp_i_n c0))
set_option maxHeartbeats 100000 in
theorem fr_J7_fill_53178 {h : Hp} {t0 : Nat} {i0 : Nat} {n0 : Nat} {a1 : Int32} {t i : Nat} (c0 : ¬ (t = t0 ∧ i = i0)) : (g_J7_fill_53178 h t0 i0 n0 a1).1 t i = h.1 t i := by
  unfold g_J7_fill_53178
  exact fr_gw_J7_fill_53178_5 c0 _ _ _ _ _ _
set_option maxHeartbeats 20000 in
theorem gr_X1_beginProduct {h : Hp} {i0 : Nat} {a1 : Int64} : (g_X1_beginProduct h i0 a1).2.2 = h.2.2 := by
  unfold g_X1_beginProduct
  exact oa_iteR (rfl) ((gr_J7_fill_53178).trans ((hp_i_22).trans ((hp_i_22).trans (hp_l_22))))
set_option maxHeartbeats 100000 in
theorem fr_X1_beginProduct {h : Hp} {i0 : Nat} {a1 : Int64} {t i : Nat} (c0 : ¬ (t = 22 ∧ i = i0)) (c1 : ¬ (t = 23 ∧ i = i0)) (c2 : ¬ t = 29) : (g_X1_beginProduct h i0 a1).1 t i = h.1 t i := by
  unfold g_X1_beginProduct
  exact oa_ite (rfl) ((fr_J7_fill_53178 (fun z => c2 z.1)).trans ((hp_i_n c1).trans ((hp_i_n c0).trans (hp_l_f))))
set_option maxHeartbeats 20000 in
theorem gl_X2_put {h : Hp} {a1 : Int32} : (g_X2_put h a1).2.1 = h.2.1 := by
  unfold g_X2_put
  exact oa_iteL (rfl) ((hp_i_21).trans (hp_i_21))
set_option maxHeartbeats 20000 in
theorem gr_X2_put {h : Hp} {a1 : Int32} : (g_X2_put h a1).2.2 = h.2.2 := by
  unfold g_X2_put
  exact oa_iteR (rfl) ((hp_i_22).trans (hp_i_22))
set_option maxHeartbeats 100000 in
theorem fr_X2_put {h : Hp} {a1 : Int32} {t i : Nat} (c0 : ¬ (t = 2 ∧ i = 0)) (c1 : ¬ (t = 33 ∧ i = 0)) : (g_X2_put h a1).1 t i = h.1 t i := by
  unfold g_X2_put
  exact oa_ite (rfl) ((hp_i_n c0).trans (hp_i_n c1))
set_option maxHeartbeats 20000 in
theorem gl_gw_X2_putName_3 : ∀ (n : Nat) (h : Hp) (x1 : Int64) (x3 : Int32), (gw_X2_putName_3 n h x1 x3).2.1 = h.2.1 := by
  intro n
  induction n with
  | zero => intros; rfl
  | succ n ih =>
    intro h x1 x3
    rw [gw_X2_putName_3]
    exact oa_iteL (rfl) (oa_iteL (ih _ _ _) ((ih _ _ _).trans (gl_X2_put)))
set_option maxHeartbeats 20000 in
theorem gr_gw_X2_putName_3 : ∀ (n : Nat) (h : Hp) (x1 : Int64) (x3 : Int32), (gw_X2_putName_3 n h x1 x3).2.2 = h.2.2 := by
  intro n
  induction n with
  | zero => intros; rfl
  | succ n ih =>
    intro h x1 x3
    rw [gw_X2_putName_3]
    exact oa_iteR (rfl) (oa_iteR (ih _ _ _) ((ih _ _ _).trans (gr_X2_put)))
set_option maxHeartbeats 20000 in
theorem gl_X2_putName {h : Hp} {a1 : Int64} : (g_X2_putName h a1).2.1 = h.2.1 := by
  unfold g_X2_putName
  exact gl_gw_X2_putName_3  _ _ _ _
set_option maxHeartbeats 20000 in
theorem gr_X2_putName {h : Hp} {a1 : Int64} : (g_X2_putName h a1).2.2 = h.2.2 := by
  unfold g_X2_putName
  exact gr_gw_X2_putName_3  _ _ _ _
set_option maxHeartbeats 100000 in
theorem fr_gw_X2_putName_3 {t i : Nat}  (c0 : ¬ (t = 2 ∧ i = 0)) (c1 : ¬ (t = 33 ∧ i = 0)) : ∀ (n : Nat) (h : Hp) (x1 : Int64) (x3 : Int32), (gw_X2_putName_3 n h x1 x3).1 t i = h.1 t i := by
  intro n
  induction n with
  | zero => intros; rfl
  | succ n ih =>
    intro h x1 x3
    rw [gw_X2_putName_3]
    exact oa_ite (rfl) (oa_ite (ih _ _ _) ((ih _ _ _).trans (fr_X2_put c0 c1)))
set_option maxHeartbeats 100000 in
theorem fr_X2_putName {h : Hp} {a1 : Int64} {t i : Nat} (c0 : ¬ (t = 2 ∧ i = 0)) (c1 : ¬ (t = 33 ∧ i = 0)) : (g_X2_putName h a1).1 t i = h.1 t i := by
  unfold g_X2_putName
  exact fr_gw_X2_putName_3 c0 c1 _ _ _ _
set_option maxHeartbeats 20000 in
theorem gl_gw_X2_putText_2 : ∀ (n : Nat) (h : Hp) (j1 : Nat) (x2 : Int32), (gw_X2_putText_2 n h j1 x2).2.1 = h.2.1 := by
  intro n
  induction n with
  | zero => intros; rfl
  | succ n ih =>
    intro h j1 x2
    rw [gw_X2_putText_2]
    exact oa_iteL (rfl) ((ih _ _ _).trans (gl_X2_put))
set_option maxHeartbeats 20000 in
theorem gr_gw_X2_putText_2 : ∀ (n : Nat) (h : Hp) (j1 : Nat) (x2 : Int32), (gw_X2_putText_2 n h j1 x2).2.2 = h.2.2 := by
  intro n
  induction n with
  | zero => intros; rfl
  | succ n ih =>
    intro h j1 x2
    rw [gw_X2_putText_2]
    exact oa_iteR (rfl) ((ih _ _ _).trans (gr_X2_put))
set_option maxHeartbeats 20000 in
theorem gl_X2_putText {h : Hp} {j1 : Nat} : (g_X2_putText h j1).2.1 = h.2.1 := by
  unfold g_X2_putText
  exact gl_gw_X2_putText_2  _ _ _ _
set_option maxHeartbeats 20000 in
theorem gr_X2_putText {h : Hp} {j1 : Nat} : (g_X2_putText h j1).2.2 = h.2.2 := by
  unfold g_X2_putText
  exact gr_gw_X2_putText_2  _ _ _ _
set_option maxHeartbeats 100000 in
theorem fr_gw_X2_putText_2 {t i : Nat}  (c0 : ¬ (t = 2 ∧ i = 0)) (c1 : ¬ (t = 33 ∧ i = 0)) : ∀ (n : Nat) (h : Hp) (j1 : Nat) (x2 : Int32), (gw_X2_putText_2 n h j1 x2).1 t i = h.1 t i := by
  intro n
  induction n with
  | zero => intros; rfl
  | succ n ih =>
    intro h j1 x2
    rw [gw_X2_putText_2]
    exact oa_ite (rfl) ((ih _ _ _).trans (fr_X2_put c0 c1))
set_option maxHeartbeats 100000 in
theorem fr_X2_putText {h : Hp} {j1 : Nat} {t i : Nat} (c0 : ¬ (t = 2 ∧ i = 0)) (c1 : ¬ (t = 33 ∧ i = 0)) : (g_X2_putText h j1).1 t i = h.1 t i := by
  unfold g_X2_putText
  exact fr_gw_X2_putText_2 c0 c1 _ _ _ _
set_option maxHeartbeats 20000 in
theorem gl_gw_X2_putNumbered_11 : ∀ (n : Nat) (h : Hp) (j1 : Nat) (x2 : Int32) (x3 : Int32) (x4 : Int32), (gw_X2_putNumbered_11 n h j1 x2 x3 x4).2.1 = h.2.1 := by
  intro n
  induction n with
  | zero => intros; rfl
  | succ n ih =>
    intro h j1 x2 x3 x4
    rw [gw_X2_putNumbered_11]
    exact oa_iteL (rfl) (oa_iteL (ih _ _ _ _ _) ((ih _ _ _ _ _).trans (gl_X2_put)))
set_option maxHeartbeats 20000 in
theorem gr_gw_X2_putNumbered_11 : ∀ (n : Nat) (h : Hp) (j1 : Nat) (x2 : Int32) (x3 : Int32) (x4 : Int32), (gw_X2_putNumbered_11 n h j1 x2 x3 x4).2.2 = h.2.2 := by
  intro n
  induction n with
  | zero => intros; rfl
  | succ n ih =>
    intro h j1 x2 x3 x4
    rw [gw_X2_putNumbered_11]
    exact oa_iteR (rfl) (oa_iteR (ih _ _ _ _ _) ((ih _ _ _ _ _).trans (gr_X2_put)))
set_option maxHeartbeats 20000 in
theorem gl_X2_putNumbered {h : Hp} {j1 : Nat} {a2 : Int32} : (g_X2_putNumbered h j1 a2).2.1 = h.2.1 := by
  unfold g_X2_putNumbered
  exact (gl_gw_X2_putNumbered_11  _ _ _ _ _ _).trans (gl_X2_putText)
set_option maxHeartbeats 20000 in
theorem gr_X2_putNumbered {h : Hp} {j1 : Nat} {a2 : Int32} : (g_X2_putNumbered h j1 a2).2.2 = h.2.2 := by
  unfold g_X2_putNumbered
  exact (gr_gw_X2_putNumbered_11  _ _ _ _ _ _).trans (gr_X2_putText)
set_option maxHeartbeats 100000 in
theorem fr_gw_X2_putNumbered_11 {t i : Nat}  (c0 : ¬ (t = 2 ∧ i = 0)) (c1 : ¬ (t = 33 ∧ i = 0)) : ∀ (n : Nat) (h : Hp) (j1 : Nat) (x2 : Int32) (x3 : Int32) (x4 : Int32), (gw_X2_putNumbered_11 n h j1 x2 x3 x4).1 t i = h.1 t i := by
  intro n
  induction n with
  | zero => intros; rfl
  | succ n ih =>
    intro h j1 x2 x3 x4
    rw [gw_X2_putNumbered_11]
    exact oa_ite (rfl) (oa_ite (ih _ _ _ _ _) ((ih _ _ _ _ _).trans (fr_X2_put c0 c1)))
set_option maxHeartbeats 100000 in
theorem fr_X2_putNumbered {h : Hp} {j1 : Nat} {a2 : Int32} {t i : Nat} (c0 : ¬ (t = 2 ∧ i = 0)) (c1 : ¬ (t = 33 ∧ i = 0)) : (g_X2_putNumbered h j1 a2).1 t i = h.1 t i := by
  unfold g_X2_putNumbered
  exact (fr_gw_X2_putNumbered_11 c0 c1 _ _ _ _ _ _).trans (fr_X2_putText c0 c1)
set_option maxHeartbeats 20000 in
theorem gl_gw_X4_putWord_3 : ∀ (n : Nat) (h : Hp) (x1 : Int32) (x2 : Int32), (gw_X4_putWord_3 n h x1 x2).2.1 = h.2.1 := by
  intro n
  induction n with
  | zero => intros; rfl
  | succ n ih =>
    intro h x1 x2
    rw [gw_X4_putWord_3]
    exact oa_iteL (rfl) (oa_iteL (ih _ _ _) ((ih _ _ _).trans ((hp_i_21).trans (hp_i_21))))
set_option maxHeartbeats 20000 in
theorem gr_gw_X4_putWord_3 : ∀ (n : Nat) (h : Hp) (x1 : Int32) (x2 : Int32), (gw_X4_putWord_3 n h x1 x2).2.2 = h.2.2 := by
  intro n
  induction n with
  | zero => intros; rfl
  | succ n ih =>
    intro h x1 x2
    rw [gw_X4_putWord_3]
    exact oa_iteR (rfl) (oa_iteR (ih _ _ _) ((ih _ _ _).trans ((hp_i_22).trans (hp_i_22))))
set_option maxHeartbeats 20000 in
theorem gl_X4_putWord {h : Hp} {a1 : Int32} : (g_X4_putWord h a1).2.1 = h.2.1 := by
  unfold g_X4_putWord
  exact gl_gw_X4_putWord_3  _ _ _ _
set_option maxHeartbeats 20000 in
theorem gr_X4_putWord {h : Hp} {a1 : Int32} : (g_X4_putWord h a1).2.2 = h.2.2 := by
  unfold g_X4_putWord
  exact gr_gw_X4_putWord_3  _ _ _ _
set_option maxHeartbeats 100000 in
theorem fr_gw_X4_putWord_3 {t i : Nat}  (c0 : ¬ (t = 35 ∧ i = 0)) (c1 : ¬ (t = 4 ∧ i = 0)) : ∀ (n : Nat) (h : Hp) (x1 : Int32) (x2 : Int32), (gw_X4_putWord_3 n h x1 x2).1 t i = h.1 t i := by
  intro n
  induction n with
  | zero => intros; rfl
  | succ n ih =>
    intro h x1 x2
    rw [gw_X4_putWord_3]
    exact oa_ite (rfl) (oa_ite (ih _ _ _) ((ih _ _ _).trans ((hp_i_n c1).trans (hp_i_n c0))))
set_option maxHeartbeats 100000 in
theorem fr_X4_putWord {h : Hp} {a1 : Int32} {t i : Nat} (c0 : ¬ (t = 35 ∧ i = 0)) (c1 : ¬ (t = 4 ∧ i = 0)) : (g_X4_putWord h a1).1 t i = h.1 t i := by
  unfold g_X4_putWord
  exact fr_gw_X4_putWord_3 c0 c1 _ _ _ _
set_option maxHeartbeats 20000 in
theorem gl_X5_copyFrom {h : Hp} {i0 : Nat} {i1 : Nat} : (g_X5_copyFrom h i0 i1).2.1 = h.2.1 := by
  unfold g_X5_copyFrom
  exact (gl_X8_copyFrom).trans ((gl_X6_copyFrom).trans (gl_X10_copyFrom))
set_option maxHeartbeats 20000 in
theorem gr_X5_copyFrom {h : Hp} {i0 : Nat} {i1 : Nat} : (g_X5_copyFrom h i0 i1).2.2 = h.2.2 := by
  unfold g_X5_copyFrom
  exact (gr_X8_copyFrom).trans ((gr_X6_copyFrom).trans (gr_X10_copyFrom))
set_option maxHeartbeats 100000 in
theorem fr_X5_copyFrom {h : Hp} {i0 : Nat} {i1 : Nat} {t i : Nat} (c0 : ¬ (t = 10 ∧ i = i0)) (c1 : ¬ (t = 36 ∧ i = i0)) (c2 : ¬ (t = 37 ∧ i = i0)) (c3 : ¬ (t = 38 ∧ i = i0)) (c4 : ¬ (t = 39 ∧ i = i0)) (c5 : ¬ (t = 40 ∧ i = i0)) (c6 : ¬ (t = 41 ∧ i = i0)) (c7 : ¬ (t = 42 ∧ i = i0)) (c8 : ¬ (t = 43 ∧ i = i0)) (c9 : ¬ (t = 44 ∧ i = i0)) (c10 : ¬ (t = 45 ∧ i = i0)) (c11 : ¬ (t = 46 ∧ i = i0)) (c12 : ¬ (t = 47 ∧ i = i0)) (c13 : ¬ (t = 48 ∧ i = i0)) (c14 : ¬ (t = 49 ∧ i = i0)) (c15 : ¬ (t = 50 ∧ i = i0)) (c16 : ¬ (t = 51 ∧ i = i0)) (c17 : ¬ (t = 52 ∧ i = i0)) (c18 : ¬ (t = 6 ∧ i = i0)) : (g_X5_copyFrom h i0 i1).1 t i = h.1 t i := by
  unfold g_X5_copyFrom
  exact (fr_X8_copyFrom c9 c10 c11 c12).trans ((fr_X6_copyFrom c1 c2 c3 c4 c5 c6 c7 c8 c18).trans (fr_X10_copyFrom c0 c13 c14 c15 c16 c17))
set_option maxHeartbeats 20000 in
theorem gl_X6_addReserved {h : Hp} {i0 : Nat} {a1 : Int32} {a2 : Int32} : (g_X6_addReserved h i0 a1 a2).2.1 = h.2.1 := by
  unfold g_X6_addReserved
  exact oa_iteL (rfl) (hp_i_21)
set_option maxHeartbeats 20000 in
theorem gr_X6_addReserved {h : Hp} {i0 : Nat} {a1 : Int32} {a2 : Int32} : (g_X6_addReserved h i0 a1 a2).2.2 = h.2.2 := by
  unfold g_X6_addReserved
  exact oa_iteR (rfl) (hp_i_22)
set_option maxHeartbeats 100000 in
theorem fr_X6_addReserved {h : Hp} {i0 : Nat} {a1 : Int32} {a2 : Int32} {t i : Nat} (c0 : ¬ (t = 42 ∧ i = i0)) : (g_X6_addReserved h i0 a1 a2).1 t i = h.1 t i := by
  unfold g_X6_addReserved
  exact oa_ite (rfl) (hp_i_n c0)
set_option maxHeartbeats 20000 in
theorem gl_X6_addShipped {h : Hp} {i0 : Nat} {a1 : Int32} {a2 : Int32} : (g_X6_addShipped h i0 a1 a2).2.1 = h.2.1 := by
  unfold g_X6_addShipped
  exact oa_iteL (rfl) (hp_i_21)
set_option maxHeartbeats 20000 in
theorem gr_X6_addShipped {h : Hp} {i0 : Nat} {a1 : Int32} {a2 : Int32} : (g_X6_addShipped h i0 a1 a2).2.2 = h.2.2 := by
  unfold g_X6_addShipped
  exact oa_iteR (rfl) (hp_i_22)
set_option maxHeartbeats 100000 in
theorem fr_X6_addShipped {h : Hp} {i0 : Nat} {a1 : Int32} {a2 : Int32} {t i : Nat} (c0 : ¬ (t = 43 ∧ i = i0)) : (g_X6_addShipped h i0 a1 a2).1 t i = h.1 t i := by
  unfold g_X6_addShipped
  exact oa_ite (rfl) (hp_i_n c0)
set_option maxHeartbeats 20000 in
theorem gl_X6_markCancelled {h : Hp} {i0 : Nat} {a1 : Int32} : (g_X6_markCancelled h i0 a1).2.1 = h.2.1 := by
  unfold g_X6_markCancelled
  exact oa_iteL (rfl) (hp_i_21)
set_option maxHeartbeats 20000 in
theorem gr_X6_markCancelled {h : Hp} {i0 : Nat} {a1 : Int32} : (g_X6_markCancelled h i0 a1).2.2 = h.2.2 := by
  unfold g_X6_markCancelled
  exact oa_iteR (rfl) (hp_i_22)
set_option maxHeartbeats 100000 in
theorem fr_X6_markCancelled {h : Hp} {i0 : Nat} {a1 : Int32} {t i : Nat} (c0 : ¬ (t = 41 ∧ i = i0)) : (g_X6_markCancelled h i0 a1).1 t i = h.1 t i := by
  unfold g_X6_markCancelled
  exact oa_ite (rfl) (hp_i_n c0)
set_option maxHeartbeats 20000 in
theorem gl_X7_isNewName {h : Hp}  : (g_X7_isNewName h ).2.1 = h.2.1 := by
  unfold g_X7_isNewName
  exact oa_iteL (oa_iteL (rfl) (gl_X7_fail)) (gl_X7_fail)
set_option maxHeartbeats 20000 in
theorem gr_X7_isNewName {h : Hp}  : (g_X7_isNewName h ).2.2 = h.2.2 := by
  unfold g_X7_isNewName
  exact oa_iteR (oa_iteR (rfl) (gr_X7_fail)) (gr_X7_fail)
set_option maxHeartbeats 100000 in
theorem fr_X7_isNewName {h : Hp}  {t i : Nat} (c0 : ¬ (t = 7 ∧ i = 0)) : (g_X7_isNewName h ).1 t i = h.1 t i := by
  unfold g_X7_isNewName
  exact oa_ite (oa_ite (rfl) (fr_X7_fail c0)) (fr_X7_fail c0)
set_option maxHeartbeats 20000 in
theorem gl_X8_clear {h : Hp} {i0 : Nat} : (g_X8_clear h i0).2.1 = h.2.1 := by
  unfold g_X8_clear
  exact gl_J7_fill_53178
set_option maxHeartbeats 20000 in
theorem gr_X8_clear {h : Hp} {i0 : Nat} : (g_X8_clear h i0).2.2 = h.2.2 := by
  unfold g_X8_clear
  exact gr_J7_fill_53178
set_option maxHeartbeats 100000 in
theorem fr_X8_clear {h : Hp} {i0 : Nat} {t i : Nat} (c0 : ¬ (t = 44 ∧ i = i0)) : (g_X8_clear h i0).1 t i = h.1 t i := by
  unfold g_X8_clear
  exact fr_J7_fill_53178 c0
set_option maxHeartbeats 20000 in
theorem gl_X8_addShipment {h : Hp} {i0 : Nat} {a1 : Int32} {a2 : Int32} {a3 : Int32} {a4 : Int32} : (g_X8_addShipment h i0 a1 a2 a3 a4).2.1 = h.2.1 := by
  unfold g_X8_addShipment
  exact oa_iteL ((hp_i_21).trans ((hp_i_21).trans ((hp_i_21).trans ((hp_i_21).trans (hp_i_21))))) ((hp_i_21).trans ((hp_i_21).trans ((hp_i_21).trans ((hp_i_21).trans ((hp_i_21).trans ((hp_i_21).trans (hp_i_21)))))))
set_option maxHeartbeats 20000 in
theorem gr_X8_addShipment {h : Hp} {i0 : Nat} {a1 : Int32} {a2 : Int32} {a3 : Int32} {a4 : Int32} : (g_X8_addShipment h i0 a1 a2 a3 a4).2.2 = h.2.2 := by
  unfold g_X8_addShipment
  exact oa_iteR ((hp_i_22).trans ((hp_i_22).trans ((hp_i_22).trans ((hp_i_22).trans (hp_i_22))))) ((hp_i_22).trans ((hp_i_22).trans ((hp_i_22).trans ((hp_i_22).trans ((hp_i_22).trans ((hp_i_22).trans (hp_i_22)))))))
set_option maxHeartbeats 100000 in
theorem fr_X8_addShipment {h : Hp} {i0 : Nat} {a1 : Int32} {a2 : Int32} {a3 : Int32} {a4 : Int32} {t i : Nat} (c0 : ¬ (t = 44 ∧ i = i0)) (c1 : ¬ (t = 45 ∧ i = i0)) (c2 : ¬ (t = 46 ∧ i = i0)) (c3 : ¬ (t = 47 ∧ i = i0)) : (g_X8_addShipment h i0 a1 a2 a3 a4).1 t i = h.1 t i := by
  unfold g_X8_addShipment
  exact oa_ite ((hp_i_n c0).trans ((hp_i_n c0).trans ((hp_i_n c3).trans ((hp_i_n c2).trans (hp_i_n c1))))) ((hp_i_n c0).trans ((hp_i_n c0).trans ((hp_i_n c0).trans ((hp_i_n c0).trans ((hp_i_n c3).trans ((hp_i_n c2).trans (hp_i_n c1)))))))
set_option maxHeartbeats 20000 in
theorem gl_gw_X9_step_100 : ∀ (n : Nat) (h : Hp) (x1 : Int32), (gw_X9_step_100 n h x1).2.1 = h.2.1 := by
  intro n
  induction n with
  | zero => intros; rfl
  | succ n ih =>
    intro h x1
    rw [gw_X9_step_100]
    exact oa_iteL (oa_iteL (rfl) (hp_i_21)) (oa_iteL (oa_iteL (rfl) (hp_i_21)) (oa_iteL (oa_iteL (rfl) (hp_i_21)) ((ih _ _).trans (hp_i_21))))
set_option maxHeartbeats 20000 in
theorem gr_gw_X9_step_100 : ∀ (n : Nat) (h : Hp) (x1 : Int32), (gw_X9_step_100 n h x1).2.2 = h.2.2 := by
  intro n
  induction n with
  | zero => intros; rfl
  | succ n ih =>
    intro h x1
    rw [gw_X9_step_100]
    exact oa_iteR (oa_iteR (rfl) (hp_i_22)) (oa_iteR (oa_iteR (rfl) (hp_i_22)) (oa_iteR (oa_iteR (rfl) (hp_i_22)) ((ih _ _).trans (hp_i_22))))
set_option maxHeartbeats 20000 in
theorem gl_gw_X9_step_8 : ∀ (n : Nat) (h : Hp) , (gw_X9_step_8 n h ).2.1 = h.2.1 := by
  intro n
  induction n with
  | zero => intros; rfl
  | succ n ih =>
    intro h 
    rw [gw_X9_step_8]
    exact oa_iteL ((gl_gw_X9_step_100  _ _ _).trans ((hp_i_21).trans (hp_i_21))) (oa_iteL ((gl_gw_X9_step_100  _ _ _).trans ((hp_i_21).trans (hp_i_21))) ((ih _ ).trans (hp_i_21)))
set_option maxHeartbeats 20000 in
theorem gr_gw_X9_step_8 : ∀ (n : Nat) (h : Hp) , (gw_X9_step_8 n h ).2.2 = h.2.2 := by
  intro n
  induction n with
  | zero => intros; rfl
  | succ n ih =>
    intro h 
    rw [gw_X9_step_8]
    exact oa_iteR ((gr_gw_X9_step_100  _ _ _).trans ((hp_i_22).trans (hp_i_22))) (oa_iteR ((gr_gw_X9_step_100  _ _ _).trans ((hp_i_22).trans (hp_i_22))) ((ih _ ).trans (hp_i_22)))
set_option maxHeartbeats 20000 in
theorem gl_X9_step {h : Hp}  : (g_X9_step h ).2.1 = h.2.1 := by
  unfold g_X9_step
  exact (gl_gw_X9_step_8  _ _ ).trans (hp_i_21)
set_option maxHeartbeats 20000 in
theorem gr_X9_step {h : Hp}  : (g_X9_step h ).2.2 = h.2.2 := by
  unfold g_X9_step
  exact (gr_gw_X9_step_8  _ _ ).trans (hp_i_22)
set_option maxHeartbeats 100000 in
theorem fr_gw_X9_step_100 {t i : Nat}  (c0 : ¬ (t = 9 ∧ i = 0)) : ∀ (n : Nat) (h : Hp) (x1 : Int32), (gw_X9_step_100 n h x1).1 t i = h.1 t i := by
  intro n
  induction n with
  | zero => intros; rfl
  | succ n ih =>
    intro h x1
    rw [gw_X9_step_100]
    exact oa_ite (oa_ite (rfl) (hp_i_n c0)) (oa_ite (oa_ite (rfl) (hp_i_n c0)) (oa_ite (oa_ite (rfl) (hp_i_n c0)) ((ih _ _).trans (hp_i_n c0))))
set_option maxHeartbeats 100000 in
theorem fr_gw_X9_step_8 {t i : Nat}  (c0 : ¬ (t = 9 ∧ i = 0)) : ∀ (n : Nat) (h : Hp) , (gw_X9_step_8 n h ).1 t i = h.1 t i := by
  intro n
  induction n with
  | zero => intros; rfl
  | succ n ih =>
    intro h 
    rw [gw_X9_step_8]
    exact oa_ite ((fr_gw_X9_step_100 c0 _ _ _).trans ((hp_i_n c0).trans (hp_i_n c0))) (oa_ite ((fr_gw_X9_step_100 c0 _ _ _).trans ((hp_i_n c0).trans (hp_i_n c0))) ((ih _ ).trans (hp_i_n c0)))
set_option maxHeartbeats 100000 in
theorem fr_X9_step {h : Hp}  {t i : Nat} (c0 : ¬ (t = 9 ∧ i = 0)) : (g_X9_step h ).1 t i = h.1 t i := by
  unfold g_X9_step
  exact (fr_gw_X9_step_8 c0 _ _ ).trans (hp_i_n c0)
set_option maxHeartbeats 20000 in
theorem gl_X10_clear {h : Hp} {i0 : Nat} : (g_X10_clear h i0).2.1 = h.2.1 := by
  unfold g_X10_clear
  exact (gl_J7_fill_53178).trans ((gl_J7_fill_53178).trans ((hp_i_21).trans (hp_i_21)))
set_option maxHeartbeats 20000 in
theorem gr_X10_clear {h : Hp} {i0 : Nat} : (g_X10_clear h i0).2.2 = h.2.2 := by
  unfold g_X10_clear
  exact (gr_J7_fill_53178).trans ((gr_J7_fill_53178).trans ((hp_i_22).trans (hp_i_22)))
set_option maxHeartbeats 100000 in
theorem fr_X10_clear {h : Hp} {i0 : Nat} {t i : Nat} (c0 : ¬ (t = 10 ∧ i = i0)) (c1 : ¬ (t = 48 ∧ i = i0)) (c2 : ¬ (t = 49 ∧ i = i0)) : (g_X10_clear h i0).1 t i = h.1 t i := by
  unfold g_X10_clear
  exact (fr_J7_fill_53178 c2).trans ((fr_J7_fill_53178 c1).trans ((hp_i_n c0).trans (hp_i_n c0)))
set_option maxHeartbeats 20000 in
theorem gl_gw_X10_fillFree_2 : ∀ (n : Nat) (h : Hp) (i0 : Nat) (t1 : Nat) (i1 : Nat) (n1 : Nat) (x2 : Int32), (gw_X10_fillFree_2 n h i0 t1 i1 n1 x2).2.1 = h.2.1 := by
  intro n
  induction n with
  | zero => intros; rfl
  | succ n ih =>
    intro h i0 t1 i1 n1 x2
    rw [gw_X10_fillFree_2]
    exact oa_iteL (rfl) ((ih _ _ _ _ _ _).trans (hp_i_21))
set_option maxHeartbeats 20000 in
theorem gr_gw_X10_fillFree_2 : ∀ (n : Nat) (h : Hp) (i0 : Nat) (t1 : Nat) (i1 : Nat) (n1 : Nat) (x2 : Int32), (gw_X10_fillFree_2 n h i0 t1 i1 n1 x2).2.2 = h.2.2 := by
  intro n
  induction n with
  | zero => intros; rfl
  | succ n ih =>
    intro h i0 t1 i1 n1 x2
    rw [gw_X10_fillFree_2]
    exact oa_iteR (rfl) ((ih _ _ _ _ _ _).trans (hp_i_22))
set_option maxHeartbeats 20000 in
theorem gl_X10_fillFree {h : Hp} {i0 : Nat} {t1 : Nat} {i1 : Nat} {n1 : Nat} : (g_X10_fillFree h i0 t1 i1 n1).2.1 = h.2.1 := by
  unfold g_X10_fillFree
  exact gl_gw_X10_fillFree_2  _ _ _ _ _ _ _
set_option maxHeartbeats 20000 in
theorem gr_X10_fillFree {h : Hp} {i0 : Nat} {t1 : Nat} {i1 : Nat} {n1 : Nat} : (g_X10_fillFree h i0 t1 i1 n1).2.2 = h.2.2 := by
  unfold g_X10_fillFree
  exact gr_gw_X10_fillFree_2  _ _ _ _ _ _ _
set_option maxHeartbeats 100000 in
theorem fr_gw_X10_fillFree_2 {i1 : Nat} {t1 : Nat} {t i : Nat}  (c0 : ¬ (t = t1 ∧ i = i1)) : ∀ (n : Nat) (h : Hp) (i0 : Nat) (n1 : Nat) (x2 : Int32), (gw_X10_fillFree_2 n h i0 t1 i1 n1 x2).1 t i = h.1 t i := by
  intro n
  induction n with
  | zero => intros; rfl
  | succ n ih =>
    intro h i0 n1 x2
    rw [gw_X10_fillFree_2]
    exact oa_ite (rfl) ((ih _ _ _ _).trans (hp_i_n c0))
set_option maxHeartbeats 100000 in
theorem fr_X10_fillFree {h : Hp} {i0 : Nat} {t1 : Nat} {i1 : Nat} {n1 : Nat} {t i : Nat} (c0 : ¬ (t = t1 ∧ i = i1)) : (g_X10_fillFree h i0 t1 i1 n1).1 t i = h.1 t i := by
  unfold g_X10_fillFree
  exact fr_gw_X10_fillFree_2 c0 _ _ _ _ _
set_option maxHeartbeats 20000 in
theorem gl_X10_setStock {h : Hp} {i0 : Nat} {a1 : Int32} {a2 : Int32} : (g_X10_setStock h i0 a1 a2).2.1 = h.2.1 := by
  unfold g_X10_setStock
  exact oa_iteL (rfl) (hp_i_21)
set_option maxHeartbeats 20000 in
theorem gr_X10_setStock {h : Hp} {i0 : Nat} {a1 : Int32} {a2 : Int32} : (g_X10_setStock h i0 a1 a2).2.2 = h.2.2 := by
  unfold g_X10_setStock
  exact oa_iteR (rfl) (hp_i_22)
set_option maxHeartbeats 100000 in
theorem fr_X10_setStock {h : Hp} {i0 : Nat} {a1 : Int32} {a2 : Int32} {t i : Nat} (c0 : ¬ (t = 48 ∧ i = i0)) : (g_X10_setStock h i0 a1 a2).1 t i = h.1 t i := by
  unfold g_X10_setStock
  exact oa_ite (rfl) (hp_i_n c0)
set_option maxHeartbeats 20000 in
theorem gl_X10_addReserved {h : Hp} {i0 : Nat} {a1 : Int32} {a2 : Int32} : (g_X10_addReserved h i0 a1 a2).2.1 = h.2.1 := by
  unfold g_X10_addReserved
  exact oa_iteL (rfl) (hp_i_21)
set_option maxHeartbeats 20000 in
theorem gr_X10_addReserved {h : Hp} {i0 : Nat} {a1 : Int32} {a2 : Int32} : (g_X10_addReserved h i0 a1 a2).2.2 = h.2.2 := by
  unfold g_X10_addReserved
  exact oa_iteR (rfl) (hp_i_22)
set_option maxHeartbeats 100000 in
theorem fr_X10_addReserved {h : Hp} {i0 : Nat} {a1 : Int32} {a2 : Int32} {t i : Nat} (c0 : ¬ (t = 49 ∧ i = i0)) : (g_X10_addReserved h i0 a1 a2).1 t i = h.1 t i := by
  unfold g_X10_addReserved
  exact oa_ite (rfl) (hp_i_n c0)
set_option maxHeartbeats 20000 in
theorem gl_gw_X10_passDay_14 : ∀ (n : Nat) (h : Hp) (i0 : Nat) (x1 : Int32) (x2 : Int32), (gw_X10_passDay_14 n h i0 x1 x2).2.1 = h.2.1 := by
  intro n
  induction n with
  | zero => intros; rfl
  | succ n ih =>
    intro h i0 x1 x2
    rw [gw_X10_passDay_14]
    exact oa_iteL (hp_i_21) (oa_iteL ((ih _ _ _ _).trans ((hp_i_21).trans ((hp_i_21).trans (hp_i_21)))) ((ih _ _ _ _).trans (gl_X10_setStock)))
set_option maxHeartbeats 20000 in
theorem gr_gw_X10_passDay_14 : ∀ (n : Nat) (h : Hp) (i0 : Nat) (x1 : Int32) (x2 : Int32), (gw_X10_passDay_14 n h i0 x1 x2).2.2 = h.2.2 := by
  intro n
  induction n with
  | zero => intros; rfl
  | succ n ih =>
    intro h i0 x1 x2
    rw [gw_X10_passDay_14]
    exact oa_iteR (hp_i_22) (oa_iteR ((ih _ _ _ _).trans ((hp_i_22).trans ((hp_i_22).trans (hp_i_22)))) ((ih _ _ _ _).trans (gr_X10_setStock)))
set_option maxHeartbeats 20000 in
theorem gl_X10_passDay {h : Hp} {i0 : Nat} : (g_X10_passDay h i0).2.1 = h.2.1 := by
  unfold g_X10_passDay
  exact (gl_gw_X10_passDay_14  _ _ _ _ _).trans (hp_i_21)
set_option maxHeartbeats 20000 in
theorem gr_X10_passDay {h : Hp} {i0 : Nat} : (g_X10_passDay h i0).2.2 = h.2.2 := by
  unfold g_X10_passDay
  exact (gr_gw_X10_passDay_14  _ _ _ _ _).trans (hp_i_22)
set_option maxHeartbeats 100000 in
theorem fr_gw_X10_passDay_14 {i0 : Nat} {t i : Nat}  (c0 : ¬ (t = 10 ∧ i = i0)) (c1 : ¬ (t = 48 ∧ i = i0)) (c2 : ¬ (t = 50 ∧ i = i0)) (c3 : ¬ (t = 51 ∧ i = i0)) (c4 : ¬ (t = 52 ∧ i = i0)) : ∀ (n : Nat) (h : Hp) (x1 : Int32) (x2 : Int32), (gw_X10_passDay_14 n h i0 x1 x2).1 t i = h.1 t i := by
  intro n
  induction n with
  | zero => intros; rfl
  | succ n ih =>
    intro h x1 x2
    rw [gw_X10_passDay_14]
    exact oa_ite (hp_i_n c0) (oa_ite ((ih _ _ _).trans ((hp_i_n c4).trans ((hp_i_n c3).trans (hp_i_n c2)))) ((ih _ _ _).trans (fr_X10_setStock c1)))
set_option maxHeartbeats 100000 in
theorem fr_X10_passDay {h : Hp} {i0 : Nat} {t i : Nat} (c0 : ¬ (t = 10 ∧ i = i0)) (c1 : ¬ (t = 48 ∧ i = i0)) (c2 : ¬ (t = 50 ∧ i = i0)) (c3 : ¬ (t = 51 ∧ i = i0)) (c4 : ¬ (t = 52 ∧ i = i0)) : (g_X10_passDay h i0).1 t i = h.1 t i := by
  unfold g_X10_passDay
  exact (fr_gw_X10_passDay_14 c0 c1 c2 c3 c4 _ _ _ _).trans (hp_i_n c0)
set_option maxHeartbeats 20000 in
theorem gl_X11_append {h : Hp} {a1 : Int32} {a2 : Int32} {a3 : Int32} {a4 : Int32} {a5 : Int32} : (g_X11_append h a1 a2 a3 a4 a5).2.1 = h.2.1 := by
  unfold g_X11_append
  exact oa_iteL ((gl_X4_putWord).trans ((gl_X4_putWord).trans ((gl_X4_putWord).trans ((gl_X4_putWord).trans (gl_X4_putWord))))) (rfl)
set_option maxHeartbeats 20000 in
theorem gr_X11_append {h : Hp} {a1 : Int32} {a2 : Int32} {a3 : Int32} {a4 : Int32} {a5 : Int32} : (g_X11_append h a1 a2 a3 a4 a5).2.2 = h.2.2 := by
  unfold g_X11_append
  exact oa_iteR ((gr_X4_putWord).trans ((gr_X4_putWord).trans ((gr_X4_putWord).trans ((gr_X4_putWord).trans (gr_X4_putWord))))) (rfl)
set_option maxHeartbeats 100000 in
theorem fr_X11_append {h : Hp} {a1 : Int32} {a2 : Int32} {a3 : Int32} {a4 : Int32} {a5 : Int32} {t i : Nat} (c0 : ¬ (t = 35 ∧ i = 0)) (c1 : ¬ (t = 4 ∧ i = 0)) : (g_X11_append h a1 a2 a3 a4 a5).1 t i = h.1 t i := by
  unfold g_X11_append
  exact oa_ite ((fr_X4_putWord c0 c1).trans ((fr_X4_putWord c0 c1).trans ((fr_X4_putWord c0 c1).trans ((fr_X4_putWord c0 c1).trans (fr_X4_putWord c0 c1))))) (rfl)
set_option maxHeartbeats 20000 in
theorem gl_gw_X12_product_84 : ∀ (n : Nat) (h : Hp) (x1 : Int32) (x2 : Int32) (x3 : Int32), (gw_X12_product_84 n h x1 x2 x3).2.1 = h.2.1 := by
  intro n
  induction n with
  | zero => intros; rfl
  | succ n ih =>
    intro h x1 x2 x3
    rw [gw_X12_product_84]
    exact oa_iteL ((hp_i_21).trans (hp_i_21)) (oa_iteL ((hp_i_21).trans (hp_i_21)) ((ih _ _ _ _).trans ((gl_X12_blanks0).trans (gl_X12_line))))
set_option maxHeartbeats 20000 in
theorem gr_gw_X12_product_84 : ∀ (n : Nat) (h : Hp) (x1 : Int32) (x2 : Int32) (x3 : Int32), (gw_X12_product_84 n h x1 x2 x3).2.2 = h.2.2 := by
  intro n
  induction n with
  | zero => intros; rfl
  | succ n ih =>
    intro h x1 x2 x3
    rw [gw_X12_product_84]
    exact oa_iteR ((hp_i_22).trans (hp_i_22)) (oa_iteR ((hp_i_22).trans (hp_i_22)) ((ih _ _ _ _).trans ((gr_X12_blanks0).trans (gr_X12_line))))
set_option maxHeartbeats 20000 in
theorem gl_gw_X12_product_52 : ∀ (n : Nat) (h : Hp) (x1 : Int32) (x2 : Int32), (gw_X12_product_52 n h x1 x2).2.1 = h.2.1 := by
  intro n
  induction n with
  | zero => intros; rfl
  | succ n ih =>
    intro h x1 x2
    rw [gw_X12_product_52]
    exact oa_iteL (gl_gw_X12_product_84  _ _ _ _ _) ((ih _ _ _).trans (hp_i_21))
set_option maxHeartbeats 20000 in
theorem gr_gw_X12_product_52 : ∀ (n : Nat) (h : Hp) (x1 : Int32) (x2 : Int32), (gw_X12_product_52 n h x1 x2).2.2 = h.2.2 := by
  intro n
  induction n with
  | zero => intros; rfl
  | succ n ih =>
    intro h x1 x2
    rw [gw_X12_product_52]
    exact oa_iteR (gr_gw_X12_product_84  _ _ _ _ _) ((ih _ _ _).trans (hp_i_22))
set_option maxHeartbeats 20000 in
theorem gl_X12_product {h : Hp}  : (g_X12_product h ).2.1 = h.2.1 := by
  unfold g_X12_product
  exact oa_iteL ((gl_gw_X12_product_52  _ _ _ _).trans ((gl_X12_newName).trans ((hp_i_21).trans (gl_X12_must)))) (gl_X12_must)
set_option maxHeartbeats 20000 in
theorem gr_X12_product {h : Hp}  : (g_X12_product h ).2.2 = h.2.2 := by
  unfold g_X12_product
  exact oa_iteR ((gr_gw_X12_product_52  _ _ _ _).trans ((gr_X12_newName).trans ((hp_i_22).trans (gr_X12_must)))) (gr_X12_must)
set_option maxHeartbeats 100000 in
theorem fr_gw_X12_product_84 {t i : Nat}  (c0 : ¬ (t = 12 ∧ i = 0)) (c1 : ¬ (t = 57 ∧ i = 0)) : ∀ (n : Nat) (h : Hp) (x1 : Int32) (x2 : Int32) (x3 : Int32), (gw_X12_product_84 n h x1 x2 x3).1 t i = h.1 t i := by
  intro n
  induction n with
  | zero => intros; rfl
  | succ n ih =>
    intro h x1 x2 x3
    rw [gw_X12_product_84]
    exact oa_ite ((hp_i_n c1).trans (hp_i_n c1)) (oa_ite ((hp_i_n c1).trans (hp_i_n c1)) ((ih _ _ _ _).trans ((fr_X12_blanks0 c0).trans (fr_X12_line c0 c1))))
set_option maxHeartbeats 100000 in
theorem fr_gw_X12_product_52 {t i : Nat}  (c0 : ¬ (t = 12 ∧ i = 0)) (c1 : ¬ (t = 57 ∧ i = 0)) : ∀ (n : Nat) (h : Hp) (x1 : Int32) (x2 : Int32), (gw_X12_product_52 n h x1 x2).1 t i = h.1 t i := by
  intro n
  induction n with
  | zero => intros; rfl
  | succ n ih =>
    intro h x1 x2
    rw [gw_X12_product_52]
    exact oa_ite (fr_gw_X12_product_84 c0 c1 _ _ _ _ _) ((ih _ _ _).trans (hp_i_n c1))
set_option maxHeartbeats 100000 in
theorem fr_X12_product {h : Hp}  {t i : Nat} (c0 : ¬ (t = 12 ∧ i = 0)) (c1 : ¬ (t = 57 ∧ i = 0)) : (g_X12_product h ).1 t i = h.1 t i := by
  unfold g_X12_product
  exact oa_ite ((fr_gw_X12_product_52 c0 c1 _ _ _ _).trans ((fr_X12_newName c0 c1).trans ((hp_i_n c0).trans (fr_X12_must c0)))) (fr_X12_must c0)
set_option maxHeartbeats 20000 in
theorem gl_gw_X12_triesRung_62 : ∀ (n : Nat) (h : Hp) (x1 : Int32) (x2 : Int32), (gw_X12_triesRung_62 n h x1 x2).2.1 = h.2.1 := by
  intro n
  induction n with
  | zero => intros; rfl
  | succ n ih =>
    intro h x1 x2
    rw [gw_X12_triesRung_62]
    exact oa_iteL (rfl) (oa_iteL ((ih _ _ _).trans (hp_i_21)) (oa_iteL ((ih _ _ _).trans ((hp_i_21).trans ((hp_i_21).trans ((gl_X12_takes0).trans (hp_i_21))))) ((ih _ _ _).trans ((hp_i_21).trans ((hp_i_21).trans ((gl_X12_takes0).trans (hp_i_21)))))))
set_option maxHeartbeats 20000 in
theorem gr_gw_X12_triesRung_62 : ∀ (n : Nat) (h : Hp) (x1 : Int32) (x2 : Int32), (gw_X12_triesRung_62 n h x1 x2).2.2 = h.2.2 := by
  intro n
  induction n with
  | zero => intros; rfl
  | succ n ih =>
    intro h x1 x2
    rw [gw_X12_triesRung_62]
    exact oa_iteR (rfl) (oa_iteR ((ih _ _ _).trans (hp_i_22)) (oa_iteR ((ih _ _ _).trans ((hp_i_22).trans ((hp_i_22).trans ((gr_X12_takes0).trans (hp_i_22))))) ((ih _ _ _).trans ((hp_i_22).trans ((hp_i_22).trans ((gr_X12_takes0).trans (hp_i_22)))))))
set_option maxHeartbeats 20000 in
theorem gl_gw_X12_triesRung_2 : ∀ (n : Nat) (h : Hp) (x1 : Int32) (x2 : Int32), (gw_X12_triesRung_2 n h x1 x2).2.1 = h.2.1 := by
  intro n
  induction n with
  | zero => intros; rfl
  | succ n ih =>
    intro h x1 x2
    rw [gw_X12_triesRung_2]
    exact oa_iteL ((gl_gw_X12_triesRung_62  _ _ _ _).trans ((hp_i_21).trans (hp_i_21))) ((ih _ _ _).trans (hp_i_21))
set_option maxHeartbeats 20000 in
theorem gr_gw_X12_triesRung_2 : ∀ (n : Nat) (h : Hp) (x1 : Int32) (x2 : Int32), (gw_X12_triesRung_2 n h x1 x2).2.2 = h.2.2 := by
  intro n
  induction n with
  | zero => intros; rfl
  | succ n ih =>
    intro h x1 x2
    rw [gw_X12_triesRung_2]
    exact oa_iteR ((gr_gw_X12_triesRung_62  _ _ _ _).trans ((hp_i_22).trans (hp_i_22))) ((ih _ _ _).trans (hp_i_22))
set_option maxHeartbeats 20000 in
theorem gl_X12_triesRung {h : Hp} {a1 : Int32} : (g_X12_triesRung h a1).2.1 = h.2.1 := by
  unfold g_X12_triesRung
  exact gl_gw_X12_triesRung_2  _ _ _ _
set_option maxHeartbeats 20000 in
theorem gr_X12_triesRung {h : Hp} {a1 : Int32} : (g_X12_triesRung h a1).2.2 = h.2.2 := by
  unfold g_X12_triesRung
  exact gr_gw_X12_triesRung_2  _ _ _ _
set_option maxHeartbeats 100000 in
theorem fr_gw_X12_triesRung_62 {t i : Nat}  (c0 : ¬ (t = 12 ∧ i = 0)) (c1 : ¬ (t = 60 ∧ i = 0)) (c2 : ¬ (t = 61 ∧ i = 0)) (c3 : ¬ (t = 62 ∧ i = 0)) (c4 : ¬ (t = 63 ∧ i = 0)) (c5 : ¬ (t = 64 ∧ i = 0)) : ∀ (n : Nat) (h : Hp) (x1 : Int32) (x2 : Int32), (gw_X12_triesRung_62 n h x1 x2).1 t i = h.1 t i := by
  intro n
  induction n with
  | zero => intros; rfl
  | succ n ih =>
    intro h x1 x2
    rw [gw_X12_triesRung_62]
    exact oa_ite (rfl) (oa_ite ((ih _ _ _).trans (hp_i_n c0)) (oa_ite ((ih _ _ _).trans ((hp_i_n c5).trans ((hp_i_n c4).trans ((fr_X12_takes0 c1 c2 c3).trans (hp_i_n c0))))) ((ih _ _ _).trans ((hp_i_n c5).trans ((hp_i_n c4).trans ((fr_X12_takes0 c1 c2 c3).trans (hp_i_n c0)))))))
set_option maxHeartbeats 100000 in
theorem fr_gw_X12_triesRung_2 {t i : Nat}  (c0 : ¬ (t = 12 ∧ i = 0)) (c1 : ¬ (t = 60 ∧ i = 0)) (c2 : ¬ (t = 61 ∧ i = 0)) (c3 : ¬ (t = 62 ∧ i = 0)) (c4 : ¬ (t = 63 ∧ i = 0)) (c5 : ¬ (t = 64 ∧ i = 0)) : ∀ (n : Nat) (h : Hp) (x1 : Int32) (x2 : Int32), (gw_X12_triesRung_2 n h x1 x2).1 t i = h.1 t i := by
  intro n
  induction n with
  | zero => intros; rfl
  | succ n ih =>
    intro h x1 x2
    rw [gw_X12_triesRung_2]
    exact oa_ite ((fr_gw_X12_triesRung_62 c0 c1 c2 c3 c4 c5 _ _ _ _).trans ((hp_i_n c0).trans (hp_i_n c5))) ((ih _ _ _).trans (hp_i_n c2))
set_option maxHeartbeats 100000 in
theorem fr_X12_triesRung {h : Hp} {a1 : Int32} {t i : Nat} (c0 : ¬ (t = 12 ∧ i = 0)) (c1 : ¬ (t = 60 ∧ i = 0)) (c2 : ¬ (t = 61 ∧ i = 0)) (c3 : ¬ (t = 62 ∧ i = 0)) (c4 : ¬ (t = 63 ∧ i = 0)) (c5 : ¬ (t = 64 ∧ i = 0)) : (g_X12_triesRung h a1).1 t i = h.1 t i := by
  unfold g_X12_triesRung
  exact fr_gw_X12_triesRung_2 c0 c1 c2 c3 c4 c5 _ _ _ _
set_option maxHeartbeats 20000 in
theorem gl_gw_X12_coveredOrders_40 : ∀ (n : Nat) (h : Hp) (x1 : Int32) (x2 : Int32) (x3 : Int32), (gw_X12_coveredOrders_40 n h x1 x2 x3).2.1 = h.2.1 := by
  intro n
  induction n with
  | zero => intros; rfl
  | succ n ih =>
    intro h x1 x2 x3
    rw [gw_X12_coveredOrders_40]
    exact oa_iteL (rfl) (oa_iteL ((ih _ _ _ _).trans (gl_X12_isCovered)) ((ih _ _ _ _).trans (gl_X12_isCovered)))
set_option maxHeartbeats 20000 in
theorem gr_gw_X12_coveredOrders_40 : ∀ (n : Nat) (h : Hp) (x1 : Int32) (x2 : Int32) (x3 : Int32), (gw_X12_coveredOrders_40 n h x1 x2 x3).2.2 = h.2.2 := by
  intro n
  induction n with
  | zero => intros; rfl
  | succ n ih =>
    intro h x1 x2 x3
    rw [gw_X12_coveredOrders_40]
    exact oa_iteR (rfl) (oa_iteR ((ih _ _ _ _).trans (gr_X12_isCovered)) ((ih _ _ _ _).trans (gr_X12_isCovered)))
set_option maxHeartbeats 20000 in
theorem gl_gw_X12_coveredOrders_7 : ∀ (n : Nat) (h : Hp) (x1 : Int32), (gw_X12_coveredOrders_7 n h x1).2.1 = h.2.1 := by
  intro n
  induction n with
  | zero => intros; rfl
  | succ n ih =>
    intro h x1
    rw [gw_X12_coveredOrders_7]
    exact oa_iteL (gl_gw_X12_coveredOrders_40  _ _ _ _ _) ((ih _ _).trans (hp_i_21))
set_option maxHeartbeats 20000 in
theorem gr_gw_X12_coveredOrders_7 : ∀ (n : Nat) (h : Hp) (x1 : Int32), (gw_X12_coveredOrders_7 n h x1).2.2 = h.2.2 := by
  intro n
  induction n with
  | zero => intros; rfl
  | succ n ih =>
    intro h x1
    rw [gw_X12_coveredOrders_7]
    exact oa_iteR (gr_gw_X12_coveredOrders_40  _ _ _ _ _) ((ih _ _).trans (hp_i_22))
set_option maxHeartbeats 20000 in
theorem gl_X12_coveredOrders {h : Hp}  : (g_X12_coveredOrders h ).2.1 = h.2.1 := by
  unfold g_X12_coveredOrders
  exact (gl_gw_X12_coveredOrders_7  _ _ _).trans (hp_i_21)
set_option maxHeartbeats 20000 in
theorem gr_X12_coveredOrders {h : Hp}  : (g_X12_coveredOrders h ).2.2 = h.2.2 := by
  unfold g_X12_coveredOrders
  exact (gr_gw_X12_coveredOrders_7  _ _ _).trans (hp_i_22)
set_option maxHeartbeats 100000 in
theorem fr_gw_X12_coveredOrders_40 {t i : Nat}  (c0 : ¬ (t = 12 ∧ i = 0)) (c1 : ¬ (t = 60 ∧ i = 0)) : ∀ (n : Nat) (h : Hp) (x1 : Int32) (x2 : Int32) (x3 : Int32), (gw_X12_coveredOrders_40 n h x1 x2 x3).1 t i = h.1 t i := by
  intro n
  induction n with
  | zero => intros; rfl
  | succ n ih =>
    intro h x1 x2 x3
    rw [gw_X12_coveredOrders_40]
    exact oa_ite (rfl) (oa_ite ((ih _ _ _ _).trans (fr_X12_isCovered c1)) ((ih _ _ _ _).trans (fr_X12_isCovered c1)))
set_option maxHeartbeats 100000 in
theorem fr_gw_X12_coveredOrders_7 {t i : Nat}  (c0 : ¬ (t = 12 ∧ i = 0)) (c1 : ¬ (t = 60 ∧ i = 0)) : ∀ (n : Nat) (h : Hp) (x1 : Int32), (gw_X12_coveredOrders_7 n h x1).1 t i = h.1 t i := by
  intro n
  induction n with
  | zero => intros; rfl
  | succ n ih =>
    intro h x1
    rw [gw_X12_coveredOrders_7]
    exact oa_ite (fr_gw_X12_coveredOrders_40 c0 c1 _ _ _ _ _) ((ih _ _).trans (hp_i_n c1))
set_option maxHeartbeats 100000 in
theorem fr_X12_coveredOrders {h : Hp}  {t i : Nat} (c0 : ¬ (t = 12 ∧ i = 0)) (c1 : ¬ (t = 60 ∧ i = 0)) : (g_X12_coveredOrders h ).1 t i = h.1 t i := by
  unfold g_X12_coveredOrders
  exact (fr_gw_X12_coveredOrders_7 c0 c1 _ _ _).trans (hp_i_n c0)
set_option maxHeartbeats 20000 in
theorem gl_gw_X12_ship_66 : ∀ (n : Nat) (h : Hp) (x1 : Int32) (x2 : Int32) (x3 : Int32), (gw_X12_ship_66 n h x1 x2 x3).2.1 = h.2.1 := by
  intro n
  induction n with
  | zero => intros; rfl
  | succ n ih =>
    intro h x1 x2 x3
    rw [gw_X12_ship_66]
    exact oa_iteL ((gl_X12_logs).trans ((hp_i_21).trans ((hp_i_21).trans ((hp_i_21).trans (hp_i_21))))) ((ih _ _ _ _).trans (hp_i_21))
set_option maxHeartbeats 20000 in
theorem gr_gw_X12_ship_66 : ∀ (n : Nat) (h : Hp) (x1 : Int32) (x2 : Int32) (x3 : Int32), (gw_X12_ship_66 n h x1 x2 x3).2.2 = h.2.2 := by
  intro n
  induction n with
  | zero => intros; rfl
  | succ n ih =>
    intro h x1 x2 x3
    rw [gw_X12_ship_66]
    exact oa_iteR ((gr_X12_logs).trans ((hp_i_22).trans ((hp_i_22).trans ((hp_i_22).trans (hp_i_22))))) ((ih _ _ _ _).trans (hp_i_22))
set_option maxHeartbeats 20000 in
theorem gl_X12_ship {h : Hp} {a1 : Int32} : (g_X12_ship h a1).2.1 = h.2.1 := by
  unfold g_X12_ship
  exact oa_iteL ((gl_X12_noOrder).trans (hp_i_21)) (oa_iteL ((gl_gw_X12_ship_66  _ _ _ _ _).trans ((gl_X12_grows).trans ((gl_X12_holds).trans ((gl_X12_keeps).trans ((gl_X12_throwsIf).trans ((gl_X12_noOrder).trans (hp_i_21))))))) ((gl_X12_throwsIf).trans ((gl_X12_noOrder).trans (hp_i_21))))
set_option maxHeartbeats 20000 in
theorem gr_X12_ship {h : Hp} {a1 : Int32} : (g_X12_ship h a1).2.2 = h.2.2 := by
  unfold g_X12_ship
  exact oa_iteR ((gr_X12_noOrder).trans (hp_i_22)) (oa_iteR ((gr_gw_X12_ship_66  _ _ _ _ _).trans ((gr_X12_grows).trans ((gr_X12_holds).trans ((gr_X12_keeps).trans ((gr_X12_throwsIf).trans ((gr_X12_noOrder).trans (hp_i_22))))))) ((gr_X12_throwsIf).trans ((gr_X12_noOrder).trans (hp_i_22))))
set_option maxHeartbeats 100000 in
theorem fr_gw_X12_ship_66 {t i : Nat}  (c0 : ¬ (t = 12 ∧ i = 0)) (c1 : ¬ (t = 58 ∧ i = 0)) (c2 : ¬ (t = 59 ∧ i = 0)) : ∀ (n : Nat) (h : Hp) (x1 : Int32) (x2 : Int32) (x3 : Int32), (gw_X12_ship_66 n h x1 x2 x3).1 t i = h.1 t i := by
  intro n
  induction n with
  | zero => intros; rfl
  | succ n ih =>
    intro h x1 x2 x3
    rw [gw_X12_ship_66]
    exact oa_ite ((fr_X12_logs c1).trans ((hp_i_n c1).trans ((hp_i_n c1).trans ((hp_i_n c1).trans (hp_i_n c1))))) ((ih _ _ _ _).trans (hp_i_n c1))
set_option maxHeartbeats 100000 in
theorem fr_X12_ship {h : Hp} {a1 : Int32} {t i : Nat} (c0 : ¬ (t = 12 ∧ i = 0)) (c1 : ¬ (t = 58 ∧ i = 0)) (c2 : ¬ (t = 59 ∧ i = 0)) : (g_X12_ship h a1).1 t i = h.1 t i := by
  unfold g_X12_ship
  exact oa_ite ((fr_X12_noOrder c0).trans (hp_i_n c0)) (oa_ite ((fr_gw_X12_ship_66 c0 c1 c2 _ _ _ _ _).trans ((fr_X12_grows c1).trans ((fr_X12_holds c1).trans ((fr_X12_keeps c0 c2).trans ((fr_X12_throwsIf c0).trans ((fr_X12_noOrder c0).trans (hp_i_n c0))))))) ((fr_X12_throwsIf c0).trans ((fr_X12_noOrder c0).trans (hp_i_n c0))))
set_option maxHeartbeats 20000 in
theorem gl_X0_serve {h : Hp} {i1 : Nat} {i2 : Nat} {a3 : Int32} {a4 : Int32} : (g_X0_serve h i1 i2 a3 a4).2.1 = h.2.1 := by
  unfold g_X0_serve
  exact oa_iteL (oa_iteL (rfl) (oa_iteL (rfl) (oa_iteL (rfl) (oa_iteL ((hp_i_21).trans ((hp_i_21).trans ((hp_i_21).trans ((gl_X1_takePieces).trans (gl_X1_takePieces))))) ((hp_i_21).trans ((hp_i_21).trans ((hp_i_21).trans ((gl_X1_takePieces).trans (gl_X1_takePieces))))))))) (oa_iteL (rfl) (oa_iteL (rfl) (oa_iteL (rfl) (oa_iteL (rfl) (oa_iteL ((hp_i_21).trans ((hp_i_21).trans ((hp_i_21).trans ((gl_X1_takePieces).trans (gl_X1_takePieces))))) ((hp_i_21).trans ((hp_i_21).trans ((hp_i_21).trans ((gl_X1_takePieces).trans (gl_X1_takePieces))))))))))
set_option maxHeartbeats 20000 in
theorem gr_X0_serve {h : Hp} {i1 : Nat} {i2 : Nat} {a3 : Int32} {a4 : Int32} : (g_X0_serve h i1 i2 a3 a4).2.2 = h.2.2 := by
  unfold g_X0_serve
  exact oa_iteR (oa_iteR (rfl) (oa_iteR (rfl) (oa_iteR (rfl) (oa_iteR ((hp_i_22).trans ((hp_i_22).trans ((hp_i_22).trans ((gr_X1_takePieces).trans (gr_X1_takePieces))))) ((hp_i_22).trans ((hp_i_22).trans ((hp_i_22).trans ((gr_X1_takePieces).trans (gr_X1_takePieces))))))))) (oa_iteR (rfl) (oa_iteR (rfl) (oa_iteR (rfl) (oa_iteR (rfl) (oa_iteR ((hp_i_22).trans ((hp_i_22).trans ((hp_i_22).trans ((gr_X1_takePieces).trans (gr_X1_takePieces))))) ((hp_i_22).trans ((hp_i_22).trans ((hp_i_22).trans ((gr_X1_takePieces).trans (gr_X1_takePieces))))))))))
set_option maxHeartbeats 100000 in
theorem fr_X0_serve {h : Hp} {i1 : Nat} {i2 : Nat} {a3 : Int32} {a4 : Int32} {t i : Nat} (c0 : ¬ (t = 13 ∧ i = 0)) (c1 : ¬ (t = 14 ∧ i = 0)) (c2 : ¬ (t = 16 ∧ i = 0)) (c3 : ¬ (t = 17 ∧ i = 0)) (c4 : ¬ (t = 18 ∧ i = 0)) : (g_X0_serve h i1 i2 a3 a4).1 t i = h.1 t i := by
  unfold g_X0_serve
  exact oa_ite (oa_ite (rfl) (oa_ite (rfl) (oa_ite (rfl) (oa_ite ((hp_i_n c3).trans ((hp_i_n c4).trans ((hp_i_n c2).trans ((fr_X1_takePieces c0).trans (fr_X1_takePieces c1))))) ((hp_i_n c3).trans ((hp_i_n c4).trans ((hp_i_n c2).trans ((fr_X1_takePieces c0).trans (fr_X1_takePieces c1))))))))) (oa_ite (rfl) (oa_ite (rfl) (oa_ite (rfl) (oa_ite (rfl) (oa_ite ((hp_i_n c3).trans ((hp_i_n c4).trans ((hp_i_n c2).trans ((fr_X1_takePieces c0).trans (fr_X1_takePieces c1))))) ((hp_i_n c3).trans ((hp_i_n c4).trans ((hp_i_n c2).trans ((fr_X1_takePieces c0).trans (fr_X1_takePieces c1))))))))))
set_option maxHeartbeats 20000 in
theorem gl_gw_X1_addLine_24 : ∀ (n : Nat) (h : Hp) (i0 : Nat) (x1 : Int32) (x2 : Int32) (x3 : Int32) (x4 : Int32), (gw_X1_addLine_24 n h i0 x1 x2 x3 x4).2.1 = h.2.1 := by
  intro n
  induction n with
  | zero => intros; rfl
  | succ n ih =>
    intro h i0 x1 x2 x3 x4
    rw [gw_X1_addLine_24]
    exact oa_iteL ((hp_i_21).trans ((hp_i_21).trans ((hp_i_21).trans (hp_i_21)))) ((ih _ _ _ _ _ _).trans (hp_i_21))
set_option maxHeartbeats 20000 in
theorem gr_gw_X1_addLine_24 : ∀ (n : Nat) (h : Hp) (i0 : Nat) (x1 : Int32) (x2 : Int32) (x3 : Int32) (x4 : Int32), (gw_X1_addLine_24 n h i0 x1 x2 x3 x4).2.2 = h.2.2 := by
  intro n
  induction n with
  | zero => intros; rfl
  | succ n ih =>
    intro h i0 x1 x2 x3 x4
    rw [gw_X1_addLine_24]
    exact oa_iteR ((hp_i_22).trans ((hp_i_22).trans ((hp_i_22).trans (hp_i_22)))) ((ih _ _ _ _ _ _).trans (hp_i_22))
set_option maxHeartbeats 20000 in
theorem gl_X1_addLine {h : Hp} {i0 : Nat} {a1 : Int32} {a2 : Int32} : (g_X1_addLine h i0 a1 a2).2.1 = h.2.1 := by
  unfold g_X1_addLine
  exact oa_iteL (rfl) (oa_iteL (gl_gw_X1_addLine_24  _ _ _ _ _ _ _) (rfl))
set_option maxHeartbeats 20000 in
theorem gr_X1_addLine {h : Hp} {i0 : Nat} {a1 : Int32} {a2 : Int32} : (g_X1_addLine h i0 a1 a2).2.2 = h.2.2 := by
  unfold g_X1_addLine
  exact oa_iteR (rfl) (oa_iteR (gr_gw_X1_addLine_24  _ _ _ _ _ _ _) (rfl))
set_option maxHeartbeats 100000 in
theorem fr_gw_X1_addLine_24 {i0 : Nat} {t i : Nat}  (c0 : ¬ (t = 22 ∧ i = i0)) (c1 : ¬ (t = 23 ∧ i = i0)) (c2 : ¬ t = 25) (c3 : ¬ t = 27) (c4 : ¬ t = 29) : ∀ (n : Nat) (h : Hp) (x1 : Int32) (x2 : Int32) (x3 : Int32) (x4 : Int32), (gw_X1_addLine_24 n h i0 x1 x2 x3 x4).1 t i = h.1 t i := by
  intro n
  induction n with
  | zero => intros; rfl
  | succ n ih =>
    intro h x1 x2 x3 x4
    rw [gw_X1_addLine_24]
    exact oa_ite ((hp_i_n c1).trans ((hp_i_n (fun z => c3 z.1)).trans ((hp_i_n (fun z => c2 z.1)).trans (hp_i_n c0)))) ((ih _ _ _ _ _).trans (hp_i_n (fun z => c4 z.1)))
set_option maxHeartbeats 100000 in
theorem fr_X1_addLine {h : Hp} {i0 : Nat} {a1 : Int32} {a2 : Int32} {t i : Nat} (c0 : ¬ (t = 22 ∧ i = i0)) (c1 : ¬ (t = 23 ∧ i = i0)) (c2 : ¬ t = 25) (c3 : ¬ t = 27) (c4 : ¬ t = 29) : (g_X1_addLine h i0 a1 a2).1 t i = h.1 t i := by
  unfold g_X1_addLine
  exact oa_ite (rfl) (oa_ite (fr_gw_X1_addLine_24 c0 c1 c2 c3 c4 _ _ _ _ _ _) (rfl))
set_option maxHeartbeats 20000 in
theorem gl_X2_begin {h : Hp} {a1 : Int64} : (g_X2_begin h a1).2.1 = h.2.1 := by
  unfold g_X2_begin
  exact (gl_X2_putName).trans (hp_i_21)
set_option maxHeartbeats 20000 in
theorem gr_X2_begin {h : Hp} {a1 : Int64} : (g_X2_begin h a1).2.2 = h.2.2 := by
  unfold g_X2_begin
  exact (gr_X2_putName).trans (hp_i_22)
set_option maxHeartbeats 100000 in
theorem fr_X2_begin {h : Hp} {a1 : Int64} {t i : Nat} (c0 : ¬ (t = 2 ∧ i = 0)) (c1 : ¬ (t = 33 ∧ i = 0)) : (g_X2_begin h a1).1 t i = h.1 t i := by
  unfold g_X2_begin
  exact (fr_X2_putName c0 c1).trans (hp_i_n c0)
set_option maxHeartbeats 20000 in
theorem gl_X3_record {h : Hp} {i1 : Nat} : (g_X3_record h i1).2.1 = h.2.1 := by
  unfold g_X3_record
  exact (hp_i_21).trans ((hp_i_21).trans (gl_X5_copyFrom))
set_option maxHeartbeats 20000 in
theorem gr_X3_record {h : Hp} {i1 : Nat} : (g_X3_record h i1).2.2 = h.2.2 := by
  unfold g_X3_record
  exact (hp_i_22).trans ((hp_i_22).trans (gr_X5_copyFrom))
set_option maxHeartbeats 100000 in
theorem fr_X3_record {h : Hp} {i1 : Nat} {t i : Nat} (c0 : ¬ (t = 10 ∧ 2 ≤ i)) (c1 : ¬ (t = 3 ∧ i = 0)) (c2 : ¬ (t = 36 ∧ 2 ≤ i)) (c3 : ¬ (t = 37 ∧ 2 ≤ i)) (c4 : ¬ (t = 38 ∧ 2 ≤ i)) (c5 : ¬ (t = 39 ∧ 2 ≤ i)) (c6 : ¬ (t = 40 ∧ 2 ≤ i)) (c7 : ¬ (t = 41 ∧ 2 ≤ i)) (c8 : ¬ (t = 42 ∧ 2 ≤ i)) (c9 : ¬ (t = 43 ∧ 2 ≤ i)) (c10 : ¬ (t = 44 ∧ 2 ≤ i)) (c11 : ¬ (t = 45 ∧ 2 ≤ i)) (c12 : ¬ (t = 46 ∧ 2 ≤ i)) (c13 : ¬ (t = 47 ∧ 2 ≤ i)) (c14 : ¬ (t = 48 ∧ 2 ≤ i)) (c15 : ¬ (t = 49 ∧ 2 ≤ i)) (c16 : ¬ (t = 50 ∧ 2 ≤ i)) (c17 : ¬ (t = 51 ∧ 2 ≤ i)) (c18 : ¬ (t = 52 ∧ 2 ≤ i)) (c19 : ¬ (t = 6 ∧ 2 ≤ i)) : (g_X3_record h i1).1 t i = h.1 t i := by
  unfold g_X3_record
  exact (hp_i_n c1).trans ((hp_i_n c1).trans (fr_X5_copyFrom (fun z => c0 ⟨z.1, by rw [z.2]; omega⟩) (fun z => c2 ⟨z.1, by rw [z.2]; omega⟩) (fun z => c3 ⟨z.1, by rw [z.2]; omega⟩) (fun z => c4 ⟨z.1, by rw [z.2]; omega⟩) (fun z => c5 ⟨z.1, by rw [z.2]; omega⟩) (fun z => c6 ⟨z.1, by rw [z.2]; omega⟩) (fun z => c7 ⟨z.1, by rw [z.2]; omega⟩) (fun z => c8 ⟨z.1, by rw [z.2]; omega⟩) (fun z => c9 ⟨z.1, by rw [z.2]; omega⟩) (fun z => c10 ⟨z.1, by rw [z.2]; omega⟩) (fun z => c11 ⟨z.1, by rw [z.2]; omega⟩) (fun z => c12 ⟨z.1, by rw [z.2]; omega⟩) (fun z => c13 ⟨z.1, by rw [z.2]; omega⟩) (fun z => c14 ⟨z.1, by rw [z.2]; omega⟩) (fun z => c15 ⟨z.1, by rw [z.2]; omega⟩) (fun z => c16 ⟨z.1, by rw [z.2]; omega⟩) (fun z => c17 ⟨z.1, by rw [z.2]; omega⟩) (fun z => c18 ⟨z.1, by rw [z.2]; omega⟩) (fun z => c19 ⟨z.1, by rw [z.2]; omega⟩)))
set_option maxHeartbeats 20000 in
theorem gl_X3_takeBack {h : Hp} {i1 : Nat} : (g_X3_takeBack h i1).2.1 = h.2.1 := by
  unfold g_X3_takeBack
  exact oa_iteL (rfl) ((hp_i_21).trans ((hp_i_21).trans (gl_X5_copyFrom)))
set_option maxHeartbeats 20000 in
theorem gr_X3_takeBack {h : Hp} {i1 : Nat} : (g_X3_takeBack h i1).2.2 = h.2.2 := by
  unfold g_X3_takeBack
  exact oa_iteR (rfl) ((hp_i_22).trans ((hp_i_22).trans (gr_X5_copyFrom)))
set_option maxHeartbeats 100000 in
theorem fr_X3_takeBack {h : Hp} {i1 : Nat} {t i : Nat} (c0 : ¬ (t = 10 ∧ i = i1)) (c1 : ¬ (t = 3 ∧ i = 0)) (c2 : ¬ (t = 36 ∧ i = i1)) (c3 : ¬ (t = 37 ∧ i = i1)) (c4 : ¬ (t = 38 ∧ i = i1)) (c5 : ¬ (t = 39 ∧ i = i1)) (c6 : ¬ (t = 40 ∧ i = i1)) (c7 : ¬ (t = 41 ∧ i = i1)) (c8 : ¬ (t = 42 ∧ i = i1)) (c9 : ¬ (t = 43 ∧ i = i1)) (c10 : ¬ (t = 44 ∧ i = i1)) (c11 : ¬ (t = 45 ∧ i = i1)) (c12 : ¬ (t = 46 ∧ i = i1)) (c13 : ¬ (t = 47 ∧ i = i1)) (c14 : ¬ (t = 48 ∧ i = i1)) (c15 : ¬ (t = 49 ∧ i = i1)) (c16 : ¬ (t = 50 ∧ i = i1)) (c17 : ¬ (t = 51 ∧ i = i1)) (c18 : ¬ (t = 52 ∧ i = i1)) (c19 : ¬ (t = 6 ∧ i = i1)) : (g_X3_takeBack h i1).1 t i = h.1 t i := by
  unfold g_X3_takeBack
  exact oa_ite (rfl) ((hp_i_n c1).trans ((hp_i_n c1).trans (fr_X5_copyFrom c0 c2 c3 c4 c5 c6 c7 c8 c9 c10 c11 c12 c13 c14 c15 c16 c17 c18 c19)))
set_option maxHeartbeats 20000 in
theorem gl_X5_clear {h : Hp} {i0 : Nat} : (g_X5_clear h i0).2.1 = h.2.1 := by
  unfold g_X5_clear
  exact (gl_X8_clear).trans ((hp_i_21).trans (gl_X10_clear))
set_option maxHeartbeats 20000 in
theorem gr_X5_clear {h : Hp} {i0 : Nat} : (g_X5_clear h i0).2.2 = h.2.2 := by
  unfold g_X5_clear
  exact (gr_X8_clear).trans ((hp_i_22).trans (gr_X10_clear))
set_option maxHeartbeats 100000 in
theorem fr_X5_clear {h : Hp} {i0 : Nat} {t i : Nat} (c0 : ¬ (t = 10 ∧ i = i0)) (c1 : ¬ (t = 44 ∧ i = i0)) (c2 : ¬ (t = 48 ∧ i = i0)) (c3 : ¬ (t = 49 ∧ i = i0)) (c4 : ¬ (t = 6 ∧ i = i0)) : (g_X5_clear h i0).1 t i = h.1 t i := by
  unfold g_X5_clear
  exact (fr_X8_clear c1).trans ((hp_i_n c4).trans (fr_X10_clear c0 c2 c3))
set_option maxHeartbeats 20000 in
theorem gl_gw_X5_changeReserved_22 : ∀ (n : Nat) (h : Hp) (i0 : Nat) (i1 : Nat) (x2 : Int32) (x3 : Int32) (x4 : Int32) (x5 : Int32), (gw_X5_changeReserved_22 n h i0 i1 x2 x3 x4 x5).2.1 = h.2.1 := by
  intro n
  induction n with
  | zero => intros; rfl
  | succ n ih =>
    intro h i0 i1 x2 x3 x4 x5
    rw [gw_X5_changeReserved_22]
    exact oa_iteL (rfl) ((ih _ _ _ _ _ _ _).trans (gl_X10_addReserved))
set_option maxHeartbeats 20000 in
theorem gr_gw_X5_changeReserved_22 : ∀ (n : Nat) (h : Hp) (i0 : Nat) (i1 : Nat) (x2 : Int32) (x3 : Int32) (x4 : Int32) (x5 : Int32), (gw_X5_changeReserved_22 n h i0 i1 x2 x3 x4 x5).2.2 = h.2.2 := by
  intro n
  induction n with
  | zero => intros; rfl
  | succ n ih =>
    intro h i0 i1 x2 x3 x4 x5
    rw [gw_X5_changeReserved_22]
    exact oa_iteR (rfl) ((ih _ _ _ _ _ _ _).trans (gr_X10_addReserved))
set_option maxHeartbeats 20000 in
theorem gl_X5_changeReserved {h : Hp} {i0 : Nat} {i1 : Nat} {a2 : Int32} {a3 : Int32} : (g_X5_changeReserved h i0 i1 a2 a3).2.1 = h.2.1 := by
  unfold g_X5_changeReserved
  exact (gl_gw_X5_changeReserved_22  _ _ _ _ _ _ _ _).trans (gl_X6_addReserved)
set_option maxHeartbeats 20000 in
theorem gr_X5_changeReserved {h : Hp} {i0 : Nat} {i1 : Nat} {a2 : Int32} {a3 : Int32} : (g_X5_changeReserved h i0 i1 a2 a3).2.2 = h.2.2 := by
  unfold g_X5_changeReserved
  exact (gr_gw_X5_changeReserved_22  _ _ _ _ _ _ _ _).trans (gr_X6_addReserved)
set_option maxHeartbeats 100000 in
theorem fr_gw_X5_changeReserved_22 {i0 : Nat} {t i : Nat}  (c0 : ¬ (t = 42 ∧ i = i0)) (c1 : ¬ (t = 49 ∧ i = i0)) : ∀ (n : Nat) (h : Hp) (i1 : Nat) (x2 : Int32) (x3 : Int32) (x4 : Int32) (x5 : Int32), (gw_X5_changeReserved_22 n h i0 i1 x2 x3 x4 x5).1 t i = h.1 t i := by
  intro n
  induction n with
  | zero => intros; rfl
  | succ n ih =>
    intro h i1 x2 x3 x4 x5
    rw [gw_X5_changeReserved_22]
    exact oa_ite (rfl) ((ih _ _ _ _ _ _).trans (fr_X10_addReserved c1))
set_option maxHeartbeats 100000 in
theorem fr_X5_changeReserved {h : Hp} {i0 : Nat} {i1 : Nat} {a2 : Int32} {a3 : Int32} {t i : Nat} (c0 : ¬ (t = 42 ∧ i = i0)) (c1 : ¬ (t = 49 ∧ i = i0)) : (g_X5_changeReserved h i0 i1 a2 a3).1 t i = h.1 t i := by
  unfold g_X5_changeReserved
  exact (fr_gw_X5_changeReserved_22 c0 c1 _ _ _ _ _ _ _).trans (fr_X6_addReserved c0)
set_option maxHeartbeats 20000 in
theorem gl_gw_X5_sendReserved_22 : ∀ (n : Nat) (h : Hp) (i0 : Nat) (i1 : Nat) (x2 : Int32) (x3 : Int32) (x4 : Int32) (x5 : Int32), (gw_X5_sendReserved_22 n h i0 i1 x2 x3 x4 x5).2.1 = h.2.1 := by
  intro n
  induction n with
  | zero => intros; rfl
  | succ n ih =>
    intro h i0 i1 x2 x3 x4 x5
    rw [gw_X5_sendReserved_22]
    exact oa_iteL ((gl_X8_addShipment).trans ((gl_X6_addShipped).trans (gl_X5_changeReserved))) ((ih _ _ _ _ _ _ _).trans (gl_X10_setStock))
set_option maxHeartbeats 20000 in
theorem gr_gw_X5_sendReserved_22 : ∀ (n : Nat) (h : Hp) (i0 : Nat) (i1 : Nat) (x2 : Int32) (x3 : Int32) (x4 : Int32) (x5 : Int32), (gw_X5_sendReserved_22 n h i0 i1 x2 x3 x4 x5).2.2 = h.2.2 := by
  intro n
  induction n with
  | zero => intros; rfl
  | succ n ih =>
    intro h i0 i1 x2 x3 x4 x5
    rw [gw_X5_sendReserved_22]
    exact oa_iteR ((gr_X8_addShipment).trans ((gr_X6_addShipped).trans (gr_X5_changeReserved))) ((ih _ _ _ _ _ _ _).trans (gr_X10_setStock))
set_option maxHeartbeats 20000 in
theorem gl_X5_sendReserved {h : Hp} {i0 : Nat} {i1 : Nat} {a2 : Int32} : (g_X5_sendReserved h i0 i1 a2).2.1 = h.2.1 := by
  unfold g_X5_sendReserved
  exact gl_gw_X5_sendReserved_22  _ _ _ _ _ _ _ _
set_option maxHeartbeats 20000 in
theorem gr_X5_sendReserved {h : Hp} {i0 : Nat} {i1 : Nat} {a2 : Int32} : (g_X5_sendReserved h i0 i1 a2).2.2 = h.2.2 := by
  unfold g_X5_sendReserved
  exact gr_gw_X5_sendReserved_22  _ _ _ _ _ _ _ _
set_option maxHeartbeats 100000 in
theorem fr_gw_X5_sendReserved_22 {i0 : Nat} {t i : Nat}  (c0 : ¬ (t = 42 ∧ i = i0)) (c1 : ¬ (t = 43 ∧ i = i0)) (c2 : ¬ (t = 44 ∧ i = i0)) (c3 : ¬ (t = 45 ∧ i = i0)) (c4 : ¬ (t = 46 ∧ i = i0)) (c5 : ¬ (t = 47 ∧ i = i0)) (c6 : ¬ (t = 48 ∧ i = i0)) (c7 : ¬ (t = 49 ∧ i = i0)) : ∀ (n : Nat) (h : Hp) (i1 : Nat) (x2 : Int32) (x3 : Int32) (x4 : Int32) (x5 : Int32), (gw_X5_sendReserved_22 n h i0 i1 x2 x3 x4 x5).1 t i = h.1 t i := by
  intro n
  induction n with
  | zero => intros; rfl
  | succ n ih =>
    intro h i1 x2 x3 x4 x5
    rw [gw_X5_sendReserved_22]
    exact oa_ite ((fr_X8_addShipment c2 c3 c4 c5).trans ((fr_X6_addShipped c1).trans (fr_X5_changeReserved c0 c7))) ((ih _ _ _ _ _ _).trans (fr_X10_setStock c6))
set_option maxHeartbeats 100000 in
theorem fr_X5_sendReserved {h : Hp} {i0 : Nat} {i1 : Nat} {a2 : Int32} {t i : Nat} (c0 : ¬ (t = 42 ∧ i = i0)) (c1 : ¬ (t = 43 ∧ i = i0)) (c2 : ¬ (t = 44 ∧ i = i0)) (c3 : ¬ (t = 45 ∧ i = i0)) (c4 : ¬ (t = 46 ∧ i = i0)) (c5 : ¬ (t = 47 ∧ i = i0)) (c6 : ¬ (t = 48 ∧ i = i0)) (c7 : ¬ (t = 49 ∧ i = i0)) : (g_X5_sendReserved h i0 i1 a2).1 t i = h.1 t i := by
  unfold g_X5_sendReserved
  exact fr_gw_X5_sendReserved_22 c0 c1 c2 c3 c4 c5 c6 c7 _ _ _ _ _ _ _
set_option maxHeartbeats 20000 in
theorem gl_iw_h_X6_fillTurns_18 : ∀ (n : Nat) (h : Hp) (i0 : Nat) (t1 : Nat) (i1 : Nat) (n1 : Nat) (x2 : Int32) (x3 : Int32), (iw_h_X6_fillTurns_18 n h i0 t1 i1 n1 x2 x3).2.1 = h.2.1 := by
  intro n
  induction n with
  | zero => intros; rfl
  | succ n ih =>
    intro h i0 t1 i1 n1 x2 x3
    rw [iw_h_X6_fillTurns_18]
    exact oa_iteL (rfl) (oa_iteL (rfl) ((ih _ _ _ _ _ _ _).trans (hp_i_21)))
set_option maxHeartbeats 20000 in
theorem gr_iw_h_X6_fillTurns_18 : ∀ (n : Nat) (h : Hp) (i0 : Nat) (t1 : Nat) (i1 : Nat) (n1 : Nat) (x2 : Int32) (x3 : Int32), (iw_h_X6_fillTurns_18 n h i0 t1 i1 n1 x2 x3).2.2 = h.2.2 := by
  intro n
  induction n with
  | zero => intros; rfl
  | succ n ih =>
    intro h i0 t1 i1 n1 x2 x3
    rw [iw_h_X6_fillTurns_18]
    exact oa_iteR (rfl) (oa_iteR (rfl) ((ih _ _ _ _ _ _ _).trans (hp_i_22)))
set_option maxHeartbeats 20000 in
theorem gl_gw_X6_fillTurns_2 : ∀ (n : Nat) (h : Hp) (i0 : Nat) (t1 : Nat) (i1 : Nat) (n1 : Nat) (x2 : Int32), (gw_X6_fillTurns_2 n h i0 t1 i1 n1 x2).2.1 = h.2.1 := by
  intro n
  induction n with
  | zero => intros; rfl
  | succ n ih =>
    intro h i0 t1 i1 n1 x2
    rw [gw_X6_fillTurns_2]
    exact oa_iteL (rfl) (oa_iteL (rfl) ((ih _ _ _ _ _ _).trans ((hp_i_21).trans (gl_iw_h_X6_fillTurns_18  _ _ _ _ _ _ _ _))))
set_option maxHeartbeats 20000 in
theorem gr_gw_X6_fillTurns_2 : ∀ (n : Nat) (h : Hp) (i0 : Nat) (t1 : Nat) (i1 : Nat) (n1 : Nat) (x2 : Int32), (gw_X6_fillTurns_2 n h i0 t1 i1 n1 x2).2.2 = h.2.2 := by
  intro n
  induction n with
  | zero => intros; rfl
  | succ n ih =>
    intro h i0 t1 i1 n1 x2
    rw [gw_X6_fillTurns_2]
    exact oa_iteR (rfl) (oa_iteR (rfl) ((ih _ _ _ _ _ _).trans ((hp_i_22).trans (gr_iw_h_X6_fillTurns_18  _ _ _ _ _ _ _ _))))
set_option maxHeartbeats 20000 in
theorem gl_X6_fillTurns {h : Hp} {i0 : Nat} {t1 : Nat} {i1 : Nat} {n1 : Nat} : (g_X6_fillTurns h i0 t1 i1 n1).2.1 = h.2.1 := by
  unfold g_X6_fillTurns
  exact gl_gw_X6_fillTurns_2  _ _ _ _ _ _ _
set_option maxHeartbeats 20000 in
theorem gr_X6_fillTurns {h : Hp} {i0 : Nat} {t1 : Nat} {i1 : Nat} {n1 : Nat} : (g_X6_fillTurns h i0 t1 i1 n1).2.2 = h.2.2 := by
  unfold g_X6_fillTurns
  exact gr_gw_X6_fillTurns_2  _ _ _ _ _ _ _
set_option maxHeartbeats 100000 in
theorem fr_iw_h_X6_fillTurns_18 {i1 : Nat} {t1 : Nat} {t i : Nat}  (c0 : ¬ (t = t1 ∧ i = i1)) : ∀ (n : Nat) (h : Hp) (i0 : Nat) (n1 : Nat) (x2 : Int32) (x3 : Int32), (iw_h_X6_fillTurns_18 n h i0 t1 i1 n1 x2 x3).1 t i = h.1 t i := by
  intro n
  induction n with
  | zero => intros; rfl
  | succ n ih =>
    intro h i0 n1 x2 x3
    rw [iw_h_X6_fillTurns_18]
    exact oa_ite (rfl) (oa_ite (rfl) ((ih _ _ _ _ _).trans (hp_i_n c0)))
set_option maxHeartbeats 100000 in
theorem fr_gw_X6_fillTurns_2 {i1 : Nat} {t1 : Nat} {t i : Nat}  (c0 : ¬ (t = t1 ∧ i = i1)) : ∀ (n : Nat) (h : Hp) (i0 : Nat) (n1 : Nat) (x2 : Int32), (gw_X6_fillTurns_2 n h i0 t1 i1 n1 x2).1 t i = h.1 t i := by
  intro n
  induction n with
  | zero => intros; rfl
  | succ n ih =>
    intro h i0 n1 x2
    rw [gw_X6_fillTurns_2]
    exact oa_ite (rfl) (oa_ite (rfl) ((ih _ _ _ _).trans ((hp_i_n c0).trans (fr_iw_h_X6_fillTurns_18 c0 _ _ _ _ _ _))))
set_option maxHeartbeats 100000 in
theorem fr_X6_fillTurns {h : Hp} {i0 : Nat} {t1 : Nat} {i1 : Nat} {n1 : Nat} {t i : Nat} (c0 : ¬ (t = t1 ∧ i = i1)) : (g_X6_fillTurns h i0 t1 i1 n1).1 t i = h.1 t i := by
  unfold g_X6_fillTurns
  exact fr_gw_X6_fillTurns_2 c0 _ _ _ _ _
set_option maxHeartbeats 20000 in
theorem gl_X7_readSemicolon {h : Hp}  : (g_X7_readSemicolon h ).2.1 = h.2.1 := by
  unfold g_X7_readSemicolon
  exact oa_iteL (gl_X9_step) (gl_X7_fail)
set_option maxHeartbeats 20000 in
theorem gr_X7_readSemicolon {h : Hp}  : (g_X7_readSemicolon h ).2.2 = h.2.2 := by
  unfold g_X7_readSemicolon
  exact oa_iteR (gr_X9_step) (gr_X7_fail)
set_option maxHeartbeats 100000 in
theorem fr_X7_readSemicolon {h : Hp}  {t i : Nat} (c0 : ¬ (t = 7 ∧ i = 0)) (c1 : ¬ (t = 9 ∧ i = 0)) : (g_X7_readSemicolon h ).1 t i = h.1 t i := by
  unfold g_X7_readSemicolon
  exact oa_ite (fr_X9_step c1) (fr_X7_fail c0)
set_option maxHeartbeats 20000 in
theorem gl_X7_readNumber {h : Hp} {a1 : Int32} {a2 : Int32} : (g_X7_readNumber h a1 a2).2.1 = h.2.1 := by
  unfold g_X7_readNumber
  exact oa_iteL (oa_iteL (gl_X7_fail) (oa_iteL (gl_X9_step) (gl_X7_fail))) (gl_X7_fail)
set_option maxHeartbeats 20000 in
theorem gr_X7_readNumber {h : Hp} {a1 : Int32} {a2 : Int32} : (g_X7_readNumber h a1 a2).2.2 = h.2.2 := by
  unfold g_X7_readNumber
  exact oa_iteR (oa_iteR (gr_X7_fail) (oa_iteR (gr_X9_step) (gr_X7_fail))) (gr_X7_fail)
set_option maxHeartbeats 100000 in
theorem fr_X7_readNumber {h : Hp} {a1 : Int32} {a2 : Int32} {t i : Nat} (c0 : ¬ (t = 7 ∧ i = 0)) (c1 : ¬ (t = 9 ∧ i = 0)) : (g_X7_readNumber h a1 a2).1 t i = h.1 t i := by
  unfold g_X7_readNumber
  exact oa_ite (oa_ite (fr_X7_fail c0) (oa_ite (fr_X9_step c1) (fr_X7_fail c0))) (fr_X7_fail c0)
set_option maxHeartbeats 20000 in
theorem gl_X9_restart {h : Hp}  : (g_X9_restart h ).2.1 = h.2.1 := by
  unfold g_X9_restart
  exact (gl_X9_step).trans (hp_i_21)
set_option maxHeartbeats 20000 in
theorem gr_X9_restart {h : Hp}  : (g_X9_restart h ).2.2 = h.2.2 := by
  unfold g_X9_restart
  exact (gr_X9_step).trans (hp_i_22)
set_option maxHeartbeats 100000 in
theorem fr_X9_restart {h : Hp}  {t i : Nat} (c0 : ¬ (t = 9 ∧ i = 0)) : (g_X9_restart h ).1 t i = h.1 t i := by
  unfold g_X9_restart
  exact (fr_X9_step c0).trans (hp_i_n c0)
set_option maxHeartbeats 20000 in
theorem gl_X11_buildable {h : Hp} {a1 : Int32} : (g_X11_buildable h a1).2.1 = h.2.1 := by
  unfold g_X11_buildable
  exact oa_iteL (gl_X10_fillFree) (rfl)
set_option maxHeartbeats 20000 in
theorem gr_X11_buildable {h : Hp} {a1 : Int32} : (g_X11_buildable h a1).2.2 = h.2.2 := by
  unfold g_X11_buildable
  exact oa_iteR (gr_X10_fillFree) (rfl)
set_option maxHeartbeats 100000 in
theorem fr_X11_buildable {h : Hp} {a1 : Int32} {t i : Nat} (c0 : ¬ (t = 53 ∧ i = 0)) : (g_X11_buildable h a1).1 t i = h.1 t i := by
  unfold g_X11_buildable
  exact oa_ite (fr_X10_fillFree c0) (rfl)
set_option maxHeartbeats 20000 in
theorem gl_X11_bottleneck {h : Hp} {a1 : Int32} : (g_X11_bottleneck h a1).2.1 = h.2.1 := by
  unfold g_X11_bottleneck
  exact oa_iteL (gl_X10_fillFree) (rfl)
set_option maxHeartbeats 20000 in
theorem gr_X11_bottleneck {h : Hp} {a1 : Int32} : (g_X11_bottleneck h a1).2.2 = h.2.2 := by
  unfold g_X11_bottleneck
  exact oa_iteR (gr_X10_fillFree) (rfl)
set_option maxHeartbeats 100000 in
theorem fr_X11_bottleneck {h : Hp} {a1 : Int32} {t i : Nat} (c0 : ¬ (t = 53 ∧ i = 0)) : (g_X11_bottleneck h a1).1 t i = h.1 t i := by
  unfold g_X11_bottleneck
  exact oa_ite (fr_X10_fillFree c0) (rfl)
set_option maxHeartbeats 20000 in
theorem gl_X11_buildableAfter {h : Hp} {a1 : Int32} {a2 : Int32} {a3 : Int32} : (g_X11_buildableAfter h a1 a2 a3).2.1 = h.2.1 := by
  unfold g_X11_buildableAfter
  exact oa_iteL (oa_iteL (oa_iteL (oa_iteL ((gl_X1_takePieces).trans (gl_X10_fillFree)) (gl_X10_fillFree)) (rfl)) (rfl)) (rfl)
set_option maxHeartbeats 20000 in
theorem gr_X11_buildableAfter {h : Hp} {a1 : Int32} {a2 : Int32} {a3 : Int32} : (g_X11_buildableAfter h a1 a2 a3).2.2 = h.2.2 := by
  unfold g_X11_buildableAfter
  exact oa_iteR (oa_iteR (oa_iteR (oa_iteR ((gr_X1_takePieces).trans (gr_X10_fillFree)) (gr_X10_fillFree)) (rfl)) (rfl)) (rfl)
set_option maxHeartbeats 100000 in
theorem fr_X11_buildableAfter {h : Hp} {a1 : Int32} {a2 : Int32} {a3 : Int32} {t i : Nat} (c0 : ¬ (t = 53 ∧ i = 0)) : (g_X11_buildableAfter h a1 a2 a3).1 t i = h.1 t i := by
  unfold g_X11_buildableAfter
  exact oa_ite (oa_ite (oa_ite (oa_ite ((fr_X1_takePieces c0).trans (fr_X10_fillFree c0)) (fr_X10_fillFree c0)) (rfl)) (rfl)) (rfl)
set_option maxHeartbeats 20000 in
theorem gl_X11_addOrder {h : Hp} {a1 : Int32} {a2 : Int32} {a3 : Int32} {a4 : Int32} {a5 : Int32} : (g_X11_addOrder h a1 a2 a3 a4 a5).2.1 = h.2.1 := by
  unfold g_X11_addOrder
  exact oa_iteL (oa_iteL (oa_iteL (oa_iteL (oa_iteL ((gl_X6_enter).trans (gl_X3_record)) (rfl)) (rfl)) (rfl)) (rfl)) (rfl)
set_option maxHeartbeats 20000 in
theorem gr_X11_addOrder {h : Hp} {a1 : Int32} {a2 : Int32} {a3 : Int32} {a4 : Int32} {a5 : Int32} : (g_X11_addOrder h a1 a2 a3 a4 a5).2.2 = h.2.2 := by
  unfold g_X11_addOrder
  exact oa_iteR (oa_iteR (oa_iteR (oa_iteR (oa_iteR ((gr_X6_enter).trans (gr_X3_record)) (rfl)) (rfl)) (rfl)) (rfl)) (rfl)
set_option maxHeartbeats 100000 in
theorem fr_X11_addOrder {h : Hp} {a1 : Int32} {a2 : Int32} {a3 : Int32} {a4 : Int32} {a5 : Int32} {t i : Nat} (c0 : ¬ (t = 10 ∧ 2 ≤ i)) (c1 : ¬ (t = 3 ∧ i = 0)) (c2 : ¬ (t = 36 ∧ i = (h.2.2 11 0 7))) (c3 : ¬ (t = 36 ∧ 2 ≤ i)) (c4 : ¬ (t = 37 ∧ i = (h.2.2 11 0 7))) (c5 : ¬ (t = 37 ∧ 2 ≤ i)) (c6 : ¬ (t = 38 ∧ i = (h.2.2 11 0 7))) (c7 : ¬ (t = 38 ∧ 2 ≤ i)) (c8 : ¬ (t = 39 ∧ i = (h.2.2 11 0 7))) (c9 : ¬ (t = 39 ∧ 2 ≤ i)) (c10 : ¬ (t = 40 ∧ i = (h.2.2 11 0 7))) (c11 : ¬ (t = 40 ∧ 2 ≤ i)) (c12 : ¬ (t = 41 ∧ i = (h.2.2 11 0 7))) (c13 : ¬ (t = 41 ∧ 2 ≤ i)) (c14 : ¬ (t = 42 ∧ i = (h.2.2 11 0 7))) (c15 : ¬ (t = 42 ∧ 2 ≤ i)) (c16 : ¬ (t = 43 ∧ i = (h.2.2 11 0 7))) (c17 : ¬ (t = 43 ∧ 2 ≤ i)) (c18 : ¬ (t = 44 ∧ 2 ≤ i)) (c19 : ¬ (t = 45 ∧ 2 ≤ i)) (c20 : ¬ (t = 46 ∧ 2 ≤ i)) (c21 : ¬ (t = 47 ∧ 2 ≤ i)) (c22 : ¬ (t = 48 ∧ 2 ≤ i)) (c23 : ¬ (t = 49 ∧ 2 ≤ i)) (c24 : ¬ (t = 50 ∧ 2 ≤ i)) (c25 : ¬ (t = 51 ∧ 2 ≤ i)) (c26 : ¬ (t = 52 ∧ 2 ≤ i)) (c27 : ¬ (t = 6 ∧ i = (h.2.2 11 0 7))) (c28 : ¬ (t = 6 ∧ 2 ≤ i)) : (g_X11_addOrder h a1 a2 a3 a4 a5).1 t i = h.1 t i := by
  unfold g_X11_addOrder
  exact oa_ite (oa_ite (oa_ite (oa_ite (oa_ite ((fr_X6_enter (by simpa only [gr_X11_addOrder, gr_X3_record, gr_X6_enter, hp_a_2, hp_i_2, hp_l_22] using c2) (by simpa only [gr_X11_addOrder, gr_X3_record, gr_X6_enter, hp_a_2, hp_i_2, hp_l_22] using c4) (by simpa only [gr_X11_addOrder, gr_X3_record, gr_X6_enter, hp_a_2, hp_i_2, hp_l_22] using c6) (by simpa only [gr_X11_addOrder, gr_X3_record, gr_X6_enter, hp_a_2, hp_i_2, hp_l_22] using c8) (by simpa only [gr_X11_addOrder, gr_X3_record, gr_X6_enter, hp_a_2, hp_i_2, hp_l_22] using c10) (by simpa only [gr_X11_addOrder, gr_X3_record, gr_X6_enter, hp_a_2, hp_i_2, hp_l_22] using c12) (by simpa only [gr_X11_addOrder, gr_X3_record, gr_X6_enter, hp_a_2, hp_i_2, hp_l_22] using c14) (by simpa only [gr_X11_addOrder, gr_X3_record, gr_X6_enter, hp_a_2, hp_i_2, hp_l_22] using c16) (by simpa only [gr_X11_addOrder, gr_X3_record, gr_X6_enter, hp_a_2, hp_i_2, hp_l_22] using c27)).trans (fr_X3_record c0 c1 c3 c5 c7 c9 c11 c13 c15 c17 c18 c19 c20 c21 c22 c23 c24 c25 c26 c28)) (rfl)) (rfl)) (rfl)) (rfl)) (rfl)
set_option maxHeartbeats 20000 in
theorem gl_X11_cancel {h : Hp} {a1 : Int32} : (g_X11_cancel h a1).2.1 = h.2.1 := by
  unfold g_X11_cancel
  exact oa_iteL (oa_iteL ((gl_X6_markCancelled).trans ((gl_X5_changeReserved).trans (gl_X3_record))) (rfl)) (rfl)
set_option maxHeartbeats 20000 in
theorem gr_X11_cancel {h : Hp} {a1 : Int32} : (g_X11_cancel h a1).2.2 = h.2.2 := by
  unfold g_X11_cancel
  exact oa_iteR (oa_iteR ((gr_X6_markCancelled).trans ((gr_X5_changeReserved).trans (gr_X3_record))) (rfl)) (rfl)
set_option maxHeartbeats 100000 in
theorem fr_X11_cancel {h : Hp} {a1 : Int32} {t i : Nat} (c0 : ¬ (t = 10 ∧ 2 ≤ i)) (c1 : ¬ (t = 3 ∧ i = 0)) (c2 : ¬ (t = 36 ∧ 2 ≤ i)) (c3 : ¬ (t = 37 ∧ 2 ≤ i)) (c4 : ¬ (t = 38 ∧ 2 ≤ i)) (c5 : ¬ (t = 39 ∧ 2 ≤ i)) (c6 : ¬ (t = 40 ∧ 2 ≤ i)) (c7 : ¬ (t = 41 ∧ i = (h.2.2 11 0 7))) (c8 : ¬ (t = 41 ∧ 2 ≤ i)) (c9 : ¬ (t = 42 ∧ i = (h.2.2 11 0 7))) (c10 : ¬ (t = 42 ∧ 2 ≤ i)) (c11 : ¬ (t = 43 ∧ 2 ≤ i)) (c12 : ¬ (t = 44 ∧ 2 ≤ i)) (c13 : ¬ (t = 45 ∧ 2 ≤ i)) (c14 : ¬ (t = 46 ∧ 2 ≤ i)) (c15 : ¬ (t = 47 ∧ 2 ≤ i)) (c16 : ¬ (t = 48 ∧ 2 ≤ i)) (c17 : ¬ (t = 49 ∧ i = (h.2.2 11 0 7))) (c18 : ¬ (t = 49 ∧ 2 ≤ i)) (c19 : ¬ (t = 50 ∧ 2 ≤ i)) (c20 : ¬ (t = 51 ∧ 2 ≤ i)) (c21 : ¬ (t = 52 ∧ 2 ≤ i)) (c22 : ¬ (t = 6 ∧ 2 ≤ i)) : (g_X11_cancel h a1).1 t i = h.1 t i := by
  unfold g_X11_cancel
  exact oa_ite (oa_ite ((fr_X6_markCancelled (by simpa only [gr_X11_cancel, gr_X3_record, gr_X5_changeReserved, gr_X6_markCancelled, hp_a_2, hp_i_2, hp_l_22] using c7)).trans ((fr_X5_changeReserved (by simpa only [gr_X11_cancel, gr_X3_record, gr_X5_changeReserved, gr_X6_markCancelled, hp_a_2, hp_i_2, hp_l_22] using c9) (by simpa only [gr_X11_cancel, gr_X3_record, gr_X5_changeReserved, gr_X6_markCancelled, hp_a_2, hp_i_2, hp_l_22] using c17)).trans (fr_X3_record c0 c1 c2 c3 c4 c5 c6 c8 c10 c11 c12 c13 c14 c15 c16 c18 c19 c20 c21 c22))) (rfl)) (rfl)
set_option maxHeartbeats 20000 in
theorem gl_X11_reserve {h : Hp} {a1 : Int32} {a2 : Int32} : (g_X11_reserve h a1 a2).2.1 = h.2.1 := by
  unfold g_X11_reserve
  exact oa_iteL (oa_iteL (oa_iteL (oa_iteL (oa_iteL ((gl_X5_changeReserved).trans ((gl_X3_record).trans (gl_X10_fillFree))) (gl_X10_fillFree)) (rfl)) (oa_iteL (oa_iteL ((gl_X5_changeReserved).trans ((gl_X3_record).trans (gl_X10_fillFree))) (gl_X10_fillFree)) (rfl))) (rfl)) (rfl)
set_option maxHeartbeats 20000 in
theorem gr_X11_reserve {h : Hp} {a1 : Int32} {a2 : Int32} : (g_X11_reserve h a1 a2).2.2 = h.2.2 := by
  unfold g_X11_reserve
  exact oa_iteR (oa_iteR (oa_iteR (oa_iteR (oa_iteR ((gr_X5_changeReserved).trans ((gr_X3_record).trans (gr_X10_fillFree))) (gr_X10_fillFree)) (rfl)) (oa_iteR (oa_iteR ((gr_X5_changeReserved).trans ((gr_X3_record).trans (gr_X10_fillFree))) (gr_X10_fillFree)) (rfl))) (rfl)) (rfl)
set_option maxHeartbeats 100000 in
theorem fr_X11_reserve {h : Hp} {a1 : Int32} {a2 : Int32} {t i : Nat} (c0 : ¬ (t = 10 ∧ 2 ≤ i)) (c1 : ¬ (t = 3 ∧ i = 0)) (c2 : ¬ (t = 36 ∧ 2 ≤ i)) (c3 : ¬ (t = 37 ∧ 2 ≤ i)) (c4 : ¬ (t = 38 ∧ 2 ≤ i)) (c5 : ¬ (t = 39 ∧ 2 ≤ i)) (c6 : ¬ (t = 40 ∧ 2 ≤ i)) (c7 : ¬ (t = 41 ∧ 2 ≤ i)) (c8 : ¬ (t = 42 ∧ i = (h.2.2 11 0 7))) (c9 : ¬ (t = 42 ∧ 2 ≤ i)) (c10 : ¬ (t = 43 ∧ 2 ≤ i)) (c11 : ¬ (t = 44 ∧ 2 ≤ i)) (c12 : ¬ (t = 45 ∧ 2 ≤ i)) (c13 : ¬ (t = 46 ∧ 2 ≤ i)) (c14 : ¬ (t = 47 ∧ 2 ≤ i)) (c15 : ¬ (t = 48 ∧ 2 ≤ i)) (c16 : ¬ (t = 49 ∧ i = (h.2.2 11 0 7))) (c17 : ¬ (t = 49 ∧ 2 ≤ i)) (c18 : ¬ (t = 50 ∧ 2 ≤ i)) (c19 : ¬ (t = 51 ∧ 2 ≤ i)) (c20 : ¬ (t = 52 ∧ 2 ≤ i)) (c21 : ¬ (t = 53 ∧ i = 0)) (c22 : ¬ (t = 6 ∧ 2 ≤ i)) : (g_X11_reserve h a1 a2).1 t i = h.1 t i := by
  unfold g_X11_reserve
  exact oa_ite (oa_ite (oa_ite (oa_ite (oa_ite ((fr_X5_changeReserved (by simpa only [gr_X10_fillFree, gr_X11_reserve, gr_X3_record, gr_X5_changeReserved, hp_a_2, hp_i_2, hp_l_22] using c8) (by simpa only [gr_X10_fillFree, gr_X11_reserve, gr_X3_record, gr_X5_changeReserved, hp_a_2, hp_i_2, hp_l_22] using c16)).trans ((fr_X3_record c0 c1 c2 c3 c4 c5 c6 c7 c9 c10 c11 c12 c13 c14 c15 c17 c18 c19 c20 c22).trans (fr_X10_fillFree c21))) (fr_X10_fillFree c21)) (rfl)) (oa_ite (oa_ite ((fr_X5_changeReserved (by simpa only [gr_X10_fillFree, gr_X11_reserve, gr_X3_record, gr_X5_changeReserved, hp_a_2, hp_i_2, hp_l_22] using c8) (by simpa only [gr_X10_fillFree, gr_X11_reserve, gr_X3_record, gr_X5_changeReserved, hp_a_2, hp_i_2, hp_l_22] using c16)).trans ((fr_X3_record c0 c1 c2 c3 c4 c5 c6 c7 c9 c10 c11 c12 c13 c14 c15 c17 c18 c19 c20 c22).trans (fr_X10_fillFree c21))) (fr_X10_fillFree c21)) (rfl))) (rfl)) (rfl)
set_option maxHeartbeats 20000 in
theorem gl_X11_release {h : Hp} {a1 : Int32} {a2 : Int32} : (g_X11_release h a1 a2).2.1 = h.2.1 := by
  unfold g_X11_release
  exact oa_iteL (oa_iteL (oa_iteL (oa_iteL ((gl_X5_changeReserved).trans (gl_X3_record)) (rfl)) (oa_iteL ((gl_X5_changeReserved).trans (gl_X3_record)) (rfl))) (rfl)) (rfl)
set_option maxHeartbeats 20000 in
theorem gr_X11_release {h : Hp} {a1 : Int32} {a2 : Int32} : (g_X11_release h a1 a2).2.2 = h.2.2 := by
  unfold g_X11_release
  exact oa_iteR (oa_iteR (oa_iteR (oa_iteR ((gr_X5_changeReserved).trans (gr_X3_record)) (rfl)) (oa_iteR ((gr_X5_changeReserved).trans (gr_X3_record)) (rfl))) (rfl)) (rfl)
set_option maxHeartbeats 100000 in
theorem fr_X11_release {h : Hp} {a1 : Int32} {a2 : Int32} {t i : Nat} (c0 : ¬ (t = 10 ∧ 2 ≤ i)) (c1 : ¬ (t = 3 ∧ i = 0)) (c2 : ¬ (t = 36 ∧ 2 ≤ i)) (c3 : ¬ (t = 37 ∧ 2 ≤ i)) (c4 : ¬ (t = 38 ∧ 2 ≤ i)) (c5 : ¬ (t = 39 ∧ 2 ≤ i)) (c6 : ¬ (t = 40 ∧ 2 ≤ i)) (c7 : ¬ (t = 41 ∧ 2 ≤ i)) (c8 : ¬ (t = 42 ∧ i = (h.2.2 11 0 7))) (c9 : ¬ (t = 42 ∧ 2 ≤ i)) (c10 : ¬ (t = 43 ∧ 2 ≤ i)) (c11 : ¬ (t = 44 ∧ 2 ≤ i)) (c12 : ¬ (t = 45 ∧ 2 ≤ i)) (c13 : ¬ (t = 46 ∧ 2 ≤ i)) (c14 : ¬ (t = 47 ∧ 2 ≤ i)) (c15 : ¬ (t = 48 ∧ 2 ≤ i)) (c16 : ¬ (t = 49 ∧ i = (h.2.2 11 0 7))) (c17 : ¬ (t = 49 ∧ 2 ≤ i)) (c18 : ¬ (t = 50 ∧ 2 ≤ i)) (c19 : ¬ (t = 51 ∧ 2 ≤ i)) (c20 : ¬ (t = 52 ∧ 2 ≤ i)) (c21 : ¬ (t = 6 ∧ 2 ≤ i)) : (g_X11_release h a1 a2).1 t i = h.1 t i := by
  unfold g_X11_release
  exact oa_ite (oa_ite (oa_ite (oa_ite ((fr_X5_changeReserved (by simpa only [gr_X11_release, gr_X3_record, gr_X5_changeReserved, hp_a_2, hp_i_2, hp_l_22] using c8) (by simpa only [gr_X11_release, gr_X3_record, gr_X5_changeReserved, hp_a_2, hp_i_2, hp_l_22] using c16)).trans (fr_X3_record c0 c1 c2 c3 c4 c5 c6 c7 c9 c10 c11 c12 c13 c14 c15 c17 c18 c19 c20 c21)) (rfl)) (oa_ite ((fr_X5_changeReserved (by simpa only [gr_X11_release, gr_X3_record, gr_X5_changeReserved, hp_a_2, hp_i_2, hp_l_22] using c8) (by simpa only [gr_X11_release, gr_X3_record, gr_X5_changeReserved, hp_a_2, hp_i_2, hp_l_22] using c16)).trans (fr_X3_record c0 c1 c2 c3 c4 c5 c6 c7 c9 c10 c11 c12 c13 c14 c15 c17 c18 c19 c20 c21)) (rfl))) (rfl)) (rfl)
set_option maxHeartbeats 20000 in
theorem gl_X11_ship {h : Hp} {a1 : Int32} : (g_X11_ship h a1).2.1 = h.2.1 := by
  unfold g_X11_ship
  exact oa_iteL (oa_iteL ((gl_X5_sendReserved).trans (gl_X3_record)) (rfl)) (rfl)
set_option maxHeartbeats 20000 in
theorem gr_X11_ship {h : Hp} {a1 : Int32} : (g_X11_ship h a1).2.2 = h.2.2 := by
  unfold g_X11_ship
  exact oa_iteR (oa_iteR ((gr_X5_sendReserved).trans (gr_X3_record)) (rfl)) (rfl)
set_option maxHeartbeats 100000 in
theorem fr_X11_ship {h : Hp} {a1 : Int32} {t i : Nat} (c0 : ¬ (t = 10 ∧ 2 ≤ i)) (c1 : ¬ (t = 3 ∧ i = 0)) (c2 : ¬ (t = 36 ∧ 2 ≤ i)) (c3 : ¬ (t = 37 ∧ 2 ≤ i)) (c4 : ¬ (t = 38 ∧ 2 ≤ i)) (c5 : ¬ (t = 39 ∧ 2 ≤ i)) (c6 : ¬ (t = 40 ∧ 2 ≤ i)) (c7 : ¬ (t = 41 ∧ 2 ≤ i)) (c8 : ¬ (t = 42 ∧ i = (h.2.2 11 0 7))) (c9 : ¬ (t = 42 ∧ 2 ≤ i)) (c10 : ¬ (t = 43 ∧ i = (h.2.2 11 0 7))) (c11 : ¬ (t = 43 ∧ 2 ≤ i)) (c12 : ¬ (t = 44 ∧ i = (h.2.2 11 0 7))) (c13 : ¬ (t = 44 ∧ 2 ≤ i)) (c14 : ¬ (t = 45 ∧ i = (h.2.2 11 0 7))) (c15 : ¬ (t = 45 ∧ 2 ≤ i)) (c16 : ¬ (t = 46 ∧ i = (h.2.2 11 0 7))) (c17 : ¬ (t = 46 ∧ 2 ≤ i)) (c18 : ¬ (t = 47 ∧ i = (h.2.2 11 0 7))) (c19 : ¬ (t = 47 ∧ 2 ≤ i)) (c20 : ¬ (t = 48 ∧ i = (h.2.2 11 0 7))) (c21 : ¬ (t = 48 ∧ 2 ≤ i)) (c22 : ¬ (t = 49 ∧ i = (h.2.2 11 0 7))) (c23 : ¬ (t = 49 ∧ 2 ≤ i)) (c24 : ¬ (t = 50 ∧ 2 ≤ i)) (c25 : ¬ (t = 51 ∧ 2 ≤ i)) (c26 : ¬ (t = 52 ∧ 2 ≤ i)) (c27 : ¬ (t = 6 ∧ 2 ≤ i)) : (g_X11_ship h a1).1 t i = h.1 t i := by
  unfold g_X11_ship
  exact oa_ite (oa_ite ((fr_X5_sendReserved (by simpa only [gr_X11_ship, gr_X3_record, gr_X5_sendReserved, hp_a_2, hp_i_2, hp_l_22] using c8) (by simpa only [gr_X11_ship, gr_X3_record, gr_X5_sendReserved, hp_a_2, hp_i_2, hp_l_22] using c10) (by simpa only [gr_X11_ship, gr_X3_record, gr_X5_sendReserved, hp_a_2, hp_i_2, hp_l_22] using c12) (by simpa only [gr_X11_ship, gr_X3_record, gr_X5_sendReserved, hp_a_2, hp_i_2, hp_l_22] using c14) (by simpa only [gr_X11_ship, gr_X3_record, gr_X5_sendReserved, hp_a_2, hp_i_2, hp_l_22] using c16) (by simpa only [gr_X11_ship, gr_X3_record, gr_X5_sendReserved, hp_a_2, hp_i_2, hp_l_22] using c18) (by simpa only [gr_X11_ship, gr_X3_record, gr_X5_sendReserved, hp_a_2, hp_i_2, hp_l_22] using c20) (by simpa only [gr_X11_ship, gr_X3_record, gr_X5_sendReserved, hp_a_2, hp_i_2, hp_l_22] using c22)).trans (fr_X3_record c0 c1 c2 c3 c4 c5 c6 c7 c9 c11 c13 c15 c17 c19 c21 c23 c24 c25 c26 c27)) (rfl)) (rfl)
set_option maxHeartbeats 20000 in
theorem gl_X11_buy {h : Hp} {a1 : Int32} {a2 : Int32} : (g_X11_buy h a1 a2).2.1 = h.2.1 := by
  unfold g_X11_buy
  exact oa_iteL (oa_iteL (oa_iteL ((gl_X10_addArrival).trans ((gl_X8_addBought).trans (gl_X3_record))) (rfl)) (rfl)) (rfl)
set_option maxHeartbeats 20000 in
theorem gr_X11_buy {h : Hp} {a1 : Int32} {a2 : Int32} : (g_X11_buy h a1 a2).2.2 = h.2.2 := by
  unfold g_X11_buy
  exact oa_iteR (oa_iteR (oa_iteR ((gr_X10_addArrival).trans ((gr_X8_addBought).trans (gr_X3_record))) (rfl)) (rfl)) (rfl)
set_option maxHeartbeats 100000 in
theorem fr_X11_buy {h : Hp} {a1 : Int32} {a2 : Int32} {t i : Nat} (c0 : ¬ (t = 10 ∧ i = (h.2.2 11 0 7))) (c1 : ¬ (t = 10 ∧ 2 ≤ i)) (c2 : ¬ (t = 3 ∧ i = 0)) (c3 : ¬ (t = 36 ∧ 2 ≤ i)) (c4 : ¬ (t = 37 ∧ 2 ≤ i)) (c5 : ¬ (t = 38 ∧ 2 ≤ i)) (c6 : ¬ (t = 39 ∧ 2 ≤ i)) (c7 : ¬ (t = 40 ∧ 2 ≤ i)) (c8 : ¬ (t = 41 ∧ 2 ≤ i)) (c9 : ¬ (t = 42 ∧ 2 ≤ i)) (c10 : ¬ (t = 43 ∧ 2 ≤ i)) (c11 : ¬ (t = 44 ∧ i = (h.2.2 11 0 7))) (c12 : ¬ (t = 44 ∧ 2 ≤ i)) (c13 : ¬ (t = 45 ∧ 2 ≤ i)) (c14 : ¬ (t = 46 ∧ 2 ≤ i)) (c15 : ¬ (t = 47 ∧ 2 ≤ i)) (c16 : ¬ (t = 48 ∧ 2 ≤ i)) (c17 : ¬ (t = 49 ∧ 2 ≤ i)) (c18 : ¬ (t = 50 ∧ i = (h.2.2 11 0 7))) (c19 : ¬ (t = 50 ∧ 2 ≤ i)) (c20 : ¬ (t = 51 ∧ i = (h.2.2 11 0 7))) (c21 : ¬ (t = 51 ∧ 2 ≤ i)) (c22 : ¬ (t = 52 ∧ i = (h.2.2 11 0 7))) (c23 : ¬ (t = 52 ∧ 2 ≤ i)) (c24 : ¬ (t = 6 ∧ 2 ≤ i)) : (g_X11_buy h a1 a2).1 t i = h.1 t i := by
  unfold g_X11_buy
  exact oa_ite (oa_ite (oa_ite ((fr_X10_addArrival (by simpa only [gr_X10_addArrival, gr_X11_buy, gr_X3_record, gr_X8_addBought, hp_a_2, hp_i_2, hp_l_22] using c0) (by simpa only [gr_X10_addArrival, gr_X11_buy, gr_X3_record, gr_X8_addBought, hp_a_2, hp_i_2, hp_l_22] using c18) (by simpa only [gr_X10_addArrival, gr_X11_buy, gr_X3_record, gr_X8_addBought, hp_a_2, hp_i_2, hp_l_22] using c20) (by simpa only [gr_X10_addArrival, gr_X11_buy, gr_X3_record, gr_X8_addBought, hp_a_2, hp_i_2, hp_l_22] using c22)).trans ((fr_X8_addBought (by simpa only [gr_X10_addArrival, gr_X11_buy, gr_X3_record, gr_X8_addBought, hp_a_2, hp_i_2, hp_l_22] using c11)).trans (fr_X3_record c1 c2 c3 c4 c5 c6 c7 c8 c9 c10 c12 c13 c14 c15 c16 c17 c19 c21 c23 c24))) (rfl)) (rfl)) (rfl)
set_option maxHeartbeats 20000 in
theorem gl_gw_X11_advance_34 : ∀ (n : Nat) (h : Hp) (x1 : Int32) (x2 : Int32) (x3 : Int32), (gw_X11_advance_34 n h x1 x2 x3).2.1 = h.2.1 := by
  intro n
  induction n with
  | zero => intros; rfl
  | succ n ih =>
    intro h x1 x2 x3
    rw [gw_X11_advance_34]
    exact oa_iteL (rfl) ((ih _ _ _ _).trans (gl_X10_passDay))
set_option maxHeartbeats 20000 in
theorem gr_gw_X11_advance_34 : ∀ (n : Nat) (h : Hp) (x1 : Int32) (x2 : Int32) (x3 : Int32), (gw_X11_advance_34 n h x1 x2 x3).2.2 = h.2.2 := by
  intro n
  induction n with
  | zero => intros; rfl
  | succ n ih =>
    intro h x1 x2 x3
    rw [gw_X11_advance_34]
    exact oa_iteR (rfl) ((ih _ _ _ _).trans (gr_X10_passDay))
set_option maxHeartbeats 20000 in
theorem gl_X11_advance {h : Hp} {a1 : Int32} : (g_X11_advance h a1).2.1 = h.2.1 := by
  unfold g_X11_advance
  exact oa_iteL ((gl_gw_X11_advance_34  _ _ _ _ _).trans (gl_X3_record)) (rfl)
set_option maxHeartbeats 20000 in
theorem gr_X11_advance {h : Hp} {a1 : Int32} : (g_X11_advance h a1).2.2 = h.2.2 := by
  unfold g_X11_advance
  exact oa_iteR ((gr_gw_X11_advance_34  _ _ _ _ _).trans (gr_X3_record)) (rfl)
set_option maxHeartbeats 100000 in
theorem fr_gw_X11_advance_34 {t i : Nat} {h0 : Hp}  (c0 : ¬ (t = 10 ∧ i = (h0.2.2 11 0 7))) (c1 : ¬ (t = 10 ∧ 2 ≤ i)) (c2 : ¬ (t = 3 ∧ i = 0)) (c3 : ¬ (t = 36 ∧ 2 ≤ i)) (c4 : ¬ (t = 37 ∧ 2 ≤ i)) (c5 : ¬ (t = 38 ∧ 2 ≤ i)) (c6 : ¬ (t = 39 ∧ 2 ≤ i)) (c7 : ¬ (t = 40 ∧ 2 ≤ i)) (c8 : ¬ (t = 41 ∧ 2 ≤ i)) (c9 : ¬ (t = 42 ∧ 2 ≤ i)) (c10 : ¬ (t = 43 ∧ 2 ≤ i)) (c11 : ¬ (t = 44 ∧ 2 ≤ i)) (c12 : ¬ (t = 45 ∧ 2 ≤ i)) (c13 : ¬ (t = 46 ∧ 2 ≤ i)) (c14 : ¬ (t = 47 ∧ 2 ≤ i)) (c15 : ¬ (t = 48 ∧ i = (h0.2.2 11 0 7))) (c16 : ¬ (t = 48 ∧ 2 ≤ i)) (c17 : ¬ (t = 49 ∧ 2 ≤ i)) (c18 : ¬ (t = 50 ∧ i = (h0.2.2 11 0 7))) (c19 : ¬ (t = 50 ∧ 2 ≤ i)) (c20 : ¬ (t = 51 ∧ i = (h0.2.2 11 0 7))) (c21 : ¬ (t = 51 ∧ 2 ≤ i)) (c22 : ¬ (t = 52 ∧ i = (h0.2.2 11 0 7))) (c23 : ¬ (t = 52 ∧ 2 ≤ i)) (c24 : ¬ (t = 6 ∧ 2 ≤ i)) : ∀ (n : Nat) (h : Hp) (x1 : Int32) (x2 : Int32) (x3 : Int32), h.2.2 = h0.2.2 → (gw_X11_advance_34 n h x1 x2 x3).1 t i = h.1 t i := by
  intro n
  induction n with
  | zero => intros; rfl
  | succ n ih =>
    intro h x1 x2 x3 e
    rw [gw_X11_advance_34]
    exact oa_ite (rfl) ((ih _ _ _ _ (by first | (simp only [gr_X10_passDay, gr_X11_advance, gr_X3_record, gr_gw_X11_advance_34, hp_a_2, hp_i_2, hp_l_22]; done) | (simp only [gr_X10_passDay, gr_X11_advance, gr_X3_record, gr_gw_X11_advance_34, hp_a_2, hp_i_2, hp_l_22]; exact e) | exact e)).trans (fr_X10_passDay (by simpa only [gr_X10_passDay, gr_X11_advance, gr_X3_record, gr_gw_X11_advance_34, hp_a_2, hp_i_2, hp_l_22, e] using c0) (by simpa only [gr_X10_passDay, gr_X11_advance, gr_X3_record, gr_gw_X11_advance_34, hp_a_2, hp_i_2, hp_l_22, e] using c15) (by simpa only [gr_X10_passDay, gr_X11_advance, gr_X3_record, gr_gw_X11_advance_34, hp_a_2, hp_i_2, hp_l_22, e] using c18) (by simpa only [gr_X10_passDay, gr_X11_advance, gr_X3_record, gr_gw_X11_advance_34, hp_a_2, hp_i_2, hp_l_22, e] using c20) (by simpa only [gr_X10_passDay, gr_X11_advance, gr_X3_record, gr_gw_X11_advance_34, hp_a_2, hp_i_2, hp_l_22, e] using c22)))
set_option maxHeartbeats 100000 in
theorem fr_X11_advance {h : Hp} {a1 : Int32} {t i : Nat} (c0 : ¬ (t = 10 ∧ i = (h.2.2 11 0 7))) (c1 : ¬ (t = 10 ∧ 2 ≤ i)) (c2 : ¬ (t = 3 ∧ i = 0)) (c3 : ¬ (t = 36 ∧ 2 ≤ i)) (c4 : ¬ (t = 37 ∧ 2 ≤ i)) (c5 : ¬ (t = 38 ∧ 2 ≤ i)) (c6 : ¬ (t = 39 ∧ 2 ≤ i)) (c7 : ¬ (t = 40 ∧ 2 ≤ i)) (c8 : ¬ (t = 41 ∧ 2 ≤ i)) (c9 : ¬ (t = 42 ∧ 2 ≤ i)) (c10 : ¬ (t = 43 ∧ 2 ≤ i)) (c11 : ¬ (t = 44 ∧ 2 ≤ i)) (c12 : ¬ (t = 45 ∧ 2 ≤ i)) (c13 : ¬ (t = 46 ∧ 2 ≤ i)) (c14 : ¬ (t = 47 ∧ 2 ≤ i)) (c15 : ¬ (t = 48 ∧ i = (h.2.2 11 0 7))) (c16 : ¬ (t = 48 ∧ 2 ≤ i)) (c17 : ¬ (t = 49 ∧ 2 ≤ i)) (c18 : ¬ (t = 50 ∧ i = (h.2.2 11 0 7))) (c19 : ¬ (t = 50 ∧ 2 ≤ i)) (c20 : ¬ (t = 51 ∧ i = (h.2.2 11 0 7))) (c21 : ¬ (t = 51 ∧ 2 ≤ i)) (c22 : ¬ (t = 52 ∧ i = (h.2.2 11 0 7))) (c23 : ¬ (t = 52 ∧ 2 ≤ i)) (c24 : ¬ (t = 6 ∧ 2 ≤ i)) : (g_X11_advance h a1).1 t i = h.1 t i := by
  unfold g_X11_advance
  exact oa_ite ((fr_gw_X11_advance_34 c0 c1 c2 c3 c4 c5 c6 c7 c8 c9 c10 c11 c12 c13 c14 c15 c16 c17 c18 c19 c20 c21 c22 c23 c24 _ _ _ _ _ (by first | (simp only [gr_X10_passDay, gr_X11_advance, gr_X3_record, gr_gw_X11_advance_34, hp_a_2, hp_i_2, hp_l_22]; done) | exact rfl)).trans (fr_X3_record c1 c2 c3 c4 c5 c6 c7 c8 c9 c10 c11 c12 c13 c14 c16 c17 c19 c21 c23 c24)) (rfl)
set_option maxHeartbeats 20000 in
theorem gl_X11_undo {h : Hp}  : (g_X11_undo h ).2.1 = h.2.1 := by
  unfold g_X11_undo
  exact gl_X3_takeBack
set_option maxHeartbeats 20000 in
theorem gr_X11_undo {h : Hp}  : (g_X11_undo h ).2.2 = h.2.2 := by
  unfold g_X11_undo
  exact gr_X3_takeBack
set_option maxHeartbeats 100000 in
theorem fr_X11_undo {h : Hp}  {t i : Nat} (c0 : ¬ (t = 10 ∧ i = (h.2.2 11 0 7))) (c1 : ¬ (t = 3 ∧ i = 0)) (c2 : ¬ (t = 36 ∧ i = (h.2.2 11 0 7))) (c3 : ¬ (t = 37 ∧ i = (h.2.2 11 0 7))) (c4 : ¬ (t = 38 ∧ i = (h.2.2 11 0 7))) (c5 : ¬ (t = 39 ∧ i = (h.2.2 11 0 7))) (c6 : ¬ (t = 40 ∧ i = (h.2.2 11 0 7))) (c7 : ¬ (t = 41 ∧ i = (h.2.2 11 0 7))) (c8 : ¬ (t = 42 ∧ i = (h.2.2 11 0 7))) (c9 : ¬ (t = 43 ∧ i = (h.2.2 11 0 7))) (c10 : ¬ (t = 44 ∧ i = (h.2.2 11 0 7))) (c11 : ¬ (t = 45 ∧ i = (h.2.2 11 0 7))) (c12 : ¬ (t = 46 ∧ i = (h.2.2 11 0 7))) (c13 : ¬ (t = 47 ∧ i = (h.2.2 11 0 7))) (c14 : ¬ (t = 48 ∧ i = (h.2.2 11 0 7))) (c15 : ¬ (t = 49 ∧ i = (h.2.2 11 0 7))) (c16 : ¬ (t = 50 ∧ i = (h.2.2 11 0 7))) (c17 : ¬ (t = 51 ∧ i = (h.2.2 11 0 7))) (c18 : ¬ (t = 52 ∧ i = (h.2.2 11 0 7))) (c19 : ¬ (t = 6 ∧ i = (h.2.2 11 0 7))) : (g_X11_undo h ).1 t i = h.1 t i := by
  unfold g_X11_undo
  exact fr_X3_takeBack (by simpa only [gr_X11_undo, gr_X3_takeBack, hp_a_2, hp_i_2, hp_l_22] using c0) c1 (by simpa only [gr_X11_undo, gr_X3_takeBack, hp_a_2, hp_i_2, hp_l_22] using c2) (by simpa only [gr_X11_undo, gr_X3_takeBack, hp_a_2, hp_i_2, hp_l_22] using c3) (by simpa only [gr_X11_undo, gr_X3_takeBack, hp_a_2, hp_i_2, hp_l_22] using c4) (by simpa only [gr_X11_undo, gr_X3_takeBack, hp_a_2, hp_i_2, hp_l_22] using c5) (by simpa only [gr_X11_undo, gr_X3_takeBack, hp_a_2, hp_i_2, hp_l_22] using c6) (by simpa only [gr_X11_undo, gr_X3_takeBack, hp_a_2, hp_i_2, hp_l_22] using c7) (by simpa only [gr_X11_undo, gr_X3_takeBack, hp_a_2, hp_i_2, hp_l_22] using c8) (by simpa only [gr_X11_undo, gr_X3_takeBack, hp_a_2, hp_i_2, hp_l_22] using c9) (by simpa only [gr_X11_undo, gr_X3_takeBack, hp_a_2, hp_i_2, hp_l_22] using c10) (by simpa only [gr_X11_undo, gr_X3_takeBack, hp_a_2, hp_i_2, hp_l_22] using c11) (by simpa only [gr_X11_undo, gr_X3_takeBack, hp_a_2, hp_i_2, hp_l_22] using c12) (by simpa only [gr_X11_undo, gr_X3_takeBack, hp_a_2, hp_i_2, hp_l_22] using c13) (by simpa only [gr_X11_undo, gr_X3_takeBack, hp_a_2, hp_i_2, hp_l_22] using c14) (by simpa only [gr_X11_undo, gr_X3_takeBack, hp_a_2, hp_i_2, hp_l_22] using c15) (by simpa only [gr_X11_undo, gr_X3_takeBack, hp_a_2, hp_i_2, hp_l_22] using c16) (by simpa only [gr_X11_undo, gr_X3_takeBack, hp_a_2, hp_i_2, hp_l_22] using c17) (by simpa only [gr_X11_undo, gr_X3_takeBack, hp_a_2, hp_i_2, hp_l_22] using c18) (by simpa only [gr_X11_undo, gr_X3_takeBack, hp_a_2, hp_i_2, hp_l_22] using c19)
set_option maxHeartbeats 20000 in
theorem gl_gw_X11_formatNeeds_32 : ∀ (n : Nat) (h : Hp) (x1 : Int32) (x2 : Int32), (gw_X11_formatNeeds_32 n h x1 x2).2.1 = h.2.1 := by
  intro n
  induction n with
  | zero => intros; rfl
  | succ n ih =>
    intro h x1 x2
    rw [gw_X11_formatNeeds_32]
    exact oa_iteL (rfl) (oa_iteL (ih _ _ _) ((ih _ _ _).trans ((gl_X2_putName).trans (gl_X2_putNumbered))))
set_option maxHeartbeats 20000 in
theorem gr_gw_X11_formatNeeds_32 : ∀ (n : Nat) (h : Hp) (x1 : Int32) (x2 : Int32), (gw_X11_formatNeeds_32 n h x1 x2).2.2 = h.2.2 := by
  intro n
  induction n with
  | zero => intros; rfl
  | succ n ih =>
    intro h x1 x2
    rw [gw_X11_formatNeeds_32]
    exact oa_iteR (rfl) (oa_iteR (ih _ _ _) ((ih _ _ _).trans ((gr_X2_putName).trans (gr_X2_putNumbered))))
set_option maxHeartbeats 20000 in
theorem gl_X11_formatNeeds {h : Hp} {a1 : Int32} : (g_X11_formatNeeds h a1).2.1 = h.2.1 := by
  unfold g_X11_formatNeeds
  exact oa_iteL ((gl_gw_X11_formatNeeds_32  _ _ _ _).trans ((gl_X2_putText).trans (gl_X2_begin))) (rfl)
set_option maxHeartbeats 20000 in
theorem gr_X11_formatNeeds {h : Hp} {a1 : Int32} : (g_X11_formatNeeds h a1).2.2 = h.2.2 := by
  unfold g_X11_formatNeeds
  exact oa_iteR ((gr_gw_X11_formatNeeds_32  _ _ _ _).trans ((gr_X2_putText).trans (gr_X2_begin))) (rfl)
set_option maxHeartbeats 100000 in
theorem fr_gw_X11_formatNeeds_32 {t i : Nat}  (c0 : ¬ (t = 2 ∧ i = 0)) (c1 : ¬ (t = 33 ∧ i = 0)) : ∀ (n : Nat) (h : Hp) (x1 : Int32) (x2 : Int32), (gw_X11_formatNeeds_32 n h x1 x2).1 t i = h.1 t i := by
  intro n
  induction n with
  | zero => intros; rfl
  | succ n ih =>
    intro h x1 x2
    rw [gw_X11_formatNeeds_32]
    exact oa_ite (rfl) (oa_ite (ih _ _ _) ((ih _ _ _).trans ((fr_X2_putName c0 c1).trans (fr_X2_putNumbered c0 c1))))
set_option maxHeartbeats 100000 in
theorem fr_X11_formatNeeds {h : Hp} {a1 : Int32} {t i : Nat} (c0 : ¬ (t = 2 ∧ i = 0)) (c1 : ¬ (t = 33 ∧ i = 0)) : (g_X11_formatNeeds h a1).1 t i = h.1 t i := by
  unfold g_X11_formatNeeds
  exact oa_ite ((fr_gw_X11_formatNeeds_32 c0 c1 _ _ _ _).trans ((fr_X2_putText c0 c1).trans (fr_X2_begin c0 c1))) (rfl)
set_option maxHeartbeats 20000 in
theorem gl_gw_X12_triesAll_55 : ∀ (n : Nat) (h : Hp) (x1 : Int32), (gw_X12_triesAll_55 n h x1).2.1 = h.2.1 := by
  intro n
  induction n with
  | zero => intros; rfl
  | succ n ih =>
    intro h x1
    rw [gw_X12_triesAll_55]
    exact oa_iteL (rfl) ((ih _ _).trans (gl_X12_triesRung))
set_option maxHeartbeats 20000 in
theorem gr_gw_X12_triesAll_55 : ∀ (n : Nat) (h : Hp) (x1 : Int32), (gw_X12_triesAll_55 n h x1).2.2 = h.2.2 := by
  intro n
  induction n with
  | zero => intros; rfl
  | succ n ih =>
    intro h x1
    rw [gw_X12_triesAll_55]
    exact oa_iteR (rfl) ((ih _ _).trans (gr_X12_triesRung))
set_option maxHeartbeats 20000 in
theorem gl_gw_X12_triesAll_27 : ∀ (n : Nat) (h : Hp) (x1 : Int32), (gw_X12_triesAll_27 n h x1).2.1 = h.2.1 := by
  intro n
  induction n with
  | zero => intros; rfl
  | succ n ih =>
    intro h x1
    rw [gw_X12_triesAll_27]
    exact oa_iteL (gl_gw_X12_triesAll_55  _ _ _) ((ih _ _).trans ((hp_i_21).trans (hp_i_21)))
set_option maxHeartbeats 20000 in
theorem gr_gw_X12_triesAll_27 : ∀ (n : Nat) (h : Hp) (x1 : Int32), (gw_X12_triesAll_27 n h x1).2.2 = h.2.2 := by
  intro n
  induction n with
  | zero => intros; rfl
  | succ n ih =>
    intro h x1
    rw [gw_X12_triesAll_27]
    exact oa_iteR (gr_gw_X12_triesAll_55  _ _ _) ((ih _ _).trans ((hp_i_22).trans (hp_i_22)))
set_option maxHeartbeats 20000 in
theorem gl_gw_X12_triesAll_2 : ∀ (n : Nat) (h : Hp) (x1 : Int32), (gw_X12_triesAll_2 n h x1).2.1 = h.2.1 := by
  intro n
  induction n with
  | zero => intros; rfl
  | succ n ih =>
    intro h x1
    rw [gw_X12_triesAll_2]
    exact oa_iteL (gl_gw_X12_triesAll_27  _ _ _) ((ih _ _).trans (hp_i_21))
set_option maxHeartbeats 20000 in
theorem gr_gw_X12_triesAll_2 : ∀ (n : Nat) (h : Hp) (x1 : Int32), (gw_X12_triesAll_2 n h x1).2.2 = h.2.2 := by
  intro n
  induction n with
  | zero => intros; rfl
  | succ n ih =>
    intro h x1
    rw [gw_X12_triesAll_2]
    exact oa_iteR (gr_gw_X12_triesAll_27  _ _ _) ((ih _ _).trans (hp_i_22))
set_option maxHeartbeats 20000 in
theorem gl_X12_triesAll {h : Hp}  : (g_X12_triesAll h ).2.1 = h.2.1 := by
  unfold g_X12_triesAll
  exact gl_gw_X12_triesAll_2  _ _ _
set_option maxHeartbeats 20000 in
theorem gr_X12_triesAll {h : Hp}  : (g_X12_triesAll h ).2.2 = h.2.2 := by
  unfold g_X12_triesAll
  exact gr_gw_X12_triesAll_2  _ _ _
set_option maxHeartbeats 100000 in
theorem fr_gw_X12_triesAll_55 {t i : Nat}  (c0 : ¬ (t = 12 ∧ i = 0)) (c1 : ¬ (t = 60 ∧ i = 0)) (c2 : ¬ (t = 61 ∧ i = 0)) (c3 : ¬ (t = 62 ∧ i = 0)) (c4 : ¬ (t = 63 ∧ i = 0)) (c5 : ¬ (t = 64 ∧ i = 0)) : ∀ (n : Nat) (h : Hp) (x1 : Int32), (gw_X12_triesAll_55 n h x1).1 t i = h.1 t i := by
  intro n
  induction n with
  | zero => intros; rfl
  | succ n ih =>
    intro h x1
    rw [gw_X12_triesAll_55]
    exact oa_ite (rfl) ((ih _ _).trans (fr_X12_triesRung c0 c1 c2 c3 c4 c5))
set_option maxHeartbeats 100000 in
theorem fr_gw_X12_triesAll_27 {t i : Nat}  (c0 : ¬ (t = 12 ∧ i = 0)) (c1 : ¬ (t = 60 ∧ i = 0)) (c2 : ¬ (t = 61 ∧ i = 0)) (c3 : ¬ (t = 62 ∧ i = 0)) (c4 : ¬ (t = 63 ∧ i = 0)) (c5 : ¬ (t = 64 ∧ i = 0)) : ∀ (n : Nat) (h : Hp) (x1 : Int32), (gw_X12_triesAll_27 n h x1).1 t i = h.1 t i := by
  intro n
  induction n with
  | zero => intros; rfl
  | succ n ih =>
    intro h x1
    rw [gw_X12_triesAll_27]
    exact oa_ite (fr_gw_X12_triesAll_55 c0 c1 c2 c3 c4 c5 _ _ _) ((ih _ _).trans ((hp_i_n c4).trans (hp_i_n c3)))
set_option maxHeartbeats 100000 in
theorem fr_gw_X12_triesAll_2 {t i : Nat}  (c0 : ¬ (t = 12 ∧ i = 0)) (c1 : ¬ (t = 60 ∧ i = 0)) (c2 : ¬ (t = 61 ∧ i = 0)) (c3 : ¬ (t = 62 ∧ i = 0)) (c4 : ¬ (t = 63 ∧ i = 0)) (c5 : ¬ (t = 64 ∧ i = 0)) : ∀ (n : Nat) (h : Hp) (x1 : Int32), (gw_X12_triesAll_2 n h x1).1 t i = h.1 t i := by
  intro n
  induction n with
  | zero => intros; rfl
  | succ n ih =>
    intro h x1
    rw [gw_X12_triesAll_2]
    exact oa_ite (fr_gw_X12_triesAll_27 c0 c1 c2 c3 c4 c5 _ _ _) ((ih _ _).trans (hp_i_n c1))
set_option maxHeartbeats 100000 in
theorem fr_X12_triesAll {h : Hp}  {t i : Nat} (c0 : ¬ (t = 12 ∧ i = 0)) (c1 : ¬ (t = 60 ∧ i = 0)) (c2 : ¬ (t = 61 ∧ i = 0)) (c3 : ¬ (t = 62 ∧ i = 0)) (c4 : ¬ (t = 63 ∧ i = 0)) (c5 : ¬ (t = 64 ∧ i = 0)) : (g_X12_triesAll h ).1 t i = h.1 t i := by
  unfold g_X12_triesAll
  exact fr_gw_X12_triesAll_2 c0 c1 c2 c3 c4 c5 _ _ _
set_option maxHeartbeats 20000 in
theorem gl_X12_wouldGet {h : Hp} {a1 : Int32} : (g_X12_wouldGet h a1).2.1 = h.2.1 := by
  unfold g_X12_wouldGet
  exact oa_iteL ((gl_X12_triesAll).trans ((gl_X12_noOrder).trans (hp_i_21))) ((gl_X12_noOrder).trans (hp_i_21))
set_option maxHeartbeats 20000 in
theorem gr_X12_wouldGet {h : Hp} {a1 : Int32} : (g_X12_wouldGet h a1).2.2 = h.2.2 := by
  unfold g_X12_wouldGet
  exact oa_iteR ((gr_X12_triesAll).trans ((gr_X12_noOrder).trans (hp_i_22))) ((gr_X12_noOrder).trans (hp_i_22))
set_option maxHeartbeats 100000 in
theorem fr_X12_wouldGet {h : Hp} {a1 : Int32} {t i : Nat} (c0 : ¬ (t = 12 ∧ i = 0)) (c1 : ¬ (t = 60 ∧ i = 0)) (c2 : ¬ (t = 61 ∧ i = 0)) (c3 : ¬ (t = 62 ∧ i = 0)) (c4 : ¬ (t = 63 ∧ i = 0)) (c5 : ¬ (t = 64 ∧ i = 0)) : (g_X12_wouldGet h a1).1 t i = h.1 t i := by
  unfold g_X12_wouldGet
  exact oa_ite ((fr_X12_triesAll c0 c1 c2 c3 c4 c5).trans ((fr_X12_noOrder c0).trans (hp_i_n c0))) ((fr_X12_noOrder c0).trans (hp_i_n c0))
set_option maxHeartbeats 20000 in
theorem gl_X12_rungOf {h : Hp} {a1 : Int32} : (g_X12_rungOf h a1).2.1 = h.2.1 := by
  unfold g_X12_rungOf
  exact oa_iteL ((gl_X12_triesAll).trans ((gl_X12_noOrder).trans (hp_i_21))) ((gl_X12_noOrder).trans (hp_i_21))
set_option maxHeartbeats 20000 in
theorem gr_X12_rungOf {h : Hp} {a1 : Int32} : (g_X12_rungOf h a1).2.2 = h.2.2 := by
  unfold g_X12_rungOf
  exact oa_iteR ((gr_X12_triesAll).trans ((gr_X12_noOrder).trans (hp_i_22))) ((gr_X12_noOrder).trans (hp_i_22))
set_option maxHeartbeats 100000 in
theorem fr_X12_rungOf {h : Hp} {a1 : Int32} {t i : Nat} (c0 : ¬ (t = 12 ∧ i = 0)) (c1 : ¬ (t = 60 ∧ i = 0)) (c2 : ¬ (t = 61 ∧ i = 0)) (c3 : ¬ (t = 62 ∧ i = 0)) (c4 : ¬ (t = 63 ∧ i = 0)) (c5 : ¬ (t = 64 ∧ i = 0)) : (g_X12_rungOf h a1).1 t i = h.1 t i := by
  unfold g_X12_rungOf
  exact oa_ite ((fr_X12_triesAll c0 c1 c2 c3 c4 c5).trans ((fr_X12_noOrder c0).trans (hp_i_n c0))) ((fr_X12_noOrder c0).trans (hp_i_n c0))
set_option maxHeartbeats 20000 in
theorem gl_X12_rungUnits {h : Hp} {a1 : Int32} : (g_X12_rungUnits h a1).2.1 = h.2.1 := by
  unfold g_X12_rungUnits
  exact oa_iteL ((gl_X12_triesAll).trans ((gl_X12_throwsIf).trans (hp_i_21))) ((gl_X12_throwsIf).trans (hp_i_21))
set_option maxHeartbeats 20000 in
theorem gr_X12_rungUnits {h : Hp} {a1 : Int32} : (g_X12_rungUnits h a1).2.2 = h.2.2 := by
  unfold g_X12_rungUnits
  exact oa_iteR ((gr_X12_triesAll).trans ((gr_X12_throwsIf).trans (hp_i_22))) ((gr_X12_throwsIf).trans (hp_i_22))
set_option maxHeartbeats 100000 in
theorem fr_X12_rungUnits {h : Hp} {a1 : Int32} {t i : Nat} (c0 : ¬ (t = 12 ∧ i = 0)) (c1 : ¬ (t = 60 ∧ i = 0)) (c2 : ¬ (t = 61 ∧ i = 0)) (c3 : ¬ (t = 62 ∧ i = 0)) (c4 : ¬ (t = 63 ∧ i = 0)) (c5 : ¬ (t = 64 ∧ i = 0)) : (g_X12_rungUnits h a1).1 t i = h.1 t i := by
  unfold g_X12_rungUnits
  exact oa_ite ((fr_X12_triesAll c0 c1 c2 c3 c4 c5).trans ((fr_X12_throwsIf c0).trans (hp_i_n c0))) ((fr_X12_throwsIf c0).trans (hp_i_n c0))
set_option maxHeartbeats 20000 in
theorem gl_gw_X12_allocate_17 : ∀ (n : Nat) (h : Hp) (x1 : Int32) (x2 : Int32), (gw_X12_allocate_17 n h x1 x2).2.1 = h.2.1 := by
  intro n
  induction n with
  | zero => intros; rfl
  | succ n ih =>
    intro h x1 x2
    rw [gw_X12_allocate_17]
    exact oa_iteL (rfl) ((ih _ _ _).trans (gl_X12_holds))
set_option maxHeartbeats 20000 in
theorem gr_gw_X12_allocate_17 : ∀ (n : Nat) (h : Hp) (x1 : Int32) (x2 : Int32), (gw_X12_allocate_17 n h x1 x2).2.2 = h.2.2 := by
  intro n
  induction n with
  | zero => intros; rfl
  | succ n ih =>
    intro h x1 x2
    rw [gw_X12_allocate_17]
    exact oa_iteR (rfl) ((ih _ _ _).trans (gr_X12_holds))
set_option maxHeartbeats 20000 in
theorem gl_X12_allocate {h : Hp}  : (g_X12_allocate h ).2.1 = h.2.1 := by
  unfold g_X12_allocate
  exact (gl_gw_X12_allocate_17  _ _ _ _).trans ((gl_X12_triesAll).trans ((gl_X12_keeps).trans (hp_i_21)))
set_option maxHeartbeats 20000 in
theorem gr_X12_allocate {h : Hp}  : (g_X12_allocate h ).2.2 = h.2.2 := by
  unfold g_X12_allocate
  exact (gr_gw_X12_allocate_17  _ _ _ _).trans ((gr_X12_triesAll).trans ((gr_X12_keeps).trans (hp_i_22)))
set_option maxHeartbeats 100000 in
theorem fr_gw_X12_allocate_17 {t i : Nat}  (c0 : ¬ (t = 12 ∧ i = 0)) (c1 : ¬ (t = 58 ∧ i = 0)) (c2 : ¬ (t = 59 ∧ i = 0)) (c3 : ¬ (t = 60 ∧ i = 0)) (c4 : ¬ (t = 61 ∧ i = 0)) (c5 : ¬ (t = 62 ∧ i = 0)) (c6 : ¬ (t = 63 ∧ i = 0)) (c7 : ¬ (t = 64 ∧ i = 0)) : ∀ (n : Nat) (h : Hp) (x1 : Int32) (x2 : Int32), (gw_X12_allocate_17 n h x1 x2).1 t i = h.1 t i := by
  intro n
  induction n with
  | zero => intros; rfl
  | succ n ih =>
    intro h x1 x2
    rw [gw_X12_allocate_17]
    exact oa_ite (rfl) ((ih _ _ _).trans (fr_X12_holds c1))
set_option maxHeartbeats 100000 in
theorem fr_X12_allocate {h : Hp}  {t i : Nat} (c0 : ¬ (t = 12 ∧ i = 0)) (c1 : ¬ (t = 58 ∧ i = 0)) (c2 : ¬ (t = 59 ∧ i = 0)) (c3 : ¬ (t = 60 ∧ i = 0)) (c4 : ¬ (t = 61 ∧ i = 0)) (c5 : ¬ (t = 62 ∧ i = 0)) (c6 : ¬ (t = 63 ∧ i = 0)) (c7 : ¬ (t = 64 ∧ i = 0)) : (g_X12_allocate h ).1 t i = h.1 t i := by
  unfold g_X12_allocate
  exact (fr_gw_X12_allocate_17 c0 c1 c2 c3 c4 c5 c6 c7 _ _ _ _).trans ((fr_X12_triesAll c0 c3 c4 c5 c6 c7).trans ((fr_X12_keeps c0 c2).trans (hp_i_n c0)))
set_option maxHeartbeats 20000 in
theorem gl_X0_begin {h : Hp} {i1 : Nat} : (g_X0_begin h i1).2.1 = h.2.1 := by
  unfold g_X0_begin
  exact (gl_J7_fill_53178).trans ((gl_J7_fill_53178).trans ((gl_J7_fill_53178).trans ((gl_X6_fillTurns).trans (gl_X10_fillFree))))
set_option maxHeartbeats 20000 in
theorem gr_X0_begin {h : Hp} {i1 : Nat} : (g_X0_begin h i1).2.2 = h.2.2 := by
  unfold g_X0_begin
  exact (gr_J7_fill_53178).trans ((gr_J7_fill_53178).trans ((gr_J7_fill_53178).trans ((gr_X6_fillTurns).trans (gr_X10_fillFree))))
set_option maxHeartbeats 100000 in
theorem fr_X0_begin {h : Hp} {i1 : Nat} {t i : Nat} (c0 : ¬ (t = 13 ∧ i = 0)) (c1 : ¬ (t = 15 ∧ i = 0)) (c2 : ¬ (t = 16 ∧ i = 0)) (c3 : ¬ (t = 17 ∧ i = 0)) (c4 : ¬ (t = 18 ∧ i = 0)) : (g_X0_begin h i1).1 t i = h.1 t i := by
  unfold g_X0_begin
  exact (fr_J7_fill_53178 c4).trans ((fr_J7_fill_53178 c3).trans ((fr_J7_fill_53178 c2).trans ((fr_X6_fillTurns c1).trans (fr_X10_fillFree c0))))
set_option maxHeartbeats 20000 in
theorem gl_gw_X0_coveredSet_10 : ∀ (n : Nat) (h : Hp) (i1 : Nat) (i2 : Nat) (x3 : Int32) (x4 : Int32), (gw_X0_coveredSet_10 n h i1 i2 x3 x4).2.1 = h.2.1 := by
  intro n
  induction n with
  | zero => intros; rfl
  | succ n ih =>
    intro h i1 i2 x3 x4
    rw [gw_X0_coveredSet_10]
    exact oa_iteL (rfl) (oa_iteL (rfl) (oa_iteL (ih _ _ _ _ _) (oa_iteL (ih _ _ _ _ _) ((ih _ _ _ _ _).trans (gl_X1_takePieces)))))
set_option maxHeartbeats 20000 in
theorem gr_gw_X0_coveredSet_10 : ∀ (n : Nat) (h : Hp) (i1 : Nat) (i2 : Nat) (x3 : Int32) (x4 : Int32), (gw_X0_coveredSet_10 n h i1 i2 x3 x4).2.2 = h.2.2 := by
  intro n
  induction n with
  | zero => intros; rfl
  | succ n ih =>
    intro h i1 i2 x3 x4
    rw [gw_X0_coveredSet_10]
    exact oa_iteR (rfl) (oa_iteR (rfl) (oa_iteR (ih _ _ _ _ _) (oa_iteR (ih _ _ _ _ _) ((ih _ _ _ _ _).trans (gr_X1_takePieces)))))
set_option maxHeartbeats 20000 in
theorem gl_X0_coveredSet {h : Hp} {i1 : Nat} {i2 : Nat} : (g_X0_coveredSet h i1 i2).2.1 = h.2.1 := by
  unfold g_X0_coveredSet
  exact (gl_gw_X0_coveredSet_10  _ _ _ _ _ _).trans (gl_X0_begin)
set_option maxHeartbeats 20000 in
theorem gr_X0_coveredSet {h : Hp} {i1 : Nat} {i2 : Nat} : (g_X0_coveredSet h i1 i2).2.2 = h.2.2 := by
  unfold g_X0_coveredSet
  exact (gr_gw_X0_coveredSet_10  _ _ _ _ _ _).trans (gr_X0_begin)
set_option maxHeartbeats 100000 in
theorem fr_gw_X0_coveredSet_10 {t i : Nat}  (c0 : ¬ (t = 13 ∧ i = 0)) (c1 : ¬ (t = 15 ∧ i = 0)) (c2 : ¬ (t = 16 ∧ i = 0)) (c3 : ¬ (t = 17 ∧ i = 0)) (c4 : ¬ (t = 18 ∧ i = 0)) : ∀ (n : Nat) (h : Hp) (i1 : Nat) (i2 : Nat) (x3 : Int32) (x4 : Int32), (gw_X0_coveredSet_10 n h i1 i2 x3 x4).1 t i = h.1 t i := by
  intro n
  induction n with
  | zero => intros; rfl
  | succ n ih =>
    intro h i1 i2 x3 x4
    rw [gw_X0_coveredSet_10]
    exact oa_ite (rfl) (oa_ite (rfl) (oa_ite (ih _ _ _ _ _) (oa_ite (ih _ _ _ _ _) ((ih _ _ _ _ _).trans (fr_X1_takePieces c0)))))
set_option maxHeartbeats 100000 in
theorem fr_X0_coveredSet {h : Hp} {i1 : Nat} {i2 : Nat} {t i : Nat} (c0 : ¬ (t = 13 ∧ i = 0)) (c1 : ¬ (t = 15 ∧ i = 0)) (c2 : ¬ (t = 16 ∧ i = 0)) (c3 : ¬ (t = 17 ∧ i = 0)) (c4 : ¬ (t = 18 ∧ i = 0)) : (g_X0_coveredSet h i1 i2).1 t i = h.1 t i := by
  unfold g_X0_coveredSet
  exact (fr_gw_X0_coveredSet_10 c0 c1 c2 c3 c4 _ _ _ _ _ _).trans (fr_X0_begin c0 c1 c2 c3 c4)
set_option maxHeartbeats 20000 in
theorem gl_gw_X5_releaseExcess_5 : ∀ (n : Nat) (h : Hp) (i0 : Nat) (i1 : Nat) (x2 : Int32) (x3 : Int32) (x4 : Int32), (gw_X5_releaseExcess_5 n h i0 i1 x2 x3 x4).2.1 = h.2.1 := by
  intro n
  induction n with
  | zero => intros; rfl
  | succ n ih =>
    intro h i0 i1 x2 x3 x4
    rw [gw_X5_releaseExcess_5]
    exact oa_iteL (rfl) (oa_iteL (rfl) (oa_iteL (oa_iteL ((ih _ _ _ _ _ _).trans (gl_X5_changeReserved)) ((ih _ _ _ _ _ _).trans (gl_X5_changeReserved))) (rfl)))
set_option maxHeartbeats 20000 in
theorem gr_gw_X5_releaseExcess_5 : ∀ (n : Nat) (h : Hp) (i0 : Nat) (i1 : Nat) (x2 : Int32) (x3 : Int32) (x4 : Int32), (gw_X5_releaseExcess_5 n h i0 i1 x2 x3 x4).2.2 = h.2.2 := by
  intro n
  induction n with
  | zero => intros; rfl
  | succ n ih =>
    intro h i0 i1 x2 x3 x4
    rw [gw_X5_releaseExcess_5]
    exact oa_iteR (rfl) (oa_iteR (rfl) (oa_iteR (oa_iteR ((ih _ _ _ _ _ _).trans (gr_X5_changeReserved)) ((ih _ _ _ _ _ _).trans (gr_X5_changeReserved))) (rfl)))
set_option maxHeartbeats 20000 in
theorem gl_X5_releaseExcess {h : Hp} {i0 : Nat} {i1 : Nat} {a2 : Int32} : (g_X5_releaseExcess h i0 i1 a2).2.1 = h.2.1 := by
  unfold g_X5_releaseExcess
  exact gl_gw_X5_releaseExcess_5  _ _ _ _ _ _ _
set_option maxHeartbeats 20000 in
theorem gr_X5_releaseExcess {h : Hp} {i0 : Nat} {i1 : Nat} {a2 : Int32} : (g_X5_releaseExcess h i0 i1 a2).2.2 = h.2.2 := by
  unfold g_X5_releaseExcess
  exact gr_gw_X5_releaseExcess_5  _ _ _ _ _ _ _
set_option maxHeartbeats 100000 in
theorem fr_gw_X5_releaseExcess_5 {i0 : Nat} {t i : Nat}  (c0 : ¬ (t = 42 ∧ i = i0)) (c1 : ¬ (t = 49 ∧ i = i0)) : ∀ (n : Nat) (h : Hp) (i1 : Nat) (x2 : Int32) (x3 : Int32) (x4 : Int32), (gw_X5_releaseExcess_5 n h i0 i1 x2 x3 x4).1 t i = h.1 t i := by
  intro n
  induction n with
  | zero => intros; rfl
  | succ n ih =>
    intro h i1 x2 x3 x4
    rw [gw_X5_releaseExcess_5]
    exact oa_ite (rfl) (oa_ite (rfl) (oa_ite (oa_ite ((ih _ _ _ _ _).trans (fr_X5_changeReserved c0 c1)) ((ih _ _ _ _ _).trans (fr_X5_changeReserved c0 c1))) (rfl)))
set_option maxHeartbeats 100000 in
theorem fr_X5_releaseExcess {h : Hp} {i0 : Nat} {i1 : Nat} {a2 : Int32} {t i : Nat} (c0 : ¬ (t = 42 ∧ i = i0)) (c1 : ¬ (t = 49 ∧ i = i0)) : (g_X5_releaseExcess h i0 i1 a2).1 t i = h.1 t i := by
  unfold g_X5_releaseExcess
  exact fr_gw_X5_releaseExcess_5 c0 c1 _ _ _ _ _ _
set_option maxHeartbeats 20000 in
theorem gl_X7_begin {h : Hp}  : (g_X7_begin h ).2.1 = h.2.1 := by
  unfold g_X7_begin
  exact (gl_X9_restart).trans ((hp_i_21).trans ((hp_i_21).trans ((gl_X5_clear).trans (gl_X1_clear))))
set_option maxHeartbeats 20000 in
theorem gr_X7_begin {h : Hp}  : (g_X7_begin h ).2.2 = h.2.2 := by
  unfold g_X7_begin
  exact (gr_X9_restart).trans ((hp_i_22).trans ((hp_i_22).trans ((gr_X5_clear).trans (gr_X1_clear))))
set_option maxHeartbeats 100000 in
theorem fr_X7_begin {h : Hp}  {t i : Nat} (c0 : ¬ (t = 1 ∧ i = (h.2.2 7 0 3))) (c1 : ¬ (t = 10 ∧ i = (h.2.2 7 0 4))) (c2 : ¬ (t = 44 ∧ i = (h.2.2 7 0 4))) (c3 : ¬ (t = 48 ∧ i = (h.2.2 7 0 4))) (c4 : ¬ (t = 49 ∧ i = (h.2.2 7 0 4))) (c5 : ¬ (t = 6 ∧ i = (h.2.2 7 0 4))) (c6 : ¬ (t = 7 ∧ i = 0)) (c7 : ¬ (t = 9 ∧ i = 0)) : (g_X7_begin h ).1 t i = h.1 t i := by
  unfold g_X7_begin
  exact (fr_X9_restart c7).trans ((hp_i_n c6).trans ((hp_i_n c6).trans ((fr_X5_clear (by simpa only [gr_X1_clear, gr_X5_clear, gr_X7_begin, gr_X9_restart, hp_a_2, hp_i_2, hp_l_22] using c1) (by simpa only [gr_X1_clear, gr_X5_clear, gr_X7_begin, gr_X9_restart, hp_a_2, hp_i_2, hp_l_22] using c2) (by simpa only [gr_X1_clear, gr_X5_clear, gr_X7_begin, gr_X9_restart, hp_a_2, hp_i_2, hp_l_22] using c3) (by simpa only [gr_X1_clear, gr_X5_clear, gr_X7_begin, gr_X9_restart, hp_a_2, hp_i_2, hp_l_22] using c4) (by simpa only [gr_X1_clear, gr_X5_clear, gr_X7_begin, gr_X9_restart, hp_a_2, hp_i_2, hp_l_22] using c5)).trans (fr_X1_clear (by simpa only [gr_X1_clear, gr_X5_clear, gr_X7_begin, gr_X9_restart, hp_a_2, hp_i_2, hp_l_22] using c0)))))
set_option maxHeartbeats 20000 in
theorem gr_X7_readPart {h : Hp}  : (g_X7_readPart h ).2.2 = h.2.2 := by
  unfold g_X7_readPart
  exact oa_iteR (oa_iteR (oa_iteR ((gr_X7_readSemicolon).trans ((gr_X1_addPart).trans ((gr_X10_setStock).trans ((gr_X7_readNumber).trans ((gr_X7_readNumber).trans ((gr_X9_step).trans ((gr_X7_isNewName).trans (gr_X9_step)))))))) ((gr_X7_readNumber).trans ((gr_X7_readNumber).trans ((gr_X9_step).trans ((gr_X7_isNewName).trans (gr_X9_step)))))) ((gr_X7_readNumber).trans ((gr_X9_step).trans ((gr_X7_isNewName).trans (gr_X9_step))))) ((gr_X7_isNewName).trans (gr_X9_step))
set_option maxHeartbeats 100000 in
theorem fr_X7_readPart {h : Hp}  {t i : Nat} (c0 : ¬ (t = 1 ∧ i = (h.2.2 7 0 3))) (c1 : ¬ (t = 20 ∧ i = (h.2.2 7 0 3))) (c2 : ¬ (t = 48 ∧ i = (h.2.2 7 0 4))) (c3 : ¬ (t = 7 ∧ i = 0)) (c4 : ¬ (t = 9 ∧ i = 0)) : (g_X7_readPart h ).1 t i = h.1 t i := by
  unfold g_X7_readPart
  exact oa_ite (oa_ite (oa_ite ((fr_X7_readSemicolon c3 c4).trans ((fr_X1_addPart (by simpa only [gr_X10_setStock, gr_X1_addPart, gr_X7_isNewName, gr_X7_readNumber, gr_X7_readPart, gr_X7_readSemicolon, gr_X9_step, hp_a_2, hp_i_2, hp_l_22] using c0) (by simpa only [gr_X10_setStock, gr_X1_addPart, gr_X7_isNewName, gr_X7_readNumber, gr_X7_readPart, gr_X7_readSemicolon, gr_X9_step, hp_a_2, hp_i_2, hp_l_22] using c1)).trans ((fr_X10_setStock (by simpa only [gr_X10_setStock, gr_X1_addPart, gr_X7_isNewName, gr_X7_readNumber, gr_X7_readPart, gr_X7_readSemicolon, gr_X9_step, hp_a_2, hp_i_2, hp_l_22] using c2)).trans ((fr_X7_readNumber c3 c4).trans ((fr_X7_readNumber c3 c4).trans ((fr_X9_step c4).trans ((fr_X7_isNewName c3).trans (fr_X9_step c4)))))))) ((fr_X7_readNumber c3 c4).trans ((fr_X7_readNumber c3 c4).trans ((fr_X9_step c4).trans ((fr_X7_isNewName c3).trans (fr_X9_step c4)))))) ((fr_X7_readNumber c3 c4).trans ((fr_X9_step c4).trans ((fr_X7_isNewName c3).trans (fr_X9_step c4))))) ((fr_X7_isNewName c3).trans (fr_X9_step c4))
set_option maxHeartbeats 20000 in
theorem gl_X7_readBillLine {h : Hp}  : (g_X7_readBillLine h ).2.1 = h.2.1 := by
  unfold g_X7_readBillLine
  exact oa_iteL (oa_iteL (oa_iteL (oa_iteL ((gl_X7_fail).trans (gl_X7_readNumber)) (oa_iteL (oa_iteL ((gl_X9_step).trans ((gl_X1_addLine).trans (gl_X7_readNumber))) ((gl_X7_fail).trans (gl_X7_readNumber))) ((gl_X7_fail).trans (gl_X7_readNumber)))) ((gl_X7_fail).trans (gl_X7_readNumber))) (gl_X7_readNumber)) (oa_iteL (oa_iteL (oa_iteL (oa_iteL ((gl_X7_fail).trans (gl_X7_readNumber)) (oa_iteL (oa_iteL ((gl_X9_step).trans ((gl_X1_addLine).trans (gl_X7_readNumber))) ((gl_X7_fail).trans (gl_X7_readNumber))) ((gl_X7_fail).trans (gl_X7_readNumber)))) ((gl_X7_fail).trans (gl_X7_readNumber))) (gl_X7_readNumber)) (gl_X7_fail))
set_option maxHeartbeats 20000 in
theorem gr_X7_readBillLine {h : Hp}  : (g_X7_readBillLine h ).2.2 = h.2.2 := by
  unfold g_X7_readBillLine
  exact oa_iteR (oa_iteR (oa_iteR (oa_iteR ((gr_X7_fail).trans (gr_X7_readNumber)) (oa_iteR (oa_iteR ((gr_X9_step).trans ((gr_X1_addLine).trans (gr_X7_readNumber))) ((gr_X7_fail).trans (gr_X7_readNumber))) ((gr_X7_fail).trans (gr_X7_readNumber)))) ((gr_X7_fail).trans (gr_X7_readNumber))) (gr_X7_readNumber)) (oa_iteR (oa_iteR (oa_iteR (oa_iteR ((gr_X7_fail).trans (gr_X7_readNumber)) (oa_iteR (oa_iteR ((gr_X9_step).trans ((gr_X1_addLine).trans (gr_X7_readNumber))) ((gr_X7_fail).trans (gr_X7_readNumber))) ((gr_X7_fail).trans (gr_X7_readNumber)))) ((gr_X7_fail).trans (gr_X7_readNumber))) (gr_X7_readNumber)) (gr_X7_fail))
set_option maxHeartbeats 100000 in
theorem fr_X7_readBillLine {h : Hp}  {t i : Nat} (c0 : ¬ (t = 22 ∧ i = (h.2.2 7 0 3))) (c1 : ¬ (t = 23 ∧ i = (h.2.2 7 0 3))) (c2 : ¬ t = 25) (c3 : ¬ t = 27) (c4 : ¬ t = 29) (c5 : ¬ (t = 7 ∧ i = 0)) (c6 : ¬ (t = 9 ∧ i = 0)) : (g_X7_readBillLine h ).1 t i = h.1 t i := by
  unfold g_X7_readBillLine
  exact oa_ite (oa_ite (oa_ite (oa_ite ((fr_X7_fail c5).trans (fr_X7_readNumber c5 c6)) (oa_ite (oa_ite ((fr_X9_step c6).trans ((fr_X1_addLine (by simpa only [gr_X1_addLine, gr_X7_fail, gr_X7_readBillLine, gr_X7_readNumber, gr_X9_step, hp_a_2, hp_i_2, hp_l_22] using c0) (by simpa only [gr_X1_addLine, gr_X7_fail, gr_X7_readBillLine, gr_X7_readNumber, gr_X9_step, hp_a_2, hp_i_2, hp_l_22] using c1) c2 c3 c4).trans (fr_X7_readNumber c5 c6))) ((fr_X7_fail c5).trans (fr_X7_readNumber c5 c6))) ((fr_X7_fail c5).trans (fr_X7_readNumber c5 c6)))) ((fr_X7_fail c5).trans (fr_X7_readNumber c5 c6))) (fr_X7_readNumber c5 c6)) (oa_ite (oa_ite (oa_ite (oa_ite ((fr_X7_fail c5).trans (fr_X7_readNumber c5 c6)) (oa_ite (oa_ite ((fr_X9_step c6).trans ((fr_X1_addLine (by simpa only [gr_X1_addLine, gr_X7_fail, gr_X7_readBillLine, gr_X7_readNumber, gr_X9_step, hp_a_2, hp_i_2, hp_l_22] using c0) (by simpa only [gr_X1_addLine, gr_X7_fail, gr_X7_readBillLine, gr_X7_readNumber, gr_X9_step, hp_a_2, hp_i_2, hp_l_22] using c1) c2 c3 c4).trans (fr_X7_readNumber c5 c6))) ((fr_X7_fail c5).trans (fr_X7_readNumber c5 c6))) ((fr_X7_fail c5).trans (fr_X7_readNumber c5 c6)))) ((fr_X7_fail c5).trans (fr_X7_readNumber c5 c6))) (fr_X7_readNumber c5 c6)) (fr_X7_fail c5))
set_option maxHeartbeats 20000 in
theorem gl_X7_readRung {h : Hp}  : (g_X7_readRung h ).2.1 = h.2.1 := by
  unfold g_X7_readRung
  exact oa_iteL (oa_iteL (oa_iteL ((gl_X7_readSemicolon).trans ((gl_X1_addRung).trans ((gl_X7_readNumber).trans ((gl_X7_readNumber).trans ((gl_X7_readNumber).trans (gl_X9_step)))))) ((gl_X7_readNumber).trans ((gl_X7_readNumber).trans ((gl_X7_readNumber).trans (gl_X9_step))))) ((gl_X7_readNumber).trans ((gl_X7_readNumber).trans (gl_X9_step)))) ((gl_X7_readNumber).trans (gl_X9_step))
set_option maxHeartbeats 20000 in
theorem gr_X7_readRung {h : Hp}  : (g_X7_readRung h ).2.2 = h.2.2 := by
  unfold g_X7_readRung
  exact oa_iteR (oa_iteR (oa_iteR ((gr_X7_readSemicolon).trans ((gr_X1_addRung).trans ((gr_X7_readNumber).trans ((gr_X7_readNumber).trans ((gr_X7_readNumber).trans (gr_X9_step)))))) ((gr_X7_readNumber).trans ((gr_X7_readNumber).trans ((gr_X7_readNumber).trans (gr_X9_step))))) ((gr_X7_readNumber).trans ((gr_X7_readNumber).trans (gr_X9_step)))) ((gr_X7_readNumber).trans (gr_X9_step))
set_option maxHeartbeats 100000 in
theorem fr_X7_readRung {h : Hp}  {t i : Nat} (c0 : ¬ (t = 1 ∧ i = (h.2.2 7 0 3))) (c1 : ¬ (t = 30 ∧ i = (h.2.2 7 0 3))) (c2 : ¬ (t = 31 ∧ i = (h.2.2 7 0 3))) (c3 : ¬ (t = 32 ∧ i = (h.2.2 7 0 3))) (c4 : ¬ (t = 7 ∧ i = 0)) (c5 : ¬ (t = 9 ∧ i = 0)) : (g_X7_readRung h ).1 t i = h.1 t i := by
  unfold g_X7_readRung
  exact oa_ite (oa_ite (oa_ite ((fr_X7_readSemicolon c4 c5).trans ((fr_X1_addRung (by simpa only [gr_X1_addRung, gr_X7_readNumber, gr_X7_readRung, gr_X7_readSemicolon, gr_X9_step, hp_a_2, hp_i_2, hp_l_22] using c0) (by simpa only [gr_X1_addRung, gr_X7_readNumber, gr_X7_readRung, gr_X7_readSemicolon, gr_X9_step, hp_a_2, hp_i_2, hp_l_22] using c1) (by simpa only [gr_X1_addRung, gr_X7_readNumber, gr_X7_readRung, gr_X7_readSemicolon, gr_X9_step, hp_a_2, hp_i_2, hp_l_22] using c2) (by simpa only [gr_X1_addRung, gr_X7_readNumber, gr_X7_readRung, gr_X7_readSemicolon, gr_X9_step, hp_a_2, hp_i_2, hp_l_22] using c3)).trans ((fr_X7_readNumber c4 c5).trans ((fr_X7_readNumber c4 c5).trans ((fr_X7_readNumber c4 c5).trans (fr_X9_step c5)))))) ((fr_X7_readNumber c4 c5).trans ((fr_X7_readNumber c4 c5).trans ((fr_X7_readNumber c4 c5).trans (fr_X9_step c5))))) ((fr_X7_readNumber c4 c5).trans ((fr_X7_readNumber c4 c5).trans (fr_X9_step c5)))) ((fr_X7_readNumber c4 c5).trans (fr_X9_step c5))
set_option maxHeartbeats 20000 in
theorem gl_X7_readOrder {h : Hp}  : (g_X7_readOrder h ).2.1 = h.2.1 := by
  unfold g_X7_readOrder
  exact oa_iteL (oa_iteL (oa_iteL (oa_iteL (oa_iteL (oa_iteL ((gl_X7_readSemicolon).trans ((gl_X6_enter).trans ((gl_X7_readNumber).trans ((gl_X7_readNumber).trans ((gl_X7_readNumber).trans ((gl_X9_step).trans (gl_X9_step))))))) ((gl_X7_readSemicolon).trans ((gl_X6_enter).trans ((gl_X9_step).trans ((gl_X7_readNumber).trans ((gl_X7_readNumber).trans ((gl_X7_readNumber).trans ((gl_X9_step).trans (gl_X9_step))))))))) ((gl_X7_readNumber).trans ((gl_X7_readNumber).trans ((gl_X7_readNumber).trans ((gl_X9_step).trans (gl_X9_step)))))) ((gl_X7_readNumber).trans ((gl_X7_readNumber).trans ((gl_X9_step).trans (gl_X9_step))))) ((gl_X7_readNumber).trans ((gl_X9_step).trans (gl_X9_step)))) ((gl_X7_fail).trans (gl_X9_step))) ((gl_X7_fail).trans (gl_X9_step))
set_option maxHeartbeats 20000 in
theorem gr_X7_readOrder {h : Hp}  : (g_X7_readOrder h ).2.2 = h.2.2 := by
  unfold g_X7_readOrder
  exact oa_iteR (oa_iteR (oa_iteR (oa_iteR (oa_iteR (oa_iteR ((gr_X7_readSemicolon).trans ((gr_X6_enter).trans ((gr_X7_readNumber).trans ((gr_X7_readNumber).trans ((gr_X7_readNumber).trans ((gr_X9_step).trans (gr_X9_step))))))) ((gr_X7_readSemicolon).trans ((gr_X6_enter).trans ((gr_X9_step).trans ((gr_X7_readNumber).trans ((gr_X7_readNumber).trans ((gr_X7_readNumber).trans ((gr_X9_step).trans (gr_X9_step))))))))) ((gr_X7_readNumber).trans ((gr_X7_readNumber).trans ((gr_X7_readNumber).trans ((gr_X9_step).trans (gr_X9_step)))))) ((gr_X7_readNumber).trans ((gr_X7_readNumber).trans ((gr_X9_step).trans (gr_X9_step))))) ((gr_X7_readNumber).trans ((gr_X9_step).trans (gr_X9_step)))) ((gr_X7_fail).trans (gr_X9_step))) ((gr_X7_fail).trans (gr_X9_step))
set_option maxHeartbeats 100000 in
theorem fr_X7_readOrder {h : Hp}  {t i : Nat} (c0 : ¬ (t = 36 ∧ i = (h.2.2 7 0 4))) (c1 : ¬ (t = 37 ∧ i = (h.2.2 7 0 4))) (c2 : ¬ (t = 38 ∧ i = (h.2.2 7 0 4))) (c3 : ¬ (t = 39 ∧ i = (h.2.2 7 0 4))) (c4 : ¬ (t = 40 ∧ i = (h.2.2 7 0 4))) (c5 : ¬ (t = 41 ∧ i = (h.2.2 7 0 4))) (c6 : ¬ (t = 42 ∧ i = (h.2.2 7 0 4))) (c7 : ¬ (t = 43 ∧ i = (h.2.2 7 0 4))) (c8 : ¬ (t = 6 ∧ i = (h.2.2 7 0 4))) (c9 : ¬ (t = 7 ∧ i = 0)) (c10 : ¬ (t = 9 ∧ i = 0)) : (g_X7_readOrder h ).1 t i = h.1 t i := by
  unfold g_X7_readOrder
  exact oa_ite (oa_ite (oa_ite (oa_ite (oa_ite (oa_ite ((fr_X7_readSemicolon c9 c10).trans ((fr_X6_enter (by simpa only [gr_X6_enter, gr_X7_fail, gr_X7_readNumber, gr_X7_readOrder, gr_X7_readSemicolon, gr_X9_step, hp_a_2, hp_i_2, hp_l_22] using c0) (by simpa only [gr_X6_enter, gr_X7_fail, gr_X7_readNumber, gr_X7_readOrder, gr_X7_readSemicolon, gr_X9_step, hp_a_2, hp_i_2, hp_l_22] using c1) (by simpa only [gr_X6_enter, gr_X7_fail, gr_X7_readNumber, gr_X7_readOrder, gr_X7_readSemicolon, gr_X9_step, hp_a_2, hp_i_2, hp_l_22] using c2) (by simpa only [gr_X6_enter, gr_X7_fail, gr_X7_readNumber, gr_X7_readOrder, gr_X7_readSemicolon, gr_X9_step, hp_a_2, hp_i_2, hp_l_22] using c3) (by simpa only [gr_X6_enter, gr_X7_fail, gr_X7_readNumber, gr_X7_readOrder, gr_X7_readSemicolon, gr_X9_step, hp_a_2, hp_i_2, hp_l_22] using c4) (by simpa only [gr_X6_enter, gr_X7_fail, gr_X7_readNumber, gr_X7_readOrder, gr_X7_readSemicolon, gr_X9_step, hp_a_2, hp_i_2, hp_l_22] using c5) (by simpa only [gr_X6_enter, gr_X7_fail, gr_X7_readNumber, gr_X7_readOrder, gr_X7_readSemicolon, gr_X9_step, hp_a_2, hp_i_2, hp_l_22] using c6) (by simpa only [gr_X6_enter, gr_X7_fail, gr_X7_readNumber, gr_X7_readOrder, gr_X7_readSemicolon, gr_X9_step, hp_a_2, hp_i_2, hp_l_22] using c7) (by simpa only [gr_X6_enter, gr_X7_fail, gr_X7_readNumber, gr_X7_readOrder, gr_X7_readSemicolon, gr_X9_step, hp_a_2, hp_i_2, hp_l_22] using c8)).trans ((fr_X7_readNumber c9 c10).trans ((fr_X7_readNumber c9 c10).trans ((fr_X7_readNumber c9 c10).trans ((fr_X9_step c10).trans (fr_X9_step c10))))))) ((fr_X7_readSemicolon c9 c10).trans ((fr_X6_enter (by simpa only [gr_X6_enter, gr_X7_fail, gr_X7_readNumber, gr_X7_readOrder, gr_X7_readSemicolon, gr_X9_step, hp_a_2, hp_i_2, hp_l_22] using c0) (by simpa only [gr_X6_enter, gr_X7_fail, gr_X7_readNumber, gr_X7_readOrder, gr_X7_readSemicolon, gr_X9_step, hp_a_2, hp_i_2, hp_l_22] using c1) (by simpa only [gr_X6_enter, gr_X7_fail, gr_X7_readNumber, gr_X7_readOrder, gr_X7_readSemicolon, gr_X9_step, hp_a_2, hp_i_2, hp_l_22] using c2) (by simpa only [gr_X6_enter, gr_X7_fail, gr_X7_readNumber, gr_X7_readOrder, gr_X7_readSemicolon, gr_X9_step, hp_a_2, hp_i_2, hp_l_22] using c3) (by simpa only [gr_X6_enter, gr_X7_fail, gr_X7_readNumber, gr_X7_readOrder, gr_X7_readSemicolon, gr_X9_step, hp_a_2, hp_i_2, hp_l_22] using c4) (by simpa only [gr_X6_enter, gr_X7_fail, gr_X7_readNumber, gr_X7_readOrder, gr_X7_readSemicolon, gr_X9_step, hp_a_2, hp_i_2, hp_l_22] using c5) (by simpa only [gr_X6_enter, gr_X7_fail, gr_X7_readNumber, gr_X7_readOrder, gr_X7_readSemicolon, gr_X9_step, hp_a_2, hp_i_2, hp_l_22] using c6) (by simpa only [gr_X6_enter, gr_X7_fail, gr_X7_readNumber, gr_X7_readOrder, gr_X7_readSemicolon, gr_X9_step, hp_a_2, hp_i_2, hp_l_22] using c7) (by simpa only [gr_X6_enter, gr_X7_fail, gr_X7_readNumber, gr_X7_readOrder, gr_X7_readSemicolon, gr_X9_step, hp_a_2, hp_i_2, hp_l_22] using c8)).trans ((fr_X9_step c10).trans ((fr_X7_readNumber c9 c10).trans ((fr_X7_readNumber c9 c10).trans ((fr_X7_readNumber c9 c10).trans ((fr_X9_step c10).trans (fr_X9_step c10))))))))) ((fr_X7_readNumber c9 c10).trans ((fr_X7_readNumber c9 c10).trans ((fr_X7_readNumber c9 c10).trans ((fr_X9_step c10).trans (fr_X9_step c10)))))) ((fr_X7_readNumber c9 c10).trans ((fr_X7_readNumber c9 c10).trans ((fr_X9_step c10).trans (fr_X9_step c10))))) ((fr_X7_readNumber c9 c10).trans ((fr_X9_step c10).trans (fr_X9_step c10)))) ((fr_X7_fail c9).trans (fr_X9_step c10))) ((fr_X7_fail c9).trans (fr_X9_step c10))
set_option maxHeartbeats 20000 in
theorem gl_X11_coveredOrders {h : Hp}  : (g_X11_coveredOrders h ).2.1 = h.2.1 := by
  unfold g_X11_coveredOrders
  exact gl_X0_coveredSet
set_option maxHeartbeats 20000 in
theorem gr_X11_coveredOrders {h : Hp}  : (g_X11_coveredOrders h ).2.2 = h.2.2 := by
  unfold g_X11_coveredOrders
  exact gr_X0_coveredSet
set_option maxHeartbeats 100000 in
theorem fr_X11_coveredOrders {h : Hp}  {t i : Nat} (c0 : ¬ (t = 13 ∧ i = 0)) (c1 : ¬ (t = 15 ∧ i = 0)) (c2 : ¬ (t = 16 ∧ i = 0)) (c3 : ¬ (t = 17 ∧ i = 0)) (c4 : ¬ (t = 18 ∧ i = 0)) : (g_X11_coveredOrders h ).1 t i = h.1 t i := by
  unfold g_X11_coveredOrders
  exact fr_X0_coveredSet c0 c1 c2 c3 c4
set_option maxHeartbeats 20000 in
theorem gl_X11_adjust {h : Hp} {a1 : Int32} {a2 : Int32} : (g_X11_adjust h a1 a2).2.1 = h.2.1 := by
  unfold g_X11_adjust
  exact oa_iteL (oa_iteL ((gl_X5_releaseExcess).trans ((gl_X10_setStock).trans (gl_X3_record))) (rfl)) (rfl)
set_option maxHeartbeats 20000 in
theorem gr_X11_adjust {h : Hp} {a1 : Int32} {a2 : Int32} : (g_X11_adjust h a1 a2).2.2 = h.2.2 := by
  unfold g_X11_adjust
  exact oa_iteR (oa_iteR ((gr_X5_releaseExcess).trans ((gr_X10_setStock).trans (gr_X3_record))) (rfl)) (rfl)
set_option maxHeartbeats 100000 in
theorem fr_X11_adjust {h : Hp} {a1 : Int32} {a2 : Int32} {t i : Nat} (c0 : ¬ (t = 10 ∧ 2 ≤ i)) (c1 : ¬ (t = 3 ∧ i = 0)) (c2 : ¬ (t = 36 ∧ 2 ≤ i)) (c3 : ¬ (t = 37 ∧ 2 ≤ i)) (c4 : ¬ (t = 38 ∧ 2 ≤ i)) (c5 : ¬ (t = 39 ∧ 2 ≤ i)) (c6 : ¬ (t = 40 ∧ 2 ≤ i)) (c7 : ¬ (t = 41 ∧ 2 ≤ i)) (c8 : ¬ (t = 42 ∧ i = (h.2.2 11 0 7))) (c9 : ¬ (t = 42 ∧ 2 ≤ i)) (c10 : ¬ (t = 43 ∧ 2 ≤ i)) (c11 : ¬ (t = 44 ∧ 2 ≤ i)) (c12 : ¬ (t = 45 ∧ 2 ≤ i)) (c13 : ¬ (t = 46 ∧ 2 ≤ i)) (c14 : ¬ (t = 47 ∧ 2 ≤ i)) (c15 : ¬ (t = 48 ∧ i = (h.2.2 11 0 7))) (c16 : ¬ (t = 48 ∧ 2 ≤ i)) (c17 : ¬ (t = 49 ∧ i = (h.2.2 11 0 7))) (c18 : ¬ (t = 49 ∧ 2 ≤ i)) (c19 : ¬ (t = 50 ∧ 2 ≤ i)) (c20 : ¬ (t = 51 ∧ 2 ≤ i)) (c21 : ¬ (t = 52 ∧ 2 ≤ i)) (c22 : ¬ (t = 6 ∧ 2 ≤ i)) : (g_X11_adjust h a1 a2).1 t i = h.1 t i := by
  unfold g_X11_adjust
  exact oa_ite (oa_ite ((fr_X5_releaseExcess (by simpa only [gr_X10_setStock, gr_X11_adjust, gr_X3_record, gr_X5_releaseExcess, hp_a_2, hp_i_2, hp_l_22] using c8) (by simpa only [gr_X10_setStock, gr_X11_adjust, gr_X3_record, gr_X5_releaseExcess, hp_a_2, hp_i_2, hp_l_22] using c17)).trans ((fr_X10_setStock (by simpa only [gr_X10_setStock, gr_X11_adjust, gr_X3_record, gr_X5_releaseExcess, hp_a_2, hp_i_2, hp_l_22] using c15)).trans (fr_X3_record c0 c1 c2 c3 c4 c5 c6 c7 c9 c10 c11 c12 c13 c14 c16 c18 c19 c20 c21 c22))) (rfl)) (rfl)
set_option maxHeartbeats 20000 in
theorem gl_iw_h_X0_tryOut_27 : ∀ (n : Nat) (h : Hp) (i1 : Nat) (i2 : Nat) (x3 : Int32) (x4 : Int32), (iw_h_X0_tryOut_27 n h i1 i2 x3 x4).2.1 = h.2.1 := by
  intro n
  induction n with
  | zero => intros; rfl
  | succ n ih =>
    intro h i1 i2 x3 x4
    rw [iw_h_X0_tryOut_27]
    exact oa_iteL (rfl) (oa_iteL (rfl) (oa_iteL (ih _ _ _ _ _) ((ih _ _ _ _ _).trans (gl_X0_serve))))
set_option maxHeartbeats 20000 in
theorem gr_iw_h_X0_tryOut_27 : ∀ (n : Nat) (h : Hp) (i1 : Nat) (i2 : Nat) (x3 : Int32) (x4 : Int32), (iw_h_X0_tryOut_27 n h i1 i2 x3 x4).2.2 = h.2.2 := by
  intro n
  induction n with
  | zero => intros; rfl
  | succ n ih =>
    intro h i1 i2 x3 x4
    rw [iw_h_X0_tryOut_27]
    exact oa_iteR (rfl) (oa_iteR (rfl) (oa_iteR (ih _ _ _ _ _) ((ih _ _ _ _ _).trans (gr_X0_serve))))
set_option maxHeartbeats 20000 in
theorem gl_gw_X0_tryOut_7 : ∀ (n : Nat) (h : Hp) (i1 : Nat) (i2 : Nat) (x3 : Int32), (gw_X0_tryOut_7 n h i1 i2 x3).2.1 = h.2.1 := by
  intro n
  induction n with
  | zero => intros; rfl
  | succ n ih =>
    intro h i1 i2 x3
    rw [gw_X0_tryOut_7]
    exact oa_iteL (rfl) ((ih _ _ _ _).trans ((gl_iw_h_X0_tryOut_27  _ _ _ _ _ _).trans (gl_X0_setQuotas)))
set_option maxHeartbeats 20000 in
theorem gr_gw_X0_tryOut_7 : ∀ (n : Nat) (h : Hp) (i1 : Nat) (i2 : Nat) (x3 : Int32), (gw_X0_tryOut_7 n h i1 i2 x3).2.2 = h.2.2 := by
  intro n
  induction n with
  | zero => intros; rfl
  | succ n ih =>
    intro h i1 i2 x3
    rw [gw_X0_tryOut_7]
    exact oa_iteR (rfl) ((ih _ _ _ _).trans ((gr_iw_h_X0_tryOut_27  _ _ _ _ _ _).trans (gr_X0_setQuotas)))
set_option maxHeartbeats 20000 in
theorem gl_X0_tryOut {h : Hp} {i1 : Nat} {i2 : Nat} : (g_X0_tryOut h i1 i2).2.1 = h.2.1 := by
  unfold g_X0_tryOut
  exact (gl_gw_X0_tryOut_7  _ _ _ _ _).trans (gl_X0_begin)
set_option maxHeartbeats 20000 in
theorem gr_X0_tryOut {h : Hp} {i1 : Nat} {i2 : Nat} : (g_X0_tryOut h i1 i2).2.2 = h.2.2 := by
  unfold g_X0_tryOut
  exact (gr_gw_X0_tryOut_7  _ _ _ _ _).trans (gr_X0_begin)
set_option maxHeartbeats 100000 in
theorem fr_iw_h_X0_tryOut_27 {t i : Nat}  (c0 : ¬ (t = 13 ∧ i = 0)) (c1 : ¬ (t = 14 ∧ i = 0)) (c2 : ¬ (t = 15 ∧ i = 0)) (c3 : ¬ (t = 16 ∧ i = 0)) (c4 : ¬ (t = 17 ∧ i = 0)) (c5 : ¬ (t = 18 ∧ i = 0)) : ∀ (n : Nat) (h : Hp) (i1 : Nat) (i2 : Nat) (x3 : Int32) (x4 : Int32), (iw_h_X0_tryOut_27 n h i1 i2 x3 x4).1 t i = h.1 t i := by
  intro n
  induction n with
  | zero => intros; rfl
  | succ n ih =>
    intro h i1 i2 x3 x4
    rw [iw_h_X0_tryOut_27]
    exact oa_ite (rfl) (oa_ite (rfl) (oa_ite (ih _ _ _ _ _) ((ih _ _ _ _ _).trans (fr_X0_serve c0 c1 c3 c4 c5))))
set_option maxHeartbeats 100000 in
theorem fr_gw_X0_tryOut_7 {t i : Nat}  (c0 : ¬ (t = 13 ∧ i = 0)) (c1 : ¬ (t = 14 ∧ i = 0)) (c2 : ¬ (t = 15 ∧ i = 0)) (c3 : ¬ (t = 16 ∧ i = 0)) (c4 : ¬ (t = 17 ∧ i = 0)) (c5 : ¬ (t = 18 ∧ i = 0)) : ∀ (n : Nat) (h : Hp) (i1 : Nat) (i2 : Nat) (x3 : Int32), (gw_X0_tryOut_7 n h i1 i2 x3).1 t i = h.1 t i := by
  intro n
  induction n with
  | zero => intros; rfl
  | succ n ih =>
    intro h i1 i2 x3
    rw [gw_X0_tryOut_7]
    exact oa_ite (rfl) ((ih _ _ _ _).trans ((fr_iw_h_X0_tryOut_27 c0 c1 c2 c3 c4 c5 _ _ _ _ _ _).trans (fr_X0_setQuotas c1)))
set_option maxHeartbeats 100000 in
theorem fr_X0_tryOut {h : Hp} {i1 : Nat} {i2 : Nat} {t i : Nat} (c0 : ¬ (t = 13 ∧ i = 0)) (c1 : ¬ (t = 14 ∧ i = 0)) (c2 : ¬ (t = 15 ∧ i = 0)) (c3 : ¬ (t = 16 ∧ i = 0)) (c4 : ¬ (t = 17 ∧ i = 0)) (c5 : ¬ (t = 18 ∧ i = 0)) : (g_X0_tryOut h i1 i2).1 t i = h.1 t i := by
  unfold g_X0_tryOut
  exact (fr_gw_X0_tryOut_7 c0 c1 c2 c3 c4 c5 _ _ _ _ _).trans (fr_X0_begin c0 c2 c3 c4 c5)
set_option maxHeartbeats 20000 in
theorem gr_gw_X7_readProduct_44 : ∀ (n : Nat) (h : Hp) (x1 : Int32) (x2 : Int32), (gw_X7_readProduct_44 n h x1 x2).2.2 = h.2.2 := by
  intro n
  induction n with
  | zero => intros; rfl
  | succ n ih =>
    intro h x1 x2
    rw [gw_X7_readProduct_44]
    exact oa_iteR (oa_iteR ((gr_X7_readSemicolon).trans (gr_X1_endProduct)) (rfl)) (oa_iteR (oa_iteR ((gr_X7_readSemicolon).trans (gr_X1_endProduct)) (rfl)) (oa_iteR (oa_iteR ((gr_X7_readSemicolon).trans (gr_X1_endProduct)) (rfl)) ((ih _ _ _).trans (gr_X7_readBillLine))))
set_option maxHeartbeats 20000 in
theorem gr_X7_readProduct {h : Hp}  : (g_X7_readProduct h ).2.2 = h.2.2 := by
  unfold g_X7_readProduct
  exact oa_iteR ((gr_gw_X7_readProduct_44  _ _ _ _).trans ((gr_X7_readBillLine).trans ((gr_X9_step).trans ((gr_X1_beginProduct).trans ((gr_X7_isNewName).trans (gr_X9_step)))))) ((gr_X7_isNewName).trans (gr_X9_step))
set_option maxHeartbeats 100000 in
theorem fr_gw_X7_readProduct_44 {t i : Nat} {h0 : Hp}  (c0 : ¬ (t = 1 ∧ i = (h0.2.2 7 0 3))) (c1 : ¬ (t = 22 ∧ i = (h0.2.2 7 0 3))) (c2 : ¬ (t = 23 ∧ i = (h0.2.2 7 0 3))) (c3 : ¬ t = 25) (c4 : ¬ t = 27) (c5 : ¬ t = 29) (c6 : ¬ (t = 7 ∧ i = 0)) (c7 : ¬ (t = 9 ∧ i = 0)) : ∀ (n : Nat) (h : Hp) (x1 : Int32) (x2 : Int32), h.2.2 = h0.2.2 → (gw_X7_readProduct_44 n h x1 x2).1 t i = h.1 t i := by
  intro n
  induction n with
  | zero => intros; rfl
  | succ n ih =>
    intro h x1 x2 e
    rw [gw_X7_readProduct_44]
    exact oa_ite (oa_ite ((fr_X7_readSemicolon c6 c7).trans (fr_X1_endProduct (by simpa only [gr_X1_beginProduct, gr_X1_endProduct, gr_X7_isNewName, gr_X7_readBillLine, gr_X7_readProduct, gr_X7_readSemicolon, gr_X9_step, gr_gw_X7_readProduct_44, hp_a_2, hp_i_2, hp_l_22, e] using c0))) (rfl)) (oa_ite (oa_ite ((fr_X7_readSemicolon c6 c7).trans (fr_X1_endProduct (by simpa only [gr_X1_beginProduct, gr_X1_endProduct, gr_X7_isNewName, gr_X7_readBillLine, gr_X7_readProduct, gr_X7_readSemicolon, gr_X9_step, gr_gw_X7_readProduct_44, hp_a_2, hp_i_2, hp_l_22, e] using c0))) (rfl)) (oa_ite (oa_ite ((fr_X7_readSemicolon c6 c7).trans (fr_X1_endProduct (by simpa only [gr_X1_beginProduct, gr_X1_endProduct, gr_X7_isNewName, gr_X7_readBillLine, gr_X7_readProduct, gr_X7_readSemicolon, gr_X9_step, gr_gw_X7_readProduct_44, hp_a_2, hp_i_2, hp_l_22, e] using c0))) (rfl)) ((ih _ _ _ (by first | (simp only [gr_X1_beginProduct, gr_X1_endProduct, gr_X7_isNewName, gr_X7_readBillLine, gr_X7_readProduct, gr_X7_readSemicolon, gr_X9_step, gr_gw_X7_readProduct_44, hp_a_2, hp_i_2, hp_l_22]; done) | (simp only [gr_X1_beginProduct, gr_X1_endProduct, gr_X7_isNewName, gr_X7_readBillLine, gr_X7_readProduct, gr_X7_readSemicolon, gr_X9_step, gr_gw_X7_readProduct_44, hp_a_2, hp_i_2, hp_l_22]; exact e) | exact e)).trans (fr_X7_readBillLine (by simpa only [gr_X1_beginProduct, gr_X1_endProduct, gr_X7_isNewName, gr_X7_readBillLine, gr_X7_readProduct, gr_X7_readSemicolon, gr_X9_step, gr_gw_X7_readProduct_44, hp_a_2, hp_i_2, hp_l_22, e] using c1) (by simpa only [gr_X1_beginProduct, gr_X1_endProduct, gr_X7_isNewName, gr_X7_readBillLine, gr_X7_readProduct, gr_X7_readSemicolon, gr_X9_step, gr_gw_X7_readProduct_44, hp_a_2, hp_i_2, hp_l_22, e] using c2) c3 c4 c5 c6 c7))))
set_option maxHeartbeats 100000 in
theorem fr_X7_readProduct {h : Hp}  {t i : Nat} (c0 : ¬ (t = 1 ∧ i = (h.2.2 7 0 3))) (c1 : ¬ (t = 22 ∧ i = (h.2.2 7 0 3))) (c2 : ¬ (t = 23 ∧ i = (h.2.2 7 0 3))) (c3 : ¬ t = 25) (c4 : ¬ t = 27) (c5 : ¬ t = 29) (c6 : ¬ (t = 7 ∧ i = 0)) (c7 : ¬ (t = 9 ∧ i = 0)) : (g_X7_readProduct h ).1 t i = h.1 t i := by
  unfold g_X7_readProduct
  exact oa_ite ((fr_gw_X7_readProduct_44 c0 c1 c2 c3 c4 c5 c6 c7 _ _ _ _ (by first | (simp only [gr_X1_beginProduct, gr_X1_endProduct, gr_X7_isNewName, gr_X7_readBillLine, gr_X7_readProduct, gr_X7_readSemicolon, gr_X9_step, gr_gw_X7_readProduct_44, hp_a_2, hp_i_2, hp_l_22]; done) | exact rfl)).trans ((fr_X7_readBillLine (by simpa only [gr_X1_beginProduct, gr_X1_endProduct, gr_X7_isNewName, gr_X7_readBillLine, gr_X7_readProduct, gr_X7_readSemicolon, gr_X9_step, gr_gw_X7_readProduct_44, hp_a_2, hp_i_2, hp_l_22] using c1) (by simpa only [gr_X1_beginProduct, gr_X1_endProduct, gr_X7_isNewName, gr_X7_readBillLine, gr_X7_readProduct, gr_X7_readSemicolon, gr_X9_step, gr_gw_X7_readProduct_44, hp_a_2, hp_i_2, hp_l_22] using c2) c3 c4 c5 c6 c7).trans ((fr_X9_step c7).trans ((fr_X1_beginProduct (by simpa only [gr_X1_beginProduct, gr_X1_endProduct, gr_X7_isNewName, gr_X7_readBillLine, gr_X7_readProduct, gr_X7_readSemicolon, gr_X9_step, gr_gw_X7_readProduct_44, hp_a_2, hp_i_2, hp_l_22] using c1) (by simpa only [gr_X1_beginProduct, gr_X1_endProduct, gr_X7_isNewName, gr_X7_readBillLine, gr_X7_readProduct, gr_X7_readSemicolon, gr_X9_step, gr_gw_X7_readProduct_44, hp_a_2, hp_i_2, hp_l_22] using c2) c5).trans ((fr_X7_isNewName c6).trans (fr_X9_step c7)))))) ((fr_X7_isNewName c6).trans (fr_X9_step c7))
set_option maxHeartbeats 20000 in
theorem gl_X11_buildableTogether {h : Hp} {a1 : Int32} {a2 : Int32} : (g_X11_buildableTogether h a1 a2).2.1 = h.2.1 := by
  unfold g_X11_buildableTogether
  exact oa_iteL (oa_iteL (oa_iteL (gl_X10_fillFree) (rfl)) (rfl)) (rfl)
set_option maxHeartbeats 20000 in
theorem gr_X11_buildableTogether {h : Hp} {a1 : Int32} {a2 : Int32} : (g_X11_buildableTogether h a1 a2).2.2 = h.2.2 := by
  unfold g_X11_buildableTogether
  exact oa_iteR (oa_iteR (oa_iteR (gr_X10_fillFree) (rfl)) (rfl)) (rfl)
set_option maxHeartbeats 100000 in
theorem fr_X11_buildableTogether {h : Hp} {a1 : Int32} {a2 : Int32} {t i : Nat} (c0 : ¬ (t = 53 ∧ i = 0)) : (g_X11_buildableTogether h a1 a2).1 t i = h.1 t i := by
  unfold g_X11_buildableTogether
  exact oa_ite (oa_ite (oa_ite (fr_X10_fillFree c0) (rfl)) (rfl)) (rfl)
set_option maxHeartbeats 20000 in
theorem gl_X11_wouldGet {h : Hp} {a1 : Int32} : (g_X11_wouldGet h a1).2.1 = h.2.1 := by
  unfold g_X11_wouldGet
  exact oa_iteL (gl_X0_tryOut) (rfl)
set_option maxHeartbeats 20000 in
theorem gr_X11_wouldGet {h : Hp} {a1 : Int32} : (g_X11_wouldGet h a1).2.2 = h.2.2 := by
  unfold g_X11_wouldGet
  exact oa_iteR (gr_X0_tryOut) (rfl)
set_option maxHeartbeats 100000 in
theorem fr_X11_wouldGet {h : Hp} {a1 : Int32} {t i : Nat} (c0 : ¬ (t = 13 ∧ i = 0)) (c1 : ¬ (t = 14 ∧ i = 0)) (c2 : ¬ (t = 15 ∧ i = 0)) (c3 : ¬ (t = 16 ∧ i = 0)) (c4 : ¬ (t = 17 ∧ i = 0)) (c5 : ¬ (t = 18 ∧ i = 0)) : (g_X11_wouldGet h a1).1 t i = h.1 t i := by
  unfold g_X11_wouldGet
  exact oa_ite (fr_X0_tryOut c0 c1 c2 c3 c4 c5) (rfl)
set_option maxHeartbeats 20000 in
theorem gl_X11_rungOf {h : Hp} {a1 : Int32} : (g_X11_rungOf h a1).2.1 = h.2.1 := by
  unfold g_X11_rungOf
  exact oa_iteL (gl_X0_tryOut) (rfl)
set_option maxHeartbeats 20000 in
theorem gr_X11_rungOf {h : Hp} {a1 : Int32} : (g_X11_rungOf h a1).2.2 = h.2.2 := by
  unfold g_X11_rungOf
  exact oa_iteR (gr_X0_tryOut) (rfl)
set_option maxHeartbeats 100000 in
theorem fr_X11_rungOf {h : Hp} {a1 : Int32} {t i : Nat} (c0 : ¬ (t = 13 ∧ i = 0)) (c1 : ¬ (t = 14 ∧ i = 0)) (c2 : ¬ (t = 15 ∧ i = 0)) (c3 : ¬ (t = 16 ∧ i = 0)) (c4 : ¬ (t = 17 ∧ i = 0)) (c5 : ¬ (t = 18 ∧ i = 0)) : (g_X11_rungOf h a1).1 t i = h.1 t i := by
  unfold g_X11_rungOf
  exact oa_ite (fr_X0_tryOut c0 c1 c2 c3 c4 c5) (rfl)
set_option maxHeartbeats 20000 in
theorem gl_X11_rungUnits {h : Hp} {a1 : Int32} : (g_X11_rungUnits h a1).2.1 = h.2.1 := by
  unfold g_X11_rungUnits
  exact oa_iteL (gl_X0_tryOut) (rfl)
set_option maxHeartbeats 20000 in
theorem gr_X11_rungUnits {h : Hp} {a1 : Int32} : (g_X11_rungUnits h a1).2.2 = h.2.2 := by
  unfold g_X11_rungUnits
  exact oa_iteR (gr_X0_tryOut) (rfl)
set_option maxHeartbeats 100000 in
theorem fr_X11_rungUnits {h : Hp} {a1 : Int32} {t i : Nat} (c0 : ¬ (t = 13 ∧ i = 0)) (c1 : ¬ (t = 14 ∧ i = 0)) (c2 : ¬ (t = 15 ∧ i = 0)) (c3 : ¬ (t = 16 ∧ i = 0)) (c4 : ¬ (t = 17 ∧ i = 0)) (c5 : ¬ (t = 18 ∧ i = 0)) : (g_X11_rungUnits h a1).1 t i = h.1 t i := by
  unfold g_X11_rungUnits
  exact oa_ite (fr_X0_tryOut c0 c1 c2 c3 c4 c5) (rfl)
set_option maxHeartbeats 20000 in
theorem gl_gw_X11_allocate_30 : ∀ (n : Nat) (h : Hp) (x1 : Int32) (x2 : Int32), (gw_X11_allocate_30 n h x1 x2).2.1 = h.2.1 := by
  intro n
  induction n with
  | zero => intros; rfl
  | succ n ih =>
    intro h x1 x2
    rw [gw_X11_allocate_30]
    exact oa_iteL (rfl) ((ih _ _ _).trans (gl_X5_changeReserved))
set_option maxHeartbeats 20000 in
theorem gr_gw_X11_allocate_30 : ∀ (n : Nat) (h : Hp) (x1 : Int32) (x2 : Int32), (gw_X11_allocate_30 n h x1 x2).2.2 = h.2.2 := by
  intro n
  induction n with
  | zero => intros; rfl
  | succ n ih =>
    intro h x1 x2
    rw [gw_X11_allocate_30]
    exact oa_iteR (rfl) ((ih _ _ _).trans (gr_X5_changeReserved))
set_option maxHeartbeats 20000 in
theorem gl_X11_allocate {h : Hp}  : (g_X11_allocate h ).2.1 = h.2.1 := by
  unfold g_X11_allocate
  exact (gl_gw_X11_allocate_30  _ _ _ _).trans ((gl_X0_tryOut).trans (gl_X3_record))
set_option maxHeartbeats 20000 in
theorem gr_X11_allocate {h : Hp}  : (g_X11_allocate h ).2.2 = h.2.2 := by
  unfold g_X11_allocate
  exact (gr_gw_X11_allocate_30  _ _ _ _).trans ((gr_X0_tryOut).trans (gr_X3_record))
set_option maxHeartbeats 100000 in
theorem fr_gw_X11_allocate_30 {t i : Nat} {h0 : Hp}  (c0 : ¬ (t = 10 ∧ 2 ≤ i)) (c1 : ¬ (t = 13 ∧ i = 0)) (c2 : ¬ (t = 14 ∧ i = 0)) (c3 : ¬ (t = 15 ∧ i = 0)) (c4 : ¬ (t = 16 ∧ i = 0)) (c5 : ¬ (t = 17 ∧ i = 0)) (c6 : ¬ (t = 18 ∧ i = 0)) (c7 : ¬ (t = 3 ∧ i = 0)) (c8 : ¬ (t = 36 ∧ 2 ≤ i)) (c9 : ¬ (t = 37 ∧ 2 ≤ i)) (c10 : ¬ (t = 38 ∧ 2 ≤ i)) (c11 : ¬ (t = 39 ∧ 2 ≤ i)) (c12 : ¬ (t = 40 ∧ 2 ≤ i)) (c13 : ¬ (t = 41 ∧ 2 ≤ i)) (c14 : ¬ (t = 42 ∧ i = (h0.2.2 11 0 7))) (c15 : ¬ (t = 42 ∧ 2 ≤ i)) (c16 : ¬ (t = 43 ∧ 2 ≤ i)) (c17 : ¬ (t = 44 ∧ 2 ≤ i)) (c18 : ¬ (t = 45 ∧ 2 ≤ i)) (c19 : ¬ (t = 46 ∧ 2 ≤ i)) (c20 : ¬ (t = 47 ∧ 2 ≤ i)) (c21 : ¬ (t = 48 ∧ 2 ≤ i)) (c22 : ¬ (t = 49 ∧ i = (h0.2.2 11 0 7))) (c23 : ¬ (t = 49 ∧ 2 ≤ i)) (c24 : ¬ (t = 50 ∧ 2 ≤ i)) (c25 : ¬ (t = 51 ∧ 2 ≤ i)) (c26 : ¬ (t = 52 ∧ 2 ≤ i)) (c27 : ¬ (t = 6 ∧ 2 ≤ i)) : ∀ (n : Nat) (h : Hp) (x1 : Int32) (x2 : Int32), h.2.2 = h0.2.2 → (gw_X11_allocate_30 n h x1 x2).1 t i = h.1 t i := by
  intro n
  induction n with
  | zero => intros; rfl
  | succ n ih =>
    intro h x1 x2 e
    rw [gw_X11_allocate_30]
    exact oa_ite (rfl) ((ih _ _ _ (by first | (simp only [gr_X0_tryOut, gr_X11_allocate, gr_X3_record, gr_X5_changeReserved, gr_gw_X11_allocate_30, hp_a_2, hp_i_2, hp_l_22]; done) | (simp only [gr_X0_tryOut, gr_X11_allocate, gr_X3_record, gr_X5_changeReserved, gr_gw_X11_allocate_30, hp_a_2, hp_i_2, hp_l_22]; exact e) | exact e)).trans (fr_X5_changeReserved (by simpa only [gr_X0_tryOut, gr_X11_allocate, gr_X3_record, gr_X5_changeReserved, gr_gw_X11_allocate_30, hp_a_2, hp_i_2, hp_l_22, e] using c14) (by simpa only [gr_X0_tryOut, gr_X11_allocate, gr_X3_record, gr_X5_changeReserved, gr_gw_X11_allocate_30, hp_a_2, hp_i_2, hp_l_22, e] using c22)))
set_option maxHeartbeats 100000 in
theorem fr_X11_allocate {h : Hp}  {t i : Nat} (c0 : ¬ (t = 10 ∧ 2 ≤ i)) (c1 : ¬ (t = 13 ∧ i = 0)) (c2 : ¬ (t = 14 ∧ i = 0)) (c3 : ¬ (t = 15 ∧ i = 0)) (c4 : ¬ (t = 16 ∧ i = 0)) (c5 : ¬ (t = 17 ∧ i = 0)) (c6 : ¬ (t = 18 ∧ i = 0)) (c7 : ¬ (t = 3 ∧ i = 0)) (c8 : ¬ (t = 36 ∧ 2 ≤ i)) (c9 : ¬ (t = 37 ∧ 2 ≤ i)) (c10 : ¬ (t = 38 ∧ 2 ≤ i)) (c11 : ¬ (t = 39 ∧ 2 ≤ i)) (c12 : ¬ (t = 40 ∧ 2 ≤ i)) (c13 : ¬ (t = 41 ∧ 2 ≤ i)) (c14 : ¬ (t = 42 ∧ i = (h.2.2 11 0 7))) (c15 : ¬ (t = 42 ∧ 2 ≤ i)) (c16 : ¬ (t = 43 ∧ 2 ≤ i)) (c17 : ¬ (t = 44 ∧ 2 ≤ i)) (c18 : ¬ (t = 45 ∧ 2 ≤ i)) (c19 : ¬ (t = 46 ∧ 2 ≤ i)) (c20 : ¬ (t = 47 ∧ 2 ≤ i)) (c21 : ¬ (t = 48 ∧ 2 ≤ i)) (c22 : ¬ (t = 49 ∧ i = (h.2.2 11 0 7))) (c23 : ¬ (t = 49 ∧ 2 ≤ i)) (c24 : ¬ (t = 50 ∧ 2 ≤ i)) (c25 : ¬ (t = 51 ∧ 2 ≤ i)) (c26 : ¬ (t = 52 ∧ 2 ≤ i)) (c27 : ¬ (t = 6 ∧ 2 ≤ i)) : (g_X11_allocate h ).1 t i = h.1 t i := by
  unfold g_X11_allocate
  exact (fr_gw_X11_allocate_30 c0 c1 c2 c3 c4 c5 c6 c7 c8 c9 c10 c11 c12 c13 c14 c15 c16 c17 c18 c19 c20 c21 c22 c23 c24 c25 c26 c27 _ _ _ _ (by first | (simp only [gr_X0_tryOut, gr_X11_allocate, gr_X3_record, gr_X5_changeReserved, gr_gw_X11_allocate_30, hp_a_2, hp_i_2, hp_l_22]; done) | exact rfl)).trans ((fr_X0_tryOut c1 c2 c3 c4 c5 c6).trans (fr_X3_record c0 c7 c8 c9 c10 c11 c12 c13 c15 c16 c17 c18 c19 c20 c21 c23 c24 c25 c26 c27))
set_option maxHeartbeats 20000 in
theorem gr_X7_readLine {h : Hp}  : (g_X7_readLine h ).2.2 = h.2.2 := by
  unfold g_X7_readLine
  exact oa_iteR (oa_iteR (oa_iteR (oa_iteR (gr_X7_fail) (oa_iteR (gr_X7_fail) (gr_X7_readOrder))) (oa_iteR (gr_X7_fail) (gr_X7_readRung))) (oa_iteR (gr_X7_fail) (gr_X7_readProduct))) (oa_iteR (gr_X7_fail) (gr_X7_readPart))
set_option maxHeartbeats 100000 in
theorem fr_X7_readLine {h : Hp}  {t i : Nat} (c0 : ¬ (t = 1 ∧ i = (h.2.2 7 0 3))) (c1 : ¬ (t = 20 ∧ i = (h.2.2 7 0 3))) (c2 : ¬ (t = 22 ∧ i = (h.2.2 7 0 3))) (c3 : ¬ (t = 23 ∧ i = (h.2.2 7 0 3))) (c4 : ¬ t = 25) (c5 : ¬ t = 27) (c6 : ¬ t = 29) (c7 : ¬ (t = 30 ∧ i = (h.2.2 7 0 3))) (c8 : ¬ (t = 31 ∧ i = (h.2.2 7 0 3))) (c9 : ¬ (t = 32 ∧ i = (h.2.2 7 0 3))) (c10 : ¬ (t = 36 ∧ i = (h.2.2 7 0 4))) (c11 : ¬ (t = 37 ∧ i = (h.2.2 7 0 4))) (c12 : ¬ (t = 38 ∧ i = (h.2.2 7 0 4))) (c13 : ¬ (t = 39 ∧ i = (h.2.2 7 0 4))) (c14 : ¬ (t = 40 ∧ i = (h.2.2 7 0 4))) (c15 : ¬ (t = 41 ∧ i = (h.2.2 7 0 4))) (c16 : ¬ (t = 42 ∧ i = (h.2.2 7 0 4))) (c17 : ¬ (t = 43 ∧ i = (h.2.2 7 0 4))) (c18 : ¬ (t = 48 ∧ i = (h.2.2 7 0 4))) (c19 : ¬ (t = 6 ∧ i = (h.2.2 7 0 4))) (c20 : ¬ (t = 7 ∧ i = 0)) (c21 : ¬ (t = 9 ∧ i = 0)) : (g_X7_readLine h ).1 t i = h.1 t i := by
  unfold g_X7_readLine
  exact oa_ite (oa_ite (oa_ite (oa_ite (fr_X7_fail c20) (oa_ite (fr_X7_fail c20) (fr_X7_readOrder (by simpa only [gr_X7_fail, gr_X7_readLine, gr_X7_readOrder, gr_X7_readPart, gr_X7_readProduct, gr_X7_readRung, hp_a_2, hp_i_2, hp_l_22] using c10) (by simpa only [gr_X7_fail, gr_X7_readLine, gr_X7_readOrder, gr_X7_readPart, gr_X7_readProduct, gr_X7_readRung, hp_a_2, hp_i_2, hp_l_22] using c11) (by simpa only [gr_X7_fail, gr_X7_readLine, gr_X7_readOrder, gr_X7_readPart, gr_X7_readProduct, gr_X7_readRung, hp_a_2, hp_i_2, hp_l_22] using c12) (by simpa only [gr_X7_fail, gr_X7_readLine, gr_X7_readOrder, gr_X7_readPart, gr_X7_readProduct, gr_X7_readRung, hp_a_2, hp_i_2, hp_l_22] using c13) (by simpa only [gr_X7_fail, gr_X7_readLine, gr_X7_readOrder, gr_X7_readPart, gr_X7_readProduct, gr_X7_readRung, hp_a_2, hp_i_2, hp_l_22] using c14) (by simpa only [gr_X7_fail, gr_X7_readLine, gr_X7_readOrder, gr_X7_readPart, gr_X7_readProduct, gr_X7_readRung, hp_a_2, hp_i_2, hp_l_22] using c15) (by simpa only [gr_X7_fail, gr_X7_readLine, gr_X7_readOrder, gr_X7_readPart, gr_X7_readProduct, gr_X7_readRung, hp_a_2, hp_i_2, hp_l_22] using c16) (by simpa only [gr_X7_fail, gr_X7_readLine, gr_X7_readOrder, gr_X7_readPart, gr_X7_readProduct, gr_X7_readRung, hp_a_2, hp_i_2, hp_l_22] using c17) (by simpa only [gr_X7_fail, gr_X7_readLine, gr_X7_readOrder, gr_X7_readPart, gr_X7_readProduct, gr_X7_readRung, hp_a_2, hp_i_2, hp_l_22] using c19) c20 c21))) (oa_ite (fr_X7_fail c20) (fr_X7_readRung (by simpa only [gr_X7_fail, gr_X7_readLine, gr_X7_readOrder, gr_X7_readPart, gr_X7_readProduct, gr_X7_readRung, hp_a_2, hp_i_2, hp_l_22] using c0) (by simpa only [gr_X7_fail, gr_X7_readLine, gr_X7_readOrder, gr_X7_readPart, gr_X7_readProduct, gr_X7_readRung, hp_a_2, hp_i_2, hp_l_22] using c7) (by simpa only [gr_X7_fail, gr_X7_readLine, gr_X7_readOrder, gr_X7_readPart, gr_X7_readProduct, gr_X7_readRung, hp_a_2, hp_i_2, hp_l_22] using c8) (by simpa only [gr_X7_fail, gr_X7_readLine, gr_X7_readOrder, gr_X7_readPart, gr_X7_readProduct, gr_X7_readRung, hp_a_2, hp_i_2, hp_l_22] using c9) c20 c21))) (oa_ite (fr_X7_fail c20) (fr_X7_readProduct (by simpa only [gr_X7_fail, gr_X7_readLine, gr_X7_readOrder, gr_X7_readPart, gr_X7_readProduct, gr_X7_readRung, hp_a_2, hp_i_2, hp_l_22] using c0) (by simpa only [gr_X7_fail, gr_X7_readLine, gr_X7_readOrder, gr_X7_readPart, gr_X7_readProduct, gr_X7_readRung, hp_a_2, hp_i_2, hp_l_22] using c2) (by simpa only [gr_X7_fail, gr_X7_readLine, gr_X7_readOrder, gr_X7_readPart, gr_X7_readProduct, gr_X7_readRung, hp_a_2, hp_i_2, hp_l_22] using c3) c4 c5 c6 c20 c21))) (oa_ite (fr_X7_fail c20) (fr_X7_readPart (by simpa only [gr_X7_fail, gr_X7_readLine, gr_X7_readOrder, gr_X7_readPart, gr_X7_readProduct, gr_X7_readRung, hp_a_2, hp_i_2, hp_l_22] using c0) (by simpa only [gr_X7_fail, gr_X7_readLine, gr_X7_readOrder, gr_X7_readPart, gr_X7_readProduct, gr_X7_readRung, hp_a_2, hp_i_2, hp_l_22] using c1) (by simpa only [gr_X7_fail, gr_X7_readLine, gr_X7_readOrder, gr_X7_readPart, gr_X7_readProduct, gr_X7_readRung, hp_a_2, hp_i_2, hp_l_22] using c18) c20 c21))
