/-! the law: one heap for both -/
section LWB
variable {h h' hm hm' G : Hp} {T w : Nat → Nat} {n x : Nat} {f fm : Int32} {cc : Nat}
def MFr (h h' : Hp) : Prop := ∀ t, t = 12 ∨ t = 54 ∨ t = 56 ∨ t = 58 ∨ t = 59 ∨ t = 65 → h'.1 t 0 = h.1 t 0
def CFr (h h' : Hp) : Prop := (∀ t, CS t → ∀ i, h'.1 t i = h.1 t i) ∧ (∀ t, ¬ t = 66 → h'.2.1 t = h.2.1 t) ∧ h'.2.2 = h.2.2
theorem MFr.rfl' : MFr h h := fun _ _ => rfl
theorem MFr.l {v : Int64} (F : MFr h G) : MFr h (hp_l G 66 0 0 v) := fun t ht => by rw [hp_l_f]; exact F t ht
theorem RA.m (A : RA h hm n) (F : MFr hm hm') : RA h hm' n :=
  A.same (fun _ _ _ => rfl) rfl rfl (fun t ht => F t (by unfold MS at ht; omega)) (fun k _ => by rw [F 12 (by omega)])
theorem RC.at2 (C : RC h cc T) (e1 : h'.1 = h.1) (l19 : h'.2.1 19 = h.2.1 19) (l21 : h'.2.1 21 = h.2.1 21) : RC h' cc T := by
  unfold RC at *
  rw [e1, l19, l21]
  exact C
theorem RA.lng (A : RA h hm n) (e1 : h'.1 = h.1) (e2 : h'.2.2 = h.2.2) (e3 : ∀ t, ¬ t = 66 → h'.2.1 t = h.2.1 t) : RA h' hm n := by
  obtain ⟨T, w, ⟨J, I, R, C, G⟩, ⟨S, s1, s2⟩, ⟨d, y, d1, d2, d3, d4, d5, d6⟩, ⟨t, t1, t2, t3, t4⟩, ⟨q1, q2⟩, ⟨u, u1, u2, u3, u4⟩, r⟩ := A
  refine ⟨T, w, ⟨J, I, R, ?_, ?_⟩, ⟨S, s1, ?_⟩, ⟨d, y, d1, d2, ?_, ?_, d5, fun k hk => ?_⟩, ⟨t, t1, ?_, t3, ?_⟩, ⟨?_, ?_⟩, ⟨u, u1, ?_, u3, ?_⟩, ?_⟩
  · rw [e2]; exact C.at2 e1 (e3 19 (by omega)) (e3 21 (by omega))
  · rw [e2]; exact G.same (fun t _ => by rw [e1])
  · rw [e2]; exact s2.same (fun t _ _ => by rw [e1])
  · rw [e1]; exact d3
  · rw [e1]; exact d4
  · obtain ⟨w', V⟩ := d6 k hk
    exact ⟨w', V.same (fun t _ => by rw [e1])⟩
  · rw [e1]; exact t2
  · rw [e1]; exact t4
  · rw [e1]; exact q1
  · rw [e1]; exact q2
  · rw [e1]; exact u2
  · rw [e1]; exact u4
  · unfold RR; rw [e2]; exact r
theorem RA.c (A : RA h hm n) (F : CFr h h') : RA h' hm n := by
  have A2 : RA (h'.1, h.2.1, h'.2.2) hm n := A.same F.1 rfl F.2.2 (fun _ _ => rfl) (fun _ _ => rfl)
  exact A2.lng (h' := h') rfl rfl F.2.1
theorem CFr.rfl' : CFr h h := ⟨fun _ _ _ => rfl, fun _ _ => rfl, rfl⟩
theorem CFr.l {v : Int64} : CFr h (hp_l h 66 0 0 v) := by
  refine ⟨fun t _ i => by rw [hp_l_f], fun t ht => ?_, rfl⟩
  unfold hp_l hp_b
  funext i
  show (if t = 66 ∧ i = 0 then vp_updL (h.2.1 66 0) 0 v else h.2.1 t i) = _
  rw [if_neg (by omega)]
theorem CFr.trans {h'' : Hp} (p : CFr h h') (q : CFr h' h'') : CFr h h'' := ⟨fun t ht i => (q.1 t ht i).trans (p.1 t ht i), fun t ht => (q.2.1 t ht).trans (p.2.1 t ht), q.2.2.trans p.2.2⟩
theorem hp_l_66 {v : Int64} : (hp_l h 66 0 0 v).2.1 66 0 0 = v := by
  unfold hp_l hp_b
  show (if 66 = 66 ∧ 0 = 0 then vp_updL (h.2.1 66 0) 0 v else h.2.1 66 0) 0 = v
  rw [if_pos ⟨rfl, rfl⟩]
  rfl
/-- the model's call of a law's turn, and what is compared -/
abbrev LK (nS : Nat) (sc : Nat → Int32) (d rb : Nat) (x4 : Int32) (h : Hp) (Qr : Option AV → Hp → Prop) (Qx : String → Hp → Prop) : Prop := AW (oa_X nS sc) (d + 10 + 1) rb mL_law 3140 [(0, vR 2000 0), (1, vR 11 0), (2, vR 12 0), (3, vR 66 0), (4, vI x4)] [] h Qr Qx
theorem lw_t0 {nS : Nat} {sc : Nat → Int32} {d rb : Nat} {x4 : Int32} {Qr : Option AV → Hp → Prop} {Qx : String → Hp → Prop} (e0 : h.1 12 0 0 = 0) (el : h.2.1 66 0 0 = f.toInt64) (k : LK nS sc d rb x4 h Qr Qx) :
    CL 0 (d + 10) mX12_thrown [vR 12 0] h (oI fun r6 h5 => ((r6 = 0) → ((¬ (0 : Int32) = 0) → LK nS sc d rb x4 h5 Qr Qx) ∧ (((0 : Int32) = 0) → (((lg_cmp (h5.2.1 66 0 0) f.toInt64) = 0) → LK nS sc d rb x4 h5 Qr Qx) ∧ ((¬ (lg_cmp (h5.2.1 66 0 0) f.toInt64) = 0) → Qr (some (vI 0)) h5))) ∧ ((¬ r6 = 0) → Qr (some (vI 0)) h5)) Qx := by
  refine c_X12_thrown (d := d + 9) trivial ?_
  have e : f_X12_thrown h = 0 := e0
  rw [e]
  refine ⟨fun _ => ⟨fun z => (z rfl).elim, fun _ => ⟨fun _ => k, fun z => (z ?_).elim⟩⟩, fun z => (z rfl).elim⟩
  rw [el]
  exact (lg_cmp_0 _ _).mpr rfl
theorem lw_t1 {nS : Nat} {sc : Nat → Int32} {d rb : Nat} {x4 r4 z : Int32} {Qr : Option AV → Hp → Prop} {Qx : String → Hp → Prop} (hz : ¬ z = 0) (e0 : h.1 12 0 0 = z) (k : LK nS sc d rb x4 h Qr Qx) :
    CL 0 (d + 10) mX12_thrown [vR 12 0] h (oI fun r6 h5 => ((r6 = z) → ((¬ z = 0) → LK nS sc d rb x4 h5 Qr Qx) ∧ ((z = 0) → (((lg_cmp (h5.2.1 66 0 0) r4.toInt64) = 0) → LK nS sc d rb x4 h5 Qr Qx) ∧ ((¬ (lg_cmp (h5.2.1 66 0 0) r4.toInt64) = 0) → Qr (some (vI 0)) h5))) ∧ ((¬ r6 = z) → Qr (some (vI 0)) h5)) Qx := by
  refine c_X12_thrown (d := d + 9) trivial ?_
  have e : f_X12_thrown h = z := e0
  rw [e]
  exact ⟨fun _ => ⟨fun _ => k, fun y => (hz y).elim⟩, fun y => (y rfl).elim⟩
/-- answers of ZT, as the law needs them -/
theorem ZT.ok {cs : List (Nat × Int32)} (Z : ZT x f fm hm cs) (hx : x = 0) (hc : ∀ p ∈ cs, ¬ p.1 = 0) : f = fm ∧ hm.1 12 0 0 = 0 := by
  rcases Z with ⟨-, a, b⟩ | ⟨z, a, -⟩
  · exact ⟨a, b⟩
  · exact (hc _ a hx).elim
theorem ZT.bad {cs : List (Nat × Int32)} (Z : ZT x f fm hm cs) (hx : ¬ x = 0) : ∃ z, (x, z) ∈ cs ∧ hm.1 12 0 0 = z := by
  rcases Z with ⟨a, -⟩ | z
  · exact (hx a).elim
  · exact z
end LWB
