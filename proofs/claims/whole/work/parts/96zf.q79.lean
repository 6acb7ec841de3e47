/-! questions, over the whole relation -/
section WRP
variable {h h' hm g : Hp} {n x : Nat} {f fm : Int32} {cs : List (Nat × Int32)}
theorem RA.qa (A : RA h hm n) (q : QA x f fm g hm) : ZT x f fm g [(1, 1)] ∧ RA h g n := by
  rcases q with ⟨a, b, rfl⟩ | ⟨a, rfl⟩
  · exact ⟨Or.inl ⟨a, b, hp_i_g.trans (if_pos rfl)⟩, A.thr⟩
  · exact ⟨Or.inr ⟨1, by rw [a]; exact List.mem_cons_self, hp_i_g.trans (if_pos rfl)⟩, A.thr.thr⟩
theorem RA.qb (A : RA h hm n) (q : QB x f fm g hm cs) : ZT x f fm g cs ∧ RA h g n := by
  rcases q with ⟨a, b, rfl⟩ | ⟨z, a, rfl⟩
  · exact ⟨Or.inl ⟨a, b, hp_i_g.trans (if_pos rfl)⟩, A.thr⟩
  · exact ⟨Or.inr ⟨z, a, hp_i_g.trans (if_pos rfl)⟩, A.thr.thr⟩
theorem RA.qn (A : RA h hm n) (q : QN f fm g hm) : f = fm ∧ g.1 12 0 0 = 0 ∧ RA h g n := by
  obtain ⟨a, rfl⟩ := q
  exact ⟨a, hp_i_g.trans (if_pos rfl), A.thr⟩
/-- a change of the class's scratch only -/
theorem RA.scr (A : RA h hm n) (hc : ∀ t, CS t → ∀ i, h'.1 t i = h.1 t i) (hl : h'.2.1 = h.2.1) (hr : h'.2.2 = h.2.2) : RA h' hm n := A.same hc hl hr (fun _ _ => rfl) (fun _ _ => rfl)
end WRP
/-! an order entered -/
section ENT
variable {h : Hp} {L n : Nat}
theorem a_enter {a1 a2 a3 a4 a5 : Int32} (e : h.1 6 L 0 = nI n) (hn : n < 20) (h5 : a5 = 0 ∨ a5 = 1) : p_X6_enter h L a1 a2 a3 a4 a5 ∧ g_X6_enter h L a1 a2 a3 a4 a5 = hp_i (hp_i (hp_i (hp_i (hp_i (hp_i (hp_i (hp_i (hp_i h 36 L n a1) 37 L n a2) 38 L n a3) 39 L n a4) 40 L n a5) 41 L n 0) 42 L n 0) 43 L n 0) 6 L 0 (nI (n + 1)) := by
  have c : nI n < 20 := nI_lt (b := 20) hn (by omega)
  have v : vp_in (nI n) 20 := vp_in_nI hn (by omega)
  have en : nI n + 1 = nI (n + 1) := nI_add n 1
  unfold p_X6_enter g_X6_enter
  rw [e, if_pos c, nI_clamp (by omega), en]
  exact ⟨⟨fun _ => ⟨v, v, v, v, v, h5, v, v, v, trivial⟩, fun z => (z c).elim⟩, rfl⟩
end ENT
