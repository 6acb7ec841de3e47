/-! making the objects: numbers in arrays, calls of methods -/
section BWI
variable {g : BC} {d kc ks : Nat} {M : MD} {pc n : Nat} {L L2 : List (Nat × Value)} {S : List Value} {es : List va_E} {Q : BK}
theorem bw_iadd {x y z : Int32} (hd : decode M.2.1 pc = .ok (.iadd, 1)) (hn : pc + 1 = n) (hz : x + y = z) (k : BW g d kc ks M n L (.int z :: S) es Q) : BW g d kc ks M pc L (.int y :: .int x :: S) es Q := by
  intro p l e R s m args below meth c mc ms F hf hlo hmc hms hg hX H locs cells slots ls hc hs hx hP hS hl
  subst hn
  subst hz
  exact lv_iadd F.1 F.2.1 hd (k p l e R s m args below meth c mc ms F hf hlo hmc hms hg hX H locs cells slots ls hc hs hx hP hS hl)
theorem bw_iald {q0 N : Nat} {f : Nat → Int32} {i : Int32} {v : Int32} (hd : decode M.2.1 pc = .ok (.iaload, 1)) (hn : pc + 1 = n) (ha : es[q0]? = some (.inl (g.2.2 0, N, .inl f))) (hin : vp_in i N) (hv : f i.toNatClampNeg = v)
    (k : BW g d kc ks M n L (.int v :: S) es Q) : BW g d kc ks M pc L (.int i :: .ref (g.1 + q0) :: S) es Q := by
  intro p l e R s m args below meth c mc ms F hf hlo hmc hms hg hX H locs cells slots ls hc hs hx hP hS hl
  subst hn
  subst hv
  have J := F.2.2.2.2.2.2.2
  exact va_iald F.1 F.2.1 J.2.2.1 hP.1 q0 0 (by rw [bz_get, ha]; rfl) rfl hin hd (k p l e R s m args below meth c mc ms F hf hlo hmc hms hg hX H locs cells slots ls hc hs hx hP hS hl)
theorem bw_iast {q0 N : Nat} {f : Nat → Int32} {i x : Int32} (hd : decode M.2.1 pc = .ok (.iastore, 1)) (hn : pc + 1 = n) (ha : es[q0]? = some (.inl (g.2.2 0, N, .inl f))) (hin : vp_in i N)
    (k : BW g d kc ks M n L S (es.set q0 (.inl (g.2.2 0, N, .inl (upd f i.toNatClampNeg x)))) Q) : BW g d kc ks M pc L (.int x :: .int i :: .ref (g.1 + q0) :: S) es Q := by
  intro p l e R s m args below meth c mc ms F hf hlo hmc hms hg hX H locs cells slots ls hc hs hx hP hS hl
  subst hn
  have J := F.2.2.2.2.2.2.2
  refine va_iast F.1 F.2.1 J.2.2.1 hP.1 (bz_D g es) hS q0 0 (by rw [bz_get, ha]; rfl) rfl hin hd (fun H1 locs1 hP1 hD1 hS1 => ?_)
  rw [bz_set] at hP1
  refine bz_sz fun hz => ?_
  have hq : q0 < es.length := (List.getElem?_eq_some_iff.mp ha).1
  exact k p l e R s m args below meth c mc ms F hf hlo hmc hms hg hX H1 locs1 cells slots ls hc hs (by rw [List.length_set]; exact hx) ⟨hP1, bz_full hP1 (by rw [List.length_set]; omega) (by rw [List.length_set]; omega)⟩ hS1 hl
/-- a method's call, by a contract: no cells come -/
theorem bw_vcall {idx q0 ci N na : Nat} {M' : MD} {fs as : List Value} {St : List Value} {T : u_T} {Q' : List va_E → Prop} (hd : decode M.2.1 pc = .ok (.invokevirtual idx, 3)) (hn : pc + 3 = n) (hl0 : Cond.methodLink M.1.cls idx M'.1 ∈ oa_GT) (hM : oa_MB M' na) (hna : as.length = na) (m6 : M'.2.2.2.1 = none) (m8 : Cond.instanceMethod M'.1 ∈ oa_GT) (m9 : Cond.selects M'.1.cls M'.1 M'.1 ∈ oa_GT) (hci : vwCl[ci]? = some (M'.1.cls, T, N)) (he : es[q0]? = some (.inr (ci, fs)))
    (hS0 : (S.map fun v => v.category).sum ≤ 8) (hSt : St = as.reverse ++ .ref (g.1 + q0) :: S) (cc : BL g d 0 0 M' (.ref (g.1 + q0) :: as) es Q') (hlen : ∀ es', Q' es' → es'.length = es.length) (k : ∀ es', Q' es' → BW g (d + 1) kc ks M n L S es' Q) : BW g (d + 1) kc ks M pc L St es Q := by
  intro p l e R s m args below meth c mc ms F hf hlo hmc hms hg hX H locs cells slots ls hc hs hx hP hS hl
  subst hn
  subst hSt
  obtain ⟨m1, m2, m3, m4, m5⟩ := hM
  have J := F.2.2.2.2.2.2.2
  have hts : ∀ w ∈ oa_GT, w.before args s = true := fun w hw => J.1 w hw args
  have hcw : oa_cw M' = Cond.code M'.1 M'.2.1 M'.2.2.1 none := by unfold oa_cw; rw [m6]
  have hws : ∀ q ∈ [oa_cw M'], ∀ (a' : Array Value) (U : State), s.WarmedH U.vm → q.before a' U = true := fun q hq a' U hW => by
    rcases List.mem_singleton.mp hq with rfl
    exact word_at hW (good_of_word (List.mem_filter.mp m1).2) (J.1 _ m1 args)
  have hsig : ∀ sig, parseMethodDescriptor M'.1.desc = some sig → na = sig.parameters.length := fun sig hsg => by
    rw [hsg] at m4
    exact (Option.some.inj m4).symm
  have hrv := va_recv J.2.2.1 hP.1 hci (q0 := q0) (a := g.1 + q0) (fs := fs) (by rw [bz_get, he]; rfl)
  have pre : PreV s H M'.1.cls (g.1 + q0) (bz_PC g (.ref (g.1 + q0) :: as) es) as := ⟨bz_blind, hrv, fun U hU hW => ⟨rfl, J.moved hW, by rw [hU]; exact hP⟩⟩
  have run : va_Run p l e R s m args below meth c H locs cells slots 0 0 (F0 m pc ls (as.reverse ++ .ref (g.1 + q0) :: S)) S (bz_Q g Q' (Value.ref (g.1 + q0) :: as).toArray) (bz_A g) := by
    exact va_runV (Ts := oa_GT) (nL := M.2.2.1) (As := as) (rest := S) (C := M'.1.cls) (b := g.1 + q0) ⟨F.1, F.2.1, F.2.2.1, F.2.2.2.2.1, hts⟩ (cc l) ⟨⟨rfl, rfl, by show d + 1 ≤ R.frames; omega, by show 8 + (M'.2.2.1 + 11) + 64 * d ≤ R.locals; omega, hws, by rw [hcw]; exact List.mem_cons_self, by rw [← hcw]; exact hts _ m1, hts _ m2, m3, hsig, hts _ hl0⟩, hts _ m8, hts _ m9⟩ pre rfl hna hl.1 rfl (lv_room hS0) hd ⟨by omega, by omega⟩
  refine va_callv run hS (fun _ _ z => z) (fun _ z => z) (fun es' t H1 locs1 ht hvm hq hB hz1 hk1 hS1 => ?_)
  have hB' : bz_P g es' t.heap := hB
  rw [ht] at hB'
  exact k es' hq p l e R s m args below meth c mc ms F hf hlo hmc hms hg hX H1 locs1 (cells + 0) (slots + 0) ls (by omega) (by omega) (by rw [hlen es' hq]; omega) hB' hS1 hl
end BWI
