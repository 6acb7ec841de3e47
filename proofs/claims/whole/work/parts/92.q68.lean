/-! load: which item has a name, the model -/
section NMM
variable {h h' : Hp} {x : Nat → Nat} {t i k m s n c : Nat} {T : Nat → Nat}
def RD (h : Hp) (T : Nat → Nat) : Prop := ∀ k, k < 506 → h.1 57 0 k = nI (T k)
theorem RD.same (R : RD h T) (e : h'.1 57 0 = h.1 57 0) : RD h' T := by unfold RD; rw [e]; exact R
def ob_M (T x : Nat → Nat) (s n k i : Nat) : Prop := ∀ i', i ≤ i' → i' < 8 → T (4 + 8 * k + i') = if i' < n then x (s + i') else 0
theorem ob_M_s : ob_M T x s n k i ↔ ((i < 8 → T (4 + 8 * k + i) = if i < n then x (s + i) else 0) ∧ ob_M T x s n k (i + 1)) := by
  refine ⟨fun a => ⟨fun hk => a i (Nat.le_refl _) hk, fun k' h1 h2 => a k' (by omega) h2⟩, fun a k' h1 h2 => ?_⟩
  by_cases e : k' = i
  · rw [e]; exact a.1 (by omega)
  · exact a.2 k' (by omega) h2
theorem l_mn0 (hk : k < 20) : ∀ (m f i : Nat), i + m = 8 → pi_X12_named_78 (m + 1 + f) h (nI n) (nI k) 0 (nI i) ∧ iw_x3_X12_named_78 (m + 1 + f) h (nI n) (nI k) 0 (nI i) = 0 := by
  intro m
  induction m with
  | zero =>
    intro f i hi
    rw [show 0 + 1 + f = f + 1 by omega]
    have c : (8 : Int32) ≤ nI i := nI_le (a := 8) (by omega) (by omega)
    rw [pi_X12_named_78, iw_x3_X12_named_78, if_pos c]
    exact ⟨⟨fun _ => trivial, fun z => (z c).elim⟩, rfl⟩
  | succ m ih =>
    intro f i hi
    rw [show m + 1 + 1 + f = (m + 1 + f) + 1 by omega]
    have c : ¬ (8 : Int32) ≤ nI i := nI_ge (b := 8) (by omega) (by omega)
    have en : nI i + 1 = nI (i + 1) := nI_add i 1
    have r := ih f (i + 1) (by omega)
    rw [pi_X12_named_78, iw_x3_X12_named_78, if_neg c, if_pos rfl, en]
    exact ⟨⟨fun z => (c z).elim, fun _ => ⟨fun _ => r.1, fun z => (z rfl).elim⟩⟩, r.2⟩
theorem l_mn1 (X : XM h x t) (R : RD h T) (hT : ∀ k, k < 160 → T (4 + k) < 128) (e4 : h.1 12 0 4 = nI s) (hn : s + n ≤ t) (h8 : n ≤ 8) (hx : ∀ i, i < n → x (s + i) < 128) (hk : k < 20) : ∀ (m f i : Nat), i + m = 8 → pi_X12_named_78 (m + 1 + f) h (nI n) (nI k) 1 (nI i) ∧ ((iw_x3_X12_named_78 (m + 1 + f) h (nI n) (nI k) 1 (nI i) = 1 ∧ ob_M T x s n k i) ∨ (iw_x3_X12_named_78 (m + 1 + f) h (nI n) (nI k) 1 (nI i) = 0 ∧ ¬ ob_M T x s n k i)) := by
  have bt := X.1
  intro m
  induction m with
  | zero =>
    intro f i hi
    rw [show 0 + 1 + f = f + 1 by omega]
    have c : (8 : Int32) ≤ nI i := nI_le (a := 8) (by omega) (by omega)
    rw [pi_X12_named_78, iw_x3_X12_named_78, if_pos c]
    exact ⟨⟨fun _ => trivial, fun z => (z c).elim⟩, Or.inl ⟨rfl, fun i' h1 h2 => by omega⟩⟩
  | succ m ih =>
    intro f i hi
    rw [show m + 1 + 1 + f = (m + 1 + f) + 1 by omega]
    have c : ¬ (8 : Int32) ≤ nI i := nI_ge (b := 8) (by omega) (by omega)
    have en : nI i + 1 = nI (i + 1) := nI_add i 1
    have n10 : ¬ (1 : Int32) = 0 := by decide
    have e2 : ((4 : Int32) + 8 * nI k) + nI i = nI (4 + 8 * k + i) := by
      have a1 : (8 : Int32) * nI k = nI (8 * k) := oa_mul 8 k
      have a2 : (4 : Int32) + nI (8 * k) = nI (4 + 8 * k) := nI_add 4 (8 * k)
      rw [a1, a2, nI_add]
    have v1 : vp_in (nI (4 + 8 * k + i)) 506 := vp_in_nI (by omega) (by omega)
    have b := hT (8 * k + i) (by omega)
    rw [← Nat.add_assoc] at b
    have r := ih f (i + 1) (by omega)
    have r0 := l_mn0 (h := h) (n := n) hk m f (i + 1) (by omega)
    have fin : ∀ y : Nat, y < 128 → (y = if i < n then x (s + i) else 0) → 
        (∀ z : Int32, z = (if ¬ nI (T (4 + 8 * k + i)) = nI y then (0 : Int32) else 1) → pi_X12_named_78 (m + 1 + f) h (nI n) (nI k) z (nI (i + 1)) ∧ ((iw_x3_X12_named_78 (m + 1 + f) h (nI n) (nI k) z (nI (i + 1)) = 1 ∧ ob_M T x s n k i) ∨ (iw_x3_X12_named_78 (m + 1 + f) h (nI n) (nI k) z (nI (i + 1)) = 0 ∧ ¬ ob_M T x s n k i))) := by
      intro y hy ey z hz
      have q : nI (T (4 + 8 * k + i)) = nI y ↔ T (4 + 8 * k + i) = y := nI_eq (by omega) (by omega)
      by_cases d : T (4 + 8 * k + i) = y
      · rw [if_neg (fun w => w (q.mpr d))] at hz
        rw [hz]
        refine ⟨r.1, ?_⟩
        rcases r.2 with ⟨r1, r2⟩ | ⟨r1, r2⟩
        · exact Or.inl ⟨r1, ob_M_s.mpr ⟨fun _ => d.trans ey, r2⟩⟩
        · exact Or.inr ⟨r1, fun w => r2 (ob_M_s.mp w).2⟩
      · rw [if_pos (fun w => d (q.mp w))] at hz
        rw [hz]
        exact ⟨r0.1, Or.inr ⟨r0.2, fun w => d (((ob_M_s.mp w).1 (by omega)).trans ey.symm)⟩⟩
    rw [pi_X12_named_78, iw_x3_X12_named_78, if_neg c, if_neg n10, e2, nI_clamp (by omega), R _ (by omega), en]
    by_cases dn : i < n
    · have c2 : ¬ nI n ≤ nI i := nI_ge dn (by omega)
      have es : h.1 12 0 4 + nI i = nI (s + i) := by rw [e4, nI_add]
      have v2 : vp_in (nI (s + i)) 900 := vp_in_nI (by omega) (by omega)
      have cell : h.1 54 0 (s + i) = nI (x (s + i)) := by rw [(X.2.2 (s + i) (by omega)).2, ob_sb_lt _ (hx i dn)]
      rw [if_neg c2, es, nI_clamp (by omega), cell]
      have F := fin (x (s + i)) (hx i dn) (by rw [if_pos dn]) _ rfl
      exact ⟨⟨fun z => (c z).elim, fun _ => ⟨fun z => (n10 z).elim, fun _ => ⟨v1, fun z => (c2 z).elim, fun _ => ⟨v2, F.1⟩⟩⟩⟩, F.2⟩
    · have c2 : nI n ≤ nI i := nI_le (by omega) (by omega)
      rw [if_pos c2]
      have F := fin 0 (by omega) (by rw [if_neg dn]) _ rfl
      rw [nI_0] at F
      exact ⟨⟨fun z => (c z).elim, fun _ => ⟨fun z => (n10 z).elim, fun _ => ⟨v1, fun _ => F.1, fun z => (z c2).elim⟩⟩⟩, F.2⟩
end NMM
