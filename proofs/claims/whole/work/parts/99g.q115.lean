/-! the law: its loop -/
section LOP
variable {nS : Nat} {sc : Nat → Int32} {d : Nat} {Qr : Option AV → Hp → Prop} {Qx : String → Hp → Prop}
theorem ob_s6 : ∀ k, k < 6 → (Int32.ofNat k - 6 < 0) := by decide
theorem ob_lss {nS x : Nat} (h1 : nS ≤ 3072) (h2 : x ≤ 3072) : (Int32.ofNat nS - 6) < nI x ↔ nS < x + 6 := by
  by_cases c : nS < 6
  · have a := ob_s6 nS c
    have b : (0 : Int32) ≤ nI x := nI_pos' (by omega)
    constructor
    · intro _; omega
    · intro _
      rw [Int32.lt_iff_toInt_lt] at a ⊢
      rw [Int32.le_iff_toInt_le] at b
      omega
  · have e : Int32.ofNat nS - 6 = nI (nS - 6) := oa_sub (a := nS) (b := 6) (by omega)
    rw [e]
    exact (nI_ltI (by omega) (by omega)).trans (by omega)
theorem lw_all {x4 : Int32} {rb n : Nat} {h : Hp} (hn : n < 512) (A : RA h h n) (vx : vp_in x4 nS) (v1 : vp_in (x4 + 1) nS) (v2 : vp_in (x4 + 2) nS) (v3 : vp_in (x4 + 3) nS) (v4 : vp_in (x4 + 4) nS) (v5 : vp_in (x4 + 5) nS) (nx : ¬ ((Int32.ofNat nS) - 6) < x4) (k0 : AW (oa_X nS sc) (d + 10 + 1) (rb + 1) mL_law 3140 [(0, vR 2000 0), (1, vR 11 0), (2, vR 12 0), (3, vR 66 0), (4, vI x4)] [] h Qr Qx) (kk : ∀ h', RA h' h' (n + 1) → LK nS sc d rb x4 h' Qr Qx) : AW (oa_X nS sc) (d + 10 + 1) (rb + 1) mL_law 23 [(0, vR 2000 0), (1, vR 11 0), (2, vR 12 0), (3, vR 66 0), (4, vI x4)] [] h Qr Qx := by
  refine vc_L_law_23 (d := d + 10) ⟨fun z => (nx z).elim, fun _ => ⟨vx, fun _ => k0, fun _ => lw_append (rb := rb) hn A v1 v2 v3 v4 v5 kk, fun _ => lw_truncate (rb := rb) hn A v1 kk, fun _ => lw_load (rb := rb) hn A  kk, fun _ => lw_errorOffset (rb := rb) hn A  kk, fun _ => lw_errorKind (rb := rb) hn A  kk, fun _ => lw_count (rb := rb) hn A v1 kk, fun _ => lw_lineCount (rb := rb) hn A v1 kk, fun _ => lw_lineItem (rb := rb) hn A v1 v2 kk, fun _ => lw_lineQuantity (rb := rb) hn A v1 v2 kk, fun _ => lw_need (rb := rb) hn A v1 v2 kk, fun _ => lw_level (rb := rb) hn A v1 kk, fun _ => lw_pieces (rb := rb) hn A v1 kk, fun _ => lw_usedBy (rb := rb) hn A v1 kk, fun _ => lw_commonParts (rb := rb) hn A v1 v2 kk, fun _ => lw_day (rb := rb) hn A  kk, fun _ => lw_stock (rb := rb) hn A v1 kk, fun _ => lw_reserved (rb := rb) hn A v1 kk, fun _ => lw_arriving (rb := rb) hn A v1 kk, fun _ => lw_nextArrival (rb := rb) hn A v1 kk, fun _ => lw_buildable (rb := rb) hn A v1 kk, fun _ => lw_bottleneck (rb := rb) hn A v1 kk, fun _ => lw_buildableTogether (rb := rb) hn A v1 v2 kk, fun _ => lw_stateOf (rb := rb) hn A v1 kk, fun _ => lw_openUnits (rb := rb) hn A v1 kk, fun _ => lw_reservedUnits (rb := rb) hn A v1 kk, fun _ => lw_shippedUnits (rb := rb) hn A v1 kk, fun _ => lw_orderField (rb := rb) hn A v1 v2 kk, fun _ => lw_missing (rb := rb) hn A v1 v2 kk, fun _ => lw_toBuy (rb := rb) hn A v1 kk, fun _ => lw_scarcestPart (rb := rb) hn A  kk, fun _ => lw_promise (rb := rb) hn A v1 v2 kk, fun _ => lw_promiseOf (rb := rb) hn A v1 kk, fun _ => lw_delayingPart (rb := rb) hn A v1 kk, fun _ => lw_lateOrders (rb := rb) hn A  kk, fun _ => lw_wouldGet (rb := rb) hn A v1 kk, fun _ => lw_rungOf (rb := rb) hn A v1 kk, fun _ => lw_rungUnits (rb := rb) hn A v1 kk, fun _ => lw_missingPieces (rb := rb) hn A v1 kk, fun _ => lw_buildableAfter (rb := rb) hn A v1 v2 v3 kk, fun _ => lw_coveredOrders (rb := rb) hn A  kk, fun _ => lw_promiseOfAll (rb := rb) hn A  kk, fun _ => lw_addOrder (rb := rb) hn A v1 v2 v3 v4 v5 kk, fun _ => lw_cancel (rb := rb) hn A v1 kk, fun _ => lw_reserve (rb := rb) hn A v1 v2 kk, fun _ => lw_release (rb := rb) hn A v1 v2 kk, fun _ => lw_allocate (rb := rb) hn A  kk, fun _ => lw_ship (rb := rb) hn A v1 kk, fun _ => lw_buy (rb := rb) hn A v1 v2 kk, fun _ => lw_adjust (rb := rb) hn A v1 v2 kk, fun _ => lw_advance (rb := rb) hn A v1 kk, fun _ => lw_undo (rb := rb) hn A  kk, fun _ => lw_undoDepth (rb := rb) hn A  kk, fun _ => lw_total (rb := rb) hn A v1 kk, fun _ => lw_shipment (rb := rb) hn A v1 v2 kk, fun _ => lw_formatOrder (rb := rb) hn A v1 kk, fun _ => lw_formatNeeds (rb := rb) hn A v1 kk, fun _ => lw_formattedByte (rb := rb) hn A v1 kk⟩⟩
theorem lw_loop (hS : nS ≤ 3072) (kr : ∀ h, Qr (some (vI 1)) h) : ∀ (m j rb : Nat) (h : Hp), nS < 6 * (j + m) + 6 → m ≤ rb → j + m ≤ 512 → RA h h j → AW (oa_X nS sc) (d + 10 + 1) rb mL_law 23 [(0, vR 2000 0), (1, vR 11 0), (2, vR 12 0), (3, vR 66 0), (4, vI (nI (6 * j)))] [] h Qr Qx := by
  intro m
  induction m with
  | zero =>
    intro j rb h h1 h2 h3 A
    have e : (Int32.ofNat nS - 6) < nI (6 * j) := (ob_lss hS (by omega)).mpr (by omega)
    exact vc_L_law_23 (d := d + 10) ⟨fun _ => kr h, fun z => (z e).elim⟩
  | succ m ih =>
    intro j rb h h1 h2 h3 A
    by_cases c : nS < 6 * j + 6
    · have e : (Int32.ofNat nS - 6) < nI (6 * j) := (ob_lss hS (by omega)).mpr (by omega)
      exact vc_L_law_23 (d := d + 10) ⟨fun _ => kr h, fun z => (z e).elim⟩
    · obtain ⟨rb, rfl⟩ : ∃ r, rb = r + 1 := ⟨rb - 1, by omega⟩
      have e : ¬ (Int32.ofNat nS - 6) < nI (6 * j) := fun z => c ((ob_lss hS (by omega)).mp z)
      have w : ∀ i, i < 6 → vp_in (nI (6 * j + i)) nS := fun i hi => vp_in_nI (by omega) (by omega)
      have a1 : nI (6 * j) + 1 = nI (6 * j + 1) := nI_add _ 1
      have a2 : nI (6 * j) + 2 = nI (6 * j + 2) := nI_add _ 2
      have a3 : nI (6 * j) + 3 = nI (6 * j + 3) := nI_add _ 3
      have a4 : nI (6 * j) + 4 = nI (6 * j + 4) := nI_add _ 4
      have a5 : nI (6 * j) + 5 = nI (6 * j + 5) := nI_add _ 5
      have a6 : nI (6 * j) + 6 = nI (6 * (j + 1)) := nI_add _ 6
      have go : ∀ rb' h', m ≤ rb' → RA h' h' (j + 1) → AW (oa_X nS sc) (d + 10 + 1) rb' mL_law 3140 [(0, vR 2000 0), (1, vR 11 0), (2, vR 12 0), (3, vR 66 0), (4, vI (nI (6 * j)))] [] h' Qr Qx := fun rb' h' hr A' => by
        refine vc_L_law_3140 (d := d + 10) ?_
        rw [a6]
        exact ih (j + 1) rb' h' (by omega) hr (by omega) A'
      exact lw_all (by omega) A (w 0 (by omega)) (by rw [a1]; exact w 1 (by omega)) (by rw [a2]; exact w 2 (by omega)) (by rw [a3]; exact w 3 (by omega)) (by rw [a4]; exact w 4 (by omega)) (by rw [a5]; exact w 5 (by omega)) e (go (rb + 1) h (by omega) (A.mono (by omega))) (fun h' A' => go rb h' (by omega) A')
end LOP
