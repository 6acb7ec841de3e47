/-! questions and actions, over the whole relation, in one form -/
section LWY
variable {h hm : Hp} {n : Nat}
theorem y_append (hn : n < 512) (A : RA h hm n) (a1 a2 a3 a4 a5 : Int32) : p_X11_append h a1 a2 a3 a4 a5 ∧ p_X12_append hm a1 a2 a3 a4 a5 ∧ f_X11_append h a1 a2 a3 a4 a5 = f_X12_append hm a1 a2 a3 a4 a5 ∧ RA (g_X11_append h a1 a2 a3 a4 a5) (g_X12_append hm a1 a2 a3 a4 a5) (n + 1) := by
  have z := z_append A a1 a2 a3 a4 a5
  exact ⟨z.1, z.2.1, z.2.2.1, z.2.2.2.mono (by omega)⟩
theorem y_truncate (hn : n < 512) (A : RA h hm n) (a1 : Int32) : p_X11_truncate h a1 ∧ p_X12_truncate hm a1 ∧ f_X11_truncate h a1 = f_X12_truncate hm a1 ∧ RA (g_X11_truncate h a1) (g_X12_truncate hm a1) (n + 1) := by
  have z := e_truncate A a1
  exact ⟨z.1, z.2.1, z.2.2.1, z.2.2.2.mono (by omega)⟩
theorem y_errorOffset (hn : n < 512) (A : RA h hm n) : p_X11_errorOffset h ∧ p_X12_errorOffset hm ∧ f_X11_errorOffset h = f_X12_errorOffset hm ∧ RA h (g_X12_errorOffset hm) (n + 1) := by
  exact ⟨trivial, trivial, e_errorOffset A, RA.mono (A.thr (x := 0)) (by omega)⟩
theorem y_errorKind (hn : n < 512) (A : RA h hm n) : p_X11_errorKind h ∧ p_X12_errorKind hm ∧ f_X11_errorKind h = f_X12_errorKind hm ∧ RA h (g_X12_errorKind hm) (n + 1) := by
  exact ⟨trivial, trivial, e_errorKind A, RA.mono (A.thr (x := 0)) (by omega)⟩
theorem y_count (hn : n < 512) (A : RA h hm n) (a1 : Int32) : p_X11_count h a1 ∧ p_X12_count hm a1 ∧ f_X11_count h a1 = f_X12_count hm a1 ∧ RA h (g_X12_count hm a1) (n + 1) := by
  have z := e_count A a1
  refine ⟨z.1, z.2.1, z.2.2.1, ?_⟩
  rw [z.2.2.2]
  exact A.thr.mono (by omega)
theorem y_lineCount (hn : n < 512) (A : RA h hm n) (a1 : Int32) : p_X11_lineCount h a1 ∧ p_X12_lineCount hm a1 ∧ ZT (x_X11_lineCount h a1) (f_X11_lineCount h a1) (f_X12_lineCount hm a1) (g_X12_lineCount hm a1) [(1, 1)] ∧ RA h (g_X12_lineCount hm a1) (n + 1) := by
  obtain ⟨T, w, B, -⟩ := id A
  have q := q_lineCount B a1
  have r := A.qa q.2.2
  exact ⟨q.1, q.2.1, r.1, (r.2).mono (by omega)⟩
theorem y_lineItem (hn : n < 512) (A : RA h hm n) (a1 a2 : Int32) : p_X11_lineItem h a1 a2 ∧ p_X12_lineItem hm a1 a2 ∧ ZT (x_X11_lineItem h a1 a2) (f_X11_lineItem h a1 a2) (f_X12_lineItem hm a1 a2) (g_X12_lineItem hm a1 a2) [(1, 1)] ∧ RA h (g_X12_lineItem hm a1 a2) (n + 1) := by
  obtain ⟨T, w, B, -⟩ := id A
  have q := q_lineItem B a1 a2
  have r := A.qa q.2.2
  exact ⟨q.1, q.2.1, r.1, (r.2).mono (by omega)⟩
theorem y_lineQuantity (hn : n < 512) (A : RA h hm n) (a1 a2 : Int32) : p_X11_lineQuantity h a1 a2 ∧ p_X12_lineQuantity hm a1 a2 ∧ ZT (x_X11_lineQuantity h a1 a2) (f_X11_lineQuantity h a1 a2) (f_X12_lineQuantity hm a1 a2) (g_X12_lineQuantity hm a1 a2) [(1, 1)] ∧ RA h (g_X12_lineQuantity hm a1 a2) (n + 1) := by
  obtain ⟨T, w, B, -⟩ := id A
  have q := q_lineQuantity B a1 a2
  have r := A.qa q.2.2
  exact ⟨q.1, q.2.1, r.1, (r.2).mono (by omega)⟩
theorem y_need (hn : n < 512) (A : RA h hm n) (a1 a2 : Int32) : p_X11_need h a1 a2 ∧ p_X12_need hm a1 a2 ∧ ZT (x_X11_need h a1 a2) (f_X11_need h a1 a2) (f_X12_need hm a1 a2) (g_X12_need hm a1 a2) [(1, 1)] ∧ RA h (g_X12_need hm a1 a2) (n + 1) := by
  obtain ⟨T, w, B, -⟩ := id A
  have q := q_need B.1 B.2.2.1 B.2.2.2.1 a1 a2
  have r := A.qa q.2.2
  exact ⟨q.1, q.2.1, r.1, (r.2).mono (by omega)⟩
theorem y_pieces (hn : n < 512) (A : RA h hm n) (a1 : Int32) : p_X11_pieces h a1 ∧ p_X12_pieces hm a1 ∧ ZT (x_X11_pieces h a1) (f_X11_pieces h a1) (f_X12_pieces hm a1) (g_X12_pieces hm a1) [(1, 1)] ∧ RA h (g_X12_pieces hm a1) (n + 1) := by
  obtain ⟨T, w, B, -⟩ := id A
  have q := q_pieces B a1
  have r := A.qa q.2.2
  exact ⟨q.1, q.2.1, r.1, (r.2).mono (by omega)⟩
theorem y_usedBy (hn : n < 512) (A : RA h hm n) (a1 : Int32) : p_X11_usedBy h a1 ∧ p_X12_usedBy hm a1 ∧ ZT (x_X11_usedBy h a1) (f_X11_usedBy h a1) (f_X12_usedBy hm a1) (g_X12_usedBy hm a1) [(1, 1)] ∧ RA h (g_X12_usedBy hm a1) (n + 1) := by
  obtain ⟨T, w, B, -⟩ := id A
  have q := q_usedBy B a1
  have r := A.qa q.2.2
  exact ⟨q.1, q.2.1, r.1, (r.2).mono (by omega)⟩
theorem y_commonParts (hn : n < 512) (A : RA h hm n) (a1 a2 : Int32) : p_X11_commonParts h a1 a2 ∧ p_X12_commonParts hm a1 a2 ∧ ZT (x_X11_commonParts h a1 a2) (f_X11_commonParts h a1 a2) (f_X12_commonParts hm a1 a2) (g_X12_commonParts hm a1 a2) [(1, 1)] ∧ RA h (g_X12_commonParts hm a1 a2) (n + 1) := by
  obtain ⟨T, w, B, -⟩ := id A
  have q := q_commonParts B a1 a2
  have r := A.qa q.2.2
  exact ⟨q.1, q.2.1, r.1, (r.2).mono (by omega)⟩
theorem y_day (hn : n < 512) (A : RA h hm n) : p_X11_day h ∧ p_X12_day hm ∧ f_X11_day h = f_X12_day hm ∧ RA h (g_X12_day hm) (n + 1) := by
  exact ⟨trivial, trivial, e_day A, RA.mono (A.thr (x := 0)) (by omega)⟩
theorem y_stock (hn : n < 512) (A : RA h hm n) (a1 : Int32) : p_X11_stock h a1 ∧ p_X12_stock hm a1 ∧ ZT (x_X11_stock h a1) (f_X11_stock h a1) (f_X12_stock hm a1) (g_X12_stock hm a1) [(1, 1)] ∧ RA h (g_X12_stock hm a1) (n + 1) := by
  obtain ⟨T, w, B, -⟩ := id A
  have q := q_stock B a1
  have r := A.qa q.2.2
  exact ⟨q.1, q.2.1, r.1, (r.2).mono (by omega)⟩
theorem y_reserved (hn : n < 512) (A : RA h hm n) (a1 : Int32) : p_X11_reserved h a1 ∧ p_X12_reserved hm a1 ∧ ZT (x_X11_reserved h a1) (f_X11_reserved h a1) (f_X12_reserved hm a1) (g_X12_reserved hm a1) [(1, 1)] ∧ RA h (g_X12_reserved hm a1) (n + 1) := by
  obtain ⟨T, w, B, -⟩ := id A
  have q := q_reserved B a1
  have r := A.qa q.2.2
  exact ⟨q.1, q.2.1, r.1, (r.2).mono (by omega)⟩
theorem y_arriving (hn : n < 512) (A : RA h hm n) (a1 : Int32) : p_X11_arriving h a1 ∧ p_X12_arriving hm a1 ∧ ZT (x_X11_arriving h a1) (f_X11_arriving h a1) (f_X12_arriving hm a1) (g_X12_arriving hm a1) [(1, 1)] ∧ RA h (g_X12_arriving hm a1) (n + 1) := by
  obtain ⟨T, w, B, -⟩ := id A
  have q := q_arriving (by omega) B a1
  have r := A.qa q.2.2
  exact ⟨q.1, q.2.1, r.1, (r.2).mono (by omega)⟩
theorem y_nextArrival (hn : n < 512) (A : RA h hm n) (a1 : Int32) : p_X11_nextArrival h a1 ∧ p_X12_nextArrival hm a1 ∧ ZT (x_X11_nextArrival h a1) (f_X11_nextArrival h a1) (f_X12_nextArrival hm a1) (g_X12_nextArrival hm a1) [(1, 1)] ∧ RA h (g_X12_nextArrival hm a1) (n + 1) := by
  obtain ⟨T, w, B, -⟩ := id A
  have q := q_nextArrival B a1
  have r := A.qa q.2.2
  exact ⟨q.1, q.2.1, r.1, (r.2).mono (by omega)⟩
theorem y_buildable (hn : n < 512) (A : RA h hm n) (a1 : Int32) : p_X11_buildable h a1 ∧ p_X12_buildable hm a1 ∧ ZT (x_X11_buildable h a1) (f_X11_buildable h a1) (f_X12_buildable hm a1) (g_X12_buildable hm a1) [(1, 1)] ∧ RA (g_X11_buildable h a1) (g_X12_buildable hm a1) (n + 1) := by
  obtain ⟨T, w, B, -⟩ := id A
  have q := q_buildable (by omega) B a1
  have r := A.qa q.2.2
  exact ⟨q.1, q.2.1, r.1, (r.2.scr (fun t ht i => fr_X11_buildable (by unfold CS at ht; omega)) gl_X11_buildable gr_X11_buildable).mono (by omega)⟩
theorem y_bottleneck (hn : n < 512) (A : RA h hm n) (a1 : Int32) : p_X11_bottleneck h a1 ∧ p_X12_bottleneck hm a1 ∧ ZT (x_X11_bottleneck h a1) (f_X11_bottleneck h a1) (f_X12_bottleneck hm a1) (g_X12_bottleneck hm a1) [(1, 1)] ∧ RA (g_X11_bottleneck h a1) (g_X12_bottleneck hm a1) (n + 1) := by
  obtain ⟨T, w, B, -⟩ := id A
  have q := q_bottleneck (by omega) B a1
  have r := A.qa q.2.2
  exact ⟨q.1, q.2.1, r.1, (r.2.scr (fun t ht i => fr_X11_bottleneck (by unfold CS at ht; omega)) gl_X11_bottleneck gr_X11_bottleneck).mono (by omega)⟩
theorem y_buildableTogether (hn : n < 512) (A : RA h hm n) (a1 a2 : Int32) : p_X11_buildableTogether h a1 a2 ∧ p_X12_buildableTogether hm a1 a2 ∧ ZT (x_X11_buildableTogether h a1 a2) (f_X11_buildableTogether h a1 a2) (f_X12_buildableTogether hm a1 a2) (g_X12_buildableTogether hm a1 a2) [(1, 1), (2, 2)] ∧ RA (g_X11_buildableTogether h a1 a2) (g_X12_buildableTogether hm a1 a2) (n + 1) := by
  obtain ⟨T, w, B, -⟩ := id A
  have q := q_buildableTogether (by omega) B a1 a2
  have r := A.qb q.2.2
  exact ⟨q.1, q.2.1, r.1, (r.2.scr (fun t ht i => fr_X11_buildableTogether (by unfold CS at ht; omega)) gl_X11_buildableTogether gr_X11_buildableTogether).mono (by omega)⟩
theorem y_stateOf (hn : n < 512) (A : RA h hm n) (a1 : Int32) : p_X11_stateOf h a1 ∧ p_X12_stateOf hm a1 ∧ ZT (x_X11_stateOf h a1) (f_X11_stateOf h a1) (f_X12_stateOf hm a1) (g_X12_stateOf hm a1) [(1, 1)] ∧ RA h (g_X12_stateOf hm a1) (n + 1) := by
  obtain ⟨T, w, B, -⟩ := id A
  have q := q_stateOf B a1
  have r := A.qa q.2.2
  exact ⟨q.1, q.2.1, r.1, (r.2).mono (by omega)⟩
theorem y_openUnits (hn : n < 512) (A : RA h hm n) (a1 : Int32) : p_X11_openUnits h a1 ∧ p_X12_openUnits hm a1 ∧ ZT (x_X11_openUnits h a1) (f_X11_openUnits h a1) (f_X12_openUnits hm a1) (g_X12_openUnits hm a1) [(1, 1)] ∧ RA h (g_X12_openUnits hm a1) (n + 1) := by
  obtain ⟨T, w, B, -⟩ := id A
  have q := q_openUnits B a1
  have r := A.qa q.2.2
  exact ⟨q.1, q.2.1, r.1, (r.2).mono (by omega)⟩
theorem y_reservedUnits (hn : n < 512) (A : RA h hm n) (a1 : Int32) : p_X11_reservedUnits h a1 ∧ p_X12_reservedUnits hm a1 ∧ ZT (x_X11_reservedUnits h a1) (f_X11_reservedUnits h a1) (f_X12_reservedUnits hm a1) (g_X12_reservedUnits hm a1) [(1, 1)] ∧ RA h (g_X12_reservedUnits hm a1) (n + 1) := by
  obtain ⟨T, w, B, -⟩ := id A
  have q := q_reservedUnits B a1
  have r := A.qa q.2.2
  exact ⟨q.1, q.2.1, r.1, (r.2).mono (by omega)⟩
theorem y_shippedUnits (hn : n < 512) (A : RA h hm n) (a1 : Int32) : p_X11_shippedUnits h a1 ∧ p_X12_shippedUnits hm a1 ∧ ZT (x_X11_shippedUnits h a1) (f_X11_shippedUnits h a1) (f_X12_shippedUnits hm a1) (g_X12_shippedUnits hm a1) [(1, 1)] ∧ RA h (g_X12_shippedUnits hm a1) (n + 1) := by
  obtain ⟨T, w, B, -⟩ := id A
  have q := q_shippedUnits B a1
  have r := A.qa q.2.2
  exact ⟨q.1, q.2.1, r.1, (r.2).mono (by omega)⟩
theorem y_orderField (hn : n < 512) (A : RA h hm n) (a1 a2 : Int32) : p_X11_orderField h a1 a2 ∧ p_X12_orderField hm a1 a2 ∧ ZT (x_X11_orderField h a1 a2) (f_X11_orderField h a1 a2) (f_X12_orderField hm a1 a2) (g_X12_orderField hm a1 a2) [(1, 1)] ∧ RA h (g_X12_orderField hm a1 a2) (n + 1) := by
  obtain ⟨T, w, B, -⟩ := id A
  have q := q_orderField B a1 a2
  have r := A.qa q.2.2
  exact ⟨q.1, q.2.1, r.1, (r.2).mono (by omega)⟩
theorem y_missing (hn : n < 512) (A : RA h hm n) (a1 a2 : Int32) : p_X11_missing h a1 a2 ∧ p_X12_missing hm a1 a2 ∧ ZT (x_X11_missing h a1 a2) (f_X11_missing h a1 a2) (f_X12_missing hm a1 a2) (g_X12_missing hm a1 a2) [(1, 1)] ∧ RA h (g_X12_missing hm a1 a2) (n + 1) := by
  obtain ⟨T, w, B, -⟩ := id A
  have q := q_missing B a1 a2
  have r := A.qa q.2.2
  exact ⟨q.1, q.2.1, r.1, (r.2).mono (by omega)⟩
theorem y_toBuy (hn : n < 512) (A : RA h hm n) (a1 : Int32) : p_X11_toBuy h a1 ∧ p_X12_toBuy hm a1 ∧ ZT (x_X11_toBuy h a1) (f_X11_toBuy h a1) (f_X12_toBuy hm a1) (g_X12_toBuy hm a1) [(1, 1)] ∧ RA h (g_X12_toBuy hm a1) (n + 1) := by
  obtain ⟨T, w, B, -⟩ := id A
  have q := q_toBuy (by omega) B a1
  have r := A.qa q.2.2
  exact ⟨q.1, q.2.1, r.1, (r.2).mono (by omega)⟩
theorem y_scarcestPart (hn : n < 512) (A : RA h hm n) : p_X11_scarcestPart h ∧ p_X12_scarcestPart hm ∧ f_X11_scarcestPart h = f_X12_scarcestPart hm ∧ RA h (g_X12_scarcestPart hm) (n + 1) := by
  obtain ⟨T, w, B, -⟩ := id A
  have q := q_scarcestPart (by omega) B
  have r := A.qn q.2.2
  exact ⟨q.1, q.2.1, r.1, (r.2.2).mono (by omega)⟩
theorem y_promise (hn : n < 512) (A : RA h hm n) (a1 a2 : Int32) : p_X11_promise h a1 a2 ∧ p_X12_promise hm a1 a2 ∧ ZT (x_X11_promise h a1 a2) (f_X11_promise h a1 a2) (f_X12_promise hm a1 a2) (g_X12_promise hm a1 a2) [(1, 1), (2, 2)] ∧ RA h (g_X12_promise hm a1 a2) (n + 1) := by
  obtain ⟨T, w, B, -⟩ := id A
  have q := q_promise (by omega) B a1 a2
  have r := A.qb q.2.2
  exact ⟨q.1, q.2.1, r.1, (r.2).mono (by omega)⟩
theorem y_promiseOf (hn : n < 512) (A : RA h hm n) (a1 : Int32) : p_X11_promiseOf h a1 ∧ p_X12_promiseOf hm a1 ∧ ZT (x_X11_promiseOf h a1) (f_X11_promiseOf h a1) (f_X12_promiseOf hm a1) (g_X12_promiseOf hm a1) [(1, 1)] ∧ RA h (g_X12_promiseOf hm a1) (n + 1) := by
  obtain ⟨T, w, B, -⟩ := id A
  have q := q_promiseOf (by omega) B a1
  have r := A.qa q.2.2
  exact ⟨q.1, q.2.1, r.1, (r.2).mono (by omega)⟩
theorem y_delayingPart (hn : n < 512) (A : RA h hm n) (a1 : Int32) : p_X11_delayingPart h a1 ∧ p_X12_delayingPart hm a1 ∧ ZT (x_X11_delayingPart h a1) (f_X11_delayingPart h a1) (f_X12_delayingPart hm a1) (g_X12_delayingPart hm a1) [(1, 1)] ∧ RA h (g_X12_delayingPart hm a1) (n + 1) := by
  obtain ⟨T, w, B, -⟩ := id A
  have q := q_delayingPart (by omega) B a1
  have r := A.qa q.2.2
  exact ⟨q.1, q.2.1, r.1, (r.2).mono (by omega)⟩
theorem y_lateOrders (hn : n < 512) (A : RA h hm n) : p_X11_lateOrders h ∧ p_X12_lateOrders hm ∧ f_X11_lateOrders h = f_X12_lateOrders hm ∧ RA h (g_X12_lateOrders hm) (n + 1) := by
  obtain ⟨T, w, B, -⟩ := id A
  have q := q_lateOrders (by omega) B
  have r := A.qn q.2.2
  exact ⟨q.1, q.2.1, r.1, (r.2.2).mono (by omega)⟩
theorem y_wouldGet (hn : n < 512) (A : RA h hm n) (a1 : Int32) : p_X11_wouldGet h a1 ∧ p_X12_wouldGet hm a1 ∧ ZT (x_X11_wouldGet h a1) (f_X11_wouldGet h a1) (f_X12_wouldGet hm a1) (g_X12_wouldGet hm a1) [(1, 1)] ∧ RA (g_X11_wouldGet h a1) (g_X12_wouldGet hm a1) (n + 1) := by
  have z := z_wouldGet (by omega) A a1
  exact ⟨z.1, z.2.1, z.2.2.1, z.2.2.2.mono (by omega)⟩
theorem y_rungOf (hn : n < 512) (A : RA h hm n) (a1 : Int32) : p_X11_rungOf h a1 ∧ p_X12_rungOf hm a1 ∧ ZT (x_X11_rungOf h a1) (f_X11_rungOf h a1) (f_X12_rungOf hm a1) (g_X12_rungOf hm a1) [(1, 1)] ∧ RA (g_X11_rungOf h a1) (g_X12_rungOf hm a1) (n + 1) := by
  have z := z_rungOf (by omega) A a1
  exact ⟨z.1, z.2.1, z.2.2.1, z.2.2.2.mono (by omega)⟩
theorem y_rungUnits (hn : n < 512) (A : RA h hm n) (a1 : Int32) : p_X11_rungUnits h a1 ∧ p_X12_rungUnits hm a1 ∧ ZT (x_X11_rungUnits h a1) (f_X11_rungUnits h a1) (f_X12_rungUnits hm a1) (g_X12_rungUnits hm a1) [(1, 1)] ∧ RA (g_X11_rungUnits h a1) (g_X12_rungUnits hm a1) (n + 1) := by
  have z := z_rungUnits (by omega) A a1
  exact ⟨z.1, z.2.1, z.2.2.1, z.2.2.2.mono (by omega)⟩
theorem y_missingPieces (hn : n < 512) (A : RA h hm n) (a1 : Int32) : p_X11_missingPieces h a1 ∧ p_X12_missingPieces hm a1 ∧ ZT (x_X11_missingPieces h a1) (f_X11_missingPieces h a1) (f_X12_missingPieces hm a1) (g_X12_missingPieces hm a1) [(1, 1)] ∧ RA h (g_X12_missingPieces hm a1) (n + 1) := by
  obtain ⟨T, w, B, -⟩ := id A
  have q := q_missingPieces B a1
  have r := A.qa q.2.2
  exact ⟨q.1, q.2.1, r.1, (r.2).mono (by omega)⟩
theorem y_buildableAfter (hn : n < 512) (A : RA h hm n) (a1 a2 a3 : Int32) : p_X11_buildableAfter h a1 a2 a3 ∧ p_X12_buildableAfter hm a1 a2 a3 ∧ ZT (x_X11_buildableAfter h a1 a2 a3) (f_X11_buildableAfter h a1 a2 a3) (f_X12_buildableAfter hm a1 a2 a3) (g_X12_buildableAfter hm a1 a2 a3) [(1, 1), (2, 2)] ∧ RA (g_X11_buildableAfter h a1 a2 a3) (g_X12_buildableAfter hm a1 a2 a3) (n + 1) := by
  obtain ⟨T, w, B, -⟩ := id A
  have q := q_buildableAfter (by omega) B a1 a2 a3
  have r := A.qb q.2.2
  exact ⟨q.1, q.2.1, r.1, (r.2.scr (fun t ht i => fr_X11_buildableAfter (by unfold CS at ht; omega)) gl_X11_buildableAfter gr_X11_buildableAfter).mono (by omega)⟩
theorem y_coveredOrders (hn : n < 512) (A : RA h hm n) : p_X11_coveredOrders h ∧ p_X12_coveredOrders hm ∧ f_X11_coveredOrders h = f_X12_coveredOrders hm ∧ RA (g_X11_coveredOrders h) (g_X12_coveredOrders hm) (n + 1) := by
  have z := z_coveredOrders (by omega) A
  exact ⟨z.1, z.2.1, z.2.2.1, z.2.2.2.mono (by omega)⟩
theorem y_promiseOfAll (hn : n < 512) (A : RA h hm n) : p_X11_promiseOfAll h ∧ p_X12_promiseOfAll hm ∧ f_X11_promiseOfAll h = f_X12_promiseOfAll hm ∧ RA h (g_X12_promiseOfAll hm) (n + 1) := by
  obtain ⟨T, w, B, -⟩ := id A
  have q := q_promiseOfAll (by omega) B
  have r := A.qn q.2.2
  exact ⟨q.1, q.2.1, r.1, (r.2.2).mono (by omega)⟩
theorem y_addOrder (hn : n < 512) (A : RA h hm n) (a1 a2 a3 a4 a5 : Int32) (hb : a5 = 0 ∨ a5 = 1) : p_X11_addOrder h a1 a2 a3 a4 a5 ∧ p_X12_addOrder hm a1 a2 a3 a4 a5 ∧ ZT (x_X11_addOrder h a1 a2 a3 a4 a5) (f_X11_addOrder h a1 a2 a3 a4 a5) (f_X12_addOrder hm a1 a2 a3 a4 a5) (g_X12_addOrder hm a1 a2 a3 a4 a5) [(1, 1), (2, 2), (3, 3)] ∧ RA (g_X11_addOrder h a1 a2 a3 a4 a5) (g_X12_addOrder hm a1 a2 a3 a4 a5) (n + 1) := by
  have z := z_addOrder (by omega) A a1 a2 a3 a4 a5 hb
  exact ⟨z.1, z.2.1, z.2.2.1, z.2.2.2.mono (by omega)⟩
theorem y_cancel (hn : n < 512) (A : RA h hm n) (a1 : Int32) : p_X11_cancel h a1 ∧ p_X12_cancel hm a1 ∧ ZT (x_X11_cancel h a1) (f_X11_cancel h a1) (f_X12_cancel hm a1) (g_X12_cancel hm a1) [(1, 1), (3, 2)] ∧ RA (g_X11_cancel h a1) (g_X12_cancel hm a1) (n + 1) := by
  have z := z_cancel (by omega) A a1
  exact ⟨z.1, z.2.1, z.2.2.1, z.2.2.2.mono (by omega)⟩
theorem y_reserve (hn : n < 512) (A : RA h hm n) (a1 a2 : Int32) : p_X11_reserve h a1 a2 ∧ p_X12_reserve hm a1 a2 ∧ ZT (x_X11_reserve h a1 a2) (f_X11_reserve h a1 a2) (f_X12_reserve hm a1 a2) (g_X12_reserve hm a1 a2) [(1, 1), (2, 2), (3, 3)] ∧ RA (g_X11_reserve h a1 a2) (g_X12_reserve hm a1 a2) (n + 1) := by
  have z := z_reserve (by omega) A a1 a2
  exact ⟨z.1, z.2.1, z.2.2.1, z.2.2.2.mono (by omega)⟩
theorem y_release (hn : n < 512) (A : RA h hm n) (a1 a2 : Int32) : p_X11_release h a1 a2 ∧ p_X12_release hm a1 a2 ∧ ZT (x_X11_release h a1 a2) (f_X11_release h a1 a2) (f_X12_release hm a1 a2) (g_X12_release hm a1 a2) [(1, 1), (2, 2), (3, 3)] ∧ RA (g_X11_release h a1 a2) (g_X12_release hm a1 a2) (n + 1) := by
  have z := z_release (by omega) A a1 a2
  exact ⟨z.1, z.2.1, z.2.2.1, z.2.2.2.mono (by omega)⟩
theorem y_allocate (hn : n < 512) (A : RA h hm n) : p_X11_allocate h ∧ p_X12_allocate hm ∧ f_X11_allocate h = f_X12_allocate hm ∧ RA (g_X11_allocate h) (g_X12_allocate hm) (n + 1) := by
  have z := z_allocate (by omega) A
  exact ⟨z.1, z.2.1, z.2.2.1, z.2.2.2.mono (by omega)⟩
theorem y_ship (hn : n < 512) (A : RA h hm n) (a1 : Int32) : p_X11_ship h a1 ∧ p_X12_ship hm a1 ∧ ZT (x_X11_ship h a1) (f_X11_ship h a1) (f_X12_ship hm a1) (g_X12_ship hm a1) [(1, 1), (3, 2)] ∧ RA (g_X11_ship h a1) (g_X12_ship hm a1) (n + 1) := by
  have z := z_ship (by omega) A a1
  exact ⟨z.1, z.2.1, z.2.2.1, z.2.2.2.mono (by omega)⟩
theorem y_buy (hn : n < 512) (A : RA h hm n) (a1 a2 : Int32) : p_X11_buy h a1 a2 ∧ p_X12_buy hm a1 a2 ∧ ZT (x_X11_buy h a1 a2) (f_X11_buy h a1 a2) (f_X12_buy hm a1 a2) (g_X12_buy hm a1 a2) [(1, 1), (2, 2), (3, 3)] ∧ RA (g_X11_buy h a1 a2) (g_X12_buy hm a1 a2) (n + 1) := by
  have z := z_buy (by omega) A a1 a2
  exact ⟨z.1, z.2.1, z.2.2.1, z.2.2.2.mono (by omega)⟩
theorem y_adjust (hn : n < 512) (A : RA h hm n) (a1 a2 : Int32) : p_X11_adjust h a1 a2 ∧ p_X12_adjust hm a1 a2 ∧ ZT (x_X11_adjust h a1 a2) (f_X11_adjust h a1 a2) (f_X12_adjust hm a1 a2) (g_X12_adjust hm a1 a2) [(1, 1), (2, 2)] ∧ RA (g_X11_adjust h a1 a2) (g_X12_adjust hm a1 a2) (n + 1) := by
  have z := z_adjust (by omega) A a1 a2
  exact ⟨z.1, z.2.1, z.2.2.1, z.2.2.2.mono (by omega)⟩
theorem y_advance (hn : n < 512) (A : RA h hm n) (a1 : Int32) : p_X11_advance h a1 ∧ p_X12_advance hm a1 ∧ ZT (x_X11_advance h a1) (f_X11_advance h a1) (f_X12_advance hm a1) (g_X12_advance hm a1) [(2, 1)] ∧ RA (g_X11_advance h a1) (g_X12_advance hm a1) (n + 1) := by
  have z := z_advance (by omega) A a1
  exact ⟨z.1, z.2.1, z.2.2.1, z.2.2.2.mono (by omega)⟩
theorem y_undo (hn : n < 512) (A : RA h hm n) : p_X11_undo h ∧ p_X12_undo hm ∧ f_X11_undo h = f_X12_undo hm ∧ RA (g_X11_undo h) (g_X12_undo hm) (n + 1) := by
  have z := z_undo (by omega) A
  exact ⟨z.1, z.2.1, z.2.2.1, z.2.2.2.mono (by omega)⟩
theorem y_undoDepth (hn : n < 512) (A : RA h hm n) : p_X11_undoDepth h ∧ p_X12_undoDepth hm ∧ f_X11_undoDepth h = f_X12_undoDepth hm ∧ RA h (g_X12_undoDepth hm) (n + 1) := by
  exact ⟨trivial, trivial, e_undoDepth A, RA.mono (A.thr (x := 0)) (by omega)⟩
theorem y_total (hn : n < 512) (A : RA h hm n) (a1 : Int32) : p_X11_total h a1 ∧ p_X12_total hm a1 ∧ f_X11_total h a1 = f_X12_total hm a1 ∧ RA h (g_X12_total hm a1) (n + 1) := by
  have z := e_total A a1
  refine ⟨z.1, z.2.1, z.2.2.1, ?_⟩
  rw [z.2.2.2]
  exact A.thr.mono (by omega)
theorem y_shipment (hn : n < 512) (A : RA h hm n) (a1 a2 : Int32) : p_X11_shipment h a1 a2 ∧ p_X12_shipment hm a1 a2 ∧ f_X11_shipment h a1 a2 = f_X12_shipment hm a1 a2 ∧ RA h (g_X12_shipment hm a1 a2) (n + 1) := by
  have z := e_shipment (by omega) A a1 a2
  refine ⟨z.1, z.2.1, z.2.2.1, ?_⟩
  rw [z.2.2.2]
  exact A.thr.mono (by omega)
theorem y_formattedByte (hn : n < 512) (A : RA h hm n) (a1 : Int32) : p_X11_formattedByte h a1 ∧ p_X12_formattedByte hm a1 ∧ f_X11_formattedByte h a1 = f_X12_formattedByte hm a1 ∧ RA h (g_X12_formattedByte hm a1) (n + 1) := by
  have z := e_formattedByte A a1
  refine ⟨z.1, z.2.1, z.2.2.1, ?_⟩
  rw [z.2.2.2]
  exact A.thr.mono (by omega)
end LWY
