theorem id_gw_X12_letters_9 : ∀ (n : Nat) (h : Hp) (x1 : Int32), gw_X12_letters_9 n h x1 = h := by
  intro n
  induction n with
  | zero => intros; rfl
  | succ n ih =>
    intro h x1
    simp only [gw_X12_letters_9, ih, ite_self]
theorem id_gw_X12_isWord_26 : ∀ (n : Nat) (h : Hp) (j1 : Nat) (x2 : Int32) (x3 : Int32), gw_X12_isWord_26 n h j1 x2 x3 = h := by
  intro n
  induction n with
  | zero => intros; rfl
  | succ n ih =>
    intro h j1 x2 x3
    simp only [gw_X12_isWord_26, ih, ite_self]
theorem id_gw_X12_named_19 : ∀ (n : Nat) (h : Hp) (x1 : Int32) (x2 : Int32), gw_X12_named_19 n h x1 x2 = h := by
  intro n
  induction n with
  | zero => intros; rfl
  | succ n ih =>
    intro h x1 x2
    simp only [gw_X12_named_19, ih, ite_self]
theorem id_gw_X12_pieces_19 : ∀ (n : Nat) (h : Hp) (x1 : Int32) (x2 : Int32) (x3 : Int32), gw_X12_pieces_19 n h x1 x2 x3 = h := by
  intro n
  induction n with
  | zero => intros; rfl
  | succ n ih =>
    intro h x1 x2 x3
    simp only [gw_X12_pieces_19, ih, ite_self]
theorem id_gw_X12_usedBy_19 : ∀ (n : Nat) (h : Hp) (x1 : Int32) (x2 : Int32) (x3 : Int32), gw_X12_usedBy_19 n h x1 x2 x3 = h := by
  intro n
  induction n with
  | zero => intros; rfl
  | succ n ih =>
    intro h x1 x2 x3
    simp only [gw_X12_usedBy_19, ih, ite_self]
theorem id_gw_X12_commonParts_28 : ∀ (n : Nat) (h : Hp) (x1 : Int32) (x2 : Int32) (x3 : Int32) (x4 : Int32), gw_X12_commonParts_28 n h x1 x2 x3 x4 = h := by
  intro n
  induction n with
  | zero => intros; rfl
  | succ n ih =>
    intro h x1 x2 x3 x4
    simp only [gw_X12_commonParts_28, ih, ite_self]
theorem id_gw_X12_nextArrival_19 : ∀ (n : Nat) (h : Hp) (x1 : Int32) (x2 : Int32) (x3 : Int32), gw_X12_nextArrival_19 n h x1 x2 x3 = h := by
  intro n
  induction n with
  | zero => intros; rfl
  | succ n ih =>
    intro h x1 x2 x3
    simp only [gw_X12_nextArrival_19, ih, ite_self]
theorem id_gw_X12_buildableTogether_46 : ∀ (n : Nat) (h : Hp) (x1 : Int32) (x2 : Int32) (x3 : Int32) (x4 : Int32), gw_X12_buildableTogether_46 n h x1 x2 x3 x4 = h := by
  intro n
  induction n with
  | zero => intros; rfl
  | succ n ih =>
    intro h x1 x2 x3 x4
    simp only [gw_X12_buildableTogether_46, ih, ite_self]
theorem id_gw_X12_scarcestPart_9 : ∀ (n : Nat) (h : Hp) (x1 : Int32) (x2 : Int32), gw_X12_scarcestPart_9 n h x1 x2 = h := by
  intro n
  induction n with
  | zero => intros; rfl
  | succ n ih =>
    intro h x1 x2
    simp only [gw_X12_scarcestPart_9, ih, ite_self]
theorem id_gw_X12_delayingPart_34 : ∀ (n : Nat) (h : Hp) (x1 : Int32) (x2 : Int32) (x3 : Int32) (x4 : Int32) (x5 : Int32), gw_X12_delayingPart_34 n h x1 x2 x3 x4 x5 = h := by
  intro n
  induction n with
  | zero => intros; rfl
  | succ n ih =>
    intro h x1 x2 x3 x4 x5
    simp only [gw_X12_delayingPart_34, ih, ite_self]
theorem id_gw_X12_lateOrders_9 : ∀ (n : Nat) (h : Hp) (x1 : Int32) (x2 : Int32), gw_X12_lateOrders_9 n h x1 x2 = h := by
  intro n
  induction n with
  | zero => intros; rfl
  | succ n ih =>
    intro h x1 x2
    simp only [gw_X12_lateOrders_9, ih, ite_self]
theorem id_gw_X12_missingPieces_19 : ∀ (n : Nat) (h : Hp) (x1 : Int32) (x2 : Int32) (x3 : Int32), gw_X12_missingPieces_19 n h x1 x2 x3 = h := by
  intro n
  induction n with
  | zero => intros; rfl
  | succ n ih =>
    intro h x1 x2 x3
    simp only [gw_X12_missingPieces_19, ih, ite_self]
theorem id_gw_X12_buildableAfter_62 : ∀ (n : Nat) (h : Hp) (x1 : Int32) (x2 : Int32) (x3 : Int32) (x4 : Int32) (x5 : Int32), gw_X12_buildableAfter_62 n h x1 x2 x3 x4 x5 = h := by
  intro n
  induction n with
  | zero => intros; rfl
  | succ n ih =>
    intro h x1 x2 x3 x4 x5
    simp only [gw_X12_buildableAfter_62, ih, ite_self]
theorem id_gw_X12_promiseOfAll_14 : ∀ (n : Nat) (h : Hp) (x1 : Int32) (x2 : Int32), gw_X12_promiseOfAll_14 n h x1 x2 = h := by
  intro n
  induction n with
  | zero => intros; rfl
  | succ n ih =>
    intro h x1 x2
    simp only [gw_X12_promiseOfAll_14, ih, ite_self]
