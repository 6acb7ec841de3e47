/-! the whole relation -/
/-- totals and log of ledger L: v the model's row, S shipments so far -/
def RT (h : Hp) (L : Nat) (v : Nat → Int32) (w : Nat → Nat) (S : Nat) : Prop :=
  (∀ k, k < 5 → h.1 44 L k = v (4 + k)) ∧ v 4 = nI S ∧ w 3 = (if S < 16 then S else 16) ∧
  (∀ j, j < w 3 → h.1 45 L ((S - w 3 + j) % 16) = v (253 + 3 * j) ∧ h.1 46 L ((S - w 3 + j) % 16) = v (253 + 3 * j + 1) ∧ h.1 47 L ((S - w 3 + j) % 16) = v (253 + 3 * j + 2))
/-- a row of the model and a ledger hold the same state -/
def RV (h : Hp) (L : Nat) (v : Nat → Int32) (T w : Nat → Nat) (n : Nat) : Prop :=
  (∀ k, k < 301 → ¬ (4 ≤ k ∧ k ≤ 8) → v k = nI (w k)) ∧ IW T w n ∧ RG h L w ∧ ∃ S, S ≤ n ∧ RT h L v w S
/-- what can be undone -/
def RH (h hm : Hp) (T : Nat → Nat) (n : Nat) : Prop := ∃ d x, d ≤ 12 ∧ x < 12 ∧ h.1 3 0 0 = nI d ∧ h.1 3 0 1 = nI x ∧ hm.1 12 0 16 = nI d ∧ ∀ k, k < d → ∃ w, RV h (2 + (x + 12 - d + k) % 12) (fun j => hm.1 59 0 (301 * k + j)) T w n
def RX (h hm : Hp) : Prop := ∃ t, t ≤ 900 ∧ h.1 4 0 0 = nI t ∧ hm.1 12 0 3 = nI t ∧ ∀ k, k < t → h.1 35 0 k = hm.1 54 0 k ∧ ∃ z : Int8, h.1 35 0 k = z.toInt32
def RE (h hm : Hp) : Prop := h.1 7 0 0 = hm.1 12 0 9 ∧ h.1 7 0 1 = hm.1 12 0 10
def RF (h hm : Hp) : Prop := ∃ t, t ≤ 200 ∧ h.1 2 0 0 = nI t ∧ hm.1 12 0 24 = nI t ∧ ∀ k, k < t → h.1 33 0 k = hm.1 65 0 k
def RR (h : Hp) : Prop := (h.2.2 11 0 6 < 2 ∧ h.2.2 7 0 3 + h.2.2 11 0 6 = 1) ∧ (h.2.2 11 0 7 < 2 ∧ h.2.2 7 0 4 + h.2.2 11 0 7 = 1)
def RA (h hm : Hp) (n : Nat) : Prop := ∃ T w, RB h hm T w n ∧ (∃ S, S ≤ n ∧ RT h (h.2.2 11 0 7) (hm.1 58 0) w S) ∧ RH h hm T n ∧ RX h hm ∧ RE h hm ∧ RF h hm ∧ RR h
section RA1
variable {h hm h' hm' : Hp} {L : Nat} {v : Nat → Int32} {T w : Nat → Nat} {n n' S : Nat}
theorem IW.mono (I : IW T w n) (hn : n ≤ n') : IW T w n' := by
  obtain ⟨⟨i1, i2, i3, i4⟩, i5, i6, i7⟩ := I
  have := Nat.mul_le_mul_left 100 hn
  have := Nat.mul_le_mul_left 999 hn
  exact ⟨⟨by omega, i2, i3, i4⟩, fun p hp => ⟨by have := (i5 p hp).1; omega, (i5 p hp).2⟩, fun k hk => by have := i6 k hk; omega, i7⟩
theorem RV.mono (V : RV h L v T w n) (hn : n ≤ n') : RV h L v T w n' := by
  obtain ⟨v1, v2, v3, S, v4, v5⟩ := V
  exact ⟨v1, v2.mono hn, v3, S, by omega, v5⟩
theorem RH.mono (H : RH h hm T n) (hn : n ≤ n') : RH h hm T n' := by
  obtain ⟨d, x, h1, h2, h3, h4, h5, h6⟩ := H
  exact ⟨d, x, h1, h2, h3, h4, h5, fun k hk => by obtain ⟨w, V⟩ := h6 k hk; exact ⟨w, V.mono hn⟩⟩
theorem RB.mono (B : RB h hm T w n) (hn : n ≤ n') : RB h hm T w n' := ⟨B.1, B.2.1.mono hn, B.2.2⟩
theorem RA.mono (A : RA h hm n) (hn : n ≤ n') : RA h hm n' := by
  obtain ⟨T, w, B, ⟨S, s1, s2⟩, H, r⟩ := A
  exact ⟨T, w, B.mono hn, ⟨S, by omega, s2⟩, H.mono hn, r⟩
/-- the cells that hold the class's state, and the model's -/
def CS (t : Nat) : Prop := t = 1 ∨ t = 2 ∨ t = 3 ∨ t = 4 ∨ t = 6 ∨ t = 7 ∨ t = 10 ∨ (19 ≤ t ∧ t ≤ 52)
def MS (t : Nat) : Prop := t = 54 ∨ t = 56 ∨ t = 58 ∨ t = 59 ∨ t = 65
def MK (k : Nat) : Prop := k = 3 ∨ k = 9 ∨ k = 10 ∨ k = 16 ∨ k = 24
theorem RT.same (R : RT h L v w S) (hf : ∀ t, 44 ≤ t → t ≤ 47 → h'.1 t L = h.1 t L) : RT h' L v w S := by
  unfold RT
  simp only [hf 44 (by omega) (by omega), hf 45 (by omega) (by omega), hf 46 (by omega) (by omega), hf 47 (by omega) (by omega)]
  exact R
theorem RV.same (V : RV h L v T w n) (hf : ∀ t, t = 6 ∨ t = 10 ∨ (36 ≤ t ∧ t ≤ 52) → h'.1 t L = h.1 t L) : RV h' L v T w n := by
  obtain ⟨v1, v2, v3, S, v4, v5⟩ := V
  exact ⟨v1, v2, v3.same hf, S, v4, v5.same (fun t h1 h2 => hf t (by omega))⟩
theorem RM.same (R : RM hm T w) (h1 : hm'.1 56 0 = hm.1 56 0) (h2 : hm'.1 58 0 = hm.1 58 0) : RM hm' T w := by
  unfold RM
  rw [h1, h2]
  exact R
theorem RA.same (A : RA h hm n) (hc : ∀ t, CS t → ∀ i, h'.1 t i = h.1 t i) (hl : h'.2.1 = h.2.1) (hr : h'.2.2 = h.2.2) (hs : ∀ t, MS t → hm'.1 t 0 = hm.1 t 0) (hk : ∀ k, MK k → hm'.1 12 0 k = hm.1 12 0 k) : RA h' hm' n := by
  obtain ⟨T, w, ⟨J, I, R, C, G⟩, ⟨S, s1, s2⟩, ⟨d, x, d1, d2, d3, d4, d5, d6⟩, ⟨t, t1, t2, t3, t4⟩, ⟨e1, e2⟩, ⟨u, u1, u2, u3, u4⟩, r⟩ := A
  have gG : ∀ t, t = 6 ∨ t = 10 ∨ (36 ≤ t ∧ t ≤ 52) → ∀ L, h'.1 t L = h.1 t L := fun t ht L => hc t (by unfold CS; omega) L
  refine ⟨T, w, ⟨J, I, R.same (hs 56 (by unfold MS; omega)) (hs 58 (by unfold MS; omega)), ?_, ?_⟩, ⟨S, s1, ?_⟩, ⟨d, x, d1, d2, ?_, ?_, ?_, ?_⟩, ⟨t, t1, ?_, ?_, ?_⟩, ⟨?_, ?_⟩, ⟨u, u1, ?_, ?_, ?_⟩, ?_⟩
  · rw [hr]; exact C.same (fun t ht i => hc t (by unfold CS; omega) i) hl
  · rw [hr]; exact G.same (fun t ht => gG t ht _)
  · rw [hr, hs 58 (by unfold MS; omega)]; exact s2.same (fun t h1 h2 => gG t (by omega) _)
  · rw [hc 3 (by unfold CS; omega)]; exact d3
  · rw [hc 3 (by unfold CS; omega)]; exact d4
  · rw [hk 16 (by unfold MK; omega)]; exact d5
  · intro k hk
    obtain ⟨w', V⟩ := d6 k hk
    refine ⟨w', ?_⟩
    rw [hs 59 (by unfold MS; omega)]
    exact V.same (fun t ht => gG t ht _)
  · rw [hc 4 (by unfold CS; omega)]; exact t2
  · rw [hk 3 (by unfold MK; omega)]; exact t3
  · rw [hc 35 (by unfold CS; omega), hs 54 (by unfold MS; omega)]; exact t4
  · rw [hc 7 (by unfold CS; omega), hk 9 (by unfold MK; omega)]; exact e1
  · rw [hc 7 (by unfold CS; omega), hk 10 (by unfold MK; omega)]; exact e2
  · rw [hc 2 (by unfold CS; omega)]; exact u2
  · rw [hk 24 (by unfold MK; omega)]; exact u3
  · rw [hc 33 (by unfold CS; omega), hs 65 (by unfold MS; omega)]; exact u4
  · unfold RR; rw [hr]; exact r
theorem MK.thr {x : Int32} {k : Nat} (hk : MK k) : (hp_i hm 12 0 0 x).1 12 0 k = hm.1 12 0 k := by
  unfold hp_i
  rw [hp_a_s]
  have : ¬ k = 0 := by unfold MK at hk; omega
  simp [upd, this]
theorem MS.thr {x : Int32} {t : Nat} (ht : MS t) : (hp_i hm 12 0 0 x).1 t 0 = hm.1 t 0 := hp_i_t (by unfold MS at ht; omega)
/-- a call that only sets thrown -/
theorem RA.thr {x : Int32} (A : RA h hm n) : RA h (hp_i hm 12 0 0 x) n := A.same (fun _ _ _ => rfl) rfl rfl (fun _ ht => ht.thr) (fun _ hk => hk.thr)
theorem oa_xor {a b : Nat} (ha : a < 2 ^ 30) (hb : b < 2 ^ 30) : 0 ≤ nI a ^^^ nI b := by
  have e : nI a ^^^ nI b = nI (a ^^^ b) := by
    rw [← Int32.toBitVec_inj, Int32.toBitVec_xor]
    show BitVec.ofNat 32 a ^^^ BitVec.ofNat 32 b = BitVec.ofNat 32 (a ^^^ b)
    rw [BitVec.ofNat_xor]
  rw [e]
  have := Nat.xor_lt_two_pow ha hb
  exact nI_pos' (by omega)
theorem k_mod (h : Hp) {a b : Nat} (ha : a < 2 ^ 30) (h0 : 0 < b) (hb : b < 2 ^ 30) : p_J9_floorMod_7cf53 h (nI a) (nI b) ∧ f_J9_floorMod_7cf53 h (nI a) (nI b) = nI (a % b) := by
  refine ⟨⟨nI_ne0 h0 (by omega), trivial⟩, ?_⟩
  unfold f_J9_floorMod_7cf53
  rw [if_pos (oa_xor ha hb), pk_rem (by omega) h0 (by omega)]
end RA1
