/-! append -/
/-- byte j of the word x, the highest first -/
def ob_B (x : Int32) (j : Nat) : Int32 := vp_nar .byte ((x >>> (nI (24 - 8 * j) &&& 31)).toInt8.toInt32)
theorem ob_B8 (x : Int32) (j : Nat) : ∃ z : Int8, ob_B x j = z.toInt32 := ⟨_, vp_nar_byte _⟩
theorem ob_8 {x y : Int32} (h : ∀ i, i < 8 → bt x i = bt y i) : x.toInt8 = y.toInt8 := by
  rw [← Int8.toBitVec_inj]
  apply BitVec.eq_of_getLsbD_eq
  intro i hi
  have := h i hi
  unfold bt at this
  show (BitVec.signExtend 8 x.toBitVec).getLsbD i = (BitVec.signExtend 8 y.toBitVec).getLsbD i
  rw [BitVec.getLsbD_signExtend, BitVec.getLsbD_signExtend]
  rw [if_pos (show i < 32 by omega), if_pos (show i < 32 by omega), this]
theorem ob_sh (x : Int32) {s : Nat} (hs : s ≤ 24) : ((x.toUInt32 >>> ((nI s).toUInt32 &&& Int32.toUInt32 31)).toInt32).toInt8 = (x >>> (nI s &&& 31)).toInt8 := by
  apply ob_8
  intro i hi
  rw [b_ushr s (by omega), b_sshr s (by omega) x (by omega), if_pos (by omega)]
/-- h' is h with bytes f at t..t+c-1 of the class's text -/
def PX (h h' : Hp) (t c : Nat) (f : Nat → Int32) : Prop := h'.1 4 0 0 = nI (t + c) ∧ (∀ k, h'.1 35 0 k = if t ≤ k ∧ k < t + c then f (k - t) else h.1 35 0 k) ∧ (∀ T i, ¬ (T = 4 ∧ i = 0) → ¬ (T = 35 ∧ i = 0) → h'.1 T i = h.1 T i) ∧ h'.2 = h.2
section APP
variable {h h' h'' hm : Hp} {t c d n : Nat} {f g : Nat → Int32}
theorem PX.comp (a : PX h h' t c f) (b : PX h' h'' (t + c) d g) : PX h h'' t (c + d) (fun k => if k < c then f k else g (k - c)) := by
  obtain ⟨a1, a2, a3, a4⟩ := a
  obtain ⟨b1, b2, b3, b4⟩ := b
  refine ⟨by rw [b1, Nat.add_assoc], fun k => ?_, fun T i h1 h2 => by rw [b3 T i h1 h2, a3 T i h1 h2], by rw [b4, a4]⟩
  rw [b2 k]
  by_cases k1 : t + c ≤ k ∧ k < t + c + d
  · rw [if_pos k1, if_pos (by omega)]
    show _ = if k - t < c then _ else _
    rw [if_neg (by omega)]
    congr 1
    omega
  · rw [if_neg k1, a2 k]
    by_cases k2 : t ≤ k ∧ k < t + c
    · rw [if_pos k2, if_pos (by omega)]
      show _ = if k - t < c then _ else _
      rw [if_pos (by omega)]
    · rw [if_neg k2, if_neg (by omega)]
theorem PX.one {y : Int32} (ht : h.1 4 0 0 = nI t) (hl : t < 900) : PX h (hp_i (hp_i h 35 0 t y) 4 0 0 (nI t + 1)) t 1 (fun _ => y) := by
  refine ⟨?_, fun k => ?_, fun T i h1 h2 => ?_, rfl⟩
  · rw [hp_i_g, if_pos rfl]; exact nI_add t 1
  · show (hp_i h 35 0 t y).1 35 0 k = _
    rw [hp_i_g]
    by_cases e : k = t
    · rw [if_pos e, if_pos (by omega)]
    · rw [if_neg e, if_neg (by omega)]
  · unfold hp_i
    rw [hp_a_n h1, hp_a_n h2]
theorem l_put (x : Int32) : ∀ (m e : Nat) (h : Hp) (t : Nat), m ≤ 4 → h.1 4 0 0 = nI t → t + m ≤ 900 → pw_X4_putWord_3 (m + 1 + e) h x (nI (8 * m) - 8) ∧ PX h (gw_X4_putWord_3 (m + 1 + e) h x (nI (8 * m) - 8)) t m (fun k => ob_B x (4 - m + k)) := by
  intro m
  induction m with
  | zero =>
    intro e h t hm ht hl
    rw [show 0 + 1 + e = e + 1 by omega]
    have c : nI (8 * 0) - 8 < 0 := by decide
    refine ⟨?_, ?_⟩
    · simp [pw_X4_putWord_3, c]
    · simp only [gw_X4_putWord_3, c, if_true]
      refine ⟨ht, fun k => ?_, fun _ _ _ _ => rfl, rfl⟩
      rw [if_neg (by omega)]
  | succ m ih =>
    intro e h t hm ht hl
    rw [show m + 1 + 1 + e = (m + 1 + e) + 1 by omega]
    have e8 : nI (8 * (m + 1)) - 8 = nI (8 * m) := by
      have : nI (8 * (m + 1)) - nI 8 = nI (8 * (m + 1) - 8) := oa_sub (by omega)
      rw [show 8 * (m + 1) - 8 = 8 * m by omega] at this
      exact this
    have c : ¬ nI (8 * m) < 0 := nI_pos (by omega)
    have e9 : nI (8 * m) + (-8) = nI (8 * m) - 8 := by grind
    have in1 := a_inside h (k := t) (N := 900) (by omega) (by omega)
    have e900 : nI 900 = 900 := rfl
    rw [e900] at in1
    have v1 : vp_in (nI t) 900 := vp_in_nI (by omega) (by omega)
    have P := PX.one (y := vp_nar .byte (((x.toUInt32 >>> ((nI (8 * m)).toUInt32 &&& Int32.toUInt32 31)).toInt32).toInt8.toInt32)) ht (by omega)
    have r := ih e _ (t + 1) (by omega) P.1 (by omega)
    have Q := P.comp r.2
    rw [e8]
    refine ⟨?_, ?_⟩
    · simp only [pw_X4_putWord_3, ht, in1, v1, nI_clamp (show t < 2 ^ 31 by omega), e9]
      simp [c, r.1]
    · simp only [gw_X4_putWord_3, ht, in1, nI_clamp (show t < 2 ^ 31 by omega), e9]
      rw [if_neg c, if_neg (by decide)]
      refine ⟨by rw [Q.1]; congr 1; omega, fun k => ?_, Q.2.2.1, Q.2.2.2⟩
      rw [Q.2.1 k]
      by_cases k1 : t ≤ k ∧ k < t + (m + 1)
      · rw [if_pos (by omega), if_pos k1]
        by_cases k2 : k = t
        · subst k2
          simp only [Nat.sub_self, show (0 < 1) = True by simp, if_true]
          unfold ob_B
          rw [ob_sh x (by omega), show 24 - 8 * (4 - (m + 1) + 0) = 8 * m by omega]
        · simp only [show ¬ k - t < 1 by omega, if_false]
          congr 1
          omega
      · rw [if_neg (by omega), if_neg k1]
theorem a_put (x : Int32) (ht : h.1 4 0 0 = nI t) (hl : t + 4 ≤ 900) : p_X4_putWord h x ∧ PX h (g_X4_putWord h x) t 4 (fun k => ob_B x k) := by
  have r := l_put x 4 (oa_N - 5) h t (by omega) ht (by omega)
  have e : nI (8 * 4) - 8 = 24 := by decide
  rw [show 4 + 1 + (oa_N - 5) = oa_N by decide, e] at r
  refine ⟨r.1, ?_⟩
  have := r.2
  unfold g_X4_putWord
  simpa using this
/-- h' is h with bytes f at t+a..t+19 of the model's text -/
def PM (h h' : Hp) (t a : Nat) (f : Nat → Int32) : Prop := (∀ k, h'.1 54 0 k = if t + a ≤ k ∧ k < t + 20 then f (k - t) else h.1 54 0 k) ∧ (∀ k, h'.1 12 0 k = if k = 3 then nI (t + 20) else h.1 12 0 k) ∧ (∀ T i, ¬ (T = 54 ∧ i = 0) → ¬ (T = 12 ∧ i = 0) → h'.1 T i = h.1 T i)
theorem l_app {a1 a2 a3 a4 a5 : Int32} : ∀ (m e j : Nat) (h : Hp) (t : Nat), m + j = 20 → h.1 12 0 3 = nI t → t + 20 ≤ 900 → pw_X12_append_60 (m + 1 + e) h a1 a2 a3 a4 a5 (nI j) ∧ fw_X12_append_60 (m + 1 + e) h a1 a2 a3 a4 a5 (nI j) = nI (t + 20) ∧ PM h (gw_X12_append_60 (m + 1 + e) h a1 a2 a3 a4 a5 (nI j)) t j (fun k => ob_B (h.1 55 0 (k / 4)) (k % 4)) := by
  intro m
  induction m with
  | zero =>
    intro e j h t hm ht hl
    rw [show 0 + 1 + e = e + 1 by omega, show j = 20 by omega]
    have c : (20 : Int32) ≤ nI 20 := by decide
    have e20 : nI t + 20 = nI (t + 20) := nI_add t 20
    refine ⟨?_, ?_, ?_⟩
    · simp [pw_X12_append_60, c]
    · simp only [fw_X12_append_60, c, if_true, ht, e20]
      rw [hp_i_g, if_pos rfl]
    · simp only [gw_X12_append_60, c, if_true, ht, e20]
      refine ⟨fun k => ?_, fun k => ?_, fun T i h1 h2 => ?_⟩
      · rw [if_neg (by omega), hp_i_t (by omega)]
      · rw [hp_i_g]
      · exact hp_i_n h2
  | succ m ih =>
    intro e j h t hm ht hl
    rw [show m + 1 + 1 + e = (m + 1 + e) + 1 by omega]
    have c : ¬ (20 : Int32) ≤ nI j := nI_ge (b := 20) (by omega) (by omega)
    have e1 : nI j + 1 = nI (j + 1) := nI_add j 1
    have e2 : nI t + nI j = nI (t + j) := nI_add t j
    have e3 : nI j / 4 = nI (j / 4) := pk_div (d := 4) (by omega) (by omega) (by omega)
    have e4 : nI j - nI (j / 4) * 4 = nI (j % 4) := by
      rw [← e3]
      exact pk_rem (d := 4) (by omega) (by omega) (by omega)
    have e5 : (24 : Int32) - 8 * nI (j % 4) = nI (24 - 8 * (j % 4)) := by
      have : (8 : Int32) * nI (j % 4) = nI (8 * (j % 4)) := oa_mul 8 (j % 4)
      rw [this]
      exact oa_sub (a := 24) (by omega)
    have v1 : vp_in (nI (j / 4)) 5 := vp_in_nI (by omega) (by omega)
    have v2 : vp_in (nI (t + j)) 900 := vp_in_nI (by omega) (by omega)
    have c1 := nI_clamp (show j / 4 < 2 ^ 31 by omega)
    have c2 := nI_clamp (show t + j < 2 ^ 31 by omega)
    have r := ih e (j + 1) (hp_i h 54 0 (t + j) (ob_B (h.1 55 0 (j / 4)) (j % 4))) t (by omega) (by rw [hp_i_t (by omega)]; exact ht) hl
    refine ⟨?_, ?_, ?_⟩
    · simp only [pw_X12_append_60, ht, e1, e2, e3, e4, e5, c1, c2]
      exact ⟨fun z => (c z).elim, fun _ => ⟨v1, v2, r.1⟩⟩
    · simp only [fw_X12_append_60, ht, e1, e2, e3, e4, e5, c1, c2]
      rw [if_neg c]
      exact r.2.1
    · simp only [gw_X12_append_60, ht, e1, e2, e3, e4, e5, c1, c2]
      rw [if_neg c]
      obtain ⟨p1, p2, p3⟩ := r.2.2
      refine ⟨fun k => ?_, fun k => ?_, fun T i h1 h2 => ?_⟩
      · refine (p1 k).trans ?_
        rw [hp_i_g, hp_i_t (by omega)]
        by_cases k1 : t + (j + 1) ≤ k ∧ k < t + 20
        · rw [if_pos k1, if_pos (by omega)]
        · rw [if_neg k1]
          by_cases k2 : k = t + j
          · rw [if_pos k2, if_pos (by omega)]
            rw [show k - t = j by omega]
          · rw [if_neg k2, if_neg (by omega)]
      · refine (p2 k).trans ?_
        rw [hp_i_t (by omega)]
      · exact (p3 T i h1 h2).trans (hp_i_n h1)
/-- only the text is another -/
theorem RA.text {hm' : Hp} (A : RA h hm n) (hc : ∀ t, CS t → ¬ t = 4 → ¬ t = 35 → ∀ i, h'.1 t i = h.1 t i) (hl : h'.2 = h.2) (hs : ∀ t, MS t → ¬ t = 54 → hm'.1 t 0 = hm.1 t 0) (hk : ∀ k, MK k → ¬ k = 3 → hm'.1 12 0 k = hm.1 12 0 k) (X : RX h' hm') : RA h' hm' n := by
  obtain ⟨T, w, ⟨J, I, R, C, G⟩, ⟨S, s1, s2⟩, ⟨d, x, d1, d2, d3, d4, d5, d6⟩, -, ⟨e1, e2⟩, ⟨u, u1, u2, u3, u4⟩, r⟩ := A
  have hr : h'.2.2 = h.2.2 := congrArg Prod.snd hl
  have gG : ∀ t, t = 6 ∨ t = 10 ∨ (36 ≤ t ∧ t ≤ 52) → ∀ L, h'.1 t L = h.1 t L := fun t ht L => hc t (by unfold CS; omega) (by omega) (by omega) L
  refine ⟨T, w, ⟨J, I, R.same (hs 56 (by unfold MS; omega) (by omega)) (hs 58 (by unfold MS; omega) (by omega)), ?_, ?_⟩, ⟨S, s1, ?_⟩, ⟨d, x, d1, d2, ?_, ?_, ?_, ?_⟩, X, ⟨?_, ?_⟩, ⟨u, u1, ?_, ?_, ?_⟩, ?_⟩
  · rw [hr]; exact C.same (fun t ht i => hc t (by unfold CS; omega) (by omega) (by omega) i) (congrArg Prod.fst hl)
  · rw [hr]; exact G.same (fun t ht => gG t ht _)
  · rw [hr, hs 58 (by unfold MS; omega) (by omega)]; exact s2.same (fun t h1 h2 => gG t (by omega) _)
  · rw [hc 3 (by unfold CS; omega) (by omega) (by omega)]; exact d3
  · rw [hc 3 (by unfold CS; omega) (by omega) (by omega)]; exact d4
  · rw [hk 16 (by unfold MK; omega) (by omega)]; exact d5
  · intro k hk
    obtain ⟨w', V⟩ := d6 k hk
    refine ⟨w', ?_⟩
    rw [hs 59 (by unfold MS; omega) (by omega)]
    exact V.same (fun t ht => gG t ht _)
  · rw [hc 7 (by unfold CS; omega) (by omega) (by omega), hk 9 (by unfold MK; omega) (by omega)]; exact e1
  · rw [hc 7 (by unfold CS; omega) (by omega) (by omega), hk 10 (by unfold MK; omega) (by omega)]; exact e2
  · rw [hc 2 (by unfold CS; omega) (by omega) (by omega)]; exact u2
  · rw [hk 24 (by unfold MK; omega) (by omega)]; exact u3
  · rw [hc 33 (by unfold CS; omega) (by omega) (by omega), hs 65 (by unfold MS; omega) (by omega)]; exact u4
  · unfold RR; rw [hr]; exact r
theorem z_append (A : RA h hm n) (a1 a2 a3 a4 a5 : Int32) : p_X11_append h a1 a2 a3 a4 a5 ∧ p_X12_append hm a1 a2 a3 a4 a5 ∧ f_X11_append h a1 a2 a3 a4 a5 = f_X12_append hm a1 a2 a3 a4 a5 ∧ RA (g_X11_append h a1 a2 a3 a4 a5) (g_X12_append hm a1 a2 a3 a4 a5) n := by
  obtain ⟨T, w, B, s, H, ⟨t, t1, t2, t3, t4⟩, E, F, r⟩ := id A
  have t3' : (hp_i hm 12 0 0 0).1 12 0 3 = nI t := by rw [hp_i_g, if_neg (by omega)]; exact t3
  have e20 : nI t + 20 = nI (t + 20) := nI_add t 20
  by_cases l : t + 20 ≤ 900
  · have c1 : nI (t + 20) ≤ 900 := nI_le (b := 900) l (by omega)
    have c2 : ¬ (900 : Int32) < nI (t + 20) := nI_nlt (a := 900) (by omega) (by omega)
    have hr : f_X4_hasRoomFor h 20 = 1 := by unfold f_X4_hasRoomFor; rw [t2, e20, if_neg c2]
    have pr : p_X4_hasRoomFor h 20 := by unfold p_X4_hasRoomFor; rw [t2, e20, if_neg c2]; exact ⟨Or.inr rfl, trivial⟩
    have P1 := a_put a1 t2 (by omega)
    have P2 := a_put a2 P1.2.1 (by omega)
    have P3 := a_put a3 P2.2.1 (by omega)
    have P4 := a_put a4 P3.2.1 (by omega)
    have P5 := a_put a5 P4.2.1 (by omega)
    have P := (((P1.2.comp P2.2).comp P3.2).comp P4.2).comp P5.2
    generalize hg : hp_i (hp_i (hp_i (hp_i (hp_i (hp_i hm 12 0 0 0) 55 0 0 a1) 55 0 1 a2) 55 0 2 a3) 55 0 3 a4) 55 0 4 a5 = K
    have k3 : K.1 12 0 = (hp_i hm 12 0 0 0).1 12 0 := by
      rw [← hg, hp_i_t (by omega), hp_i_t (by omega), hp_i_t (by omega), hp_i_t (by omega), hp_i_t (by omega)]
    have kt : ∀ T i, ¬ T = 12 → ¬ T = 55 → K.1 T i = hm.1 T i := by
      intro T i h1 h2
      rw [← hg, hp_i_t h2, hp_i_t h2, hp_i_t h2, hp_i_t h2, hp_i_t h2, hp_i_t h1]
    have k55 : ∀ k, k < 5 → K.1 55 0 k = (if k = 0 then a1 else if k = 1 then a2 else if k = 2 then a3 else if k = 3 then a4 else a5) := by
      intro k hk
      rw [← hg, hp_i_g, hp_i_g, hp_i_g, hp_i_g, hp_i_g]
      rcases (by omega : k = 0 ∨ k = 1 ∨ k = 2 ∨ k = 3 ∨ k = 4) with z | z | z | z | z <;> subst z <;> rfl
    have q := l_app (a1 := a1) (a2 := a2) (a3 := a3) (a4 := a4) (a5 := a5) 20 (oa_N - 21) 0 K t (by omega) (by rw [k3]; exact t3') l
    rw [show 20 + 1 + (oa_N - 21) = oa_N by decide, nI_0] at q
    obtain ⟨q1, q2, q3, q4, q5⟩ := q
    refine ⟨?_, ?_, ?_, ?_⟩
    · unfold p_X11_append
      rw [hr]
      exact ⟨pr, fun _ => ⟨P1.1, P2.1, P3.1, P4.1, P5.1, trivial⟩, fun z => by revert z; decide⟩
    · unfold p_X12_append
      rw [t3', e20, hg]
      exact ⟨fun _ => q1, fun z => trivial⟩
    · unfold f_X11_append f_X12_append
      rw [hr, if_pos (by decide), t3', e20, if_pos c1, hg]
      exact P.1.trans q2.symm
    · unfold g_X11_append g_X12_append
      rw [hr, if_pos (by decide), t3', e20, if_pos c1, hg]
      generalize gw_X12_append_60 oa_N K a1 a2 a3 a4 a5 0 = K' at q3 q4 q5 ⊢
      refine A.text (fun T hT h4 h35 i => P.2.2.1 T i (by omega) (by omega)) P.2.2.2 (fun T hT h54 => ?_) (fun k hk h3 => ?_) ⟨t + 20, l, P.1, ?_, fun k hk => ?_⟩
      · have : ¬ T = 12 ∧ ¬ T = 55 := by unfold MS at hT; omega
        exact (q5 T 0 (by omega) (by omega)).trans (kt T 0 this.1 this.2)
      · refine (q4 k).trans ?_
        rw [if_neg h3, k3]
        exact hk.thr
      · exact (q4 3).trans (if_pos rfl)
      · rw [P.2.1 k]
        have := q3 k
        by_cases k1 : t ≤ k
        · rw [if_pos (by omega)] at this ⊢
          have this : K'.1 54 0 k = ob_B (K.1 55 0 ((k - t) / 4)) ((k - t) % 4) := this
          rw [this, k55 ((k - t) / 4) (by omega)]
          generalize hj : k - t = j at *
          rcases (by omega : (j < 4) ∨ (4 ≤ j ∧ j < 8) ∨ (8 ≤ j ∧ j < 12) ∨ (12 ≤ j ∧ j < 16) ∨ (16 ≤ j ∧ j < 20)) with z | z | z | z | z
          · rw [show j / 4 = 0 by omega, show j % 4 = j by omega]
            simp only [show j < 4 + 4 + 4 + 4 by omega, show j < 4 + 4 + 4 by omega, show j < 4 + 4 by omega, show j < 4 by omega, if_true]
            exact ⟨trivial, ob_B8 _ _⟩
          · rw [show j / 4 = 1 by omega, show j % 4 = j - 4 by omega]
            simp only [show j < 4 + 4 + 4 + 4 by omega, show j < 4 + 4 + 4 by omega, show j < 4 + 4 by omega, show ¬ j < 4 by omega, if_true, if_false]
            exact ⟨rfl, ob_B8 _ _⟩
          · rw [show j / 4 = 2 by omega, show j % 4 = j - (4 + 4) by omega]
            simp only [show j < 4 + 4 + 4 + 4 by omega, show j < 4 + 4 + 4 by omega, show ¬ j < 4 + 4 by omega, if_true, if_false]
            exact ⟨rfl, ob_B8 _ _⟩
          · rw [show j / 4 = 3 by omega, show j % 4 = j - (4 + 4 + 4) by omega]
            simp only [show j < 4 + 4 + 4 + 4 by omega, show ¬ j < 4 + 4 + 4 by omega, if_true, if_false]
            exact ⟨rfl, ob_B8 _ _⟩
          · rw [show j / 4 = 4 by omega, show j % 4 = j - (4 + 4 + 4 + 4) by omega]
            simp only [show ¬ j < 4 + 4 + 4 + 4 by omega, if_false]
            exact ⟨rfl, ob_B8 _ _⟩
        · rw [if_neg (by omega)] at this ⊢
          rw [this, kt 54 0 (by omega) (by omega)]
          exact t4 k (by omega)
  · have c1 : ¬ nI (t + 20) ≤ 900 := nI_ge (a := 900) (by omega) (by omega)
    have c2 : (900 : Int32) < nI (t + 20) := nI_lt (a := 900) (by omega) (by omega)
    have hr : f_X4_hasRoomFor h 20 = 0 := by unfold f_X4_hasRoomFor; rw [t2, e20, if_pos c2]
    have pr : p_X4_hasRoomFor h 20 := by unfold p_X4_hasRoomFor; rw [t2, e20, if_pos c2]; exact ⟨Or.inl rfl, trivial⟩
    refine ⟨?_, ?_, ?_, ?_⟩
    · unfold p_X11_append
      rw [hr]
      exact ⟨pr, fun z => (z rfl).elim, fun _ => trivial⟩
    · unfold p_X12_append
      rw [t3', e20]
      exact ⟨fun z => (c1 z).elim, fun _ => trivial⟩
    · unfold f_X11_append f_X12_append
      rw [hr, if_neg (by decide), t3', e20, if_neg c1]
    · unfold g_X11_append g_X12_append
      rw [hr, if_neg (by decide), t3', e20, if_neg c1]
      exact A.thr
end APP
