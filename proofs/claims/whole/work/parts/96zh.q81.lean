/-! load: the line of an order -/
section ORN
variable {h hm k : Hp} {x : Nat → Nat} {t s i n lo hi j : Nat} {T : Nat → Nat}
/-- a number read by both and written by the model -/
theorem ps_nw (P : PS h k x t s) (hl : lo ≤ 9999) (hh : hi ≤ 9999) (j : Nat) : p_X7_readNumber h (nI lo) (nI hi) ∧ p_X12_number k (nI lo) (nI hi) ∧
    ((∃ v s', lo ≤ v ∧ v ≤ hi ∧ s < s' ∧ f_X7_readNumber h (nI lo) (nI hi) = nI v ∧ f_X12_number k (nI lo) (nI hi) = nI v ∧ PS (g_X7_readNumber h (nI lo) (nI hi)) (hp_i (g_X12_number k (nI lo) (nI hi)) 57 0 j (nI v)) x t s' ∧ KX k (hp_i (g_X12_number k (nI lo) (nI hi)) 57 0 j (nI v)) ∧ (hp_i (g_X12_number k (nI lo) (nI hi)) 57 0 j (nI v)).1 12 0 13 = k.1 12 0 13 ∧ (∀ q, (hp_i (g_X12_number k (nI lo) (nI hi)) 57 0 j (nI v)).1 57 0 q = if q = j then nI v else k.1 57 0 q) ∧ (∀ T j, ¬ (T = 9 ∧ j = 0) → (g_X7_readNumber h (nI lo) (nI hi)).1 T j = h.1 T j)) ∨
     (∃ c, f_X7_readNumber h (nI lo) (nI hi) = -1 ∧ FC (g_X7_readNumber h (nI lo) (nI hi)) s c ∧ ∀ v, MX (hp_i (g_X12_number k (nI lo) (nI hi)) 57 0 j v) t s c ∧ XM (hp_i (g_X12_number k (nI lo) (nI hi)) 57 0 j v) x t ∧ KX k (hp_i (g_X12_number k (nI lo) (nI hi)) 57 0 j v))) := by
  obtain ⟨pa, pb, N⟩ := ps_num P hl hh
  refine ⟨pa, pb, ?_⟩
  have f3 : (g_X12_number k (nI lo) (nI hi)).1 57 0 = k.1 57 0 := fr_X12_number (by omega)
  have f4 : (g_X12_number k (nI lo) (nI hi)).1 54 0 = k.1 54 0 := fr_X12_number (by omega)
  rcases N with ⟨v, s', l, u, fa, fb, P2, K2, a7, sa⟩ | ⟨c, fa, fb, C, F⟩
  · refine Or.inl ⟨v, s', l, u, sa, fa, fb, P2.set57, K2.kx.trans KX.set, ?_, fun q => ?_, fun T j hT => ?_⟩
    · rw [hp_i_t (by omega)]; exact K2 13 (by omega) (by omega)
    · rw [hp_i_g, f3]
    · by_cases d : T = 7 ∧ j = 0
      · rw [d.1, d.2]; exact a7
      · exact fr_X7_readNumber d hT
  · refine Or.inr ⟨c, fa, C, fun v => ⟨F.mx.set, ?_, F.kx.trans KX.set⟩⟩
    exact (P.num4.same (F.2.2.2.2 6 (by omega) (by omega) (by omega) (by omega)) f4).set57
def on5 (k : Hp) (i : Nat) : Hp := hp_i (g_X12_number k 1 99) 57 0 (i + 1) (f_X12_number k 1 99)
def on6 (k : Hp) (i : Nat) : Hp := hp_i (g_X12_number (on5 k i) 0 9) 57 0 (i + 2) (f_X12_number (on5 k i) 0 9)
def on7 (k : Hp) (i : Nat) : Hp := hp_i (g_X12_number (on6 k i) 0 999) 57 0 (i + 3) (f_X12_number (on6 k i) 0 999)
def on8 (k : Hp) (i : Nat) : Hp := hp_i (g_X12_takes (on7 k i) 26) 57 0 (i + 4) (if f_X12_takes (on7 k i) 26 = 0 then (0 : Int32) else 1)
def on9 (k : Hp) (i : Nat) : Hp := hp_i (on8 k i) 57 0 3 ((on8 k i).1 57 0 3 + 1)
def onp (k : Hp) (i : Nat) : Prop := p_X12_number k 1 99 ∧ p_X12_number (on5 k i) 0 9 ∧ p_X12_number (on6 k i) 0 999 ∧ p_X12_takes (on7 k i) 26
def oc1 (h : Hp) : Hp := g_X7_readNumber h 1 99
def oc2 (h : Hp) : Hp := g_X7_readNumber (oc1 h) 0 9
def oc3 (h : Hp) : Hp := g_X7_readNumber (oc2 h) 0 999
def oce (h H : Hp) (q : Int32) : Hp := g_X6_enter H (H.2.2 7 0 4) q (f_X7_readNumber h 1 99) (f_X7_readNumber (oc1 h) 0 9) (f_X7_readNumber (oc2 h) 0 999) (f_X9_isWord (oc3 h) 4)
def ocp (h : Hp) (q : Int32) : Prop := p_X7_readNumber h 1 99 ∧ (((¬ f_X7_readNumber h 1 99 = -1) → (p_X7_readNumber (oc1 h) 0 9 ∧ (((¬ f_X7_readNumber (oc1 h) 0 9 = -1) → (p_X7_readNumber (oc2 h) 0 999 ∧ (((¬ f_X7_readNumber (oc2 h) 0 999 = -1) → (p_X9_isWord (oc3 h) 4 ∧
    (((f_X9_isWord (oc3 h) 4 = 0) → (p_X6_enter (oc3 h) ((oc3 h).2.2 7 0 4) q (f_X7_readNumber h 1 99) (f_X7_readNumber (oc1 h) 0 9) (f_X7_readNumber (oc2 h) 0 999) (f_X9_isWord (oc3 h) 4) ∧ (p_X7_readSemicolon (oce h (oc3 h) q) ∧ ((f_X7_readSemicolon (oce h (oc3 h) q) = 0 ∨ f_X7_readSemicolon (oce h (oc3 h) q) = 1) ∧ True)))) ∧
     ((¬ f_X9_isWord (oc3 h) 4 = 0) → (p_X9_step (oc3 h) ∧ (p_X6_enter (g_X9_step (oc3 h)) ((g_X9_step (oc3 h)).2.2 7 0 4) q (f_X7_readNumber h 1 99) (f_X7_readNumber (oc1 h) 0 9) (f_X7_readNumber (oc2 h) 0 999) (f_X9_isWord (oc3 h) 4) ∧ (p_X7_readSemicolon (oce h (g_X9_step (oc3 h)) q) ∧ ((f_X7_readSemicolon (oce h (g_X9_step (oc3 h)) q) = 0 ∨ f_X7_readSemicolon (oce h (g_X9_step (oc3 h)) q) = 1) ∧ True)))))))) ∧ ((f_X7_readNumber (oc2 h) 0 999 = -1) → True)))) ∧ ((f_X7_readNumber (oc1 h) 0 9 = -1) → True)))) ∧ ((f_X7_readNumber h 1 99 = -1) → True))
def ocf (h : Hp) (q : Int32) : Int32 := if ¬ f_X7_readNumber h 1 99 = -1 then (if ¬ f_X7_readNumber (oc1 h) 0 9 = -1 then (if ¬ f_X7_readNumber (oc2 h) 0 999 = -1 then (if f_X9_isWord (oc3 h) 4 = 0 then f_X7_readSemicolon (oce h (oc3 h) q) else f_X7_readSemicolon (oce h (g_X9_step (oc3 h)) q)) else 0) else 0) else 0
def ocg (h : Hp) (q : Int32) : Hp := if ¬ f_X7_readNumber h 1 99 = -1 then (if ¬ f_X7_readNumber (oc1 h) 0 9 = -1 then (if ¬ f_X7_readNumber (oc2 h) 0 999 = -1 then (if f_X9_isWord (oc3 h) 4 = 0 then g_X7_readSemicolon (oce h (oc3 h) q) else g_X7_readSemicolon (oce h (g_X9_step (oc3 h)) q)) else oc3 h) else oc2 h) else oc1 h
/-- an order entered: only these cells -/
def oe (h : Hp) (L n : Nat) (a1 a2 a3 a4 a5 : Int32) : Hp := hp_i (hp_i (hp_i (hp_i (hp_i (hp_i (hp_i (hp_i (hp_i h 36 L n a1) 37 L n a2) 38 L n a3) 39 L n a4) 40 L n a5) 41 L n 0) 42 L n 0) 43 L n 0) 6 L 0 (nI (n + 1))
theorem hp_i_c {a b : Hp} {t i k : Nat} {v : Int32} {T j : Nat} (e : a.1 T j = b.1 T j) : (hp_i a t i k v).1 T j = (hp_i b t i k v).1 T j := by
  by_cases d : T = t ∧ j = i
  · funext q
    obtain ⟨rfl, rfl⟩ := d
    rw [hp_i_g, hp_i_g, e]
  · rw [hp_i_n d, hp_i_n d, e]
theorem oe_c {a b : Hp} {L n : Nat} {a1 a2 a3 a4 a5 : Int32} {T j : Nat} (e : a.1 T j = b.1 T j) : (oe a L n a1 a2 a3 a4 a5).1 T j = (oe b L n a1 a2 a3 a4 a5).1 T j := by
  unfold oe
  exact hp_i_c (hp_i_c (hp_i_c (hp_i_c (hp_i_c (hp_i_c (hp_i_c (hp_i_c (hp_i_c e))))))))
theorem oe_t {a : Hp} {L n : Nat} {a1 a2 a3 a4 a5 : Int32} {T j : Nat} (hT : T < 36 ∨ 43 < T) (h6 : ¬ T = 6) : (oe a L n a1 a2 a3 a4 a5).1 T j = a.1 T j := by
  unfold oe
  rw [hp_i_t h6, hp_i_t (by omega), hp_i_t (by omega), hp_i_t (by omega), hp_i_t (by omega), hp_i_t (by omega), hp_i_t (by omega), hp_i_t (by omega), hp_i_t (by omega)]
/-- what both do from the numbers of an order on -/
def ONS (h H k K : Hp) (x : Nat → Nat) (t s i n L : Nat) (q : Int32) : Prop := ∃ v1 v2 v3 v4 s', 1 ≤ v1 ∧ v1 ≤ 99 ∧ v2 ≤ 9 ∧ v3 ≤ 999 ∧ v4 ≤ 1 ∧ s < s' ∧ PSE H K x t s' ∧ K.1 12 0 13 = k.1 12 0 13 ∧
  (∀ p, K.1 57 0 p = if p = 3 then nI (n + 1) else if p = i + 4 then nI v4 else if p = i + 3 then nI v3 else if p = i + 2 then nI v2 else if p = i + 1 then nI v1 else k.1 57 0 p) ∧
  (∀ T j, ¬ (T = 9 ∧ j = 0) → H.1 T j = (oe h L n q (nI v1) (nI v2) (nI v3) (nI v4)).1 T j)
theorem ps_ordn {q : Int32} (P : PS h k x t s) (hi : 3 < i) (hn : n < 20) (e3 : k.1 57 0 3 = nI n) (eL : h.1 6 (h.2.2 7 0 4) 0 = nI n) :
    ocp h q ∧ onp k i ∧ psm (on9 k i) ∧ KX k (sm4 (on9 k i)) ∧
    ((ocf h q = 1 ∧ ONS h (ocg h q) k (sm4 (on9 k i)) x t s i n (h.2.2 7 0 4) q) ∨ (ocf h q = 0 ∧ FB (ocg h q) (sm4 (on9 k i)))) := by
  have nn : ¬ ¬ (-1 : Int32) = -1 := fun z => z rfl
  obtain ⟨pa, pb, N1⟩ := ps_nw P (lo := 1) (hi := 99) (by omega) (by omega) (i + 1)
  rw [show nI 1 = 1 from rfl, show nI 99 = 99 from rfl] at pa pb N1
  have q1 : (g_X7_readNumber h 1 99).2.2 = h.2.2 := gr_X7_readNumber
  have bt := P.1.1
  unfold ocp ocf ocg onp on9 on8 on7 on6 on5 oce oc3 oc2 oc1
  rcases N1 with ⟨v1, s1, l1, u1, a1, fa, fb, P1, K1, K13, K57, C1⟩ | ⟨c, fa, C, F⟩
  · have n1 := ob_m1 (s := v1) (by omega)
    rw [fa, fb, if_pos n1, if_pos n1]
    generalize g_X7_readNumber h 1 99 = h1 at *
    generalize hp_i (g_X12_number k 1 99) 57 0 (i + 1) (nI v1) = k1 at *
    obtain ⟨pc, pd, N2⟩ := ps_nw P1 (lo := 0) (hi := 9) (by omega) (by omega) (i + 2)
    rw [show nI 0 = 0 from rfl, show nI 9 = 9 from rfl] at pc pd N2
    have q2 : (g_X7_readNumber h1 0 9).2.2 = h1.2.2 := gr_X7_readNumber
    rcases N2 with ⟨v2, s2, l2, u2, a2, fc, fd, P2, J1, J13, J57, C2⟩ | ⟨c, fc, C, F⟩
    · have n2 := ob_m1 (s := v2) (by omega)
      rw [fc, fd, if_pos n2, if_pos n2]
      generalize g_X7_readNumber h1 0 9 = h2 at *
      generalize hp_i (g_X12_number k1 0 9) 57 0 (i + 2) (nI v2) = k2 at *
      obtain ⟨pe, pf, N3⟩ := ps_nw P2 (lo := 0) (hi := 999) (by omega) (by omega) (i + 3)
      rw [show nI 0 = 0 from rfl, show nI 999 = 999 from rfl] at pe pf N3
      have q3 : (g_X7_readNumber h2 0 999).2.2 = h2.2.2 := gr_X7_readNumber
      rcases N3 with ⟨v3, s3, l3, u3, a3, fe, ff, P3, I1, I13, I57, C3⟩ | ⟨c, fe, C, F⟩
      · have n3 := ob_m1 (s := v3) (by omega)
        rw [fe, ff, if_pos n3, if_pos n3]
        generalize g_X7_readNumber h2 0 999 = h3 at *
        generalize hp_i (g_X12_number k2 0 999) 57 0 (i + 3) (nI v3) = k3 at *
        have W := ps_whole P3
        have cl : ∀ T j, ¬ (T = 9 ∧ j = 0) → h3.1 T j = h.1 T j := fun T j hT => (C3 T j hT).trans ((C2 T j hT).trans (C1 T j hT))
        have cr : h3.2.2 = h.2.2 := q3.trans (q2.trans q1)
        have w57 : (g_X12_takes k3 26).1 57 0 = k3.1 57 0 := fr_X12_takes (by omega)
        have key : ∀ (H K : Hp) (s4 v4 : Nat), v4 ≤ 1 → s3 ≤ s4 → PS H K x t s4 → KE k3 K → K.1 57 0 = k3.1 57 0 → (∀ T j, ¬ (T = 9 ∧ j = 0) → H.1 T j = h.1 T j) → H.2.2 = h.2.2 →
            p_X6_enter H (H.2.2 7 0 4) q (nI v1) (nI v2) (nI v3) (nI v4) ∧ p_X7_readSemicolon (g_X6_enter H (H.2.2 7 0 4) q (nI v1) (nI v2) (nI v3) (nI v4)) ∧ (f_X7_readSemicolon (g_X6_enter H (H.2.2 7 0 4) q (nI v1) (nI v2) (nI v3) (nI v4)) = 0 ∨ f_X7_readSemicolon (g_X6_enter H (H.2.2 7 0 4) q (nI v1) (nI v2) (nI v3) (nI v4)) = 1) ∧
            psm (hp_i (hp_i K 57 0 (i + 4) (nI v4)) 57 0 3 ((hp_i K 57 0 (i + 4) (nI v4)).1 57 0 3 + 1)) ∧ KX k (sm4 (hp_i (hp_i K 57 0 (i + 4) (nI v4)) 57 0 3 ((hp_i K 57 0 (i + 4) (nI v4)).1 57 0 3 + 1))) ∧
            ((f_X7_readSemicolon (g_X6_enter H (H.2.2 7 0 4) q (nI v1) (nI v2) (nI v3) (nI v4)) = 1 ∧ ONS h (g_X7_readSemicolon (g_X6_enter H (H.2.2 7 0 4) q (nI v1) (nI v2) (nI v3) (nI v4))) k (sm4 (hp_i (hp_i K 57 0 (i + 4) (nI v4)) 57 0 3 ((hp_i K 57 0 (i + 4) (nI v4)).1 57 0 3 + 1))) x t s i n (h.2.2 7 0 4) q) ∨
             (f_X7_readSemicolon (g_X6_enter H (H.2.2 7 0 4) q (nI v1) (nI v2) (nI v3) (nI v4)) = 0 ∧ FB (g_X7_readSemicolon (g_X6_enter H (H.2.2 7 0 4) q (nI v1) (nI v2) (nI v3) (nI v4))) (sm4 (hp_i (hp_i K 57 0 (i + 4) (nI v4)) 57 0 3 ((hp_i K 57 0 (i + 4) (nI v4)).1 57 0 3 + 1))))) := by
          intro H K s4 v4 h4 hs PK KK K5 HC HR
          have ev : nI v4 = 0 ∨ nI v4 = 1 := by
            rcases (show v4 = 0 ∨ v4 = 1 by omega) with z | z <;> rw [z]
            · exact Or.inl rfl
            · exact Or.inr rfl
          have en := a_enter (h := H) (L := H.2.2 7 0 4) (a1 := q) (a2 := nI v1) (a3 := nI v2) (a4 := nI v3) (by rw [HR, HC 6 _ (by omega)]; exact eL) hn ev
          rw [show (hp_i (hp_i (hp_i (hp_i (hp_i (hp_i (hp_i (hp_i (hp_i H 36 (H.2.2 7 0 4) n q) 37 (H.2.2 7 0 4) n (nI v1)) 38 (H.2.2 7 0 4) n (nI v2)) 39 (H.2.2 7 0 4) n (nI v3)) 40 (H.2.2 7 0 4) n (nI v4)) 41 (H.2.2 7 0 4) n 0) 42 (H.2.2 7 0 4) n 0) 43 (H.2.2 7 0 4) n 0) 6 (H.2.2 7 0 4) 0 (nI (n + 1))) = oe H (H.2.2 7 0 4) n q (nI v1) (nI v2) (nI v3) (nI v4) from rfl, HR] at en
          rw [HR, en.2]
          have m3 : (hp_i K 57 0 (i + 4) (nI v4)).1 57 0 3 = nI n := by
            rw [hp_i_g, if_neg (by omega), K5, I57 3, if_neg (by omega), J57 3, if_neg (by omega), K57 3, if_neg (by omega)]
            exact e3
          rw [m3, show nI n + 1 = nI (n + 1) from nI_add n 1]
          have PZ := ((PK.set57 (j := i + 4) (v := nI v4)).set57 (j := 3) (v := nI (n + 1))).cls (h' := oe H (h.2.2 7 0 4) n q (nI v1) (nI v2) (nI v3) (nI v4)) (oe_t (by omega) (by omega)) (oe_t (by omega) (by omega)) (oe_t (by omega) (by omega))
          have KZ : KX k (hp_i (hp_i K 57 0 (i + 4) (nI v4)) 57 0 3 (nI (n + 1))) := ((((K1.trans J1).trans I1).trans KK.kx).trans KX.set).trans KX.set
          have z57 : ∀ p, (hp_i (hp_i K 57 0 (i + 4) (nI v4)) 57 0 3 (nI (n + 1))).1 57 0 p = if p = 3 then nI (n + 1) else if p = i + 4 then nI v4 else if p = i + 3 then nI v3 else if p = i + 2 then nI v2 else if p = i + 1 then nI v1 else k.1 57 0 p := fun p => by
            rw [hp_i_g, hp_i_g, K5, I57 p, J57 p, K57 p]
          have z13 : (hp_i (hp_i K 57 0 (i + 4) (nI v4)) 57 0 3 (nI (n + 1))).1 12 0 13 = k.1 12 0 13 := by
            rw [hp_i_t (by omega), hp_i_t (by omega)]
            exact (KK 13 (by omega) (by omega)).trans (I13.trans (J13.trans K13))
          have zc : ∀ T j, ¬ (T = 9 ∧ j = 0) → (oe H (h.2.2 7 0 4) n q (nI v1) (nI v2) (nI v3) (nI v4)).1 T j = (oe h (h.2.2 7 0 4) n q (nI v1) (nI v2) (nI v3) (nI v4)).1 T j := fun T j hT => oe_c (HC T j hT)
          generalize hp_i (hp_i K 57 0 (i + 4) (nI v4)) 57 0 3 (nI (n + 1)) = KF at *
          generalize hHF : oe H (h.2.2 7 0 4) n q (nI v1) (nI v2) (nI v3) (nI v4) = HF at *
          have E := ps_semi PZ
          refine ⟨en.1, E.1, ?_, E.2.1, ?_, ?_⟩
          · rcases E.2.2 with e | e
            · exact Or.inr e.1
            · exact Or.inl e.1
          · rcases E.2.2 with ⟨-, -, -, -, e⟩ | ⟨-, -, e⟩
            · exact KZ.trans e.kx
            · exact KZ.trans e
          · rcases E.2.2 with ⟨y1, y2, y3, ⟨s5, y4, y5⟩, y6⟩ | ⟨y1, y2, y3⟩
            · refine Or.inl ⟨y1, v1, v2, v3, v4, s5, l1, u1, u2, u3, h4, by omega, y5, (y6 13 (by omega) (by omega)).trans z13, fun p => ?_, fun T j hT => ?_⟩
              · rw [fr_sm4 (by omega)]; exact z57 p
              · rw [y2, fr_X9_step hT]; exact zc T j hT
            · exact Or.inr ⟨y1, y2⟩
        rcases W.2.2 with ⟨b1, b2, b3, ⟨s4, b4, b5⟩, b6⟩ | ⟨b1, b2, b5, b6⟩
        · have n10 : ¬ (1 : Int32) = 0 := by decide
          have kk := key (g_X9_step h3) (g_X12_takes k3 26) s4 1 (by omega) (by omega) b5 b6 w57 (fun T j hT => (fr_X9_step hT).trans (cl T j hT)) (gr_X9_step.trans cr)
          rw [show nI 1 = 1 from rfl] at kk
          rw [b1, b2, if_neg n10, if_neg n10, if_neg n10]
          exact ⟨⟨pa, fun _ => ⟨pc, fun _ => ⟨pe, fun _ => ⟨W.1, fun z => (n10 z).elim, fun _ => ⟨b3, kk.1, kk.2.1, kk.2.2.1, trivial⟩⟩, fun z => (n3 z).elim⟩, fun z => (n2 z).elim⟩, fun z => (n1 z).elim⟩, ⟨pb, pd, pf, W.2.1⟩, kk.2.2.2.1, kk.2.2.2.2.1, kk.2.2.2.2.2⟩
        · have kk := key h3 (g_X12_takes k3 26) s3 0 (by omega) (by omega) b5 b6 w57 cl cr
          rw [show nI 0 = 0 from rfl] at kk
          rw [b1, b2, if_pos rfl, if_pos rfl, if_pos rfl]
          exact ⟨⟨pa, fun _ => ⟨pc, fun _ => ⟨pe, fun _ => ⟨W.1, fun _ => ⟨kk.1, kk.2.1, kk.2.2.1, trivial⟩, fun z => (z rfl).elim⟩, fun z => (n3 z).elim⟩, fun z => (n2 z).elim⟩, fun z => (n1 z).elim⟩, ⟨pb, pd, pf, W.2.1⟩, kk.2.2.2.1, kk.2.2.2.2.1, kk.2.2.2.2.2⟩
      · rw [fe, if_neg nn, if_neg nn]
        have hs := P2.2.2.1
        obtain ⟨M, X, K⟩ := F (f_X12_number k2 0 999)
        generalize hp_i (g_X12_number k2 0 999) 57 0 (i + 3) (f_X12_number k2 0 999) = k3 at *
        have E := mo_t (v := if f_X12_takes k3 26 = 0 then (0 : Int32) else 1) (z := (hp_i (g_X12_takes k3 26) 57 0 (i + 4) (if f_X12_takes k3 26 = 0 then (0 : Int32) else 1)).1 57 0 3 + 1) (j := i + 4) hs X M C
        exact ⟨⟨pa, fun _ => ⟨pc, fun _ => ⟨pe, fun z => (z rfl).elim, fun _ => trivial⟩, fun z => (n2 z).elim⟩, fun z => (n1 z).elim⟩, ⟨pb, pd, pf, E.1⟩, E.2.1, ((K1.trans J1).trans K).trans E.2.2.2, Or.inr ⟨rfl, E.2.2.1⟩⟩
    · rw [fc, if_neg nn, if_neg nn]
      have hs := P1.2.2.1
      obtain ⟨M, X, K⟩ := F (f_X12_number k1 0 9)
      generalize hp_i (g_X12_number k1 0 9) 57 0 (i + 2) (f_X12_number k1 0 9) = k2 at *
      have E := mo_3 (v3 := f_X12_number k2 0 999) (j3 := i + 3) (v := if f_X12_takes (hp_i (g_X12_number k2 0 999) 57 0 (i + 3) (f_X12_number k2 0 999)) 26 = 0 then (0 : Int32) else 1) (z := (hp_i (g_X12_takes (hp_i (g_X12_number k2 0 999) 57 0 (i + 3) (f_X12_number k2 0 999)) 26) 57 0 (i + 4) (if f_X12_takes (hp_i (g_X12_number k2 0 999) 57 0 (i + 3) (f_X12_number k2 0 999)) 26 = 0 then (0 : Int32) else 1)).1 57 0 3 + 1) (j := i + 4) hs X M C
      exact ⟨⟨pa, fun _ => ⟨pc, fun z => (z rfl).elim, fun _ => trivial⟩, fun z => (n1 z).elim⟩, ⟨pb, pd, E.1, E.2.1⟩, E.2.2.1, (K1.trans K).trans E.2.2.2.2, Or.inr ⟨rfl, E.2.2.2.1⟩⟩
  · rw [fa, if_neg nn, if_neg nn]
    have hs := P.2.2.1
    obtain ⟨M, X, K⟩ := F (f_X12_number k 1 99)
    generalize hp_i (g_X12_number k 1 99) 57 0 (i + 1) (f_X12_number k 1 99) = k1 at *
    have E := mo_2 (v2 := f_X12_number k1 0 9) (j2 := i + 2) (v3 := f_X12_number (hp_i (g_X12_number k1 0 9) 57 0 (i + 2) (f_X12_number k1 0 9)) 0 999) (j3 := i + 3) (v := if f_X12_takes (hp_i (g_X12_number (hp_i (g_X12_number k1 0 9) 57 0 (i + 2) (f_X12_number k1 0 9)) 0 999) 57 0 (i + 3) (f_X12_number (hp_i (g_X12_number k1 0 9) 57 0 (i + 2) (f_X12_number k1 0 9)) 0 999)) 26 = 0 then (0 : Int32) else 1) (z := (hp_i (g_X12_takes (hp_i (g_X12_number (hp_i (g_X12_number k1 0 9) 57 0 (i + 2) (f_X12_number k1 0 9)) 0 999) 57 0 (i + 3) (f_X12_number (hp_i (g_X12_number k1 0 9) 57 0 (i + 2) (f_X12_number k1 0 9)) 0 999)) 26) 57 0 (i + 4) (if f_X12_takes (hp_i (g_X12_number (hp_i (g_X12_number k1 0 9) 57 0 (i + 2) (f_X12_number k1 0 9)) 0 999) 57 0 (i + 3) (f_X12_number (hp_i (g_X12_number k1 0 9) 57 0 (i + 2) (f_X12_number k1 0 9)) 0 999)) 26 = 0 then (0 : Int32) else 1)).1 57 0 3 + 1) (j := i + 4) hs X M C
    exact ⟨⟨pa, fun z => (z rfl).elim, fun _ => trivial⟩, ⟨pb, E.1, E.2.1, E.2.2.1⟩, E.2.2.2.1, K.trans E.2.2.2.2.2, Or.inr ⟨rfl, E.2.2.2.2.1⟩⟩
theorem ps_order (P : PS h hm x t s) (W : IWd x t s 3) (h4 : hm.1 12 0 4 = nI s) (R : RD hm T) (U : UN T) (hT : ∀ k, k < 160 → T (4 + k) < 128) (h0 : T 0 ≤ 12) (hT1 : T 1 ≤ 8) (h3 : T 3 < 20) (e1 : h.1 1 (h.2.2 7 0 3) 1 = nI (T 1)) (hn1 : ∀ p, p < T 1 → h.2.1 21 (h.2.2 7 0 3) p = oa_nm T (12 + p)) (eL : h.1 6 (h.2.2 7 0 4) 0 = nI (T 3)) :
    p_X7_readOrder h ∧ op hm ∧ psm (og hm) ∧ KX hm (sm4 (og hm)) ∧
    ((f_X7_readOrder h = 1 ∧ ∃ q v1 v2 v3 v4 s', q < T 1 ∧ 1 ≤ v1 ∧ v1 ≤ 99 ∧ v2 ≤ 9 ∧ v3 ≤ 999 ∧ v4 ≤ 1 ∧ s < s' ∧ PSE (g_X7_readOrder h) (sm4 (og hm)) x t s' ∧ (sm4 (og hm)).1 12 0 13 = hm.1 12 0 13 ∧
      (∀ p, (sm4 (og hm)).1 57 0 p = if p = 3 then nI (T 3 + 1) else if p = 406 + 5 * T 3 + 4 then nI v4 else if p = 406 + 5 * T 3 + 3 then nI v3 else if p = 406 + 5 * T 3 + 2 then nI v2 else if p = 406 + 5 * T 3 + 1 then nI v1 else if p = 406 + 5 * T 3 then nI q else hm.1 57 0 p) ∧
      (∀ T' j, ¬ (T' = 9 ∧ j = 0) → (g_X7_readOrder h).1 T' j = (oe h (h.2.2 7 0 4) (T 3) (nI q) (nI v1) (nI v2) (nI v3) (nI v4)).1 T' j)) ∨
     (f_X7_readOrder h = 0 ∧ FB (g_X7_readOrder h) (sm4 (og hm)))) := by
  obtain ⟨pst, pn, pm, hf1, O⟩ := ps_order0 P W h4 R U hT h0 hT1 h3 e1 hn1
  have n10 : ¬ (1 : Int32) = 0 := by decide
  have n00 : ¬ ¬ (0 : Int32) = 0 := fun z => z rfl
  have nn : ¬ ¬ (-1 : Int32) = -1 := fun z => z rfl
  rcases O with ⟨q, s2, hq, fi, p1, p2, fp, p3, hf3, p4, ix, P2, l2, K2, K13, K57⟩ | ⟨s1, c, hs1, hf3, M, X, K, O⟩
  · have eog8 : og8 hm = on8 (og4 hm) (406 + 5 * T 3) := by
      unfold og8 og7 og6 og5 on8 on7 on6 on5
      have i1 : nI (406 + 5 * T 3) + 1 = nI (406 + 5 * T 3 + 1) := nI_add _ 1
      have i2 : nI (406 + 5 * T 3) + 2 = nI (406 + 5 * T 3 + 2) := nI_add _ 2
      have i3 : nI (406 + 5 * T 3) + 3 = nI (406 + 5 * T 3 + 3) := nI_add _ 3
      have i4 : nI (406 + 5 * T 3) + 4 = nI (406 + 5 * T 3 + 4) := nI_add _ 4
      rw [ix, i1, i2, i3, i4, nI_clamp (by omega), nI_clamp (by omega), nI_clamp (by omega), nI_clamp (by omega)]
    have eog : og hm = on9 (og4 hm) (406 + 5 * T 3) := by
      unfold og on9
      rw [if_pos hf1, if_pos hf3, eog8]
    have q2 : ∀ T j, ¬ (T = 9 ∧ j = 0) → (g_X9_step (g_X9_step h)).1 T j = h.1 T j := fun T j hT => (fr_X9_step hT).trans (fr_X9_step hT)
    have q3 : (g_X9_step (g_X9_step h)).2.2 = h.2.2 := gr_X9_step.trans gr_X9_step
    have B := ps_ordn (q := nI q) P2 (i := 406 + 5 * T 3) (n := T 3) (by omega) h3 (by rw [K57 3, if_neg (by omega)]; exact R 3 (by omega)) (by rw [q3, q2 6 _ (by omega)]; exact eL)
    have nq := ob_m1 (s := q) (by omega)
    have ef : f_X7_readOrder h = ocf (g_X9_step (g_X9_step h)) (nI q) := by
      unfold f_X7_readOrder ocf oce oc3 oc2 oc1
      rw [fi, if_pos n10, fp, if_pos nq]
    have eg : g_X7_readOrder h = ocg (g_X9_step (g_X9_step h)) (nI q) := by
      unfold g_X7_readOrder ocg oce oc3 oc2 oc1
      rw [fi, if_pos n10, fp, if_pos nq]
    have ep : p_X7_readOrder h := by
      have B1 := B.1
      unfold ocp oce oc3 oc2 oc1 at B1
      unfold p_X7_readOrder
      rw [fi, fp]
      exact ⟨pst, pn, fun _ => ⟨p1, p2, fun _ => ⟨p3, B1⟩, fun z => (nq z).elim⟩, fun z => (n10 z).elim⟩
    have eop : op hm := by
      intro _
      refine ⟨pm, fun _ => ?_⟩
      have i1 : nI (406 + 5 * T 3) + 1 = nI (406 + 5 * T 3 + 1) := nI_add _ 1
      have i2 : nI (406 + 5 * T 3) + 2 = nI (406 + 5 * T 3 + 2) := nI_add _ 2
      have i3 : nI (406 + 5 * T 3) + 3 = nI (406 + 5 * T 3 + 3) := nI_add _ 3
      have i4 : nI (406 + 5 * T 3) + 4 = nI (406 + 5 * T 3 + 4) := nI_add _ 4
      have e5 : og5 hm = on5 (og4 hm) (406 + 5 * T 3) := by
        unfold og5 on5
        rw [ix, i1, nI_clamp (by omega)]
      have e6 : og6 hm = on6 (og4 hm) (406 + 5 * T 3) := by
        unfold og6 on6
        rw [e5, ix, i2, nI_clamp (by omega)]
      have e7 : og7 hm = on7 (og4 hm) (406 + 5 * T 3) := by
        unfold og7 on7
        rw [e6, ix, i3, nI_clamp (by omega)]
      rw [ix, i1, i2, i3, i4, e5, e6, e7]
      exact ⟨p4, vp_in_nI (by omega) (by omega), B.2.1.1, vp_in_nI (by omega) (by omega), B.2.1.2.1, vp_in_nI (by omega) (by omega), B.2.1.2.2.1, vp_in_nI (by omega) (by omega), B.2.1.2.2.2, vp_in_nI (by omega) (by omega)⟩
    rw [ef, eg, eog]
    refine ⟨ep, eop, B.2.2.1, K2.trans B.2.2.2.1, ?_⟩
    rcases B.2.2.2.2 with ⟨b1, v1, v2, v3, v4, s', w1, w2, w3, w4, w5, w6, w7, w8, w9, w10⟩ | b
    · refine Or.inl ⟨b1, q, v1, v2, v3, v4, s', hq, w1, w2, w3, w4, w5, by omega, w7, w8.trans K13, fun p => ?_, fun T' j hT' => ?_⟩
      · rw [w9 p, K57 p]
      · rw [w10 T' j hT', q3]
        exact oe_c (q2 T' j hT')
    · exact Or.inr b
  · have eog : og hm = og3 hm := by
      unfold og
      rw [if_pos hf1, if_neg hf3]
    have eop : op hm := fun _ => ⟨pm, fun z => (hf3 z).elim⟩
    rw [eog]
    rcases O with ⟨fi, C⟩ | ⟨fi, p1, p2, fp, C⟩
    · have E := fb_end X hs1 M C
      have ef : f_X7_readOrder h = 0 := by
        unfold f_X7_readOrder
        rw [fi, if_neg n00]
        rfl
      have eg : g_X7_readOrder h = g_X7_fail (g_X9_step h) 1 := by
        unfold g_X7_readOrder
        rw [fi, if_neg n00]
      have ep : p_X7_readOrder h := by
        unfold p_X7_readOrder
        rw [fi]
        exact ⟨pst, pn, fun z => (z rfl).elim, fun _ => ⟨trivial, Or.inl rfl, trivial⟩⟩
      rw [ef, eg]
      exact ⟨ep, eop, E.1, K.trans (fun k h4 h5 h7 h8 _ => E.2.2 k h4 h5 h7 h8), Or.inr ⟨rfl, E.2.1⟩⟩
    · have E := fb_end X hs1 M C
      have ef : f_X7_readOrder h = 0 := by
        unfold f_X7_readOrder
        rw [fi, if_pos n10, fp, if_neg nn]
        rfl
      have eg : g_X7_readOrder h = g_X7_fail (g_X9_step h) 3 := by
        unfold g_X7_readOrder
        rw [fi, if_pos n10, fp, if_neg nn]
      have ep : p_X7_readOrder h := by
        unfold p_X7_readOrder
        rw [fi, fp]
        exact ⟨pst, pn, fun _ => ⟨p1, p2, fun z => (z rfl).elim, fun _ => ⟨trivial, Or.inl rfl, trivial⟩⟩, fun z => (n10 z).elim⟩
      rw [ef, eg]
      exact ⟨ep, eop, E.1, K.trans (fun k h4 h5 h7 h8 _ => E.2.2 k h4 h5 h7 h8), Or.inr ⟨rfl, E.2.1⟩⟩
end ORN
