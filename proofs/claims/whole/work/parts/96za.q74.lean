/-! load: a new name -/
section NNM
variable {h h' hm hm' H : Hp} {x : Nat → Nat} {t i k s c n : Nat} {T : Nat → Nat}
/-- row k of read holds the n letters at s -/
def RN (hm hm' : Hp) (x : Nat → Nat) (s n k i : Nat) : Prop := (∀ q, hm'.1 57 0 q = if 4 + 8 * k + i ≤ q ∧ q < 4 + 8 * k + 8 then nI (if q - (4 + 8 * k) < n then x (s + (q - (4 + 8 * k))) else 0) else hm.1 57 0 q) ∧ hm'.1 12 0 4 = nI (s + n) ∧ (∀ q, ¬ q = 4 → hm'.1 12 0 q = hm.1 12 0 q) ∧ (∀ T j, ¬ (T = 57 ∧ j = 0) → ¬ (T = 12 ∧ j = 0) → hm'.1 T j = hm.1 T j)
theorem l_row {y : Int32} (hk : k < 20) (h8 : n ≤ 8) (hn : s + n ≤ t) (hx : ∀ i, i < n → x (s + i) < 128) : ∀ (m f i : Nat) (hm : Hp), i + m = 8 → XM hm x t → hm.1 12 0 4 = nI s → pw_X12_newName_47 (m + 1 + f) hm (nI k) y (nI n) (nI i) ∧ RN hm (gw_X12_newName_47 (m + 1 + f) hm (nI k) y (nI n) (nI i)) x s n k i := by
  intro m
  induction m with
  | zero =>
    intro f i hm hi X e4
    rw [show 0 + 1 + f = f + 1 by omega]
    have c8 : (8 : Int32) ≤ nI i := nI_le (a := 8) (by omega) (by omega)
    rw [pw_X12_newName_47, gw_X12_newName_47, if_pos c8, e4]
    refine ⟨⟨fun _ => trivial, fun z => (z c8).elim⟩, fun q => ?_, hp_i_g.trans ((if_pos rfl).trans (nI_add s n)), fun q hq => hp_i_g.trans (if_neg hq), fun T j _ h2 => hp_i_n h2⟩
    rw [hp_i_t (by omega), if_neg (by omega)]
  | succ m ih =>
    intro f i hm hi X e4
    rw [show m + 1 + 1 + f = (m + 1 + f) + 1 by omega]
    have bt := X.1
    have c8 : ¬ (8 : Int32) ≤ nI i := nI_ge (b := 8) (by omega) (by omega)
    have en : nI i + 1 = nI (i + 1) := nI_add i 1
    have e2 : ((4 : Int32) + 8 * nI k) + nI i = nI (4 + 8 * k + i) := by
      have a1 : (8 : Int32) * nI k = nI (8 * k) := oa_mul 8 k
      have a2 : (4 : Int32) + nI (8 * k) = nI (4 + 8 * k) := nI_add 4 (8 * k)
      rw [a1, a2, nI_add]
    have v1 : vp_in (nI (4 + 8 * k + i)) 506 := vp_in_nI (by omega) (by omega)
    have r : ∀ v : Nat, (v = if i < n then x (s + i) else 0) → pw_X12_newName_47 (m + 1 + f) (hp_i hm 57 0 (4 + 8 * k + i) (nI v)) (nI k) y (nI n) (nI (i + 1)) ∧ RN hm (gw_X12_newName_47 (m + 1 + f) (hp_i hm 57 0 (4 + 8 * k + i) (nI v)) (nI k) y (nI n) (nI (i + 1))) x s n k i := by
      intro v hv
      have r := ih f (i + 1) (hp_i hm 57 0 (4 + 8 * k + i) (nI v)) (by omega) X.set57 (by rw [hp_i_t (by omega)]; exact e4)
      refine ⟨r.1, fun q => ?_, r.2.2.1, fun q hq => (r.2.2.2.1 q hq).trans (by rw [hp_i_t (by omega)]), fun T j h1 h2 => (r.2.2.2.2 T j h1 h2).trans (hp_i_n h1)⟩
      rw [r.2.1 q]
      by_cases d : 4 + 8 * k + (i + 1) ≤ q ∧ q < 4 + 8 * k + 8
      · rw [if_pos d, if_pos (show 4 + 8 * k + i ≤ q ∧ q < 4 + 8 * k + 8 by omega)]
      · rw [if_neg d, hp_i_g]
        by_cases d2 : q = 4 + 8 * k + i
        · rw [if_pos d2, if_pos (by omega), hv, show q - (4 + 8 * k) = i by omega]
        · rw [if_neg d2, if_neg (by omega)]
    rw [pw_X12_newName_47, gw_X12_newName_47, if_neg c8, e2, en, nI_clamp (by omega)]
    by_cases dn : i < n
    · have c2 : ¬ nI n ≤ nI i := nI_ge dn (by omega)
      have es : hm.1 12 0 4 + nI i = nI (s + i) := by rw [e4, nI_add]
      have v2 : vp_in (nI (s + i)) 900 := vp_in_nI (by omega) (by omega)
      have cell : hm.1 54 0 (s + i) = nI (x (s + i)) := by rw [(X.2.2 (s + i) (by omega)).2, ob_sb_lt _ (hx i dn)]
      have q := r (x (s + i)) (by rw [if_pos dn])
      rw [if_neg c2, es, nI_clamp (by omega), cell]
      exact ⟨⟨fun z => (c8 z).elim, fun _ => ⟨fun z => (c2 z).elim, fun _ => ⟨v2, v1, q.1⟩⟩⟩, q.2⟩
    · have c2 : nI n ≤ nI i := nI_le (by omega) (by omega)
      have q := r 0 (by rw [if_neg dn])
      rw [nI_0] at q
      rw [if_pos c2]
      exact ⟨⟨fun z => (c8 z).elim, fun _ => ⟨fun _ => ⟨v1, q.1⟩, fun z => (z c2).elim⟩⟩, q.2⟩
theorem ps_newName (P : PS h hm x t s) (R : RD hm T) (U : UN T) (hT : ∀ k, k < 160 → T (4 + k) < 128) (h0 : T 0 ≤ 12) (h1 : T 1 ≤ 8) (e0 : h.1 1 (h.2.2 7 0 3) 0 = nI (T 0)) (e1 : h.1 1 (h.2.2 7 0 3) 1 = nI (T 1)) (hn0 : ∀ p, p < T 0 → h.2.1 19 (h.2.2 7 0 3) p = oa_nm T p) (hn1 : ∀ p, p < T 1 → h.2.1 21 (h.2.2 7 0 3) p = oa_nm T (12 + p)) (hk : k < 20) :
    p_X7_isNewName h ∧ p_X12_newName hm (nI k) ∧
    ((f_X7_isNewName h = 1 ∧ g_X7_isNewName h = h ∧ NS x t s ∧ (∀ q, VK T q → ¬ MT T x s (ob_ED x t 1 s - s) q) ∧ p_X9_name h ∧ f_X9_name h = ob_pk (ob_pl x s (ob_ED x t 1 s - s)) ∧
      ∃ H0, KE hm H0 ∧ (∀ T j, ¬ (T = 12 ∧ j = 0) → H0.1 T j = hm.1 T j) ∧ RN H0 (g_X12_newName hm (nI k)) x s (ob_ED x t 1 s - s) k 0) ∨
     (f_X7_isNewName h = 0 ∧ ∃ c, FC (g_X7_isNewName h) s c ∧ MF hm (g_X12_newName hm (nI k)) t s c)) := by
  obtain ⟨p1, p2, p3, p4, p5, i, p6, p7, p8⟩ := id P
  have bt := p1.1
  have nm := s_named p4 R hT h0 h1 p6 p7 p5 p8
  have isn := s_isName p3 bt p2
  have hF := m_ok p5
  have b := s_blanks p4 p6 p7
  rw [p8] at b
  have el := ob_ED_le (x := x) (k := 1) p3
  unfold p_X12_newName g_X12_newName p_X7_isNewName f_X7_isNewName g_X7_isNewName
  rw [if_pos hF]
  rcases nm.2 with ⟨N, gn, nm2⟩ | ⟨N, fn, Fn⟩
  · have fi : f_X9_isName h = 1 := by
      rcases isn.2 with z | z
      · exact z.1
      · exact (z.2 N).elim
    have L := ob_lt p3 N
    have nam := s_cname p1 p3 p2 N.1
    have it := s_item (h := h) (c := h.2.2 7 0 3) L U h0 h1 e0 e1 hn0 hn1
    have n10 : ¬ (1 : Int32) = 0 := by decide
    rw [fi, if_pos n10, if_pos n10, nam.2, gn]
    rcases nm2 with ⟨q, vq, mq, fq⟩ | ⟨nq, fq⟩
    · have nq := ob_m1 (s := q) (by unfold VK at vq; omega)
      have ni : ¬ f_X1_itemNamed h (h.2.2 7 0 3) (ob_pk (ob_pl x s (ob_ED x t 1 s - s))) = -1 := by
        rcases it.2 with ⟨q', vq', mq', fq'⟩ | ⟨no, -⟩
        · rw [fq']
          refine ob_m1 ?_
          unfold VK at vq'
          split <;> omega
        · exact (no q vq mq).elim
      have F3 : MF hm (g_X12_must (g_X12_blanks hm) 0 3) t s 3 := m_fail (p := 0) (c := 3) b.2.1 p5 p3
      have hb := m_bad (by omega) F3.2.2.1
      have nb : ¬ f_X12_hasFailed (g_X12_must (g_X12_blanks hm) 0 3) = 0 := by rw [hb]; decide
      rw [fq, if_pos nq, if_neg nb, if_neg ni, if_neg ni]
      have ff : (if f_X7_fail h 3 = 0 then (0 : Int32) else 1) = 0 := rfl
      rw [ff]
      exact ⟨⟨isn.1, fun _ => ⟨nam.1, it.1, fun z => (ni z).elim, fun _ => ⟨trivial, Or.inl rfl, trivial⟩⟩, fun z => (n10 z).elim⟩, ⟨m_pF _, fun _ => ⟨nm.1, m_pM _ _ _, m_pF _, fun z => (nb z).elim, fun _ => trivial⟩, fun z => (z hF).elim⟩, Or.inr ⟨rfl, 3, a_fail p2 3, F3⟩⟩
    · have ni : f_X1_itemNamed h (h.2.2 7 0 3) (ob_pk (ob_pl x s (ob_ED x t 1 s - s))) = -1 := by
        rcases it.2 with ⟨q', vq', mq', fq'⟩ | ⟨-, z⟩
        · exact (nq q' vq' mq').elim
        · exact z
      have nn : ¬ ¬ (-1 : Int32) = -1 := fun z => z rfl
      have b7 : (g_X12_blanks hm).1 12 0 7 = -1 := (b.2.1.2.2 7 (by omega) (by omega)).trans p5
      have l2 := s_letters b.2.2 p3 b.2.1.1
      have b2 := s_blanks b.2.2 p3 b.2.1.1
      have id : ob_SK x t s = s := by rw [← p8]; exact ob_SK_idem p6
      rw [id] at l2 b2
      rw [fq, if_neg nn, m_must1 (show ¬ (1 : Int32) = 0 by decide), if_pos (m_ok b7), if_pos ni, if_pos ni, l2.2.2, l2.2.1]
      obtain ⟨f, hf⟩ := oa_fuel (show 8 < 1000000 by omega)
      have lr := l_row (y := -1) hk L.2.1 (show s + (ob_ED x t 1 s - s) ≤ t by omega) (fun i hi => by have := L.2.2 i hi; omega) 8 f 0 (g_X12_blanks (g_X12_blanks hm)) (by omega) b2.2.2 b2.2.1.1
      rw [← hf, nI_0] at lr
      refine ⟨⟨isn.1, fun _ => ⟨nam.1, it.1, fun _ => trivial, fun z => (z ni).elim⟩, fun z => (n10 z).elim⟩, ⟨m_pF _, fun _ => ⟨nm.1, m_pM _ _ _, m_pF _, fun _ => ⟨l2.1, lr.1⟩, fun z => (z (m_ok b7)).elim⟩, fun z => (z hF).elim⟩, Or.inl ⟨rfl, rfl, N, nq, nam.1, rfl, g_X12_blanks (g_X12_blanks hm), ?_, ?_, lr.2⟩⟩
      · intro k h4 h5
        exact (b2.2.1.2.2 k h4 h5).trans (b.2.1.2.2 k h4 h5)
      · intro T j hT
        exact (fr_X12_blanks hT).trans (fr_X12_blanks hT)
  · have fi : f_X9_isName h = 0 := by
      rcases isn.2 with z | z
      · exact (N z.2).elim
      · exact z.1
    have nn : ¬ ¬ (-1 : Int32) = -1 := fun z => z rfl
    have hb := m_bad (by omega) Fn.2.2.1
    have nb : ¬ f_X12_hasFailed (g_X12_named hm) = 0 := by rw [hb]; decide
    have n00 : ¬ ¬ (0 : Int32) = 0 := fun z => z rfl
    rw [fi, if_neg n00, if_neg n00, fn, if_neg nn, m_must1 (show ¬ (1 : Int32) = 0 by decide), if_neg nb]
    exact ⟨⟨isn.1, fun z => (n00 z).elim, fun _ => ⟨trivial, Or.inl rfl, trivial⟩⟩, ⟨m_pF _, fun _ => ⟨nm.1, m_pM _ _ _, m_pF _, fun z => (nb z).elim, fun _ => trivial⟩, fun z => (z hF).elim⟩, Or.inr ⟨rfl, 1, a_fail p2 1, Fn⟩⟩
end NNM
