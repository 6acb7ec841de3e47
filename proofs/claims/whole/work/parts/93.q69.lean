/-! load: named, newName -/
section NME
variable {h h' : Hp} {x : Nat → Nat} {t i k m s n c : Nat} {T : Nat → Nat}
theorem ob_ns (hs : s ≤ t) : NS x t s ↔ (1 ≤ ob_ED x t 1 s - s ∧ ob_ED x t 1 s - s ≤ 8) := by
  unfold NS
  have el := ob_ED_le (x := x) (k := 1) hs
  by_cases d : ob_kd x t s = 1
  · have := (ob_run hs d (Or.inl rfl)).2
    omega
  · have ee : ob_ED x t 1 s = s := (ob_ED_f hs).trans (if_neg (fun y => d (by unfold ob_kd; rw [if_pos y.1]; exact y.2)))
    omega
theorem ob_lt (hs : s ≤ t) (N : NS x t s) : LT x s (ob_ED x t 1 s - s) := by
  obtain ⟨a, b⟩ := (ob_ns hs).mp N
  exact ⟨a, b, fun i hi => (ob_kk_1 _).mp (ob_ED_all (x := x) (t := t) (k := 1) (i := s) (j := s + i) (by omega) (by omega)).2⟩
theorem l_mnk (X : XM h x t) (R : RD h T) (hT : ∀ k, k < 160 → T (4 + k) < 128) (h0 : T 0 ≤ 12) (h1 : T 1 ≤ 8) (e4 : h.1 12 0 4 = nI s) (e7 : h.1 12 0 7 = -1) (hn : s + n ≤ t) (L : LT x s n) : ∀ (m f k : Nat), k + m = 20 → (∀ k', k' < k → VK T k' → ¬ MT T x s n k') → pw_X12_named_19 (m + 1 + f) h (nI n) (nI k) ∧ ((∃ q, VK T q ∧ MT T x s n q ∧ fw_X12_named_19 (m + 1 + f) h (nI n) (nI k) = nI q) ∨ ((∀ q, VK T q → ¬ MT T x s n q) ∧ fw_X12_named_19 (m + 1 + f) h (nI n) (nI k) = -1)) := by
  have hF := m_ok e7
  have nF : ¬ ¬ f_X12_hasFailed h = 0 := fun z => z hF
  have MT0 : ∀ q, ob_M T x s n q 0 ↔ MT T x s n q := fun q => ⟨fun a i hi => a i (Nat.zero_le _) hi, fun a i _ hi => a i hi⟩
  obtain ⟨g, hg⟩ := oa_fuel (show 8 < 1000000 by omega)
  intro m
  induction m with
  | zero =>
    intro f k hk hno
    rw [show 0 + 1 + f = f + 1 by omega]
    have c : (20 : Int32) ≤ nI k := nI_le (a := 20) (by omega) (by omega)
    rw [pw_X12_named_19, fw_X12_named_19, if_pos c]
    refine ⟨⟨fun _ => trivial, fun z => (z c).elim⟩, Or.inr ⟨fun q hq => hno q ?_ hq, rfl⟩⟩
    unfold VK at hq
    omega
  | succ m ih =>
    intro f k hk hno
    rw [show m + 1 + 1 + f = (m + 1 + f) + 1 by omega]
    have c : ¬ (20 : Int32) ≤ nI k := nI_ge (b := 20) (by omega) (by omega)
    have en : nI k + 1 = nI (k + 1) := nI_add k 1
    have z0 := l_mn0 (h := h) (n := n) (show k < 20 by omega) 8 g 0 (by omega)
    have z1 := l_mn1 X R hT e4 hn L.2.1 (fun i hi => by have := L.2.2 i hi; omega) (show k < 20 by omega) 8 g 0 (by omega)
    rw [← hg, nI_0] at z0 z1
    rw [MT0] at z1
    have step : ∀ fl : Int32, (fl = 1 ∧ VK T k) ∨ (fl = 0 ∧ ¬ VK T k) → pi_X12_named_78 oa_N h (nI n) (nI k) fl 0 ∧ ((iw_x3_X12_named_78 oa_N h (nI n) (nI k) fl 0 = 0 ∧ (VK T k → ¬ MT T x s n k)) ∨ (¬ iw_x3_X12_named_78 oa_N h (nI n) (nI k) fl 0 = 0 ∧ VK T k ∧ MT T x s n k)) := by
      intro fl hfl
      rcases hfl with ⟨rfl, v⟩ | ⟨rfl, v⟩
      · refine ⟨z1.1, ?_⟩
        rcases z1.2 with ⟨a, b⟩ | ⟨a, b⟩
        · exact Or.inr ⟨by rw [a]; decide, v, b⟩
        · exact Or.inl ⟨a, fun _ => b⟩
      · exact ⟨z0.1, Or.inl ⟨z0.2, fun z => (v z).elim⟩⟩
    have next : (VK T k → ¬ MT T x s n k) → _ := fun a => ih f (k + 1) (by omega) (fun k' hk' v => by
      by_cases e : k' = k
      · rw [e] at v ⊢; exact a v
      · exact hno k' (by omega) v)
    rw [pw_X12_named_19, fw_X12_named_19, if_neg c, if_neg nF, en]
    by_cases d : 12 ≤ k
    · have c12 : (12 : Int32) ≤ nI k := nI_le (a := 12) d (by omega)
      have sub : nI k - 12 = nI (k - 12) := oa_sub (b := 12) d
      have fl : ((if h.1 57 0 1 ≤ nI k - 12 then (0 : Int32) else 1) = 1 ∧ VK T k) ∨ ((if h.1 57 0 1 ≤ nI k - 12 then (0 : Int32) else 1) = 0 ∧ ¬ VK T k) := by
        rw [sub, R 1 (by omega)]
        by_cases e : k - 12 < T 1
        · rw [if_neg (nI_ge e (by omega))]
          exact Or.inl ⟨rfl, Or.inr ⟨d, e⟩⟩
        · rw [if_pos (nI_le (by omega) (by omega))]
          exact Or.inr ⟨rfl, by unfold VK; omega⟩
      have st := step _ fl
      rw [if_pos c12]
      rcases st.2 with ⟨a, b⟩ | ⟨a, b, b2⟩
      · have r := next b
        rw [if_pos a]
        exact ⟨⟨fun z => (c z).elim, fun _ => ⟨m_pF _, fun z => (z hF).elim, fun _ => ⟨fun _ => ⟨st.1, fun _ => r.1, fun z => (z a).elim⟩, fun z => (z c12).elim⟩⟩⟩, r.2⟩
      · rw [if_neg a]
        exact ⟨⟨fun z => (c z).elim, fun _ => ⟨m_pF _, fun z => (z hF).elim, fun _ => ⟨fun _ => ⟨st.1, fun z => (a z).elim, fun _ => trivial⟩, fun z => (z c12).elim⟩⟩⟩, Or.inl ⟨k, b, b2, rfl⟩⟩
    · have c12 : ¬ (12 : Int32) ≤ nI k := nI_ge (b := 12) (by omega) (by omega)
      have fl : ((if h.1 57 0 0 ≤ nI k then (0 : Int32) else 1) = 1 ∧ VK T k) ∨ ((if h.1 57 0 0 ≤ nI k then (0 : Int32) else 1) = 0 ∧ ¬ VK T k) := by
        rw [R 0 (by omega)]
        by_cases e : k < T 0
        · rw [if_neg (nI_ge e (by omega))]
          exact Or.inl ⟨rfl, Or.inl ⟨by omega, e⟩⟩
        · rw [if_pos (nI_le (by omega) (by omega))]
          exact Or.inr ⟨rfl, by unfold VK; omega⟩
      have st := step _ fl
      rw [if_neg c12]
      rcases st.2 with ⟨a, b⟩ | ⟨a, b, b2⟩
      · have r := next b
        rw [if_pos a]
        exact ⟨⟨fun z => (c z).elim, fun _ => ⟨m_pF _, fun z => (z hF).elim, fun _ => ⟨fun z => (c12 z).elim, fun _ => ⟨st.1, fun _ => r.1, fun z => (z a).elim⟩⟩⟩⟩, r.2⟩
      · rw [if_neg a]
        exact ⟨⟨fun z => (c z).elim, fun _ => ⟨m_pF _, fun z => (z hF).elim, fun _ => ⟨fun z => (c12 z).elim, fun _ => ⟨st.1, fun z => (a z).elim, fun _ => trivial⟩⟩⟩⟩, Or.inl ⟨k, b, b2, rfl⟩⟩
theorem s_named (X : XM h x t) (R : RD h T) (hT : ∀ k, k < 160 → T (4 + k) < 128) (h0 : T 0 ≤ 12) (h1 : T 1 ≤ 8) (hi : i ≤ t) (e4 : h.1 12 0 4 = nI i) (e7 : h.1 12 0 7 = -1) (hs : ob_SK x t i = s) : p_X12_named h ∧
    ((NS x t s ∧ g_X12_named h = g_X12_blanks h ∧ ((∃ q, VK T q ∧ MT T x s (ob_ED x t 1 s - s) q ∧ f_X12_named h = nI q) ∨ ((∀ q, VK T q → ¬ MT T x s (ob_ED x t 1 s - s) q) ∧ f_X12_named h = -1))) ∨
     (¬ NS x t s ∧ f_X12_named h = -1 ∧ MF h (g_X12_named h) t s 1)) := by
  have bt := X.1
  have l := s_letters X hi e4
  have b := s_blanks X hi e4
  have sl := ob_SK_le (x := x) hi
  rw [hs] at l b sl
  have el := ob_ED_le (x := x) (k := 1) sl.2
  have ns := ob_ns (x := x) sl.2
  unfold p_X12_named f_X12_named g_X12_named
  rw [id_gw_X12_named_19, l.2.2, l.2.1]
  have R0 : RD (g_X12_blanks h) T := R.same (fr_X12_blanks (by omega))
  have b7 : (g_X12_blanks h).1 12 0 7 = -1 := (b.2.1.2.2 7 (by omega) (by omega)).trans e7
  have M0 : ME h (g_X12_blanks h) s s := b.2.1
  have F' : MF h (g_X12_must (g_X12_blanks h) 0 1) t s 1 := m_fail (p := 0) (c := 1) M0 e7 sl.2
  by_cases d : NS x t s
  · have d' := ns.mp d
    have fi : f_X12_in (g_X12_blanks h) (nI (ob_ED x t 1 s - s)) 1 8 = 1 := by
      unfold f_X12_in
      rw [if_neg (show ¬ nI (ob_ED x t 1 s - s) < 1 from nI_nlt (b := 1) d'.1 (by omega)), if_neg (show ¬ (8 : Int32) < nI (ob_ED x t 1 s - s) from nI_nlt (a := 8) d'.2 (by omega))]
    rw [fi, m_must1 (by decide)]
    obtain ⟨g, hg⟩ := oa_fuel (show 20 < 1000000 by omega)
    have r := l_mnk b.2.2 R0 hT h0 h1 b.2.1.1 b7 (n := ob_ED x t 1 s - s) (by omega) (ob_lt sl.2 d) 20 g 0 (by omega) (fun k' hk' => by omega)
    rw [← hg, nI_0] at r
    exact ⟨⟨l.1, p_X12_in_t _ _ _ _, m_pM _ _ _, r.1⟩, Or.inl ⟨d, rfl, r.2⟩⟩
  · have d8 : ¬ (1 ≤ ob_ED x t 1 s - s ∧ ob_ED x t 1 s - s ≤ 8) := fun z => d (ns.mpr z)
    have fi : f_X12_in (g_X12_blanks h) (nI (ob_ED x t 1 s - s)) 1 8 = 0 := by
      unfold f_X12_in
      by_cases z : ob_ED x t 1 s - s < 1
      · rw [if_pos (show nI (ob_ED x t 1 s - s) < 1 from nI_lt (b := 1) z (by omega))]
      · rw [if_neg (show ¬ nI (ob_ED x t 1 s - s) < 1 from nI_nlt (b := 1) (by omega) (by omega)), if_pos (show (8 : Int32) < nI (ob_ED x t 1 s - s) from nI_lt (a := 8) (by omega) (by omega))]
    rw [fi]
    have hb := m_bad (by omega) F'.2.2.1
    have z0 : pw_X12_named_19 oa_N (g_X12_must (g_X12_blanks h) 0 1) (nI (ob_ED x t 1 s - s)) 0 ∧ fw_X12_named_19 oa_N (g_X12_must (g_X12_blanks h) 0 1) (nI (ob_ED x t 1 s - s)) 0 = -1 := by
      obtain ⟨f, hf⟩ := oa_fuel (show 0 < 1000000 by omega)
      have nb : ¬ f_X12_hasFailed (g_X12_must (g_X12_blanks h) 0 1) = 0 := by rw [hb]; decide
      rw [hf, show 0 + 1 + f = f + 1 by omega, pw_X12_named_19, fw_X12_named_19, if_neg (show ¬ (20 : Int32) ≤ 0 by decide), if_pos nb]
      exact ⟨⟨fun z => absurd z (by decide), fun _ => ⟨m_pF _, fun _ => trivial, fun z => (nb z).elim⟩⟩, rfl⟩
    exact ⟨⟨l.1, p_X12_in_t _ _ _ _, m_pM _ _ _, z0.1⟩, Or.inr ⟨d, z0.2, F'⟩⟩
end NME
