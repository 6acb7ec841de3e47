/-! load: the draft of all that a text tells -/
section DRF
variable {h h' G hm K : Hp} {x : Nat → Nat} {t s c L rr : Nat} {T T' : Nat → Nat}
/-- rungs of the draft -/
def RU (h : Hp) (c : Nat) (T : Nat → Nat) (rr : Nat) : Prop := h.1 1 c 2 = nI rr ∧ rr ≤ 6 ∧ (rr = 0 → T 2 = 1 ∧ T 388 = 0 ∧ T 389 = 9 ∧ T 390 = 100) ∧ (0 < rr → T 2 = rr) ∧
  (∀ r, r < rr → (h.1 30 c r = nI (T (388 + 3 * r)) ∧ h.1 31 c r = nI (T (388 + 3 * r + 1)) ∧ h.1 32 c r = nI (T (388 + 3 * r + 2))) ∧ T (388 + 3 * r) ≤ 9 ∧ T (388 + 3 * r + 1) ≤ 9 ∧ 1 ≤ T (388 + 3 * r + 2) ∧ T (388 + 3 * r + 2) ≤ 100)
/-- stock and orders of the draft -/
def OD (h : Hp) (L : Nat) (T : Nat → Nat) : Prop := T 3 ≤ 20 ∧ h.1 6 L 0 = nI (T 3) ∧ h.1 10 L 0 = 0 ∧ h.1 10 L 1 = 0 ∧ (∀ p, p < 12 → h.1 48 L p = nI (T (164 + p)) ∧ h.1 49 L p = 0 ∧ T (164 + p) ≤ 9999) ∧ (∀ a, a < 5 → h.1 44 L a = 0) ∧
  (∀ o, o < T 3 → (h.1 36 L o = nI (T (406 + 5 * o)) ∧ h.1 37 L o = nI (T (406 + 5 * o + 1)) ∧ h.1 38 L o = nI (T (406 + 5 * o + 2)) ∧ h.1 39 L o = nI (T (406 + 5 * o + 3)) ∧ h.1 40 L o = nI (T (406 + 5 * o + 4)) ∧ h.1 41 L o = 0 ∧ h.1 42 L o = 0 ∧ h.1 43 L o = 0) ∧ T (406 + 5 * o) < T 1 ∧ 1 ≤ T (406 + 5 * o + 1) ∧ T (406 + 5 * o + 1) ≤ 99 ∧ T (406 + 5 * o + 2) ≤ 9 ∧ T (406 + 5 * o + 3) ≤ 999 ∧ T (406 + 5 * o + 4) ≤ 1)
theorem RU.oth (R : RU h c T rr) (h2 : T' 2 = T 2) (hT : ∀ a, 388 ≤ a → a < 406 → T' a = T a) (e1 : h'.1 1 c 2 = h.1 1 c 2) (e3 : ∀ b, 30 ≤ b → b ≤ 32 → h'.1 b c = h.1 b c) : RU h' c T' rr := by
  obtain ⟨a1, a2, a3, a4, a5⟩ := R
  refine ⟨e1.trans a1, a2, fun z => ?_, fun z => h2.trans (a4 z), fun r hr => ?_⟩
  · rw [h2, hT 388 (by omega) (by omega), hT 389 (by omega) (by omega), hT 390 (by omega) (by omega)]; exact a3 z
  · rw [hT (388 + 3 * r) (by omega) (by omega), hT (388 + 3 * r + 1) (by omega) (by omega), hT (388 + 3 * r + 2) (by omega) (by omega), e3 30 (by omega) (by omega), e3 31 (by omega) (by omega), e3 32 (by omega) (by omega)]
    exact a5 r hr
theorem OD.oth (R : OD h L T) (h1 : T 1 ≤ T' 1) (h3 : T' 3 = T 3) (hS : ∀ a, 164 ≤ a → a < 176 → T' a = T a) (hT : ∀ a, 406 ≤ a → T' a = T a) (e : ∀ b, b = 6 ∨ b = 10 ∨ (36 ≤ b ∧ b ≤ 52) → h'.1 b L = h.1 b L) : OD h' L T' := by
  obtain ⟨a1, a2, a3, a4, a5, a6, a7⟩ := R
  refine ⟨by omega, by rw [e 6 (by omega), h3]; exact a2, by rw [e 10 (by omega)]; exact a3, by rw [e 10 (by omega)]; exact a4, fun p hp => ?_, fun a ha => by rw [e 44 (by omega)]; exact a6 a ha, fun o ho => ?_⟩
  · rw [e 48 (by omega), e 49 (by omega), hS (164 + p) (by omega) (by omega)]; exact a5 p hp
  · rw [h3] at ho
    have y := a7 o ho
    rw [e 36 (by omega), e 37 (by omega), e 38 (by omega), e 39 (by omega), e 40 (by omega), e 41 (by omega), e 42 (by omega), e 43 (by omega), hT (406 + 5 * o) (by omega), hT (406 + 5 * o + 1) (by omega), hT (406 + 5 * o + 2) (by omega), hT (406 + 5 * o + 3) (by omega), hT (406 + 5 * o + 4) (by omega)]
    exact ⟨y.1, by omega, y.2.2⟩
theorem DR.oth (D : DR h c T) (hT : ∀ a, a < 2 ∨ (4 ≤ a ∧ a < 164) ∨ (176 ≤ a ∧ a < 388) → T' a = T a) (hb : ∀ a, a < 506 → T' a < 1000000) (e1 : ∀ a, a < 2 → h'.1 1 c a = h.1 1 c a) (e : ∀ b, b = 20 ∨ b = 22 ∨ b = 23 ∨ b = 25 ∨ b = 27 ∨ b = 29 → h'.1 b = h.1 b) (hl : h'.2.1 = h.2.1) : DR h' c T' := by
  obtain ⟨⟨d1, d2⟩, ⟨d3, d4⟩, d5, d6, d7, d8, d9, d10, d11⟩ := D
  have t0 : T' 0 = T 0 := hT 0 (by omega)
  have t1 : T' 1 = T 1 := hT 1 (by omega)
  have nmr : ∀ a i, VK T a → i < 8 → T' (4 + 8 * a + i) = T (4 + 8 * a + i) := fun a i ha hi => hT _ (by unfold VK at ha; omega)
  have vk : ∀ a, VK T' a ↔ VK T a := fun a => by unfold VK; rw [t0, t1]
  refine ⟨⟨by omega, by omega⟩, ⟨by rw [e1 0 (by omega), t0]; exact d3, by rw [e1 1 (by omega), t1]; exact d4⟩, fun p hp => ?_, fun a ha => ?_, ⟨fun a ha => ?_, fun a b ha hb' hab => ?_⟩, fun a ha => by rw [hT (4 + a) (by omega)]; exact d8 a ha, fun p hp => ?_, fun a ha => ?_, hb⟩
  · rw [t0] at hp
    rw [e 20 (by omega), hT (176 + p) (by omega)]
    exact d5 p hp
  · rw [t1] at ha
    obtain ⟨g1, g2, g3, ⟨g4, g5, g6⟩, g7⟩ := d6 a ha
    have s1 : T' (188 + a) = T (188 + a) := hT _ (by omega)
    refine ⟨by rw [e 23 (by omega), s1]; exact g1, by omega, by omega, ⟨fun j hj => ?_, fun p hp => ?_, fun z => ?_⟩, ?_⟩
    · rw [s1] at hj
      rw [hT (196 + 6 * a + j) (by omega), hT (244 + 6 * a + j) (by omega), t0, e 25 (by omega), e 27 (by omega)]
      exact g4 j hj
    · rw [hT (292 + 12 * a + p) (by omega), t0, e 29 (by omega)]
      exact g5 p hp
    · rw [s1] at z
      obtain ⟨p, y1, y2⟩ := g6 z
      exact ⟨p, by omega, by rw [hT (292 + 12 * a + p) (by omega)]; exact y2⟩
    · rw [e 22 (by omega), g7]
      congr 1
      refine (oa_lvl_c 8 a (fun a' ha' => ⟨hT _ (by omega), fun j hj => ?_⟩)).symm
      have b := d6 a' (by omega)
      exact ⟨hT _ (by have := b.2.2.1; omega), (b.2.2.2.1.1 j hj).1⟩
  · rw [vk] at ha
    obtain ⟨n, y1, y2, y3, y4⟩ := d7.1 a ha
    refine ⟨n, y1, y2, fun i hi => ?_, fun i h1 h2 => ?_⟩
    · rw [nmr a i ha (by omega)]; exact y3 i hi
    · rw [nmr a i ha h2]; exact y4 i h1 h2
  · rw [vk] at ha hb'
    exact d7.2 a b ha hb' (fun i hi => by rw [← nmr a i ha hi, ← nmr b i hb' hi]; exact hab i hi)
  · rw [t0] at hp
    rw [hl, d9 p hp]
    exact (oa_nm_c (fun i hi => nmr p i (Or.inl ⟨by omega, hp⟩) hi)).symm
  · rw [t1] at ha
    rw [hl, d10 a ha]
    exact (oa_nm_c (fun i hi => nmr (12 + a) i (Or.inr ⟨by omega, by omega⟩) hi)).symm
/-- a part more -/
theorem DR.part {v2 s0 n : Nat} (D : DR h c T) (h0 : T 0 < 12) (Lt : LT x s0 n) (no : ∀ q, VK T q → ¬ MT T x s0 n q) (hv : 1 ≤ v2) (hv' : v2 ≤ 60) (t0 : T' 0 = T 0 + 1) (t176 : T' (176 + T 0) = v2) (tn : ∀ i, i < 8 → T' (4 + 8 * T 0 + i) = if i < n then x (s0 + i) else 0)
    (hT : ∀ a, ¬ a = 0 → ¬ a = 176 + T 0 → ¬ a = 164 + T 0 → ¬ (4 + 8 * T 0 ≤ a ∧ a < 4 + 8 * T 0 + 8) → T' a = T a) (hb : ∀ a, a < 506 → T' a < 1000000)
    (e1 : ∀ a, h'.1 1 c a = if a = 0 then nI (T 0 + 1) else h.1 1 c a) (e20 : ∀ a, h'.1 20 c a = if a = T 0 then nI v2 else h.1 20 c a) (e : ∀ b, b = 22 ∨ b = 23 ∨ b = 25 ∨ b = 27 ∨ b = 29 → h'.1 b = h.1 b) (hl : h'.2.1 = (hp_l h 19 c (T 0) (ob_pk (ob_pl x s0 n))).2.1) : DR h' c T' := by
  obtain ⟨⟨d1, d2⟩, ⟨d3, d4⟩, d5, d6, d7, d8, d9, d10, d11⟩ := D
  have t1 : T' 1 = T 1 := hT 1 (by omega) (by omega) (by omega) (by omega)
  have gr : GR T' (T 0) n := by
    refine ⟨Lt.1, Lt.2.1, fun i hi => ?_, fun i h1 h2 => ?_⟩
    · rw [tn i (by have := Lt.2.1; omega), if_pos hi]; exact Lt.2.2 i hi
    · rw [tn i h2, if_neg (by omega)]
  have nmr : ∀ a i, VK T a → i < 8 → T' (4 + 8 * a + i) = T (4 + 8 * a + i) := fun a i ha hi => hT _ (by omega) (by unfold VK at ha; omega) (by unfold VK at ha; omega) (by unfold VK at ha; omega)
  have vk : ∀ a, VK T' a → VK T a ∨ a = T 0 := fun a ha => by unfold VK at *; rw [t0, t1] at ha; omega
  have un : ∀ a, VK T a → ¬ ∀ i, i < 8 → T' (4 + 8 * T 0 + i) = T' (4 + 8 * a + i) := fun a ha hab => no a ha (fun i hi => by rw [← nmr a i ha hi, ← hab i hi]; exact tn i hi)
  have l19 : ∀ a, h'.2.1 19 c a = if a = T 0 then ob_pk (ob_pl x s0 n) else h.2.1 19 c a := fun a => by
    rw [hl]
    unfold hp_l hp_b
    show (if 19 = 19 ∧ c = c then vp_updL (h.2.1 19 c) (T 0) _ else h.2.1 19 c) a = _
    rw [if_pos ⟨rfl, rfl⟩]
    rfl
  have l21 : h'.2.1 21 c = h.2.1 21 c := by
    rw [hl]
    unfold hp_l hp_b
    show (if 21 = 19 ∧ c = c then vp_updL (h.2.1 19 c) (T 0) (ob_pk (ob_pl x s0 n)) else h.2.1 21 c) = _
    rw [if_neg (by omega)]
  refine ⟨⟨by omega, by omega⟩, ⟨by rw [e1, if_pos rfl, t0], by rw [e1, if_neg (by omega), t1]; exact d4⟩, fun p hp => ?_, fun a ha => ?_, ⟨fun a ha => ?_, fun a b ha hb' hab => ?_⟩, fun a ha => ?_, fun p hp => ?_, fun a ha => ?_, hb⟩
  · rw [t0] at hp
    rw [e20]
    by_cases d : p = T 0
    · rw [if_pos d, d, t176]; exact ⟨rfl, hv, hv'⟩
    · rw [if_neg d, hT (176 + p) (by omega) (by omega) (by omega) (by omega)]; exact d5 p (by omega)
  · rw [t1] at ha
    obtain ⟨g1, g2, g3, ⟨g4, g5, g6⟩, g7⟩ := d6 a ha
    have s1 : T' (188 + a) = T (188 + a) := hT _ (by omega) (by omega) (by omega) (by omega)
    refine ⟨by rw [e 23 (by omega), s1]; exact g1, by omega, by omega, ⟨fun j hj => ?_, fun p hp => ?_, fun z => ?_⟩, ?_⟩
    · rw [s1] at hj
      rw [hT (196 + 6 * a + j) (by omega) (by omega) (by omega) (by omega), hT (244 + 6 * a + j) (by omega) (by omega) (by omega) (by omega), t0, e 25 (by omega), e 27 (by omega)]
      have y := g4 j hj
      exact ⟨y.1, fun z => by have := y.2.1 z; omega, y.2.2⟩
    · rw [hT (292 + 12 * a + p) (by omega) (by omega) (by omega) (by omega), t0, e 29 (by omega)]
      have y := g5 p hp
      exact ⟨y.1, y.2.1, fun z => y.2.2 (by omega)⟩
    · rw [s1] at z
      obtain ⟨p, y1, y2⟩ := g6 z
      exact ⟨p, by omega, by rw [hT (292 + 12 * a + p) (by omega) (by omega) (by omega) (by omega)]; exact y2⟩
    · rw [e 22 (by omega), g7]
      congr 1
      refine (oa_lvl_c 8 a (fun a' ha' => ⟨hT _ (by omega) (by omega) (by omega) (by omega), fun j hj => ?_⟩)).symm
      have b := d6 a' (by omega)
      exact ⟨hT _ (by omega) (by omega) (by omega) (by omega), (b.2.2.2.1.1 j hj).1⟩
  · rcases vk a ha with y | y
    · obtain ⟨n', y1, y2, y3, y4⟩ := d7.1 a y
      refine ⟨n', y1, y2, fun i hi => ?_, fun i h1 h2 => ?_⟩
      · rw [nmr a i y (by omega)]; exact y3 i hi
      · rw [nmr a i y h2]; exact y4 i h1 h2
    · rw [y]; exact ⟨n, gr⟩
  · rcases vk a ha with y | y
    · rcases vk b hb' with z | z
      · exact d7.2 a b y z (fun i hi => by rw [← nmr a i y hi, ← nmr b i z hi]; exact hab i hi)
      · exact (un a y (fun i hi => by rw [z] at hab; exact (hab i hi).symm)).elim
    · rcases vk b hb' with z | z
      · exact (un b z (fun i hi => by rw [y] at hab; exact hab i hi)).elim
      · omega
  · by_cases d : 4 + 8 * T 0 ≤ 4 + a ∧ 4 + a < 4 + 8 * T 0 + 8
    · have := tn (4 + a - (4 + 8 * T 0)) (by omega)
      rw [show 4 + 8 * T 0 + (4 + a - (4 + 8 * T 0)) = 4 + a by omega] at this
      rw [this]
      split
      · have := Lt.2.2 _ (by assumption); omega
      · omega
    · rw [hT (4 + a) (by omega) (by omega) (by omega) d]; exact d8 a ha
  · rw [t0] at hp
    rw [l19]
    by_cases d : p = T 0
    · rw [if_pos d, d, ob_nm_pl gr]
      exact congrArg ob_pk (ob_pl_congr _ (fun i hi => by rw [tn i (by have := Lt.2.1; omega), if_pos hi]))
    · rw [if_neg d, d9 p (by omega)]
      exact (oa_nm_c (fun i hi => nmr p i (Or.inl ⟨by omega, by omega⟩) hi)).symm
  · rw [t1] at ha
    rw [l21, d10 a ha]
    exact (oa_nm_c (fun i hi => nmr (12 + a) i (Or.inr ⟨by omega, by omega⟩) hi)).symm
end DRF
