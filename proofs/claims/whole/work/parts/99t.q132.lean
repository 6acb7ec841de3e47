/-! the start's world: where each cell lies, what it holds (layout.py) -/
def bz_pl : List (List Nat) := [[316], [5, 326], [323], [62], [3], [41, 362, 64, 85, 106, 127, 148, 169, 190, 211, 232, 253, 274, 295], [48, 369, 71, 92, 113, 134, 155, 176, 197, 218, 239, 260, 281, 302], [1], [57, 378, 80, 101, 122, 143, 164, 185, 206, 227, 248, 269, 290, 311], [2], [42, 363, 65, 86, 107, 128, 149, 170, 191, 212, 233, 254, 275, 296], [0], [383], [317], [318], [319], [320], [321], [322], [6, 327], [7, 328], [8, 329], [9, 330], [10, 331], [11, 332], [12, 13, 14, 15, 16, 17, 18, 19, 333, 334, 335, 336, 337, 338, 339, 340], [20, 341], [21, 22, 23, 24, 25, 26, 27, 28, 342, 343, 344, 345, 346, 347, 348, 349], [29, 350], [30, 31, 32, 33, 34, 35, 36, 37, 351, 352, 353, 354, 355, 356, 357, 358], [38, 359], [39, 360], [40, 361], [324], [63], [4], [49, 370, 72, 93, 114, 135, 156, 177, 198, 219, 240, 261, 282, 303], [50, 371, 73, 94, 115, 136, 157, 178, 199, 220, 241, 262, 283, 304], [51, 372, 74, 95, 116, 137, 158, 179, 200, 221, 242, 263, 284, 305], [52, 373, 75, 96, 117, 138, 159, 180, 201, 222, 243, 264, 285, 306], [53, 374, 76, 97, 118, 139, 160, 181, 202, 223, 244, 265, 286, 307], [54, 375, 77, 98, 119, 140, 161, 182, 203, 224, 245, 266, 287, 308], [55, 376, 78, 99, 120, 141, 162, 183, 204, 225, 246, 267, 288, 309], [56, 377, 79, 100, 121, 142, 163, 184, 205, 226, 247, 268, 289, 310], [58, 379, 81, 102, 123, 144, 165, 186, 207, 228, 249, 270, 291, 312], [59, 380, 82, 103, 124, 145, 166, 187, 208, 229, 250, 271, 292, 313], [60, 381, 83, 104, 125, 146, 167, 188, 209, 230, 251, 272, 293, 314], [61, 382, 84, 105, 126, 147, 168, 189, 210, 231, 252, 273, 294, 315], [43, 364, 66, 87, 108, 129, 150, 171, 192, 213, 234, 255, 276, 297], [44, 365, 67, 88, 109, 130, 151, 172, 193, 214, 235, 256, 277, 298], [45, 366, 68, 89, 110, 131, 152, 173, 194, 215, 236, 257, 278, 299], [46, 367, 69, 90, 111, 132, 153, 174, 195, 216, 237, 258, 279, 300], [47, 368, 70, 91, 112, 133, 154, 175, 196, 217, 238, 259, 280, 301], [325], [384], [385], [386], [387], [388], [389], [390], [391], [392], [393], [394], [395], [396]]
def bz_ad (t i : Nat) : Nat := (bz_pl.getD t []).getD i 0
def bz_w (g : BC) (ext : Nat → Nat) : WD := (g.2.1, g.2.2, fun t i => if t < 67 then g.1 + bz_ad t i else ext t, g.1)
def bz_h1 : Nat → Nat → Nat → Int32 := fun t => match t with
  | 1 => fun i k => if i = 1 ∧ k = 2 then 1 else 0
  | 7 => fun _ k => if k = 0 then -1 else 0
  | 12 => fun _ k => if k = 9 then -1 else 0
  | 30 => fun i => if i = 1 then upd (fun _ => 0) 0 0 else fun _ => 0
  | 31 => fun i => if i = 1 then upd (fun _ => 0) 0 9 else fun _ => 0
  | 32 => fun i => if i = 1 then upd (fun _ => 0) 0 100 else fun _ => 0
  | 56 => fun _ => bz_cp bz_rd0 506
  | 57 => fun _ => bz_rd0
  | _ => fun _ _ => 0
def bz_h : Hp := (bz_h1, fun _ _ _ => 0, fun t _ k => if t = 11 ∧ (k = 6 ∨ k = 7) then 1 else 0)
theorem en_0 (w : WD) (h : Hp) (i : Nat) : oa_ent w h 0 i = .inr (0, [.ref (w.2.2.1 13 i), .ref (w.2.2.1 14 i), .ref (w.2.2.1 15 i), .ref (w.2.2.1 16 i), .ref (w.2.2.1 17 i), .ref (w.2.2.1 18 i)]) := rfl
theorem en_1 (w : WD) (h : Hp) (i : Nat) : oa_ent w h 1 i = .inr (1, [.int (h.1 1 i 0), .int (h.1 1 i 1), .int (h.1 1 i 2), .ref (w.2.2.1 19 i), .ref (w.2.2.1 20 i), .ref (w.2.2.1 21 i), .ref (w.2.2.1 22 i), .ref (w.2.2.1 23 i), .ref (w.2.2.1 24 i), .ref (w.2.2.1 26 i), .ref (w.2.2.1 28 i), .ref (w.2.2.1 30 i), .ref (w.2.2.1 31 i), .ref (w.2.2.1 32 i)]) := rfl
theorem en_2 (w : WD) (h : Hp) (i : Nat) : oa_ent w h 2 i = .inr (2, [.int (h.1 2 i 0), .ref (w.2.2.1 33 i)]) := rfl
theorem en_3 (w : WD) (h : Hp) (i : Nat) : oa_ent w h 3 i = .inr (3, [.int (h.1 3 i 0), .int (h.1 3 i 1), .ref (w.2.2.1 34 i)]) := rfl
theorem en_4 (w : WD) (h : Hp) (i : Nat) : oa_ent w h 4 i = .inr (4, [.int (h.1 4 i 0), .ref (w.2.2.1 35 i)]) := rfl
theorem en_5 (w : WD) (h : Hp) (i : Nat) : oa_ent w h 5 i = .inr (5, [.ref (w.2.2.1 10 i), .ref (w.2.2.1 6 i), .ref (w.2.2.1 8 i)]) := rfl
theorem en_6 (w : WD) (h : Hp) (i : Nat) : oa_ent w h 6 i = .inr (6, [.int (h.1 6 i 0), .ref (w.2.2.1 36 i), .ref (w.2.2.1 37 i), .ref (w.2.2.1 38 i), .ref (w.2.2.1 39 i), .ref (w.2.2.1 40 i), .ref (w.2.2.1 41 i), .ref (w.2.2.1 42 i), .ref (w.2.2.1 43 i)]) := rfl
theorem en_7 (w : WD) (h : Hp) (i : Nat) : oa_ent w h 7 i = .inr (7, [.int (h.1 7 i 0), .int (h.1 7 i 1), .ref (w.2.2.1 9 i), .ref (w.2.2.1 1 (h.2.2 7 i 3)), .ref (w.2.2.1 5 (h.2.2 7 i 4))]) := rfl
theorem en_8 (w : WD) (h : Hp) (i : Nat) : oa_ent w h 8 i = .inr (8, [.ref (w.2.2.1 44 i), .ref (w.2.2.1 45 i), .ref (w.2.2.1 46 i), .ref (w.2.2.1 47 i)]) := rfl
theorem en_9 (w : WD) (h : Hp) (i : Nat) : oa_ent w h 9 i = .inr (9, [.int (h.1 9 i 0), .int (h.1 9 i 1), .ref (w.2.2.1 4 i), .int (h.1 9 i 3)]) := rfl
theorem en_10 (w : WD) (h : Hp) (i : Nat) : oa_ent w h 10 i = .inr (10, [.int (h.1 10 i 0), .int (h.1 10 i 1), .ref (w.2.2.1 48 i), .ref (w.2.2.1 49 i), .ref (w.2.2.1 50 i), .ref (w.2.2.1 51 i), .ref (w.2.2.1 52 i)]) := rfl
theorem en_11 (w : WD) (h : Hp) (i : Nat) : oa_ent w h 11 i = .inr (11, [.ref (w.2.2.1 7 i), .ref (w.2.2.1 4 i), .ref (w.2.2.1 3 i), .ref (w.2.2.1 0 i), .ref (w.2.2.1 2 i), .ref (w.2.2.1 53 i), .ref (w.2.2.1 1 (h.2.2 11 i 6)), .ref (w.2.2.1 5 (h.2.2 11 i 7))]) := rfl
theorem en_12 (w : WD) (h : Hp) (i : Nat) : oa_ent w h 12 i = .inr (12, [.int (h.1 12 i 0), .ref (w.2.2.1 54 i), .ref (w.2.2.1 55 i), .int (h.1 12 i 3), .int (h.1 12 i 4), .int (h.1 12 i 5), .int (h.1 12 i 6), .int (h.1 12 i 7), .int (h.1 12 i 8), .int (h.1 12 i 9), .int (h.1 12 i 10), .ref (w.2.2.1 56 i), .ref (w.2.2.1 57 i), .int (h.1 12 i 13), .ref (w.2.2.1 58 i), .ref (w.2.2.1 59 i), .int (h.1 12 i 16), .ref (w.2.2.1 60 i), .ref (w.2.2.1 61 i), .ref (w.2.2.1 62 i), .ref (w.2.2.1 63 i), .ref (w.2.2.1 64 i), .int (h.1 12 i 22), .ref (w.2.2.1 65 i), .int (h.1 12 i 24)]) := by
  rw [oa_ent0 (show oa_kd 12 = (0, 12, [(0, 0), (2, 54), (2, 55), (0, 0), (0, 0), (0, 0), (0, 0), (0, 0), (0, 0), (0, 0), (0, 0), (2, 56), (2, 57), (0, 0), (2, 58), (2, 59), (0, 0), (2, 60), (2, 61), (2, 62), (2, 63), (2, 64), (0, 0), (2, 65), (0, 0)]) from rfl)]
  simp only [List.mapIdx_cons, List.mapIdx_nil, oa_fv, Nat.zero_add, Nat.reduceAdd]
theorem en_13 (w : WD) (h : Hp) (i : Nat) : oa_ent w h 13 i = .inl (w.2.1 0, 12, .inl (h.1 13 i)) := rfl
theorem en_14 (w : WD) (h : Hp) (i : Nat) : oa_ent w h 14 i = .inl (w.2.1 0, 12, .inl (h.1 14 i)) := rfl
theorem en_15 (w : WD) (h : Hp) (i : Nat) : oa_ent w h 15 i = .inl (w.2.1 0, 20, .inl (h.1 15 i)) := rfl
theorem en_16 (w : WD) (h : Hp) (i : Nat) : oa_ent w h 16 i = .inl (w.2.1 0, 20, .inl (h.1 16 i)) := rfl
theorem en_17 (w : WD) (h : Hp) (i : Nat) : oa_ent w h 17 i = .inl (w.2.1 0, 20, .inl (h.1 17 i)) := rfl
theorem en_18 (w : WD) (h : Hp) (i : Nat) : oa_ent w h 18 i = .inl (w.2.1 0, 6, .inl (h.1 18 i)) := rfl
theorem en_19 (w : WD) (h : Hp) (i : Nat) : oa_ent w h 19 i = .inl (w.2.1 2, 12, .inr (.inl (h.2.1 19 i))) := rfl
theorem en_20 (w : WD) (h : Hp) (i : Nat) : oa_ent w h 20 i = .inl (w.2.1 0, 12, .inl (h.1 20 i)) := rfl
theorem en_21 (w : WD) (h : Hp) (i : Nat) : oa_ent w h 21 i = .inl (w.2.1 2, 8, .inr (.inl (h.2.1 21 i))) := rfl
theorem en_22 (w : WD) (h : Hp) (i : Nat) : oa_ent w h 22 i = .inl (w.2.1 0, 8, .inl (h.1 22 i)) := rfl
theorem en_23 (w : WD) (h : Hp) (i : Nat) : oa_ent w h 23 i = .inl (w.2.1 0, 8, .inl (h.1 23 i)) := rfl
theorem en_25 (w : WD) (h : Hp) (i : Nat) : oa_ent w h 25 i = .inl (w.2.1 0, 6, .inl (h.1 25 i)) := rfl
theorem en_27 (w : WD) (h : Hp) (i : Nat) : oa_ent w h 27 i = .inl (w.2.1 0, 6, .inl (h.1 27 i)) := rfl
theorem en_29 (w : WD) (h : Hp) (i : Nat) : oa_ent w h 29 i = .inl (w.2.1 0, 12, .inl (h.1 29 i)) := rfl
theorem en_30 (w : WD) (h : Hp) (i : Nat) : oa_ent w h 30 i = .inl (w.2.1 0, 6, .inl (h.1 30 i)) := rfl
theorem en_31 (w : WD) (h : Hp) (i : Nat) : oa_ent w h 31 i = .inl (w.2.1 0, 6, .inl (h.1 31 i)) := rfl
theorem en_32 (w : WD) (h : Hp) (i : Nat) : oa_ent w h 32 i = .inl (w.2.1 0, 6, .inl (h.1 32 i)) := rfl
theorem en_33 (w : WD) (h : Hp) (i : Nat) : oa_ent w h 33 i = .inl (w.2.1 1, 200, .inl (h.1 33 i)) := rfl
theorem en_35 (w : WD) (h : Hp) (i : Nat) : oa_ent w h 35 i = .inl (w.2.1 1, 900, .inl (h.1 35 i)) := rfl
theorem en_36 (w : WD) (h : Hp) (i : Nat) : oa_ent w h 36 i = .inl (w.2.1 0, 20, .inl (h.1 36 i)) := rfl
theorem en_37 (w : WD) (h : Hp) (i : Nat) : oa_ent w h 37 i = .inl (w.2.1 0, 20, .inl (h.1 37 i)) := rfl
theorem en_38 (w : WD) (h : Hp) (i : Nat) : oa_ent w h 38 i = .inl (w.2.1 0, 20, .inl (h.1 38 i)) := rfl
theorem en_39 (w : WD) (h : Hp) (i : Nat) : oa_ent w h 39 i = .inl (w.2.1 0, 20, .inl (h.1 39 i)) := rfl
theorem en_40 (w : WD) (h : Hp) (i : Nat) : oa_ent w h 40 i = .inl (w.2.1 3, 20, .inl (h.1 40 i)) := rfl
theorem en_41 (w : WD) (h : Hp) (i : Nat) : oa_ent w h 41 i = .inl (w.2.1 3, 20, .inl (h.1 41 i)) := rfl
theorem en_42 (w : WD) (h : Hp) (i : Nat) : oa_ent w h 42 i = .inl (w.2.1 0, 20, .inl (h.1 42 i)) := rfl
theorem en_43 (w : WD) (h : Hp) (i : Nat) : oa_ent w h 43 i = .inl (w.2.1 0, 20, .inl (h.1 43 i)) := rfl
theorem en_44 (w : WD) (h : Hp) (i : Nat) : oa_ent w h 44 i = .inl (w.2.1 0, 5, .inl (h.1 44 i)) := rfl
theorem en_45 (w : WD) (h : Hp) (i : Nat) : oa_ent w h 45 i = .inl (w.2.1 0, 16, .inl (h.1 45 i)) := rfl
theorem en_46 (w : WD) (h : Hp) (i : Nat) : oa_ent w h 46 i = .inl (w.2.1 0, 16, .inl (h.1 46 i)) := rfl
theorem en_47 (w : WD) (h : Hp) (i : Nat) : oa_ent w h 47 i = .inl (w.2.1 0, 16, .inl (h.1 47 i)) := rfl
theorem en_48 (w : WD) (h : Hp) (i : Nat) : oa_ent w h 48 i = .inl (w.2.1 0, 12, .inl (h.1 48 i)) := rfl
theorem en_49 (w : WD) (h : Hp) (i : Nat) : oa_ent w h 49 i = .inl (w.2.1 0, 12, .inl (h.1 49 i)) := rfl
theorem en_50 (w : WD) (h : Hp) (i : Nat) : oa_ent w h 50 i = .inl (w.2.1 0, 20, .inl (h.1 50 i)) := rfl
theorem en_51 (w : WD) (h : Hp) (i : Nat) : oa_ent w h 51 i = .inl (w.2.1 0, 20, .inl (h.1 51 i)) := rfl
theorem en_52 (w : WD) (h : Hp) (i : Nat) : oa_ent w h 52 i = .inl (w.2.1 0, 20, .inl (h.1 52 i)) := rfl
theorem en_53 (w : WD) (h : Hp) (i : Nat) : oa_ent w h 53 i = .inl (w.2.1 0, 12, .inl (h.1 53 i)) := rfl
theorem en_54 (w : WD) (h : Hp) (i : Nat) : oa_ent w h 54 i = .inl (w.2.1 1, 900, .inl (h.1 54 i)) := rfl
theorem en_55 (w : WD) (h : Hp) (i : Nat) : oa_ent w h 55 i = .inl (w.2.1 0, 5, .inl (h.1 55 i)) := rfl
theorem en_56 (w : WD) (h : Hp) (i : Nat) : oa_ent w h 56 i = .inl (w.2.1 0, 506, .inl (h.1 56 i)) := rfl
theorem en_57 (w : WD) (h : Hp) (i : Nat) : oa_ent w h 57 i = .inl (w.2.1 0, 506, .inl (h.1 57 i)) := rfl
theorem en_58 (w : WD) (h : Hp) (i : Nat) : oa_ent w h 58 i = .inl (w.2.1 0, 301, .inl (h.1 58 i)) := rfl
theorem en_59 (w : WD) (h : Hp) (i : Nat) : oa_ent w h 59 i = .inl (w.2.1 0, 3612, .inl (h.1 59 i)) := rfl
theorem en_60 (w : WD) (h : Hp) (i : Nat) : oa_ent w h 60 i = .inl (w.2.1 0, 12, .inl (h.1 60 i)) := rfl
theorem en_61 (w : WD) (h : Hp) (i : Nat) : oa_ent w h 61 i = .inl (w.2.1 0, 12, .inl (h.1 61 i)) := rfl
theorem en_62 (w : WD) (h : Hp) (i : Nat) : oa_ent w h 62 i = .inl (w.2.1 0, 20, .inl (h.1 62 i)) := rfl
theorem en_63 (w : WD) (h : Hp) (i : Nat) : oa_ent w h 63 i = .inl (w.2.1 0, 20, .inl (h.1 63 i)) := rfl
theorem en_64 (w : WD) (h : Hp) (i : Nat) : oa_ent w h 64 i = .inl (w.2.1 0, 6, .inl (h.1 64 i)) := rfl
theorem en_65 (w : WD) (h : Hp) (i : Nat) : oa_ent w h 65 i = .inl (w.2.1 1, 320, .inl (h.1 65 i)) := rfl
theorem en_66 (w : WD) (h : Hp) (i : Nat) : oa_ent w h 66 i = .inl (w.2.1 2, 1, .inr (.inl (h.2.1 66 i))) := rfl
abbrev va_E.rf4 (g : BC) (c N : Nat) (f : Nat → Option Nat) : va_E := .inl (g.2.2 c, N, .inr (.inr (.inr (.inr f))))
theorem en_24_0 (g : BC) (ext : Nat → Nat) (h : Hp) : oa_ent (bz_w g ext) h 24 0 = .inl (g.2.2 5, 8, .inr (.inr (.inr (.inr fun j => if j < 8 then some (g.1 + (12 + j)) else none)))) := by
  show va_E.rf4 g 5 8 (fun j => if j < 8 then some (g.1 + bz_ad 25 (8 * 0 + j)) else none) = va_E.rf4 g 5 8 _
  refine congrArg _ (funext fun j => ?_)
  have hd : ∀ j, j < 8 → bz_ad 25 (8 * 0 + j) = 12 + j := by decide
  by_cases c : j < 8
  · rw [if_pos c, if_pos c, hd j c]
  · rw [if_neg c, if_neg c]
theorem en_24_1 (g : BC) (ext : Nat → Nat) (h : Hp) : oa_ent (bz_w g ext) h 24 1 = .inl (g.2.2 5, 8, .inr (.inr (.inr (.inr fun j => if j < 8 then some (g.1 + (333 + j)) else none)))) := by
  show va_E.rf4 g 5 8 (fun j => if j < 8 then some (g.1 + bz_ad 25 (8 * 1 + j)) else none) = va_E.rf4 g 5 8 _
  refine congrArg _ (funext fun j => ?_)
  have hd : ∀ j, j < 8 → bz_ad 25 (8 * 1 + j) = 333 + j := by decide
  by_cases c : j < 8
  · rw [if_pos c, if_pos c, hd j c]
  · rw [if_neg c, if_neg c]
theorem en_26_0 (g : BC) (ext : Nat → Nat) (h : Hp) : oa_ent (bz_w g ext) h 26 0 = .inl (g.2.2 5, 8, .inr (.inr (.inr (.inr fun j => if j < 8 then some (g.1 + (21 + j)) else none)))) := by
  show va_E.rf4 g 5 8 (fun j => if j < 8 then some (g.1 + bz_ad 27 (8 * 0 + j)) else none) = va_E.rf4 g 5 8 _
  refine congrArg _ (funext fun j => ?_)
  have hd : ∀ j, j < 8 → bz_ad 27 (8 * 0 + j) = 21 + j := by decide
  by_cases c : j < 8
  · rw [if_pos c, if_pos c, hd j c]
  · rw [if_neg c, if_neg c]
theorem en_26_1 (g : BC) (ext : Nat → Nat) (h : Hp) : oa_ent (bz_w g ext) h 26 1 = .inl (g.2.2 5, 8, .inr (.inr (.inr (.inr fun j => if j < 8 then some (g.1 + (342 + j)) else none)))) := by
  show va_E.rf4 g 5 8 (fun j => if j < 8 then some (g.1 + bz_ad 27 (8 * 1 + j)) else none) = va_E.rf4 g 5 8 _
  refine congrArg _ (funext fun j => ?_)
  have hd : ∀ j, j < 8 → bz_ad 27 (8 * 1 + j) = 342 + j := by decide
  by_cases c : j < 8
  · rw [if_pos c, if_pos c, hd j c]
  · rw [if_neg c, if_neg c]
theorem en_28_0 (g : BC) (ext : Nat → Nat) (h : Hp) : oa_ent (bz_w g ext) h 28 0 = .inl (g.2.2 5, 8, .inr (.inr (.inr (.inr fun j => if j < 8 then some (g.1 + (30 + j)) else none)))) := by
  show va_E.rf4 g 5 8 (fun j => if j < 8 then some (g.1 + bz_ad 29 (8 * 0 + j)) else none) = va_E.rf4 g 5 8 _
  refine congrArg _ (funext fun j => ?_)
  have hd : ∀ j, j < 8 → bz_ad 29 (8 * 0 + j) = 30 + j := by decide
  by_cases c : j < 8
  · rw [if_pos c, if_pos c, hd j c]
  · rw [if_neg c, if_neg c]
theorem en_28_1 (g : BC) (ext : Nat → Nat) (h : Hp) : oa_ent (bz_w g ext) h 28 1 = .inl (g.2.2 5, 8, .inr (.inr (.inr (.inr fun j => if j < 8 then some (g.1 + (351 + j)) else none)))) := by
  show va_E.rf4 g 5 8 (fun j => if j < 8 then some (g.1 + bz_ad 29 (8 * 1 + j)) else none) = va_E.rf4 g 5 8 _
  refine congrArg _ (funext fun j => ?_)
  have hd : ∀ j, j < 8 → bz_ad 29 (8 * 1 + j) = 351 + j := by decide
  by_cases c : j < 8
  · rw [if_pos c, if_pos c, hd j c]
  · rw [if_neg c, if_neg c]
theorem en_34_0 (g : BC) (ext : Nat → Nat) (h : Hp) : oa_ent (bz_w g ext) h 34 0 = .inl (g.2.2 4, 12, .inr (.inr (.inr (.inr fun j => if j < 12 then some (g.1 + (64 + 21 * j)) else none)))) := by
  show va_E.rf4 g 4 12 (fun j => if j < 12 then some (g.1 + bz_ad 5 (2 + j)) else none) = va_E.rf4 g 4 12 _
  refine congrArg _ (funext fun j => ?_)
  have hd : ∀ j, j < 12 → bz_ad 5 (2 + j) = 64 + 21 * j := by decide
  by_cases c : j < 12
  · rw [if_pos c, if_pos c, hd j c]
  · rw [if_neg c, if_neg c]
theorem ad_0_0 (g : BC) (ext : Nat → Nat) : (bz_w g ext).2.2.1 0 0 = g.1 + 316 := rfl
theorem ad_1_0 (g : BC) (ext : Nat → Nat) : (bz_w g ext).2.2.1 1 0 = g.1 + 5 := rfl
theorem ad_1_1 (g : BC) (ext : Nat → Nat) : (bz_w g ext).2.2.1 1 1 = g.1 + 326 := rfl
theorem ad_2_0 (g : BC) (ext : Nat → Nat) : (bz_w g ext).2.2.1 2 0 = g.1 + 323 := rfl
theorem ad_3_0 (g : BC) (ext : Nat → Nat) : (bz_w g ext).2.2.1 3 0 = g.1 + 62 := rfl
theorem ad_4_0 (g : BC) (ext : Nat → Nat) : (bz_w g ext).2.2.1 4 0 = g.1 + 3 := rfl
theorem ad_5_0 (g : BC) (ext : Nat → Nat) : (bz_w g ext).2.2.1 5 0 = g.1 + 41 := rfl
theorem ad_5_1 (g : BC) (ext : Nat → Nat) : (bz_w g ext).2.2.1 5 1 = g.1 + 362 := rfl
theorem ad_5_2 (g : BC) (ext : Nat → Nat) : (bz_w g ext).2.2.1 5 2 = g.1 + 64 := rfl
theorem ad_5_3 (g : BC) (ext : Nat → Nat) : (bz_w g ext).2.2.1 5 3 = g.1 + 85 := rfl
theorem ad_5_4 (g : BC) (ext : Nat → Nat) : (bz_w g ext).2.2.1 5 4 = g.1 + 106 := rfl
theorem ad_5_5 (g : BC) (ext : Nat → Nat) : (bz_w g ext).2.2.1 5 5 = g.1 + 127 := rfl
theorem ad_5_6 (g : BC) (ext : Nat → Nat) : (bz_w g ext).2.2.1 5 6 = g.1 + 148 := rfl
theorem ad_5_7 (g : BC) (ext : Nat → Nat) : (bz_w g ext).2.2.1 5 7 = g.1 + 169 := rfl
theorem ad_5_8 (g : BC) (ext : Nat → Nat) : (bz_w g ext).2.2.1 5 8 = g.1 + 190 := rfl
theorem ad_5_9 (g : BC) (ext : Nat → Nat) : (bz_w g ext).2.2.1 5 9 = g.1 + 211 := rfl
theorem ad_5_10 (g : BC) (ext : Nat → Nat) : (bz_w g ext).2.2.1 5 10 = g.1 + 232 := rfl
theorem ad_5_11 (g : BC) (ext : Nat → Nat) : (bz_w g ext).2.2.1 5 11 = g.1 + 253 := rfl
theorem ad_5_12 (g : BC) (ext : Nat → Nat) : (bz_w g ext).2.2.1 5 12 = g.1 + 274 := rfl
theorem ad_5_13 (g : BC) (ext : Nat → Nat) : (bz_w g ext).2.2.1 5 13 = g.1 + 295 := rfl
theorem ad_6_0 (g : BC) (ext : Nat → Nat) : (bz_w g ext).2.2.1 6 0 = g.1 + 48 := rfl
theorem ad_6_1 (g : BC) (ext : Nat → Nat) : (bz_w g ext).2.2.1 6 1 = g.1 + 369 := rfl
theorem ad_6_2 (g : BC) (ext : Nat → Nat) : (bz_w g ext).2.2.1 6 2 = g.1 + 71 := rfl
theorem ad_6_3 (g : BC) (ext : Nat → Nat) : (bz_w g ext).2.2.1 6 3 = g.1 + 92 := rfl
theorem ad_6_4 (g : BC) (ext : Nat → Nat) : (bz_w g ext).2.2.1 6 4 = g.1 + 113 := rfl
theorem ad_6_5 (g : BC) (ext : Nat → Nat) : (bz_w g ext).2.2.1 6 5 = g.1 + 134 := rfl
theorem ad_6_6 (g : BC) (ext : Nat → Nat) : (bz_w g ext).2.2.1 6 6 = g.1 + 155 := rfl
theorem ad_6_7 (g : BC) (ext : Nat → Nat) : (bz_w g ext).2.2.1 6 7 = g.1 + 176 := rfl
theorem ad_6_8 (g : BC) (ext : Nat → Nat) : (bz_w g ext).2.2.1 6 8 = g.1 + 197 := rfl
theorem ad_6_9 (g : BC) (ext : Nat → Nat) : (bz_w g ext).2.2.1 6 9 = g.1 + 218 := rfl
theorem ad_6_10 (g : BC) (ext : Nat → Nat) : (bz_w g ext).2.2.1 6 10 = g.1 + 239 := rfl
theorem ad_6_11 (g : BC) (ext : Nat → Nat) : (bz_w g ext).2.2.1 6 11 = g.1 + 260 := rfl
theorem ad_6_12 (g : BC) (ext : Nat → Nat) : (bz_w g ext).2.2.1 6 12 = g.1 + 281 := rfl
theorem ad_6_13 (g : BC) (ext : Nat → Nat) : (bz_w g ext).2.2.1 6 13 = g.1 + 302 := rfl
theorem ad_7_0 (g : BC) (ext : Nat → Nat) : (bz_w g ext).2.2.1 7 0 = g.1 + 1 := rfl
theorem ad_8_0 (g : BC) (ext : Nat → Nat) : (bz_w g ext).2.2.1 8 0 = g.1 + 57 := rfl
theorem ad_8_1 (g : BC) (ext : Nat → Nat) : (bz_w g ext).2.2.1 8 1 = g.1 + 378 := rfl
theorem ad_8_2 (g : BC) (ext : Nat → Nat) : (bz_w g ext).2.2.1 8 2 = g.1 + 80 := rfl
theorem ad_8_3 (g : BC) (ext : Nat → Nat) : (bz_w g ext).2.2.1 8 3 = g.1 + 101 := rfl
theorem ad_8_4 (g : BC) (ext : Nat → Nat) : (bz_w g ext).2.2.1 8 4 = g.1 + 122 := rfl
theorem ad_8_5 (g : BC) (ext : Nat → Nat) : (bz_w g ext).2.2.1 8 5 = g.1 + 143 := rfl
theorem ad_8_6 (g : BC) (ext : Nat → Nat) : (bz_w g ext).2.2.1 8 6 = g.1 + 164 := rfl
theorem ad_8_7 (g : BC) (ext : Nat → Nat) : (bz_w g ext).2.2.1 8 7 = g.1 + 185 := rfl
theorem ad_8_8 (g : BC) (ext : Nat → Nat) : (bz_w g ext).2.2.1 8 8 = g.1 + 206 := rfl
theorem ad_8_9 (g : BC) (ext : Nat → Nat) : (bz_w g ext).2.2.1 8 9 = g.1 + 227 := rfl
theorem ad_8_10 (g : BC) (ext : Nat → Nat) : (bz_w g ext).2.2.1 8 10 = g.1 + 248 := rfl
theorem ad_8_11 (g : BC) (ext : Nat → Nat) : (bz_w g ext).2.2.1 8 11 = g.1 + 269 := rfl
theorem ad_8_12 (g : BC) (ext : Nat → Nat) : (bz_w g ext).2.2.1 8 12 = g.1 + 290 := rfl
theorem ad_8_13 (g : BC) (ext : Nat → Nat) : (bz_w g ext).2.2.1 8 13 = g.1 + 311 := rfl
theorem ad_9_0 (g : BC) (ext : Nat → Nat) : (bz_w g ext).2.2.1 9 0 = g.1 + 2 := rfl
theorem ad_10_0 (g : BC) (ext : Nat → Nat) : (bz_w g ext).2.2.1 10 0 = g.1 + 42 := rfl
theorem ad_10_1 (g : BC) (ext : Nat → Nat) : (bz_w g ext).2.2.1 10 1 = g.1 + 363 := rfl
theorem ad_10_2 (g : BC) (ext : Nat → Nat) : (bz_w g ext).2.2.1 10 2 = g.1 + 65 := rfl
theorem ad_10_3 (g : BC) (ext : Nat → Nat) : (bz_w g ext).2.2.1 10 3 = g.1 + 86 := rfl
theorem ad_10_4 (g : BC) (ext : Nat → Nat) : (bz_w g ext).2.2.1 10 4 = g.1 + 107 := rfl
theorem ad_10_5 (g : BC) (ext : Nat → Nat) : (bz_w g ext).2.2.1 10 5 = g.1 + 128 := rfl
theorem ad_10_6 (g : BC) (ext : Nat → Nat) : (bz_w g ext).2.2.1 10 6 = g.1 + 149 := rfl
theorem ad_10_7 (g : BC) (ext : Nat → Nat) : (bz_w g ext).2.2.1 10 7 = g.1 + 170 := rfl
theorem ad_10_8 (g : BC) (ext : Nat → Nat) : (bz_w g ext).2.2.1 10 8 = g.1 + 191 := rfl
theorem ad_10_9 (g : BC) (ext : Nat → Nat) : (bz_w g ext).2.2.1 10 9 = g.1 + 212 := rfl
theorem ad_10_10 (g : BC) (ext : Nat → Nat) : (bz_w g ext).2.2.1 10 10 = g.1 + 233 := rfl
theorem ad_10_11 (g : BC) (ext : Nat → Nat) : (bz_w g ext).2.2.1 10 11 = g.1 + 254 := rfl
theorem ad_10_12 (g : BC) (ext : Nat → Nat) : (bz_w g ext).2.2.1 10 12 = g.1 + 275 := rfl
theorem ad_10_13 (g : BC) (ext : Nat → Nat) : (bz_w g ext).2.2.1 10 13 = g.1 + 296 := rfl
theorem ad_13_0 (g : BC) (ext : Nat → Nat) : (bz_w g ext).2.2.1 13 0 = g.1 + 317 := rfl
theorem ad_14_0 (g : BC) (ext : Nat → Nat) : (bz_w g ext).2.2.1 14 0 = g.1 + 318 := rfl
theorem ad_15_0 (g : BC) (ext : Nat → Nat) : (bz_w g ext).2.2.1 15 0 = g.1 + 319 := rfl
theorem ad_16_0 (g : BC) (ext : Nat → Nat) : (bz_w g ext).2.2.1 16 0 = g.1 + 320 := rfl
theorem ad_17_0 (g : BC) (ext : Nat → Nat) : (bz_w g ext).2.2.1 17 0 = g.1 + 321 := rfl
theorem ad_18_0 (g : BC) (ext : Nat → Nat) : (bz_w g ext).2.2.1 18 0 = g.1 + 322 := rfl
theorem ad_19_0 (g : BC) (ext : Nat → Nat) : (bz_w g ext).2.2.1 19 0 = g.1 + 6 := rfl
theorem ad_19_1 (g : BC) (ext : Nat → Nat) : (bz_w g ext).2.2.1 19 1 = g.1 + 327 := rfl
theorem ad_20_0 (g : BC) (ext : Nat → Nat) : (bz_w g ext).2.2.1 20 0 = g.1 + 7 := rfl
theorem ad_20_1 (g : BC) (ext : Nat → Nat) : (bz_w g ext).2.2.1 20 1 = g.1 + 328 := rfl
theorem ad_21_0 (g : BC) (ext : Nat → Nat) : (bz_w g ext).2.2.1 21 0 = g.1 + 8 := rfl
theorem ad_21_1 (g : BC) (ext : Nat → Nat) : (bz_w g ext).2.2.1 21 1 = g.1 + 329 := rfl
theorem ad_22_0 (g : BC) (ext : Nat → Nat) : (bz_w g ext).2.2.1 22 0 = g.1 + 9 := rfl
theorem ad_22_1 (g : BC) (ext : Nat → Nat) : (bz_w g ext).2.2.1 22 1 = g.1 + 330 := rfl
theorem ad_23_0 (g : BC) (ext : Nat → Nat) : (bz_w g ext).2.2.1 23 0 = g.1 + 10 := rfl
theorem ad_23_1 (g : BC) (ext : Nat → Nat) : (bz_w g ext).2.2.1 23 1 = g.1 + 331 := rfl
theorem ad_24_0 (g : BC) (ext : Nat → Nat) : (bz_w g ext).2.2.1 24 0 = g.1 + 11 := rfl
theorem ad_24_1 (g : BC) (ext : Nat → Nat) : (bz_w g ext).2.2.1 24 1 = g.1 + 332 := rfl
theorem ad_26_0 (g : BC) (ext : Nat → Nat) : (bz_w g ext).2.2.1 26 0 = g.1 + 20 := rfl
theorem ad_26_1 (g : BC) (ext : Nat → Nat) : (bz_w g ext).2.2.1 26 1 = g.1 + 341 := rfl
theorem ad_28_0 (g : BC) (ext : Nat → Nat) : (bz_w g ext).2.2.1 28 0 = g.1 + 29 := rfl
theorem ad_28_1 (g : BC) (ext : Nat → Nat) : (bz_w g ext).2.2.1 28 1 = g.1 + 350 := rfl
theorem ad_30_0 (g : BC) (ext : Nat → Nat) : (bz_w g ext).2.2.1 30 0 = g.1 + 38 := rfl
theorem ad_30_1 (g : BC) (ext : Nat → Nat) : (bz_w g ext).2.2.1 30 1 = g.1 + 359 := rfl
theorem ad_31_0 (g : BC) (ext : Nat → Nat) : (bz_w g ext).2.2.1 31 0 = g.1 + 39 := rfl
theorem ad_31_1 (g : BC) (ext : Nat → Nat) : (bz_w g ext).2.2.1 31 1 = g.1 + 360 := rfl
theorem ad_32_0 (g : BC) (ext : Nat → Nat) : (bz_w g ext).2.2.1 32 0 = g.1 + 40 := rfl
theorem ad_32_1 (g : BC) (ext : Nat → Nat) : (bz_w g ext).2.2.1 32 1 = g.1 + 361 := rfl
theorem ad_33_0 (g : BC) (ext : Nat → Nat) : (bz_w g ext).2.2.1 33 0 = g.1 + 324 := rfl
theorem ad_34_0 (g : BC) (ext : Nat → Nat) : (bz_w g ext).2.2.1 34 0 = g.1 + 63 := rfl
theorem ad_35_0 (g : BC) (ext : Nat → Nat) : (bz_w g ext).2.2.1 35 0 = g.1 + 4 := rfl
theorem ad_36_0 (g : BC) (ext : Nat → Nat) : (bz_w g ext).2.2.1 36 0 = g.1 + 49 := rfl
theorem ad_36_1 (g : BC) (ext : Nat → Nat) : (bz_w g ext).2.2.1 36 1 = g.1 + 370 := rfl
theorem ad_36_2 (g : BC) (ext : Nat → Nat) : (bz_w g ext).2.2.1 36 2 = g.1 + 72 := rfl
theorem ad_36_3 (g : BC) (ext : Nat → Nat) : (bz_w g ext).2.2.1 36 3 = g.1 + 93 := rfl
theorem ad_36_4 (g : BC) (ext : Nat → Nat) : (bz_w g ext).2.2.1 36 4 = g.1 + 114 := rfl
theorem ad_36_5 (g : BC) (ext : Nat → Nat) : (bz_w g ext).2.2.1 36 5 = g.1 + 135 := rfl
theorem ad_36_6 (g : BC) (ext : Nat → Nat) : (bz_w g ext).2.2.1 36 6 = g.1 + 156 := rfl
theorem ad_36_7 (g : BC) (ext : Nat → Nat) : (bz_w g ext).2.2.1 36 7 = g.1 + 177 := rfl
theorem ad_36_8 (g : BC) (ext : Nat → Nat) : (bz_w g ext).2.2.1 36 8 = g.1 + 198 := rfl
theorem ad_36_9 (g : BC) (ext : Nat → Nat) : (bz_w g ext).2.2.1 36 9 = g.1 + 219 := rfl
theorem ad_36_10 (g : BC) (ext : Nat → Nat) : (bz_w g ext).2.2.1 36 10 = g.1 + 240 := rfl
theorem ad_36_11 (g : BC) (ext : Nat → Nat) : (bz_w g ext).2.2.1 36 11 = g.1 + 261 := rfl
theorem ad_36_12 (g : BC) (ext : Nat → Nat) : (bz_w g ext).2.2.1 36 12 = g.1 + 282 := rfl
theorem ad_36_13 (g : BC) (ext : Nat → Nat) : (bz_w g ext).2.2.1 36 13 = g.1 + 303 := rfl
theorem ad_37_0 (g : BC) (ext : Nat → Nat) : (bz_w g ext).2.2.1 37 0 = g.1 + 50 := rfl
theorem ad_37_1 (g : BC) (ext : Nat → Nat) : (bz_w g ext).2.2.1 37 1 = g.1 + 371 := rfl
theorem ad_37_2 (g : BC) (ext : Nat → Nat) : (bz_w g ext).2.2.1 37 2 = g.1 + 73 := rfl
theorem ad_37_3 (g : BC) (ext : Nat → Nat) : (bz_w g ext).2.2.1 37 3 = g.1 + 94 := rfl
theorem ad_37_4 (g : BC) (ext : Nat → Nat) : (bz_w g ext).2.2.1 37 4 = g.1 + 115 := rfl
theorem ad_37_5 (g : BC) (ext : Nat → Nat) : (bz_w g ext).2.2.1 37 5 = g.1 + 136 := rfl
theorem ad_37_6 (g : BC) (ext : Nat → Nat) : (bz_w g ext).2.2.1 37 6 = g.1 + 157 := rfl
theorem ad_37_7 (g : BC) (ext : Nat → Nat) : (bz_w g ext).2.2.1 37 7 = g.1 + 178 := rfl
theorem ad_37_8 (g : BC) (ext : Nat → Nat) : (bz_w g ext).2.2.1 37 8 = g.1 + 199 := rfl
theorem ad_37_9 (g : BC) (ext : Nat → Nat) : (bz_w g ext).2.2.1 37 9 = g.1 + 220 := rfl
theorem ad_37_10 (g : BC) (ext : Nat → Nat) : (bz_w g ext).2.2.1 37 10 = g.1 + 241 := rfl
theorem ad_37_11 (g : BC) (ext : Nat → Nat) : (bz_w g ext).2.2.1 37 11 = g.1 + 262 := rfl
theorem ad_37_12 (g : BC) (ext : Nat → Nat) : (bz_w g ext).2.2.1 37 12 = g.1 + 283 := rfl
theorem ad_37_13 (g : BC) (ext : Nat → Nat) : (bz_w g ext).2.2.1 37 13 = g.1 + 304 := rfl
theorem ad_38_0 (g : BC) (ext : Nat → Nat) : (bz_w g ext).2.2.1 38 0 = g.1 + 51 := rfl
theorem ad_38_1 (g : BC) (ext : Nat → Nat) : (bz_w g ext).2.2.1 38 1 = g.1 + 372 := rfl
theorem ad_38_2 (g : BC) (ext : Nat → Nat) : (bz_w g ext).2.2.1 38 2 = g.1 + 74 := rfl
theorem ad_38_3 (g : BC) (ext : Nat → Nat) : (bz_w g ext).2.2.1 38 3 = g.1 + 95 := rfl
theorem ad_38_4 (g : BC) (ext : Nat → Nat) : (bz_w g ext).2.2.1 38 4 = g.1 + 116 := rfl
theorem ad_38_5 (g : BC) (ext : Nat → Nat) : (bz_w g ext).2.2.1 38 5 = g.1 + 137 := rfl
theorem ad_38_6 (g : BC) (ext : Nat → Nat) : (bz_w g ext).2.2.1 38 6 = g.1 + 158 := rfl
theorem ad_38_7 (g : BC) (ext : Nat → Nat) : (bz_w g ext).2.2.1 38 7 = g.1 + 179 := rfl
theorem ad_38_8 (g : BC) (ext : Nat → Nat) : (bz_w g ext).2.2.1 38 8 = g.1 + 200 := rfl
theorem ad_38_9 (g : BC) (ext : Nat → Nat) : (bz_w g ext).2.2.1 38 9 = g.1 + 221 := rfl
theorem ad_38_10 (g : BC) (ext : Nat → Nat) : (bz_w g ext).2.2.1 38 10 = g.1 + 242 := rfl
theorem ad_38_11 (g : BC) (ext : Nat → Nat) : (bz_w g ext).2.2.1 38 11 = g.1 + 263 := rfl
theorem ad_38_12 (g : BC) (ext : Nat → Nat) : (bz_w g ext).2.2.1 38 12 = g.1 + 284 := rfl
theorem ad_38_13 (g : BC) (ext : Nat → Nat) : (bz_w g ext).2.2.1 38 13 = g.1 + 305 := rfl
theorem ad_39_0 (g : BC) (ext : Nat → Nat) : (bz_w g ext).2.2.1 39 0 = g.1 + 52 := rfl
theorem ad_39_1 (g : BC) (ext : Nat → Nat) : (bz_w g ext).2.2.1 39 1 = g.1 + 373 := rfl
theorem ad_39_2 (g : BC) (ext : Nat → Nat) : (bz_w g ext).2.2.1 39 2 = g.1 + 75 := rfl
theorem ad_39_3 (g : BC) (ext : Nat → Nat) : (bz_w g ext).2.2.1 39 3 = g.1 + 96 := rfl
theorem ad_39_4 (g : BC) (ext : Nat → Nat) : (bz_w g ext).2.2.1 39 4 = g.1 + 117 := rfl
theorem ad_39_5 (g : BC) (ext : Nat → Nat) : (bz_w g ext).2.2.1 39 5 = g.1 + 138 := rfl
theorem ad_39_6 (g : BC) (ext : Nat → Nat) : (bz_w g ext).2.2.1 39 6 = g.1 + 159 := rfl
theorem ad_39_7 (g : BC) (ext : Nat → Nat) : (bz_w g ext).2.2.1 39 7 = g.1 + 180 := rfl
theorem ad_39_8 (g : BC) (ext : Nat → Nat) : (bz_w g ext).2.2.1 39 8 = g.1 + 201 := rfl
theorem ad_39_9 (g : BC) (ext : Nat → Nat) : (bz_w g ext).2.2.1 39 9 = g.1 + 222 := rfl
theorem ad_39_10 (g : BC) (ext : Nat → Nat) : (bz_w g ext).2.2.1 39 10 = g.1 + 243 := rfl
theorem ad_39_11 (g : BC) (ext : Nat → Nat) : (bz_w g ext).2.2.1 39 11 = g.1 + 264 := rfl
theorem ad_39_12 (g : BC) (ext : Nat → Nat) : (bz_w g ext).2.2.1 39 12 = g.1 + 285 := rfl
theorem ad_39_13 (g : BC) (ext : Nat → Nat) : (bz_w g ext).2.2.1 39 13 = g.1 + 306 := rfl
theorem ad_40_0 (g : BC) (ext : Nat → Nat) : (bz_w g ext).2.2.1 40 0 = g.1 + 53 := rfl
theorem ad_40_1 (g : BC) (ext : Nat → Nat) : (bz_w g ext).2.2.1 40 1 = g.1 + 374 := rfl
theorem ad_40_2 (g : BC) (ext : Nat → Nat) : (bz_w g ext).2.2.1 40 2 = g.1 + 76 := rfl
theorem ad_40_3 (g : BC) (ext : Nat → Nat) : (bz_w g ext).2.2.1 40 3 = g.1 + 97 := rfl
theorem ad_40_4 (g : BC) (ext : Nat → Nat) : (bz_w g ext).2.2.1 40 4 = g.1 + 118 := rfl
theorem ad_40_5 (g : BC) (ext : Nat → Nat) : (bz_w g ext).2.2.1 40 5 = g.1 + 139 := rfl
theorem ad_40_6 (g : BC) (ext : Nat → Nat) : (bz_w g ext).2.2.1 40 6 = g.1 + 160 := rfl
theorem ad_40_7 (g : BC) (ext : Nat → Nat) : (bz_w g ext).2.2.1 40 7 = g.1 + 181 := rfl
theorem ad_40_8 (g : BC) (ext : Nat → Nat) : (bz_w g ext).2.2.1 40 8 = g.1 + 202 := rfl
theorem ad_40_9 (g : BC) (ext : Nat → Nat) : (bz_w g ext).2.2.1 40 9 = g.1 + 223 := rfl
theorem ad_40_10 (g : BC) (ext : Nat → Nat) : (bz_w g ext).2.2.1 40 10 = g.1 + 244 := rfl
theorem ad_40_11 (g : BC) (ext : Nat → Nat) : (bz_w g ext).2.2.1 40 11 = g.1 + 265 := rfl
theorem ad_40_12 (g : BC) (ext : Nat → Nat) : (bz_w g ext).2.2.1 40 12 = g.1 + 286 := rfl
theorem ad_40_13 (g : BC) (ext : Nat → Nat) : (bz_w g ext).2.2.1 40 13 = g.1 + 307 := rfl
theorem ad_41_0 (g : BC) (ext : Nat → Nat) : (bz_w g ext).2.2.1 41 0 = g.1 + 54 := rfl
theorem ad_41_1 (g : BC) (ext : Nat → Nat) : (bz_w g ext).2.2.1 41 1 = g.1 + 375 := rfl
theorem ad_41_2 (g : BC) (ext : Nat → Nat) : (bz_w g ext).2.2.1 41 2 = g.1 + 77 := rfl
theorem ad_41_3 (g : BC) (ext : Nat → Nat) : (bz_w g ext).2.2.1 41 3 = g.1 + 98 := rfl
theorem ad_41_4 (g : BC) (ext : Nat → Nat) : (bz_w g ext).2.2.1 41 4 = g.1 + 119 := rfl
theorem ad_41_5 (g : BC) (ext : Nat → Nat) : (bz_w g ext).2.2.1 41 5 = g.1 + 140 := rfl
theorem ad_41_6 (g : BC) (ext : Nat → Nat) : (bz_w g ext).2.2.1 41 6 = g.1 + 161 := rfl
theorem ad_41_7 (g : BC) (ext : Nat → Nat) : (bz_w g ext).2.2.1 41 7 = g.1 + 182 := rfl
theorem ad_41_8 (g : BC) (ext : Nat → Nat) : (bz_w g ext).2.2.1 41 8 = g.1 + 203 := rfl
theorem ad_41_9 (g : BC) (ext : Nat → Nat) : (bz_w g ext).2.2.1 41 9 = g.1 + 224 := rfl
theorem ad_41_10 (g : BC) (ext : Nat → Nat) : (bz_w g ext).2.2.1 41 10 = g.1 + 245 := rfl
theorem ad_41_11 (g : BC) (ext : Nat → Nat) : (bz_w g ext).2.2.1 41 11 = g.1 + 266 := rfl
theorem ad_41_12 (g : BC) (ext : Nat → Nat) : (bz_w g ext).2.2.1 41 12 = g.1 + 287 := rfl
theorem ad_41_13 (g : BC) (ext : Nat → Nat) : (bz_w g ext).2.2.1 41 13 = g.1 + 308 := rfl
theorem ad_42_0 (g : BC) (ext : Nat → Nat) : (bz_w g ext).2.2.1 42 0 = g.1 + 55 := rfl
theorem ad_42_1 (g : BC) (ext : Nat → Nat) : (bz_w g ext).2.2.1 42 1 = g.1 + 376 := rfl
theorem ad_42_2 (g : BC) (ext : Nat → Nat) : (bz_w g ext).2.2.1 42 2 = g.1 + 78 := rfl
theorem ad_42_3 (g : BC) (ext : Nat → Nat) : (bz_w g ext).2.2.1 42 3 = g.1 + 99 := rfl
theorem ad_42_4 (g : BC) (ext : Nat → Nat) : (bz_w g ext).2.2.1 42 4 = g.1 + 120 := rfl
theorem ad_42_5 (g : BC) (ext : Nat → Nat) : (bz_w g ext).2.2.1 42 5 = g.1 + 141 := rfl
theorem ad_42_6 (g : BC) (ext : Nat → Nat) : (bz_w g ext).2.2.1 42 6 = g.1 + 162 := rfl
theorem ad_42_7 (g : BC) (ext : Nat → Nat) : (bz_w g ext).2.2.1 42 7 = g.1 + 183 := rfl
theorem ad_42_8 (g : BC) (ext : Nat → Nat) : (bz_w g ext).2.2.1 42 8 = g.1 + 204 := rfl
theorem ad_42_9 (g : BC) (ext : Nat → Nat) : (bz_w g ext).2.2.1 42 9 = g.1 + 225 := rfl
theorem ad_42_10 (g : BC) (ext : Nat → Nat) : (bz_w g ext).2.2.1 42 10 = g.1 + 246 := rfl
theorem ad_42_11 (g : BC) (ext : Nat → Nat) : (bz_w g ext).2.2.1 42 11 = g.1 + 267 := rfl
theorem ad_42_12 (g : BC) (ext : Nat → Nat) : (bz_w g ext).2.2.1 42 12 = g.1 + 288 := rfl
theorem ad_42_13 (g : BC) (ext : Nat → Nat) : (bz_w g ext).2.2.1 42 13 = g.1 + 309 := rfl
theorem ad_43_0 (g : BC) (ext : Nat → Nat) : (bz_w g ext).2.2.1 43 0 = g.1 + 56 := rfl
theorem ad_43_1 (g : BC) (ext : Nat → Nat) : (bz_w g ext).2.2.1 43 1 = g.1 + 377 := rfl
theorem ad_43_2 (g : BC) (ext : Nat → Nat) : (bz_w g ext).2.2.1 43 2 = g.1 + 79 := rfl
theorem ad_43_3 (g : BC) (ext : Nat → Nat) : (bz_w g ext).2.2.1 43 3 = g.1 + 100 := rfl
theorem ad_43_4 (g : BC) (ext : Nat → Nat) : (bz_w g ext).2.2.1 43 4 = g.1 + 121 := rfl
theorem ad_43_5 (g : BC) (ext : Nat → Nat) : (bz_w g ext).2.2.1 43 5 = g.1 + 142 := rfl
theorem ad_43_6 (g : BC) (ext : Nat → Nat) : (bz_w g ext).2.2.1 43 6 = g.1 + 163 := rfl
theorem ad_43_7 (g : BC) (ext : Nat → Nat) : (bz_w g ext).2.2.1 43 7 = g.1 + 184 := rfl
theorem ad_43_8 (g : BC) (ext : Nat → Nat) : (bz_w g ext).2.2.1 43 8 = g.1 + 205 := rfl
theorem ad_43_9 (g : BC) (ext : Nat → Nat) : (bz_w g ext).2.2.1 43 9 = g.1 + 226 := rfl
theorem ad_43_10 (g : BC) (ext : Nat → Nat) : (bz_w g ext).2.2.1 43 10 = g.1 + 247 := rfl
theorem ad_43_11 (g : BC) (ext : Nat → Nat) : (bz_w g ext).2.2.1 43 11 = g.1 + 268 := rfl
theorem ad_43_12 (g : BC) (ext : Nat → Nat) : (bz_w g ext).2.2.1 43 12 = g.1 + 289 := rfl
theorem ad_43_13 (g : BC) (ext : Nat → Nat) : (bz_w g ext).2.2.1 43 13 = g.1 + 310 := rfl
theorem ad_44_0 (g : BC) (ext : Nat → Nat) : (bz_w g ext).2.2.1 44 0 = g.1 + 58 := rfl
theorem ad_44_1 (g : BC) (ext : Nat → Nat) : (bz_w g ext).2.2.1 44 1 = g.1 + 379 := rfl
theorem ad_44_2 (g : BC) (ext : Nat → Nat) : (bz_w g ext).2.2.1 44 2 = g.1 + 81 := rfl
theorem ad_44_3 (g : BC) (ext : Nat → Nat) : (bz_w g ext).2.2.1 44 3 = g.1 + 102 := rfl
theorem ad_44_4 (g : BC) (ext : Nat → Nat) : (bz_w g ext).2.2.1 44 4 = g.1 + 123 := rfl
theorem ad_44_5 (g : BC) (ext : Nat → Nat) : (bz_w g ext).2.2.1 44 5 = g.1 + 144 := rfl
theorem ad_44_6 (g : BC) (ext : Nat → Nat) : (bz_w g ext).2.2.1 44 6 = g.1 + 165 := rfl
theorem ad_44_7 (g : BC) (ext : Nat → Nat) : (bz_w g ext).2.2.1 44 7 = g.1 + 186 := rfl
theorem ad_44_8 (g : BC) (ext : Nat → Nat) : (bz_w g ext).2.2.1 44 8 = g.1 + 207 := rfl
theorem ad_44_9 (g : BC) (ext : Nat → Nat) : (bz_w g ext).2.2.1 44 9 = g.1 + 228 := rfl
theorem ad_44_10 (g : BC) (ext : Nat → Nat) : (bz_w g ext).2.2.1 44 10 = g.1 + 249 := rfl
theorem ad_44_11 (g : BC) (ext : Nat → Nat) : (bz_w g ext).2.2.1 44 11 = g.1 + 270 := rfl
theorem ad_44_12 (g : BC) (ext : Nat → Nat) : (bz_w g ext).2.2.1 44 12 = g.1 + 291 := rfl
theorem ad_44_13 (g : BC) (ext : Nat → Nat) : (bz_w g ext).2.2.1 44 13 = g.1 + 312 := rfl
theorem ad_45_0 (g : BC) (ext : Nat → Nat) : (bz_w g ext).2.2.1 45 0 = g.1 + 59 := rfl
theorem ad_45_1 (g : BC) (ext : Nat → Nat) : (bz_w g ext).2.2.1 45 1 = g.1 + 380 := rfl
theorem ad_45_2 (g : BC) (ext : Nat → Nat) : (bz_w g ext).2.2.1 45 2 = g.1 + 82 := rfl
theorem ad_45_3 (g : BC) (ext : Nat → Nat) : (bz_w g ext).2.2.1 45 3 = g.1 + 103 := rfl
theorem ad_45_4 (g : BC) (ext : Nat → Nat) : (bz_w g ext).2.2.1 45 4 = g.1 + 124 := rfl
theorem ad_45_5 (g : BC) (ext : Nat → Nat) : (bz_w g ext).2.2.1 45 5 = g.1 + 145 := rfl
theorem ad_45_6 (g : BC) (ext : Nat → Nat) : (bz_w g ext).2.2.1 45 6 = g.1 + 166 := rfl
theorem ad_45_7 (g : BC) (ext : Nat → Nat) : (bz_w g ext).2.2.1 45 7 = g.1 + 187 := rfl
theorem ad_45_8 (g : BC) (ext : Nat → Nat) : (bz_w g ext).2.2.1 45 8 = g.1 + 208 := rfl
theorem ad_45_9 (g : BC) (ext : Nat → Nat) : (bz_w g ext).2.2.1 45 9 = g.1 + 229 := rfl
theorem ad_45_10 (g : BC) (ext : Nat → Nat) : (bz_w g ext).2.2.1 45 10 = g.1 + 250 := rfl
theorem ad_45_11 (g : BC) (ext : Nat → Nat) : (bz_w g ext).2.2.1 45 11 = g.1 + 271 := rfl
theorem ad_45_12 (g : BC) (ext : Nat → Nat) : (bz_w g ext).2.2.1 45 12 = g.1 + 292 := rfl
theorem ad_45_13 (g : BC) (ext : Nat → Nat) : (bz_w g ext).2.2.1 45 13 = g.1 + 313 := rfl
theorem ad_46_0 (g : BC) (ext : Nat → Nat) : (bz_w g ext).2.2.1 46 0 = g.1 + 60 := rfl
theorem ad_46_1 (g : BC) (ext : Nat → Nat) : (bz_w g ext).2.2.1 46 1 = g.1 + 381 := rfl
theorem ad_46_2 (g : BC) (ext : Nat → Nat) : (bz_w g ext).2.2.1 46 2 = g.1 + 83 := rfl
theorem ad_46_3 (g : BC) (ext : Nat → Nat) : (bz_w g ext).2.2.1 46 3 = g.1 + 104 := rfl
theorem ad_46_4 (g : BC) (ext : Nat → Nat) : (bz_w g ext).2.2.1 46 4 = g.1 + 125 := rfl
theorem ad_46_5 (g : BC) (ext : Nat → Nat) : (bz_w g ext).2.2.1 46 5 = g.1 + 146 := rfl
theorem ad_46_6 (g : BC) (ext : Nat → Nat) : (bz_w g ext).2.2.1 46 6 = g.1 + 167 := rfl
theorem ad_46_7 (g : BC) (ext : Nat → Nat) : (bz_w g ext).2.2.1 46 7 = g.1 + 188 := rfl
theorem ad_46_8 (g : BC) (ext : Nat → Nat) : (bz_w g ext).2.2.1 46 8 = g.1 + 209 := rfl
theorem ad_46_9 (g : BC) (ext : Nat → Nat) : (bz_w g ext).2.2.1 46 9 = g.1 + 230 := rfl
theorem ad_46_10 (g : BC) (ext : Nat → Nat) : (bz_w g ext).2.2.1 46 10 = g.1 + 251 := rfl
theorem ad_46_11 (g : BC) (ext : Nat → Nat) : (bz_w g ext).2.2.1 46 11 = g.1 + 272 := rfl
theorem ad_46_12 (g : BC) (ext : Nat → Nat) : (bz_w g ext).2.2.1 46 12 = g.1 + 293 := rfl
theorem ad_46_13 (g : BC) (ext : Nat → Nat) : (bz_w g ext).2.2.1 46 13 = g.1 + 314 := rfl
theorem ad_47_0 (g : BC) (ext : Nat → Nat) : (bz_w g ext).2.2.1 47 0 = g.1 + 61 := rfl
theorem ad_47_1 (g : BC) (ext : Nat → Nat) : (bz_w g ext).2.2.1 47 1 = g.1 + 382 := rfl
theorem ad_47_2 (g : BC) (ext : Nat → Nat) : (bz_w g ext).2.2.1 47 2 = g.1 + 84 := rfl
theorem ad_47_3 (g : BC) (ext : Nat → Nat) : (bz_w g ext).2.2.1 47 3 = g.1 + 105 := rfl
theorem ad_47_4 (g : BC) (ext : Nat → Nat) : (bz_w g ext).2.2.1 47 4 = g.1 + 126 := rfl
theorem ad_47_5 (g : BC) (ext : Nat → Nat) : (bz_w g ext).2.2.1 47 5 = g.1 + 147 := rfl
theorem ad_47_6 (g : BC) (ext : Nat → Nat) : (bz_w g ext).2.2.1 47 6 = g.1 + 168 := rfl
theorem ad_47_7 (g : BC) (ext : Nat → Nat) : (bz_w g ext).2.2.1 47 7 = g.1 + 189 := rfl
theorem ad_47_8 (g : BC) (ext : Nat → Nat) : (bz_w g ext).2.2.1 47 8 = g.1 + 210 := rfl
theorem ad_47_9 (g : BC) (ext : Nat → Nat) : (bz_w g ext).2.2.1 47 9 = g.1 + 231 := rfl
theorem ad_47_10 (g : BC) (ext : Nat → Nat) : (bz_w g ext).2.2.1 47 10 = g.1 + 252 := rfl
theorem ad_47_11 (g : BC) (ext : Nat → Nat) : (bz_w g ext).2.2.1 47 11 = g.1 + 273 := rfl
theorem ad_47_12 (g : BC) (ext : Nat → Nat) : (bz_w g ext).2.2.1 47 12 = g.1 + 294 := rfl
theorem ad_47_13 (g : BC) (ext : Nat → Nat) : (bz_w g ext).2.2.1 47 13 = g.1 + 315 := rfl
theorem ad_48_0 (g : BC) (ext : Nat → Nat) : (bz_w g ext).2.2.1 48 0 = g.1 + 43 := rfl
theorem ad_48_1 (g : BC) (ext : Nat → Nat) : (bz_w g ext).2.2.1 48 1 = g.1 + 364 := rfl
theorem ad_48_2 (g : BC) (ext : Nat → Nat) : (bz_w g ext).2.2.1 48 2 = g.1 + 66 := rfl
theorem ad_48_3 (g : BC) (ext : Nat → Nat) : (bz_w g ext).2.2.1 48 3 = g.1 + 87 := rfl
theorem ad_48_4 (g : BC) (ext : Nat → Nat) : (bz_w g ext).2.2.1 48 4 = g.1 + 108 := rfl
theorem ad_48_5 (g : BC) (ext : Nat → Nat) : (bz_w g ext).2.2.1 48 5 = g.1 + 129 := rfl
theorem ad_48_6 (g : BC) (ext : Nat → Nat) : (bz_w g ext).2.2.1 48 6 = g.1 + 150 := rfl
theorem ad_48_7 (g : BC) (ext : Nat → Nat) : (bz_w g ext).2.2.1 48 7 = g.1 + 171 := rfl
theorem ad_48_8 (g : BC) (ext : Nat → Nat) : (bz_w g ext).2.2.1 48 8 = g.1 + 192 := rfl
theorem ad_48_9 (g : BC) (ext : Nat → Nat) : (bz_w g ext).2.2.1 48 9 = g.1 + 213 := rfl
theorem ad_48_10 (g : BC) (ext : Nat → Nat) : (bz_w g ext).2.2.1 48 10 = g.1 + 234 := rfl
theorem ad_48_11 (g : BC) (ext : Nat → Nat) : (bz_w g ext).2.2.1 48 11 = g.1 + 255 := rfl
theorem ad_48_12 (g : BC) (ext : Nat → Nat) : (bz_w g ext).2.2.1 48 12 = g.1 + 276 := rfl
theorem ad_48_13 (g : BC) (ext : Nat → Nat) : (bz_w g ext).2.2.1 48 13 = g.1 + 297 := rfl
theorem ad_49_0 (g : BC) (ext : Nat → Nat) : (bz_w g ext).2.2.1 49 0 = g.1 + 44 := rfl
theorem ad_49_1 (g : BC) (ext : Nat → Nat) : (bz_w g ext).2.2.1 49 1 = g.1 + 365 := rfl
theorem ad_49_2 (g : BC) (ext : Nat → Nat) : (bz_w g ext).2.2.1 49 2 = g.1 + 67 := rfl
theorem ad_49_3 (g : BC) (ext : Nat → Nat) : (bz_w g ext).2.2.1 49 3 = g.1 + 88 := rfl
theorem ad_49_4 (g : BC) (ext : Nat → Nat) : (bz_w g ext).2.2.1 49 4 = g.1 + 109 := rfl
theorem ad_49_5 (g : BC) (ext : Nat → Nat) : (bz_w g ext).2.2.1 49 5 = g.1 + 130 := rfl
theorem ad_49_6 (g : BC) (ext : Nat → Nat) : (bz_w g ext).2.2.1 49 6 = g.1 + 151 := rfl
theorem ad_49_7 (g : BC) (ext : Nat → Nat) : (bz_w g ext).2.2.1 49 7 = g.1 + 172 := rfl
theorem ad_49_8 (g : BC) (ext : Nat → Nat) : (bz_w g ext).2.2.1 49 8 = g.1 + 193 := rfl
theorem ad_49_9 (g : BC) (ext : Nat → Nat) : (bz_w g ext).2.2.1 49 9 = g.1 + 214 := rfl
theorem ad_49_10 (g : BC) (ext : Nat → Nat) : (bz_w g ext).2.2.1 49 10 = g.1 + 235 := rfl
theorem ad_49_11 (g : BC) (ext : Nat → Nat) : (bz_w g ext).2.2.1 49 11 = g.1 + 256 := rfl
theorem ad_49_12 (g : BC) (ext : Nat → Nat) : (bz_w g ext).2.2.1 49 12 = g.1 + 277 := rfl
theorem ad_49_13 (g : BC) (ext : Nat → Nat) : (bz_w g ext).2.2.1 49 13 = g.1 + 298 := rfl
theorem ad_50_0 (g : BC) (ext : Nat → Nat) : (bz_w g ext).2.2.1 50 0 = g.1 + 45 := rfl
theorem ad_50_1 (g : BC) (ext : Nat → Nat) : (bz_w g ext).2.2.1 50 1 = g.1 + 366 := rfl
theorem ad_50_2 (g : BC) (ext : Nat → Nat) : (bz_w g ext).2.2.1 50 2 = g.1 + 68 := rfl
theorem ad_50_3 (g : BC) (ext : Nat → Nat) : (bz_w g ext).2.2.1 50 3 = g.1 + 89 := rfl
theorem ad_50_4 (g : BC) (ext : Nat → Nat) : (bz_w g ext).2.2.1 50 4 = g.1 + 110 := rfl
theorem ad_50_5 (g : BC) (ext : Nat → Nat) : (bz_w g ext).2.2.1 50 5 = g.1 + 131 := rfl
theorem ad_50_6 (g : BC) (ext : Nat → Nat) : (bz_w g ext).2.2.1 50 6 = g.1 + 152 := rfl
theorem ad_50_7 (g : BC) (ext : Nat → Nat) : (bz_w g ext).2.2.1 50 7 = g.1 + 173 := rfl
theorem ad_50_8 (g : BC) (ext : Nat → Nat) : (bz_w g ext).2.2.1 50 8 = g.1 + 194 := rfl
theorem ad_50_9 (g : BC) (ext : Nat → Nat) : (bz_w g ext).2.2.1 50 9 = g.1 + 215 := rfl
theorem ad_50_10 (g : BC) (ext : Nat → Nat) : (bz_w g ext).2.2.1 50 10 = g.1 + 236 := rfl
theorem ad_50_11 (g : BC) (ext : Nat → Nat) : (bz_w g ext).2.2.1 50 11 = g.1 + 257 := rfl
theorem ad_50_12 (g : BC) (ext : Nat → Nat) : (bz_w g ext).2.2.1 50 12 = g.1 + 278 := rfl
theorem ad_50_13 (g : BC) (ext : Nat → Nat) : (bz_w g ext).2.2.1 50 13 = g.1 + 299 := rfl
theorem ad_51_0 (g : BC) (ext : Nat → Nat) : (bz_w g ext).2.2.1 51 0 = g.1 + 46 := rfl
theorem ad_51_1 (g : BC) (ext : Nat → Nat) : (bz_w g ext).2.2.1 51 1 = g.1 + 367 := rfl
theorem ad_51_2 (g : BC) (ext : Nat → Nat) : (bz_w g ext).2.2.1 51 2 = g.1 + 69 := rfl
theorem ad_51_3 (g : BC) (ext : Nat → Nat) : (bz_w g ext).2.2.1 51 3 = g.1 + 90 := rfl
theorem ad_51_4 (g : BC) (ext : Nat → Nat) : (bz_w g ext).2.2.1 51 4 = g.1 + 111 := rfl
theorem ad_51_5 (g : BC) (ext : Nat → Nat) : (bz_w g ext).2.2.1 51 5 = g.1 + 132 := rfl
theorem ad_51_6 (g : BC) (ext : Nat → Nat) : (bz_w g ext).2.2.1 51 6 = g.1 + 153 := rfl
theorem ad_51_7 (g : BC) (ext : Nat → Nat) : (bz_w g ext).2.2.1 51 7 = g.1 + 174 := rfl
theorem ad_51_8 (g : BC) (ext : Nat → Nat) : (bz_w g ext).2.2.1 51 8 = g.1 + 195 := rfl
theorem ad_51_9 (g : BC) (ext : Nat → Nat) : (bz_w g ext).2.2.1 51 9 = g.1 + 216 := rfl
theorem ad_51_10 (g : BC) (ext : Nat → Nat) : (bz_w g ext).2.2.1 51 10 = g.1 + 237 := rfl
theorem ad_51_11 (g : BC) (ext : Nat → Nat) : (bz_w g ext).2.2.1 51 11 = g.1 + 258 := rfl
theorem ad_51_12 (g : BC) (ext : Nat → Nat) : (bz_w g ext).2.2.1 51 12 = g.1 + 279 := rfl
theorem ad_51_13 (g : BC) (ext : Nat → Nat) : (bz_w g ext).2.2.1 51 13 = g.1 + 300 := rfl
theorem ad_52_0 (g : BC) (ext : Nat → Nat) : (bz_w g ext).2.2.1 52 0 = g.1 + 47 := rfl
theorem ad_52_1 (g : BC) (ext : Nat → Nat) : (bz_w g ext).2.2.1 52 1 = g.1 + 368 := rfl
theorem ad_52_2 (g : BC) (ext : Nat → Nat) : (bz_w g ext).2.2.1 52 2 = g.1 + 70 := rfl
theorem ad_52_3 (g : BC) (ext : Nat → Nat) : (bz_w g ext).2.2.1 52 3 = g.1 + 91 := rfl
theorem ad_52_4 (g : BC) (ext : Nat → Nat) : (bz_w g ext).2.2.1 52 4 = g.1 + 112 := rfl
theorem ad_52_5 (g : BC) (ext : Nat → Nat) : (bz_w g ext).2.2.1 52 5 = g.1 + 133 := rfl
theorem ad_52_6 (g : BC) (ext : Nat → Nat) : (bz_w g ext).2.2.1 52 6 = g.1 + 154 := rfl
theorem ad_52_7 (g : BC) (ext : Nat → Nat) : (bz_w g ext).2.2.1 52 7 = g.1 + 175 := rfl
theorem ad_52_8 (g : BC) (ext : Nat → Nat) : (bz_w g ext).2.2.1 52 8 = g.1 + 196 := rfl
theorem ad_52_9 (g : BC) (ext : Nat → Nat) : (bz_w g ext).2.2.1 52 9 = g.1 + 217 := rfl
theorem ad_52_10 (g : BC) (ext : Nat → Nat) : (bz_w g ext).2.2.1 52 10 = g.1 + 238 := rfl
theorem ad_52_11 (g : BC) (ext : Nat → Nat) : (bz_w g ext).2.2.1 52 11 = g.1 + 259 := rfl
theorem ad_52_12 (g : BC) (ext : Nat → Nat) : (bz_w g ext).2.2.1 52 12 = g.1 + 280 := rfl
theorem ad_52_13 (g : BC) (ext : Nat → Nat) : (bz_w g ext).2.2.1 52 13 = g.1 + 301 := rfl
theorem ad_53_0 (g : BC) (ext : Nat → Nat) : (bz_w g ext).2.2.1 53 0 = g.1 + 325 := rfl
theorem ad_54_0 (g : BC) (ext : Nat → Nat) : (bz_w g ext).2.2.1 54 0 = g.1 + 384 := rfl
theorem ad_55_0 (g : BC) (ext : Nat → Nat) : (bz_w g ext).2.2.1 55 0 = g.1 + 385 := rfl
theorem ad_56_0 (g : BC) (ext : Nat → Nat) : (bz_w g ext).2.2.1 56 0 = g.1 + 386 := rfl
theorem ad_57_0 (g : BC) (ext : Nat → Nat) : (bz_w g ext).2.2.1 57 0 = g.1 + 387 := rfl
theorem ad_58_0 (g : BC) (ext : Nat → Nat) : (bz_w g ext).2.2.1 58 0 = g.1 + 388 := rfl
theorem ad_59_0 (g : BC) (ext : Nat → Nat) : (bz_w g ext).2.2.1 59 0 = g.1 + 389 := rfl
theorem ad_60_0 (g : BC) (ext : Nat → Nat) : (bz_w g ext).2.2.1 60 0 = g.1 + 390 := rfl
theorem ad_61_0 (g : BC) (ext : Nat → Nat) : (bz_w g ext).2.2.1 61 0 = g.1 + 391 := rfl
theorem ad_62_0 (g : BC) (ext : Nat → Nat) : (bz_w g ext).2.2.1 62 0 = g.1 + 392 := rfl
theorem ad_63_0 (g : BC) (ext : Nat → Nat) : (bz_w g ext).2.2.1 63 0 = g.1 + 393 := rfl
theorem ad_64_0 (g : BC) (ext : Nat → Nat) : (bz_w g ext).2.2.1 64 0 = g.1 + 394 := rfl
theorem ad_65_0 (g : BC) (ext : Nat → Nat) : (bz_w g ext).2.2.1 65 0 = g.1 + 395 := rfl
theorem wc_j (g : BC) (ext : Nat → Nat) : (bz_w g ext).2.1 = g.2.2 := rfl
theorem hz_0 : bz_h.1 0 = fun _ _ => 0 := rfl
theorem hz_2 : bz_h.1 2 = fun _ _ => 0 := rfl
theorem hz_3 : bz_h.1 3 = fun _ _ => 0 := rfl
theorem hz_4 : bz_h.1 4 = fun _ _ => 0 := rfl
theorem hz_5 : bz_h.1 5 = fun _ _ => 0 := rfl
theorem hz_6 : bz_h.1 6 = fun _ _ => 0 := rfl
theorem hz_8 : bz_h.1 8 = fun _ _ => 0 := rfl
theorem hz_9 : bz_h.1 9 = fun _ _ => 0 := rfl
theorem hz_10 : bz_h.1 10 = fun _ _ => 0 := rfl
theorem hz_11 : bz_h.1 11 = fun _ _ => 0 := rfl
theorem hz_13 : bz_h.1 13 = fun _ _ => 0 := rfl
theorem hz_14 : bz_h.1 14 = fun _ _ => 0 := rfl
theorem hz_15 : bz_h.1 15 = fun _ _ => 0 := rfl
theorem hz_16 : bz_h.1 16 = fun _ _ => 0 := rfl
theorem hz_17 : bz_h.1 17 = fun _ _ => 0 := rfl
theorem hz_18 : bz_h.1 18 = fun _ _ => 0 := rfl
theorem hz_20 : bz_h.1 20 = fun _ _ => 0 := rfl
theorem hz_22 : bz_h.1 22 = fun _ _ => 0 := rfl
theorem hz_23 : bz_h.1 23 = fun _ _ => 0 := rfl
theorem hz_25 : bz_h.1 25 = fun _ _ => 0 := rfl
theorem hz_27 : bz_h.1 27 = fun _ _ => 0 := rfl
theorem hz_29 : bz_h.1 29 = fun _ _ => 0 := rfl
theorem hz_33 : bz_h.1 33 = fun _ _ => 0 := rfl
theorem hz_35 : bz_h.1 35 = fun _ _ => 0 := rfl
theorem hz_36 : bz_h.1 36 = fun _ _ => 0 := rfl
theorem hz_37 : bz_h.1 37 = fun _ _ => 0 := rfl
theorem hz_38 : bz_h.1 38 = fun _ _ => 0 := rfl
theorem hz_39 : bz_h.1 39 = fun _ _ => 0 := rfl
theorem hz_40 : bz_h.1 40 = fun _ _ => 0 := rfl
theorem hz_41 : bz_h.1 41 = fun _ _ => 0 := rfl
theorem hz_42 : bz_h.1 42 = fun _ _ => 0 := rfl
theorem hz_43 : bz_h.1 43 = fun _ _ => 0 := rfl
theorem hz_44 : bz_h.1 44 = fun _ _ => 0 := rfl
theorem hz_45 : bz_h.1 45 = fun _ _ => 0 := rfl
theorem hz_46 : bz_h.1 46 = fun _ _ => 0 := rfl
theorem hz_47 : bz_h.1 47 = fun _ _ => 0 := rfl
theorem hz_48 : bz_h.1 48 = fun _ _ => 0 := rfl
theorem hz_49 : bz_h.1 49 = fun _ _ => 0 := rfl
theorem hz_50 : bz_h.1 50 = fun _ _ => 0 := rfl
theorem hz_51 : bz_h.1 51 = fun _ _ => 0 := rfl
theorem hz_52 : bz_h.1 52 = fun _ _ => 0 := rfl
theorem hz_53 : bz_h.1 53 = fun _ _ => 0 := rfl
theorem hz_54 : bz_h.1 54 = fun _ _ => 0 := rfl
theorem hz_55 : bz_h.1 55 = fun _ _ => 0 := rfl
theorem hz_58 : bz_h.1 58 = fun _ _ => 0 := rfl
theorem hz_59 : bz_h.1 59 = fun _ _ => 0 := rfl
theorem hz_60 : bz_h.1 60 = fun _ _ => 0 := rfl
theorem hz_61 : bz_h.1 61 = fun _ _ => 0 := rfl
theorem hz_62 : bz_h.1 62 = fun _ _ => 0 := rfl
theorem hz_63 : bz_h.1 63 = fun _ _ => 0 := rfl
theorem hz_64 : bz_h.1 64 = fun _ _ => 0 := rfl
theorem hz_65 : bz_h.1 65 = fun _ _ => 0 := rfl
theorem hl_0 : bz_h.2.1 = fun _ _ _ => 0 := rfl
theorem hs_1_0_0 : bz_h.1 1 0 0 = 0 := rfl
theorem hs_1_0_1 : bz_h.1 1 0 1 = 0 := rfl
theorem hs_1_0_2 : bz_h.1 1 0 2 = 0 := rfl
theorem hs_1_1_0 : bz_h.1 1 1 0 = 0 := rfl
theorem hs_1_1_1 : bz_h.1 1 1 1 = 0 := rfl
theorem hs_1_1_2 : bz_h.1 1 1 2 = 1 := rfl
theorem hs_7_0 : bz_h.1 7 0 0 = -1 := rfl
theorem hs_7_1 : bz_h.1 7 0 1 = 0 := rfl
theorem hs_12_0 : bz_h.1 12 0 0 = 0 := rfl
theorem hs_12_3 : bz_h.1 12 0 3 = 0 := rfl
theorem hs_12_4 : bz_h.1 12 0 4 = 0 := rfl
theorem hs_12_5 : bz_h.1 12 0 5 = 0 := rfl
theorem hs_12_6 : bz_h.1 12 0 6 = 0 := rfl
theorem hs_12_7 : bz_h.1 12 0 7 = 0 := rfl
theorem hs_12_8 : bz_h.1 12 0 8 = 0 := rfl
theorem hs_12_9 : bz_h.1 12 0 9 = -1 := rfl
theorem hs_12_10 : bz_h.1 12 0 10 = 0 := rfl
theorem hs_12_13 : bz_h.1 12 0 13 = 0 := rfl
theorem hs_12_16 : bz_h.1 12 0 16 = 0 := rfl
theorem hs_12_22 : bz_h.1 12 0 22 = 0 := rfl
theorem hs_12_24 : bz_h.1 12 0 24 = 0 := rfl
theorem hs_30_0 : bz_h.1 30 0 = fun _ => 0 := rfl
theorem hs_30_1 : bz_h.1 30 1 = upd (fun _ => 0) 0 0 := rfl
theorem hs_31_0 : bz_h.1 31 0 = fun _ => 0 := rfl
theorem hs_31_1 : bz_h.1 31 1 = upd (fun _ => 0) 0 9 := rfl
theorem hs_32_0 : bz_h.1 32 0 = fun _ => 0 := rfl
theorem hs_32_1 : bz_h.1 32 1 = upd (fun _ => 0) 0 100 := rfl
theorem hs_56 : bz_h.1 56 0 = bz_cp bz_rd0 506 := rfl
theorem hs_57 : bz_h.1 57 0 = bz_rd0 := rfl
theorem hr_7_3 : bz_h.2.2 7 0 3 = 0 := rfl
theorem hr_7_4 : bz_h.2.2 7 0 4 = 0 := rfl
theorem hr_11_6 : bz_h.2.2 11 0 6 = 1 := rfl
theorem hr_11_7 : bz_h.2.2 11 0 7 = 1 := rfl
def or_top : List (Nat × Nat) := [(11, 0)]
def or_tok : List (Nat × Nat) := [(7, 0), (9, 0), (4, 0), (35, 0)]
def or_cat0 : List (Nat × Nat) := [(1, 0), (19, 0), (20, 0), (21, 0), (22, 0), (23, 0), (24, 0), (25, 0), (25, 1), (25, 2), (25, 3), (25, 4), (25, 5), (25, 6), (25, 7), (26, 0), (27, 0), (27, 1), (27, 2), (27, 3), (27, 4), (27, 5), (27, 6), (27, 7), (28, 0), (29, 0), (29, 1), (29, 2), (29, 3), (29, 4), (29, 5), (29, 6), (29, 7), (30, 0), (31, 0), (32, 0)]
def or_led0 : List (Nat × Nat) := [(5, 0), (10, 0), (48, 0), (49, 0), (50, 0), (51, 0), (52, 0), (6, 0), (36, 0), (37, 0), (38, 0), (39, 0), (40, 0), (41, 0), (42, 0), (43, 0), (8, 0), (44, 0), (45, 0), (46, 0), (47, 0)]
def or_his : List (Nat × Nat) := [(3, 0), (34, 0)]
def or_led2 : List (Nat × Nat) := [(5, 2), (10, 2), (48, 2), (49, 2), (50, 2), (51, 2), (52, 2), (6, 2), (36, 2), (37, 2), (38, 2), (39, 2), (40, 2), (41, 2), (42, 2), (43, 2), (8, 2), (44, 2), (45, 2), (46, 2), (47, 2)]
def or_led3 : List (Nat × Nat) := [(5, 3), (10, 3), (48, 3), (49, 3), (50, 3), (51, 3), (52, 3), (6, 3), (36, 3), (37, 3), (38, 3), (39, 3), (40, 3), (41, 3), (42, 3), (43, 3), (8, 3), (44, 3), (45, 3), (46, 3), (47, 3)]
def or_led4 : List (Nat × Nat) := [(5, 4), (10, 4), (48, 4), (49, 4), (50, 4), (51, 4), (52, 4), (6, 4), (36, 4), (37, 4), (38, 4), (39, 4), (40, 4), (41, 4), (42, 4), (43, 4), (8, 4), (44, 4), (45, 4), (46, 4), (47, 4)]
def or_led5 : List (Nat × Nat) := [(5, 5), (10, 5), (48, 5), (49, 5), (50, 5), (51, 5), (52, 5), (6, 5), (36, 5), (37, 5), (38, 5), (39, 5), (40, 5), (41, 5), (42, 5), (43, 5), (8, 5), (44, 5), (45, 5), (46, 5), (47, 5)]
def or_led6 : List (Nat × Nat) := [(5, 6), (10, 6), (48, 6), (49, 6), (50, 6), (51, 6), (52, 6), (6, 6), (36, 6), (37, 6), (38, 6), (39, 6), (40, 6), (41, 6), (42, 6), (43, 6), (8, 6), (44, 6), (45, 6), (46, 6), (47, 6)]
def or_led7 : List (Nat × Nat) := [(5, 7), (10, 7), (48, 7), (49, 7), (50, 7), (51, 7), (52, 7), (6, 7), (36, 7), (37, 7), (38, 7), (39, 7), (40, 7), (41, 7), (42, 7), (43, 7), (8, 7), (44, 7), (45, 7), (46, 7), (47, 7)]
def or_led8 : List (Nat × Nat) := [(5, 8), (10, 8), (48, 8), (49, 8), (50, 8), (51, 8), (52, 8), (6, 8), (36, 8), (37, 8), (38, 8), (39, 8), (40, 8), (41, 8), (42, 8), (43, 8), (8, 8), (44, 8), (45, 8), (46, 8), (47, 8)]
def or_led9 : List (Nat × Nat) := [(5, 9), (10, 9), (48, 9), (49, 9), (50, 9), (51, 9), (52, 9), (6, 9), (36, 9), (37, 9), (38, 9), (39, 9), (40, 9), (41, 9), (42, 9), (43, 9), (8, 9), (44, 9), (45, 9), (46, 9), (47, 9)]
def or_led10 : List (Nat × Nat) := [(5, 10), (10, 10), (48, 10), (49, 10), (50, 10), (51, 10), (52, 10), (6, 10), (36, 10), (37, 10), (38, 10), (39, 10), (40, 10), (41, 10), (42, 10), (43, 10), (8, 10), (44, 10), (45, 10), (46, 10), (47, 10)]
def or_led11 : List (Nat × Nat) := [(5, 11), (10, 11), (48, 11), (49, 11), (50, 11), (51, 11), (52, 11), (6, 11), (36, 11), (37, 11), (38, 11), (39, 11), (40, 11), (41, 11), (42, 11), (43, 11), (8, 11), (44, 11), (45, 11), (46, 11), (47, 11)]
def or_led12 : List (Nat × Nat) := [(5, 12), (10, 12), (48, 12), (49, 12), (50, 12), (51, 12), (52, 12), (6, 12), (36, 12), (37, 12), (38, 12), (39, 12), (40, 12), (41, 12), (42, 12), (43, 12), (8, 12), (44, 12), (45, 12), (46, 12), (47, 12)]
def or_led13 : List (Nat × Nat) := [(5, 13), (10, 13), (48, 13), (49, 13), (50, 13), (51, 13), (52, 13), (6, 13), (36, 13), (37, 13), (38, 13), (39, 13), (40, 13), (41, 13), (42, 13), (43, 13), (8, 13), (44, 13), (45, 13), (46, 13), (47, 13)]
def or_alo : List (Nat × Nat) := [(0, 0), (13, 0), (14, 0), (15, 0), (16, 0), (17, 0), (18, 0)]
def or_fmt : List (Nat × Nat) := [(2, 0), (33, 0)]
def or_fre : List (Nat × Nat) := [(53, 0)]
def or_cat1 : List (Nat × Nat) := [(1, 1), (19, 1), (20, 1), (21, 1), (22, 1), (23, 1), (24, 1), (25, 8), (25, 9), (25, 10), (25, 11), (25, 12), (25, 13), (25, 14), (25, 15), (26, 1), (27, 8), (27, 9), (27, 10), (27, 11), (27, 12), (27, 13), (27, 14), (27, 15), (28, 1), (29, 8), (29, 9), (29, 10), (29, 11), (29, 12), (29, 13), (29, 14), (29, 15), (30, 1), (31, 1), (32, 1)]
def or_led1 : List (Nat × Nat) := [(5, 1), (10, 1), (48, 1), (49, 1), (50, 1), (51, 1), (52, 1), (6, 1), (36, 1), (37, 1), (38, 1), (39, 1), (40, 1), (41, 1), (42, 1), (43, 1), (8, 1), (44, 1), (45, 1), (46, 1), (47, 1)]
def or_mod : List (Nat × Nat) := [(12, 0), (54, 0), (55, 0), (56, 0), (57, 0), (58, 0), (59, 0), (60, 0), (61, 0), (62, 0), (63, 0), (64, 0), (65, 0)]
def or_out : List (Nat × Nat) := [(66, 0)]
