/-! the places after the constructors, laid by lay31.py -/
def ab_Kl : List Nat := [11, 4, 101, 7, 101, 8, 2, 105, 106, 107, 100, 0, 5, 5, 5, 5, 5, 5, 5, 5, 5, 5, 10, 10, 10, 10, 1, 1, 1, 1, 1, 1, 1, 1, 1, 1, 1, 1, 6, 109, 101, 101, 101, 101, 101, 101, 101, 101, 101, 101, 100, 9, 6, 109, 101, 101, 101, 101, 101, 101, 101, 101, 101, 101, 100, 2, 105, 106, 107, 100, 0, 5, 5, 5, 5, 5, 5, 5, 5, 5, 5, 10, 10, 10, 10, 1, 1, 1, 1, 1, 1, 1, 1, 1, 1, 1, 1, 2, 105, 106, 107, 100, 0, 5, 5, 5, 5, 5, 5, 5, 5, 5, 5, 10, 10, 10, 10, 1, 1, 1, 1, 1, 1, 1, 1, 1, 1, 1, 1, 2, 105, 106, 107, 100, 0, 5, 5, 5, 5, 5, 5, 5, 5, 5, 5, 10, 10, 10, 10, 1, 1, 1, 1, 1, 1, 1, 1, 1, 1, 1, 1, 3, 108, 2, 105, 106, 107, 100, 0, 5, 5, 5, 5, 5, 5, 5, 5, 5, 5, 10, 10, 10, 10, 1, 1, 1, 1, 1, 1, 1, 1, 1, 1, 1, 1, 2, 105, 106, 107, 100, 0, 5, 5, 5, 5, 5, 5, 5, 5, 5, 5, 10, 10, 10, 10, 1, 1, 1, 1, 1, 1, 1, 1, 1, 1, 1, 1, 2, 105, 106, 107, 100, 0, 5, 5, 5, 5, 5, 5, 5, 5, 5, 5, 10, 10, 10, 10, 1, 1, 1, 1, 1, 1, 1, 1, 1, 1, 1, 1, 2, 105, 106, 107, 100, 0, 5, 5, 5, 5, 5, 5, 5, 5, 5, 5, 10, 10, 10, 10, 1, 1, 1, 1, 1, 1, 1, 1, 1, 1, 1, 1, 2, 105, 106, 107, 100, 0, 5, 5, 5, 5, 5, 5, 5, 5, 5, 5, 10, 10, 10, 10, 1, 1, 1, 1, 1, 1, 1, 1, 1, 1, 1, 1, 2, 105, 106, 107, 100, 0, 5, 5, 5, 5, 5, 5, 5, 5, 5, 5, 10, 10, 10, 10, 1, 1, 1, 1, 1, 1, 1, 1, 1, 1, 1, 1, 2, 105, 106, 107, 100, 0, 5, 5, 5, 5, 5, 5, 5, 5, 5, 5, 10, 10, 10, 10, 1, 1, 1, 1, 1, 1, 1, 1, 1, 1, 1, 1, 2, 105, 106, 107, 100, 0, 5, 5, 5, 5, 5, 5, 5, 5, 5, 5, 10, 10, 10, 10, 1, 1, 1, 1, 1, 1, 1, 1, 1, 1, 1, 1, 2, 105, 106, 107, 100, 0, 5, 5, 5, 5, 5, 5, 5, 5, 5, 5, 10, 10, 10, 10, 1, 1, 1, 1, 1, 1, 1, 1, 1, 1, 1, 1, 2, 105, 106, 107, 100, 0, 5, 5, 5, 5, 5, 5, 5, 5, 5, 5, 10, 10, 10, 10, 1, 1, 1, 1, 1, 1, 1, 1, 1, 1, 1, 1, 12, 100, 100, 100, 100, 100, 100, 100, 100, 100, 100, 102, 101, 101, 103, 104]
def ab_Nl : List Nat := [0, 0, 700, 0, 640, 0, 0, 10, 4, 12, 6, 0, 0, 0, 0, 0, 0, 0, 0, 0, 0, 0, 0, 0, 0, 0, 0, 0, 0, 0, 0, 0, 0, 0, 0, 0, 0, 0, 0, 10, 6, 6, 6, 6, 6, 6, 6, 6, 6, 6, 10, 0, 0, 10, 6, 6, 6, 6, 6, 6, 6, 6, 6, 6, 10, 0, 10, 4, 12, 6, 0, 0, 0, 0, 0, 0, 0, 0, 0, 0, 0, 0, 0, 0, 0, 0, 0, 0, 0, 0, 0, 0, 0, 0, 0, 0, 0, 0, 10, 4, 12, 6, 0, 0, 0, 0, 0, 0, 0, 0, 0, 0, 0, 0, 0, 0, 0, 0, 0, 0, 0, 0, 0, 0, 0, 0, 0, 0, 0, 0, 10, 4, 12, 6, 0, 0, 0, 0, 0, 0, 0, 0, 0, 0, 0, 0, 0, 0, 0, 0, 0, 0, 0, 0, 0, 0, 0, 0, 0, 0, 0, 0, 10, 0, 10, 4, 12, 6, 0, 0, 0, 0, 0, 0, 0, 0, 0, 0, 0, 0, 0, 0, 0, 0, 0, 0, 0, 0, 0, 0, 0, 0, 0, 0, 0, 0, 10, 4, 12, 6, 0, 0, 0, 0, 0, 0, 0, 0, 0, 0, 0, 0, 0, 0, 0, 0, 0, 0, 0, 0, 0, 0, 0, 0, 0, 0, 0, 0, 10, 4, 12, 6, 0, 0, 0, 0, 0, 0, 0, 0, 0, 0, 0, 0, 0, 0, 0, 0, 0, 0, 0, 0, 0, 0, 0, 0, 0, 0, 0, 0, 10, 4, 12, 6, 0, 0, 0, 0, 0, 0, 0, 0, 0, 0, 0, 0, 0, 0, 0, 0, 0, 0, 0, 0, 0, 0, 0, 0, 0, 0, 0, 0, 10, 4, 12, 6, 0, 0, 0, 0, 0, 0, 0, 0, 0, 0, 0, 0, 0, 0, 0, 0, 0, 0, 0, 0, 0, 0, 0, 0, 0, 0, 0, 0, 10, 4, 12, 6, 0, 0, 0, 0, 0, 0, 0, 0, 0, 0, 0, 0, 0, 0, 0, 0, 0, 0, 0, 0, 0, 0, 0, 0, 0, 0, 0, 0, 10, 4, 12, 6, 0, 0, 0, 0, 0, 0, 0, 0, 0, 0, 0, 0, 0, 0, 0, 0, 0, 0, 0, 0, 0, 0, 0, 0, 0, 0, 0, 0, 10, 4, 12, 6, 0, 0, 0, 0, 0, 0, 0, 0, 0, 0, 0, 0, 0, 0, 0, 0, 0, 0, 0, 0, 0, 0, 0, 0, 0, 0, 0, 0, 10, 4, 12, 6, 0, 0, 0, 0, 0, 0, 0, 0, 0, 0, 0, 0, 0, 0, 0, 0, 0, 0, 0, 0, 0, 0, 0, 0, 0, 0, 0, 0, 10, 4, 12, 6, 0, 0, 0, 0, 0, 0, 0, 0, 0, 0, 0, 0, 0, 0, 0, 0, 0, 0, 0, 0, 0, 0, 0, 0, 0, 0, 0, 0, 245, 245, 245, 245, 245, 2450, 10, 10, 10, 10, 10, 700, 800, 1, 1]
def ab_Rl : List (List (Option Nat)) := [[some 1, some 3, some 5, some 52, some 65, some 97, some 129, some 161], [some 2], [], [some 4], [], [some 6, some 38, some 51], [some 7, some 8, some 9, some 10, some 11], [some 12, some 13, some 14, some 15, some 16, some 17, some 18, some 19, some 20, some 21], [some 22, some 23, some 24, some 25], [some 26, some 27, some 28, some 29, some 30, some 31, some 32, some 33, some 34, some 35, some 36, some 37], [], [], [], [], [], [], [], [], [], [], [], [], [], [], [], [], [], [], [], [], [], [], [], [], [], [], [], [], [some 39, some 50], [some 40, some 41, some 42, some 43, some 44, some 45, some 46, some 47, some 48, some 49], [], [], [], [], [], [], [], [], [], [], [], [some 1], [some 53, some 64], [some 54, some 55, some 56, some 57, some 58, some 59, some 60, some 61, some 62, some 63], [], [], [], [], [], [], [], [], [], [], [], [some 66, some 67, some 68, some 69, some 70], [some 71, some 72, some 73, some 74, some 75, some 76, some 77, some 78, some 79, some 80], [some 81, some 82, some 83, some 84], [some 85, some 86, some 87, some 88, some 89, some 90, some 91, some 92, some 93, some 94, some 95, some 96], [], [], [], [], [], [], [], [], [], [], [], [], [], [], [], [], [], [], [], [], [], [], [], [], [], [], [], [], [some 98, some 99, some 100, some 101, some 102], [some 103, some 104, some 105, some 106, some 107, some 108, some 109, some 110, some 111, some 112], [some 113, some 114, some 115, some 116], [some 117, some 118, some 119, some 120, some 121, some 122, some 123, some 124, some 125, some 126, some 127, some 128], [], [], [], [], [], [], [], [], [], [], [], [], [], [], [], [], [], [], [], [], [], [], [], [], [], [], [], [], [some 130, some 131, some 132, some 133, some 134], [some 135, some 136, some 137, some 138, some 139, some 140, some 141, some 142, some 143, some 144], [some 145, some 146, some 147, some 148], [some 149, some 150, some 151, some 152, some 153, some 154, some 155, some 156, some 157, some 158, some 159, some 160], [], [], [], [], [], [], [], [], [], [], [], [], [], [], [], [], [], [], [], [], [], [], [], [], [], [], [], [], [some 162], [some 163, some 195, some 227, some 259, some 291, some 323, some 355, some 387, some 419, some 451], [some 164, some 165, some 166, some 167, some 168], [some 169, some 170, some 171, some 172, some 173, some 174, some 175, some 176, some 177, some 178], [some 179, some 180, some 181, some 182], [some 183, some 184, some 185, some 186, some 187, some 188, some 189, some 190, some 191, some 192, some 193, some 194], [], [], [], [], [], [], [], [], [], [], [], [], [], [], [], [], [], [], [], [], [], [], [], [], [], [], [], [], [some 196, some 197, some 198, some 199, some 200], [some 201, some 202, some 203, some 204, some 205, some 206, some 207, some 208, some 209, some 210], [some 211, some 212, some 213, some 214], [some 215, some 216, some 217, some 218, some 219, some 220, some 221, some 222, some 223, some 224, some 225, some 226], [], [], [], [], [], [], [], [], [], [], [], [], [], [], [], [], [], [], [], [], [], [], [], [], [], [], [], [], [some 228, some 229, some 230, some 231, some 232], [some 233, some 234, some 235, some 236, some 237, some 238, some 239, some 240, some 241, some 242], [some 243, some 244, some 245, some 246], [some 247, some 248, some 249, some 250, some 251, some 252, some 253, some 254, some 255, some 256, some 257, some 258], [], [], [], [], [], [], [], [], [], [], [], [], [], [], [], [], [], [], [], [], [], [], [], [], [], [], [], [], [some 260, some 261, some 262, some 263, some 264], [some 265, some 266, some 267, some 268, some 269, some 270, some 271, some 272, some 273, some 274], [some 275, some 276, some 277, some 278], [some 279, some 280, some 281, some 282, some 283, some 284, some 285, some 286, some 287, some 288, some 289, some 290], [], [], [], [], [], [], [], [], [], [], [], [], [], [], [], [], [], [], [], [], [], [], [], [], [], [], [], [], [some 292, some 293, some 294, some 295, some 296], [some 297, some 298, some 299, some 300, some 301, some 302, some 303, some 304, some 305, some 306], [some 307, some 308, some 309, some 310], [some 311, some 312, some 313, some 314, some 315, some 316, some 317, some 318, some 319, some 320, some 321, some 322], [], [], [], [], [], [], [], [], [], [], [], [], [], [], [], [], [], [], [], [], [], [], [], [], [], [], [], [], [some 324, some 325, some 326, some 327, some 328], [some 329, some 330, some 331, some 332, some 333, some 334, some 335, some 336, some 337, some 338], [some 339, some 340, some 341, some 342], [some 343, some 344, some 345, some 346, some 347, some 348, some 349, some 350, some 351, some 352, some 353, some 354], [], [], [], [], [], [], [], [], [], [], [], [], [], [], [], [], [], [], [], [], [], [], [], [], [], [], [], [], [some 356, some 357, some 358, some 359, some 360], [some 361, some 362, some 363, some 364, some 365, some 366, some 367, some 368, some 369, some 370], [some 371, some 372, some 373, some 374], [some 375, some 376, some 377, some 378, some 379, some 380, some 381, some 382, some 383, some 384, some 385, some 386], [], [], [], [], [], [], [], [], [], [], [], [], [], [], [], [], [], [], [], [], [], [], [], [], [], [], [], [], [some 388, some 389, some 390, some 391, some 392], [some 393, some 394, some 395, some 396, some 397, some 398, some 399, some 400, some 401, some 402], [some 403, some 404, some 405, some 406], [some 407, some 408, some 409, some 410, some 411, some 412, some 413, some 414, some 415, some 416, some 417, some 418], [], [], [], [], [], [], [], [], [], [], [], [], [], [], [], [], [], [], [], [], [], [], [], [], [], [], [], [], [some 420, some 421, some 422, some 423, some 424], [some 425, some 426, some 427, some 428, some 429, some 430, some 431, some 432, some 433, some 434], [some 435, some 436, some 437, some 438], [some 439, some 440, some 441, some 442, some 443, some 444, some 445, some 446, some 447, some 448, some 449, some 450], [], [], [], [], [], [], [], [], [], [], [], [], [], [], [], [], [], [], [], [], [], [], [], [], [], [], [], [], [some 452, some 453, some 454, some 455, some 456], [some 457, some 458, some 459, some 460, some 461, some 462, some 463, some 464, some 465, some 466], [some 467, some 468, some 469, some 470], [some 471, some 472, some 473, some 474, some 475, some 476, some 477, some 478, some 479, some 480, some 481, some 482], [], [], [], [], [], [], [], [], [], [], [], [], [], [], [], [], [], [], [], [], [], [], [], [], [], [], [], [], [none, some 484, some 485, some 486, some 487, some 488, some 489, none, none, none, none, some 490, some 491, some 492, some 493, some 494, some 495, none, none, none, none, none, none, none, none, none, none, some 496], [], [], [], [], [], [], [], [], [], [], [], [], [], [], []]
def ab_Il : List (List Int32) := [[0, 0, 0, 0, 0, 0, 0, 0, 0, 0, -1], [], [], [], [], [0, 0, 0, 0, 0, 0, -1], [0, 0, 0, 0, 0, 0, 1], [], [], [], [5, 2, 3, 4, 3, 10], [], [], [], [], [], [], [], [], [], [], [], [0, 3], [], [], [], [], [], [], [], [], [], [], [], [], [], [], [], [], [], [], [], [], [], [], [], [], [], [], [], [], [], [], [], [], [], [], [], [], [], [], [], [], [], [], [0, 0, 0, 0, 0, 0, 1], [], [], [], [5, 2, 3, 4, 3, 10], [], [], [], [], [], [], [], [], [], [], [], [0, 3], [], [], [], [], [], [], [], [], [], [], [], [], [], [], [], [0, 0, 0, 0, 0, 0, 1], [], [], [], [5, 2, 3, 4, 3, 10], [], [], [], [], [], [], [], [], [], [], [], [0, 3], [], [], [], [], [], [], [], [], [], [], [], [], [], [], [], [0, 0, 0, 0, 0, 0, 1], [], [], [], [5, 2, 3, 4, 3, 10], [], [], [], [], [], [], [], [], [], [], [], [0, 3], [], [], [], [], [], [], [], [], [], [], [], [], [], [], [], [], [], [0, 0, 0, 0, 0, 0, 1], [], [], [], [5, 2, 3, 4, 3, 10], [], [], [], [], [], [], [], [], [], [], [], [0, 3], [], [], [], [], [], [], [], [], [], [], [], [], [], [], [], [0, 0, 0, 0, 0, 0, 1], [], [], [], [5, 2, 3, 4, 3, 10], [], [], [], [], [], [], [], [], [], [], [], [0, 3], [], [], [], [], [], [], [], [], [], [], [], [], [], [], [], [0, 0, 0, 0, 0, 0, 1], [], [], [], [5, 2, 3, 4, 3, 10], [], [], [], [], [], [], [], [], [], [], [], [0, 3], [], [], [], [], [], [], [], [], [], [], [], [], [], [], [], [0, 0, 0, 0, 0, 0, 1], [], [], [], [5, 2, 3, 4, 3, 10], [], [], [], [], [], [], [], [], [], [], [], [0, 3], [], [], [], [], [], [], [], [], [], [], [], [], [], [], [], [0, 0, 0, 0, 0, 0, 1], [], [], [], [5, 2, 3, 4, 3, 10], [], [], [], [], [], [], [], [], [], [], [], [0, 3], [], [], [], [], [], [], [], [], [], [], [], [], [], [], [], [0, 0, 0, 0, 0, 0, 1], [], [], [], [5, 2, 3, 4, 3, 10], [], [], [], [], [], [], [], [], [], [], [], [0, 3], [], [], [], [], [], [], [], [], [], [], [], [], [], [], [], [0, 0, 0, 0, 0, 0, 1], [], [], [], [5, 2, 3, 4, 3, 10], [], [], [], [], [], [], [], [], [], [], [], [0, 3], [], [], [], [], [], [], [], [], [], [], [], [], [], [], [], [0, 0, 0, 0, 0, 0, 1], [], [], [], [5, 2, 3, 4, 3, 10], [], [], [], [], [], [], [], [], [], [], [], [0, 3], [], [], [], [], [], [], [], [], [], [], [], [], [], [], [], [0, 0, 0, 0, 0, 0, 1], [], [], [], [5, 2, 3, 4, 3, 10], [], [], [], [], [], [], [], [], [], [], [], [0, 3], [], [], [], [], [], [], [], [], [], [], [], [], [], [], [], [0, 0, 0, 0, 0, 0, 1], [], [], [], [5, 2, 3, 4, 3, 10], [], [], [], [], [], [], [], [], [], [], [], [0, 3], [], [], [], [], [], [], [], [], [], [], [], [], [], [], [], [0, 0, 0, 0, 0, 0, 0, 0, 0, 0, 0, 0, 0, 0, 0, 0, 0, 0, 0, 0, 0, 0, 0, 0, 0, -1], [0, 0, 1, 5, 2, 3, 4, 3, 10, 0, 0, 0, 3], [], [], [], [], [], [], [], [], [], [], [], [], [], []]
def ab_K (p : Nat) : Nat := ab_Kl.getD p 0
def ab_N (p : Nat) : Nat := ab_Nl.getD p 0
def ab_R (p k : Nat) : Option Nat := (ab_Rl.getD p []).getD k none
def ab_I (p k : Nat) : Int32 := (ab_Il.getD p []).getD k 0
def ab_xs : List Nat := [0, 4, 7, 8, 9, 28, 32, 34, 47, 53, 60, 74, 81, 83, 86, 153, 159, 160]
def ab_P1 : Nat := 483
def ab_kq : Nat := 86
def ab_md : Nat := 153
/-- a script of no ints: what the constructors need of it is nothing -/
def ab_X0 : ak_X := (0, fun _ => 0, false)
def ab_ok (mi : Nat) (ins : Instr) : Bool := match ins with
  | .arraylength => false
  | .getstatic idx => match am_S (am_O mi) idx with | some (w, _) => decide (w < 4) | none => true
  | .invokevirtual idx => match am_L mi idx with | some (cal, kind, _) => kind != 9 && (kind == 5 || ab_xs.contains cal) | none => true
  | .invokestatic idx => match am_L mi idx with | some (cal, kind, _) => kind != 9 && (kind == 5 || ab_xs.contains cal) | none => true
  | .invokespecial idx => match am_L mi idx with | some (cal, kind, _) => kind != 9 && (kind == 5 || ab_xs.contains cal) | none => true
  | _ => true
theorem ab_xok : ab_xs.all (fun mi => (am_cs mi).all (fun q => ab_ok mi q.2)) = true := by decide +kernel
theorem ab_cI {X : ak_X} {p k : Nat} (h : p ≠ 1000000) : ak_cI X p k = ak_cI ab_X0 p k ∧ ak_cN X p = ak_cN ab_X0 p := by
  unfold ak_cI ak_cN
  rw [if_neg h, if_neg h, if_neg h, if_neg h]
  exact ⟨rfl, rfl⟩
theorem ab_ix0 {i : Int32} : ak_ix i 0 = false := by
  unfold ak_ix
  simp
theorem ab_xinv {X : ak_X} {mi idx vt pc : Nat} {l1 : List (Option Value)} {l2 : List (Nat × Value)} {st : List Value} {M : ak_M} (hk : ∀ cal kind w, am_L mi idx = some (cal, kind, w) → kind ≠ 9) : ak_inv X mi idx vt pc l1 l2 st M = ak_inv ab_X0 mi idx vt pc l1 l2 st M := by
  unfold ak_inv
  cases hL : am_L mi idx with
  | none => rfl
  | some q =>
    obtain ⟨cal, kind, w⟩ := q
    have h9 : ¬ (vt = 1 ∧ kind = 9) := fun h => hk cal kind w hL h.2
    dsimp only
    rw [if_neg h9, if_neg h9]
theorem ab_xn9 {mi idx : Nat} {ins : Instr} (hi : ins = .invokevirtual idx ∨ ins = .invokestatic idx ∨ ins = .invokespecial idx) (hx : ab_ok mi ins = true) : ∀ cal kind w, am_L mi idx = some (cal, kind, w) → kind ≠ 9 := by
  intro cal kind w hL
  have hx : (kind != 9 && (kind == 5 || ab_xs.contains cal)) = true := by
    rcases hi with rfl | rfl | rfl <;> (unfold ab_ok at hx; simp only [hL] at hx; exact hx)
  rw [Bool.and_eq_true] at hx
  simpa using hx.1
theorem ab_xi {X : ak_X} {mi pc : Nat} {ins : Instr} {l1 : List (Option Value)} {l2 : List (Nat × Value)} {st : List Value} {M : ak_M} {a : ak_Act} (hx : ab_ok mi ins = true) (h : ak_x ab_X0 mi ins pc l1 l2 st M = some a) : ak_x X mi ins pc l1 l2 st M = some a := by
  cases ins with
  | arraylength => cases hx
  | getstatic idx =>
    simp only [ak_x] at h ⊢
    unfold ab_ok at hx
    cases hs : am_S (am_O mi) idx with
    | none => rw [hs] at h; cases h
    | some z =>
      obtain ⟨w, z⟩ := z
      rw [hs] at h
      simp only [hs, decide_eq_true_eq] at hx
      dsimp only at h ⊢
      split at h
      · rename_i h1; rw [if_pos h1]; exact h
      · rename_i h1
        rw [if_neg h1]
        split at h
        · rename_i h2; rw [if_pos h2]; exact h
        · exfalso; omega
  | iaload =>
    simp only [ak_x] at h ⊢
    split at h
    · rename_i i p r
      split at h
      · rename_i h1; rw [if_pos h1]; exact h
      · rename_i h1
        rw [if_neg h1]
        split at h
        · rename_i h2
          have hp : p ≠ 1000000 := by
            intro e
            obtain ⟨-, -, h3⟩ := h2
            rw [e] at h3
            have h4 : ak_ix i 0 = true := h3
            rw [ab_ix0] at h4
            cases h4
          rw [(ab_cI (X := X) (k := 0) hp).2, (ab_cI (X := X) (k := i.toNatClampNeg) hp).1, if_pos h2]
          exact h
        · cases h
    · cases h
  | baload =>
    simp only [ak_x] at h ⊢
    split at h
    · rename_i i p r
      split at h
      · rename_i h1; rw [if_pos h1]; exact h
      · rename_i h1
        rw [if_neg h1]
        split at h
        · rename_i h2
          have hp : p ≠ 1000000 := by
            intro e
            obtain ⟨-, h3, -⟩ := h2
            rw [e] at h3
            exact absurd h3 (by decide)
          rw [(ab_cI (X := X) (k := 0) hp).2, (ab_cI (X := X) (k := i.toNatClampNeg) hp).1, if_pos h2]
          exact h
        · cases h
    · cases h
  | ifCond c _ => cases c <;> exact h
  | invokevirtual idx => simp only [ak_x] at h ⊢; rw [ab_xinv (ab_xn9 (Or.inl rfl) hx)]; exact h
  | invokestatic idx => simp only [ak_x] at h ⊢; rw [ab_xinv (ab_xn9 (Or.inr (Or.inl rfl)) hx)]; exact h
  | invokespecial idx => simp only [ak_x] at h ⊢; rw [ab_xinv (ab_xn9 (Or.inr (Or.inr rfl)) hx)]; exact h
  | if_icmp c _ => cases c <;> exact h
  | _ => exact h
theorem ab_xcal {mi idx vt pc cal : Nat} {ins : Instr} {l1 : List (Option Value)} {l2 : List (Nat × Value)} {st as : List Value} {M M1 : ak_M} {g : ak_F} (hi : ins = .invokevirtual idx ∨ ins = .invokestatic idx ∨ ins = .invokespecial idx) (hx : ab_ok mi ins = true) (h : ak_inv ab_X0 mi idx vt pc l1 l2 st M = some (.inr (.inr (cal, as, g, M1)))) : cal ∈ ab_xs := by
  obtain ⟨kind, w, rest, hL, -, -, -, -, -, -, hc⟩ := ak_invc h
  have hk : ¬ kind = 5 := by
    rcases hc with ⟨-, h, -⟩ | ⟨-, h, -⟩ | ⟨-, h, -⟩
    · omega
    · omega
    · omega
  have hx : (kind != 9 && (kind == 5 || ab_xs.contains cal)) = true := by
    rcases hi with rfl | rfl | rfl <;> (unfold ab_ok at hx; simp only [hL] at hx; exact hx)
  rw [Bool.and_eq_true] at hx
  have hx := hx.2
  rw [Bool.or_eq_true] at hx
  rcases hx with hx | hx
  · exact absurd (beq_iff_eq.mp hx) hk
  · exact List.contains_iff_mem.mp hx
theorem ab_xgo {X : ak_X} : ∀ (n mi : Nat) (f : ak_F) (M : ak_M) (r : ak_O × ak_M), mi ∈ ab_xs → ak_go ab_X0 n mi f M = some r → ak_go X n mi f M = some r
  | 0, mi, f, M, r, _, h => by cases h
  | n + 1, mi, f, M, r, hm, h => by
    have hok : ∀ ins, am_A mi f.1 = some ins → ab_ok mi ins = true := by
      intro ins hi
      have h1 := List.all_eq_true.mp ab_xok mi hm
      unfold am_A at hi
      cases hf : (am_cs mi).find? (fun q => q.1 == f.1) with
      | none => rw [hf] at hi; cases hi
      | some q =>
        rw [hf] at hi
        cases hi
        exact List.all_eq_true.mp h1 q (List.mem_of_find?_eq_some hf)
    have hst : ∀ a, ak_S ab_X0 mi f M = some a → ak_S X mi f M = some a := by
      intro a ha
      obtain ⟨pc, l1, l2, st⟩ := f
      obtain ⟨ins, hi, hS⟩ := ak_Sx ha
      unfold ak_S
      dsimp only
      rw [hi]
      exact ab_xi (hok ins hi) hS
    unfold ak_go at h ⊢
    cases hS : ak_S ab_X0 mi f M with
    | none => rw [hS] at h; cases h
    | some a =>
      rw [hS] at h
      rw [hst a hS]
      rcases a with ⟨f', M'⟩ | r' | ⟨cal, as, g, M1⟩
      · exact ab_xgo n mi f' M' r hm h
      · exact h
      · have hc : cal ∈ ab_xs := by
          obtain ⟨pc, l1, l2, st⟩ := f
          obtain ⟨ins, hi, hS2⟩ := ak_Sx hS
          have hx := hok ins hi
          rcases ak_kinds hS2 with hk | ⟨-, r, hr⟩
          · cases ins with
            | invokevirtual idx => exact ab_xcal (vt := 0) (Or.inl rfl) hx hS2
            | invokestatic idx => exact ab_xcal (vt := 1) (Or.inr (Or.inl rfl)) hx hS2
            | invokespecial idx => exact ab_xcal (vt := 2) (Or.inr (Or.inr rfl)) hx hS2
            | _ => cases hk
          · cases hr
        dsimp only at h ⊢
        cases h1 : ak_go ab_X0 n cal (ak_en cal as) M1 with
        | none => rw [h1] at h; cases h
        | some q =>
          rw [h1] at h
          rw [ab_xgo n cal _ _ _ hc h1]
          obtain ⟨o, M2⟩ := q
          cases o with
          | inl v => exact ab_xgo n mi _ _ r hm h
          | inr E =>
            dsimp only at h ⊢
            split at h
            · rename_i hth
              rw [if_pos hth]
              split at h
              · rename_i hem
                rw [if_pos hem]
                exact h
              · rename_i hem
                rw [if_neg hem]
                cases ht : ak_h (am_H mi) (g.1 - 3) E with
                | none => rw [ht] at h; cases h
                | some t => rw [ht] at h; exact ab_xgo n mi _ _ r hm h
            · cases h
