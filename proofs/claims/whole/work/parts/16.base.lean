/-! the memory behind the constructors: kinds and references, by places -/
def kL : List (Nat × Nat) := [(100, 0), (101, 0), (3, 600), (102, 0), (1, 10), (103, 0), (1, 7), (1, 7), (1, 7), (1, 6), (1, 6), (1, 12), (1, 12), (104, 0), (1, 150), (1, 150), (105, 0), (1, 38), (1, 38), (1, 38), (1, 38), (106, 0), (1, 79), (106, 0), (1, 79), (107, 0), (1, 1264), (1, 4029), (1, 3), (108, 0), (1, 7), (1, 896), (1, 42), (1, 6), (109, 0), (4, 100), (1, 41), (110, 0), (103, 0), (1, 7), (1, 7), (1, 7), (1, 6), (1, 6), (1, 12), (1, 12), (104, 0), (1, 150), (1, 150), (111, 0), (1, 6), (111, 0), (1, 6), (112, 0), (1, 600), (1, 2), (1, 5), (1, 5), (5, 7), (1, 2), (1, 2), (1, 2), (1, 2), (1, 2), (1, 2), (1, 2), (5, 7), (1, 2), (1, 2), (1, 2), (1, 2), (1, 2), (1, 2), (1, 2), (5, 6), (1, 2), (1, 2), (1, 2), (1, 2), (1, 2), (1, 2), (5, 6), (1, 2), (1, 2), (1, 2), (1, 2), (1, 2), (1, 2), (5, 12), (1, 2), (1, 2), (1, 2), (1, 2), (1, 2), (1, 2), (1, 2), (1, 2), (1, 2), (1, 2), (1, 2), (1, 2), (5, 12), (1, 2), (1, 2), (1, 2), (1, 2), (1, 2), (1, 2), (1, 2), (1, 2), (1, 2), (1, 2), (1, 2), (1, 2), (5, 160), (1, 2), (1, 2), (1, 2), (1, 2), (1, 2), (1, 2), (1, 2), (1, 2), (1, 2), (1, 2), (1, 2), (1, 2), (1, 2), (1, 2), (1, 2), (1, 2), (1, 2), (1, 2), (1, 2), (1, 2), (1, 2), (1, 2), (1, 2), (1, 2), (1, 2), (1, 2), (1, 2), (1, 2), (1, 2), (1, 2), (1, 2), (1, 2), (1, 2), (1, 2), (1, 2), (1, 2), (1, 2), (1, 2), (1, 2), (1, 2), (1, 2), (1, 2), (1, 2), (1, 2), (1, 2), (1, 2), (1, 2), (1, 2), (1, 2), (1, 2), (1, 2), (1, 2), (1, 2), (1, 2), (1, 2), (1, 2), (1, 2), (1, 2), (1, 2), (1, 2), (1, 2), (1, 2), (1, 2), (1, 2), (1, 2), (1, 2), (1, 2), (1, 2), (1, 2), (1, 2), (1, 2), (1, 2), (1, 2), (1, 2), (1, 2), (1, 2), (1, 2), (1, 2), (1, 2), (1, 2), (1, 2), (1, 2), (1, 2), (1, 2), (1, 2), (1, 2), (1, 2), (1, 2), (1, 2), (1, 2), (1, 2), (1, 2), (1, 2), (1, 2), (1, 2), (1, 2), (1, 2), (1, 2), (1, 2), (1, 2), (1, 2), (1, 2), (1, 2), (1, 2), (1, 2), (1, 2), (1, 2), (1, 2), (1, 2), (1, 2), (1, 2), (1, 2), (1, 2), (1, 2), (1, 2), (1, 2), (1, 2), (1, 2), (1, 2), (1, 2), (1, 2), (1, 2), (1, 2), (1, 2), (1, 2), (1, 2), (1, 2), (1, 2), (1, 2), (1, 2), (1, 2), (1, 2), (1, 2), (1, 2), (1, 2), (1, 2), (1, 2), (1, 2), (1, 2), (1, 2), (1, 2), (1, 2), (1, 2), (1, 2), (1, 2), (1, 2), (1, 2), (1, 2), (1, 2), (1, 2), (1, 2), (1, 2), (1, 2), (1, 2), (1, 2), (1, 2), (1, 2), (1, 2), (1, 2), (1, 2), (5, 160), (1, 2), (1, 2), (1, 2), (1, 2), (1, 2), (1, 2), (1, 2), (1, 2), (1, 2), (1, 2), (1, 2), (1, 2), (1, 2), (1, 2), (1, 2), (1, 2), (1, 2), (1, 2), (1, 2), (1, 2), (1, 2), (1, 2), (1, 2), (1, 2), (1, 2), (1, 2), (1, 2), (1, 2), (1, 2), (1, 2), (1, 2), (1, 2), (1, 2), (1, 2), (1, 2), (1, 2), (1, 2), (1, 2), (1, 2), (1, 2), (1, 2), (1, 2), (1, 2), (1, 2), (1, 2), (1, 2), (1, 2), (1, 2), (1, 2), (1, 2), (1, 2), (1, 2), (1, 2), (1, 2), (1, 2), (1, 2), (1, 2), (1, 2), (1, 2), (1, 2), (1, 2), (1, 2), (1, 2), (1, 2), (1, 2), (1, 2), (1, 2), (1, 2), (1, 2), (1, 2), (1, 2), (1, 2), (1, 2), (1, 2), (1, 2), (1, 2), (1, 2), (1, 2), (1, 2), (1, 2), (1, 2), (1, 2), (1, 2), (1, 2), (1, 2), (1, 2), (1, 2), (1, 2), (1, 2), (1, 2), (1, 2), (1, 2), (1, 2), (1, 2), (1, 2), (1, 2), (1, 2), (1, 2), (1, 2), (1, 2), (1, 2), (1, 2), (1, 2), (1, 2), (1, 2), (1, 2), (1, 2), (1, 2), (1, 2), (1, 2), (1, 2), (1, 2), (1, 2), (1, 2), (1, 2), (1, 2), (1, 2), (1, 2), (1, 2), (1, 2), (1, 2), (1, 2), (1, 2), (1, 2), (1, 2), (1, 2), (1, 2), (1, 2), (1, 2), (1, 2), (1, 2), (1, 2), (1, 2), (1, 2), (1, 2), (1, 2), (1, 2), (1, 2), (1, 2), (1, 2), (1, 2), (1, 2), (1, 2), (1, 2), (1, 2), (1, 2), (1, 2), (1, 2), (1, 2), (1, 2), (1, 2), (1, 2), (1, 2), (1, 2), (1, 2), (1, 2), (1, 2), (1, 2), (1, 2), (1, 2), (5, 6), (1, 2), (1, 2), (1, 2), (1, 2), (1, 2), (1, 2), (5, 6), (1, 2), (1, 2), (1, 2), (1, 2), (1, 2), (1, 2), (1, 160), (1, 10), (5, 80), (1, 4), (1, 4), (1, 4), (1, 4), (1, 4), (1, 4), (1, 4), (1, 4), (1, 4), (1, 4), (1, 4), (1, 4), (1, 4), (1, 4), (1, 4), (1, 4), (1, 4), (1, 4), (1, 4), (1, 4), (1, 4), (1, 4), (1, 4), (1, 4), (1, 4), (1, 4), (1, 4), (1, 4), (1, 4), (1, 4), (1, 4), (1, 4), (1, 4), (1, 4), (1, 4), (1, 4), (1, 4), (1, 4), (1, 4), (1, 4), (1, 4), (1, 4), (1, 4), (1, 4), (1, 4), (1, 4), (1, 4), (1, 4), (1, 4), (1, 4), (1, 4), (1, 4), (1, 4), (1, 4), (1, 4), (1, 4), (1, 4), (1, 4), (1, 4), (1, 4), (1, 4), (1, 4), (1, 4), (1, 4), (1, 4), (1, 4), (1, 4), (1, 4), (1, 4), (1, 4), (1, 4), (1, 4), (1, 4), (1, 4), (1, 4), (1, 4), (1, 4), (1, 4), (1, 4), (1, 4), (1, 79), (1, 79), (5, 16), (1, 79), (1, 79), (1, 79), (1, 79), (1, 79), (1, 79), (1, 79), (1, 79), (1, 79), (1, 79), (1, 79), (1, 79), (1, 79), (1, 79), (1, 79), (1, 79), (5, 3), (1, 1344), (1, 1344), (1, 1344), (1, 6), (1, 6), (1, 41), (2, 14), (2, 1)]
def rL : List (List (Option Nat)) := [[some 1, some 3, some 16, some 21, some 23, some 25, some 29, some 34, some 37], [some 2], [], [some 4, none, none], [], [some 6, some 7, some 8, some 9, some 10, some 11, some 12], [], [], [], [], [], [], [], [some 14, some 15], [], [], [some 17, some 18, some 19, some 20], [], [], [], [], [some 22], [], [some 24], [], [some 26, some 27, some 28], [], [], [], [some 30, some 31, some 32, some 33], [], [], [], [], [some 35, some 36], [], [], [], [some 39, some 40, some 41, some 42, some 43, some 44, some 45], [], [], [], [], [], [], [], [some 47, some 48], [], [], [some 50], [], [some 52], [], [none, none, none, none, none, none, none, none, none, some 54, some 55, some 56, some 57, some 58, some 66, some 74, some 81, some 88, some 101, none, none, some 114, some 275, some 436, some 443, some 450, some 451, some 452, none, some 533, some 534, some 535, some 552, none, none, none, none, none, none, none, some 556, some 557, none, some 558, some 559, none], [], [], [], [], [some 59, some 60, some 61, some 62, some 63, some 64, some 65], [], [], [], [], [], [], [], [some 67, some 68, some 69, some 70, some 71, some 72, some 73], [], [], [], [], [], [], [], [some 75, some 76, some 77, some 78, some 79, some 80], [], [], [], [], [], [], [some 82, some 83, some 84, some 85, some 86, some 87], [], [], [], [], [], [], [some 89, some 90, some 91, some 92, some 93, some 94, some 95, some 96, some 97, some 98, some 99, some 100], [], [], [], [], [], [], [], [], [], [], [], [], [some 102, some 103, some 104, some 105, some 106, some 107, some 108, some 109, some 110, some 111, some 112, some 113], [], [], [], [], [], [], [], [], [], [], [], [], [some 115, some 116, some 117, some 118, some 119, some 120, some 121, some 122, some 123, some 124, some 125, some 126, some 127, some 128, some 129, some 130, some 131, some 132, some 133, some 134, some 135, some 136, some 137, some 138, some 139, some 140, some 141, some 142, some 143, some 144, some 145, some 146, some 147, some 148, some 149, some 150, some 151, some 152, some 153, some 154, some 155, some 156, some 157, some 158, some 159, some 160, some 161, some 162, some 163, some 164, some 165, some 166, some 167, some 168, some 169, some 170, some 171, some 172, some 173, some 174, some 175, some 176, some 177, some 178, some 179, some 180, some 181, some 182, some 183, some 184, some 185, some 186, some 187, some 188, some 189, some 190, some 191, some 192, some 193, some 194, some 195, some 196, some 197, some 198, some 199, some 200, some 201, some 202, some 203, some 204, some 205, some 206, some 207, some 208, some 209, some 210, some 211, some 212, some 213, some 214, some 215, some 216, some 217, some 218, some 219, some 220, some 221, some 222, some 223, some 224, some 225, some 226, some 227, some 228, some 229, some 230, some 231, some 232, some 233, some 234, some 235, some 236, some 237, some 238, some 239, some 240, some 241, some 242, some 243, some 244, some 245, some 246, some 247, some 248, some 249, some 250, some 251, some 252, some 253, some 254, some 255, some 256, some 257, some 258, some 259, some 260, some 261, some 262, some 263, some 264, some 265, some 266, some 267, some 268, some 269, some 270, some 271, some 272, some 273, some 274], [], [], [], [], [], [], [], [], [], [], [], [], [], [], [], [], [], [], [], [], [], [], [], [], [], [], [], [], [], [], [], [], [], [], [], [], [], [], [], [], [], [], [], [], [], [], [], [], [], [], [], [], [], [], [], [], [], [], [], [], [], [], [], [], [], [], [], [], [], [], [], [], [], [], [], [], [], [], [], [], [], [], [], [], [], [], [], [], [], [], [], [], [], [], [], [], [], [], [], [], [], [], [], [], [], [], [], [], [], [], [], [], [], [], [], [], [], [], [], [], [], [], [], [], [], [], [], [], [], [], [], [], [], [], [], [], [], [], [], [], [], [], [], [], [], [], [], [], [], [], [], [], [], [], [], [], [], [], [], [], [some 276, some 277, some 278, some 279, some 280, some 281, some 282, some 283, some 284, some 285, some 286, some 287, some 288, some 289, some 290, some 291, some 292, some 293, some 294, some 295, some 296, some 297, some 298, some 299, some 300, some 301, some 302, some 303, some 304, some 305, some 306, some 307, some 308, some 309, some 310, some 311, some 312, some 313, some 314, some 315, some 316, some 317, some 318, some 319, some 320, some 321, some 322, some 323, some 324, some 325, some 326, some 327, some 328, some 329, some 330, some 331, some 332, some 333, some 334, some 335, some 336, some 337, some 338, some 339, some 340, some 341, some 342, some 343, some 344, some 345, some 346, some 347, some 348, some 349, some 350, some 351, some 352, some 353, some 354, some 355, some 356, some 357, some 358, some 359, some 360, some 361, some 362, some 363, some 364, some 365, some 366, some 367, some 368, some 369, some 370, some 371, some 372, some 373, some 374, some 375, some 376, some 377, some 378, some 379, some 380, some 381, some 382, some 383, some 384, some 385, some 386, some 387, some 388, some 389, some 390, some 391, some 392, some 393, some 394, some 395, some 396, some 397, some 398, some 399, some 400, some 401, some 402, some 403, some 404, some 405, some 406, some 407, some 408, some 409, some 410, some 411, some 412, some 413, some 414, some 415, some 416, some 417, some 418, some 419, some 420, some 421, some 422, some 423, some 424, some 425, some 426, some 427, some 428, some 429, some 430, some 431, some 432, some 433, some 434, some 435], [], [], [], [], [], [], [], [], [], [], [], [], [], [], [], [], [], [], [], [], [], [], [], [], [], [], [], [], [], [], [], [], [], [], [], [], [], [], [], [], [], [], [], [], [], [], [], [], [], [], [], [], [], [], [], [], [], [], [], [], [], [], [], [], [], [], [], [], [], [], [], [], [], [], [], [], [], [], [], [], [], [], [], [], [], [], [], [], [], [], [], [], [], [], [], [], [], [], [], [], [], [], [], [], [], [], [], [], [], [], [], [], [], [], [], [], [], [], [], [], [], [], [], [], [], [], [], [], [], [], [], [], [], [], [], [], [], [], [], [], [], [], [], [], [], [], [], [], [], [], [], [], [], [], [], [], [], [], [], [], [some 437, some 438, some 439, some 440, some 441, some 442], [], [], [], [], [], [], [some 444, some 445, some 446, some 447, some 448, some 449], [], [], [], [], [], [], [], [], [some 453, some 454, some 455, some 456, some 457, some 458, some 459, some 460, some 461, some 462, some 463, some 464, some 465, some 466, some 467, some 468, some 469, some 470, some 471, some 472, some 473, some 474, some 475, some 476, some 477, some 478, some 479, some 480, some 481, some 482, some 483, some 484, some 485, some 486, some 487, some 488, some 489, some 490, some 491, some 492, some 493, some 494, some 495, some 496, some 497, some 498, some 499, some 500, some 501, some 502, some 503, some 504, some 505, some 506, some 507, some 508, some 509, some 510, some 511, some 512, some 513, some 514, some 515, some 516, some 517, some 518, some 519, some 520, some 521, some 522, some 523, some 524, some 525, some 526, some 527, some 528, some 529, some 530, some 531, some 532], [], [], [], [], [], [], [], [], [], [], [], [], [], [], [], [], [], [], [], [], [], [], [], [], [], [], [], [], [], [], [], [], [], [], [], [], [], [], [], [], [], [], [], [], [], [], [], [], [], [], [], [], [], [], [], [], [], [], [], [], [], [], [], [], [], [], [], [], [], [], [], [], [], [], [], [], [], [], [], [], [], [], [some 536, some 537, some 538, some 539, some 540, some 541, some 542, some 543, some 544, some 545, some 546, some 547, some 548, some 549, some 550, some 551], [], [], [], [], [], [], [], [], [], [], [], [], [], [], [], [], [some 553, some 554, some 555], [], [], [], [], [], [], [], []]
def ldA (σ : mm_M) : Nat := (mR σ 3 1).getD 0
def lwA (σ : mm_M) : Nat := (mR σ 3 2).getD 0
def bkA (σ : mm_M) : Nat := (mR σ 0 11).getD 0
def isLd (a : Nat) : Prop := a = 5 ∨ a = 38
def isLw (a : Nat) : Prop := a = 13 ∨ a = 46
def isBk (a : Nat) : Prop := a = 49 ∨ a = 51
def isDa (a : Nat) : Prop := a = 21 ∨ a = 23
def isRw (a : Nat) : Prop := a = 533 ∨ a = 534
def rr (a i : Nat) : Option Nat := (rL.getD a []).getD i none
/-- the shape: kinds, references; scene.land is at ldA, scene.law at lwA, book at bkA; the other one of each is spare; the still part -/
def Sh (σ : mm_M) : Prop := (∀ a, a < 561 → mK σ a = kL.getD a (0, 0)) ∧ (∀ a i v, rr a i = some v → mR σ a i = some v) ∧
  (mR σ 3 1 = some (ldA σ) ∧ mR σ 3 2 = some (lwA σ) ∧ mR σ 0 9 = some (43 - ldA σ) ∧ mR σ 0 10 = some (59 - lwA σ) ∧ mR σ 0 11 = some (bkA σ) ∧ mR σ 0 12 = some (100 - bkA σ)) ∧
  mN σ = 561 ∧ isLd (ldA σ) ∧ isLw (lwA σ) ∧ isBk (bkA σ) ∧ (∀ a, 1000001 ≤ a → a < 1000010 → mK σ a = k0 0 a ∧ mR σ a = r0 a)
/-- what the still part holds -/
def Stl (σ : mm_M) : Prop := ∀ a, 1000001 ≤ a → a < 1000010 → mI σ a = i0 (fun _ => 0) a
section KF
variable {σ : mm_M}
theorem Sh.k (h : Sh σ) {a : Nat} {q : Nat × Nat} (e : a < 561 ∧ kL.getD a (0, 0) = q) : mK σ a = q := (h.1 a e.1).trans e.2
theorem Sh.r (h : Sh σ) {a i v : Nat} (e : rr a i = some v) : mR σ a i = some v := h.2.1 a i v e
theorem Sh.ld (h : Sh σ) : isLd (ldA σ) := h.2.2.2.2.1
theorem Sh.lw (h : Sh σ) : isLw (lwA σ) := h.2.2.2.2.2.1
theorem Sh.bk (h : Sh σ) : isBk (bkA σ) := h.2.2.2.2.2.2.1
theorem Sh_wI (a i : Nat) (v : Int32) : Sh (wI σ a i v) = Sh σ := rfl
theorem Sh_wA (a : Nat) (f : Nat → Int32) : Sh (wA σ a f) = Sh σ := rfl
theorem Sh_wL (a i : Nat) (v : Int64) : Sh (wL σ a i v) = Sh σ := rfl
theorem Sh_mT : Sh (mT σ) = Sh σ := rfl
theorem ldA_wI (a i : Nat) (v : Int32) : ldA (wI σ a i v) = ldA σ := rfl
theorem lwA_wI (a i : Nat) (v : Int32) : lwA (wI σ a i v) = lwA σ := rfl
theorem bkA_wI (a i : Nat) (v : Int32) : bkA (wI σ a i v) = bkA σ := rfl
theorem ldA_wA (a : Nat) (f : Nat → Int32) : ldA (wA σ a f) = ldA σ := rfl
theorem lwA_wA (a : Nat) (f : Nat → Int32) : lwA (wA σ a f) = lwA σ := rfl
theorem bkA_wA (a : Nat) (f : Nat → Int32) : bkA (wA σ a f) = bkA σ := rfl
theorem rI_w (a i : Nat) (v : Int32) (b j : Nat) : mI (wI σ a i v) b j = if b = a ∧ j = i then v else mI σ b j := rfl
theorem rI_A (a : Nat) (f : Nat → Int32) (b j : Nat) : mI (wA σ a f) b j = if b = a then f j else mI σ b j := rfl
theorem rI_o {a i : Nat} {v : Int32} {b : Nat} (h : b ≠ a) : mI (wI σ a i v) b = mI σ b := by
  funext j
  show (if b = a ∧ j = i then v else mI σ b j) = _
  rw [if_neg (fun q => h q.1)]
theorem mK_w (a i : Nat) (v : Int32) : mK (wI σ a i v) = mK σ := rfl
theorem mK_A (a : Nat) (f : Nat → Int32) : mK (wA σ a f) = mK σ := rfl
theorem k_0 (h : Sh σ) : mK σ 0 = (100, 0) := h.k (by decide +kernel)
theorem k_1 (h : Sh σ) : mK σ 1 = (101, 0) := h.k (by decide +kernel)
theorem k_2 (h : Sh σ) : mK σ 2 = (3, 600) := h.k (by decide +kernel)
theorem k_3 (h : Sh σ) : mK σ 3 = (102, 0) := h.k (by decide +kernel)
theorem k_4 (h : Sh σ) : mK σ 4 = (1, 10) := h.k (by decide +kernel)
theorem k_5 (h : Sh σ) : mK σ 5 = (103, 0) := h.k (by decide +kernel)
theorem k_6 (h : Sh σ) : mK σ 6 = (1, 7) := h.k (by decide +kernel)
theorem k_7 (h : Sh σ) : mK σ 7 = (1, 7) := h.k (by decide +kernel)
theorem k_8 (h : Sh σ) : mK σ 8 = (1, 7) := h.k (by decide +kernel)
theorem k_9 (h : Sh σ) : mK σ 9 = (1, 6) := h.k (by decide +kernel)
theorem k_10 (h : Sh σ) : mK σ 10 = (1, 6) := h.k (by decide +kernel)
theorem k_11 (h : Sh σ) : mK σ 11 = (1, 12) := h.k (by decide +kernel)
theorem k_12 (h : Sh σ) : mK σ 12 = (1, 12) := h.k (by decide +kernel)
theorem k_13 (h : Sh σ) : mK σ 13 = (104, 0) := h.k (by decide +kernel)
theorem k_14 (h : Sh σ) : mK σ 14 = (1, 150) := h.k (by decide +kernel)
theorem k_15 (h : Sh σ) : mK σ 15 = (1, 150) := h.k (by decide +kernel)
theorem k_16 (h : Sh σ) : mK σ 16 = (105, 0) := h.k (by decide +kernel)
theorem k_17 (h : Sh σ) : mK σ 17 = (1, 38) := h.k (by decide +kernel)
theorem k_18 (h : Sh σ) : mK σ 18 = (1, 38) := h.k (by decide +kernel)
theorem k_19 (h : Sh σ) : mK σ 19 = (1, 38) := h.k (by decide +kernel)
theorem k_20 (h : Sh σ) : mK σ 20 = (1, 38) := h.k (by decide +kernel)
theorem k_21 (h : Sh σ) : mK σ 21 = (106, 0) := h.k (by decide +kernel)
theorem k_22 (h : Sh σ) : mK σ 22 = (1, 79) := h.k (by decide +kernel)
theorem k_23 (h : Sh σ) : mK σ 23 = (106, 0) := h.k (by decide +kernel)
theorem k_24 (h : Sh σ) : mK σ 24 = (1, 79) := h.k (by decide +kernel)
theorem k_25 (h : Sh σ) : mK σ 25 = (107, 0) := h.k (by decide +kernel)
theorem k_26 (h : Sh σ) : mK σ 26 = (1, 1264) := h.k (by decide +kernel)
theorem k_27 (h : Sh σ) : mK σ 27 = (1, 4029) := h.k (by decide +kernel)
theorem k_28 (h : Sh σ) : mK σ 28 = (1, 3) := h.k (by decide +kernel)
theorem k_29 (h : Sh σ) : mK σ 29 = (108, 0) := h.k (by decide +kernel)
theorem k_30 (h : Sh σ) : mK σ 30 = (1, 7) := h.k (by decide +kernel)
theorem k_31 (h : Sh σ) : mK σ 31 = (1, 896) := h.k (by decide +kernel)
theorem k_32 (h : Sh σ) : mK σ 32 = (1, 42) := h.k (by decide +kernel)
theorem k_33 (h : Sh σ) : mK σ 33 = (1, 6) := h.k (by decide +kernel)
theorem k_34 (h : Sh σ) : mK σ 34 = (109, 0) := h.k (by decide +kernel)
theorem k_35 (h : Sh σ) : mK σ 35 = (4, 100) := h.k (by decide +kernel)
theorem k_36 (h : Sh σ) : mK σ 36 = (1, 41) := h.k (by decide +kernel)
theorem k_37 (h : Sh σ) : mK σ 37 = (110, 0) := h.k (by decide +kernel)
theorem k_38 (h : Sh σ) : mK σ 38 = (103, 0) := h.k (by decide +kernel)
theorem k_39 (h : Sh σ) : mK σ 39 = (1, 7) := h.k (by decide +kernel)
theorem k_40 (h : Sh σ) : mK σ 40 = (1, 7) := h.k (by decide +kernel)
theorem k_41 (h : Sh σ) : mK σ 41 = (1, 7) := h.k (by decide +kernel)
theorem k_42 (h : Sh σ) : mK σ 42 = (1, 6) := h.k (by decide +kernel)
theorem k_43 (h : Sh σ) : mK σ 43 = (1, 6) := h.k (by decide +kernel)
theorem k_44 (h : Sh σ) : mK σ 44 = (1, 12) := h.k (by decide +kernel)
theorem k_45 (h : Sh σ) : mK σ 45 = (1, 12) := h.k (by decide +kernel)
theorem k_46 (h : Sh σ) : mK σ 46 = (104, 0) := h.k (by decide +kernel)
theorem k_47 (h : Sh σ) : mK σ 47 = (1, 150) := h.k (by decide +kernel)
theorem k_48 (h : Sh σ) : mK σ 48 = (1, 150) := h.k (by decide +kernel)
theorem k_49 (h : Sh σ) : mK σ 49 = (111, 0) := h.k (by decide +kernel)
theorem k_50 (h : Sh σ) : mK σ 50 = (1, 6) := h.k (by decide +kernel)
theorem k_51 (h : Sh σ) : mK σ 51 = (111, 0) := h.k (by decide +kernel)
theorem k_52 (h : Sh σ) : mK σ 52 = (1, 6) := h.k (by decide +kernel)
theorem k_53 (h : Sh σ) : mK σ 53 = (112, 0) := h.k (by decide +kernel)
theorem k_54 (h : Sh σ) : mK σ 54 = (1, 600) := h.k (by decide +kernel)
theorem k_55 (h : Sh σ) : mK σ 55 = (1, 2) := h.k (by decide +kernel)
theorem k_56 (h : Sh σ) : mK σ 56 = (1, 5) := h.k (by decide +kernel)
theorem k_57 (h : Sh σ) : mK σ 57 = (1, 5) := h.k (by decide +kernel)
theorem k_58 (h : Sh σ) : mK σ 58 = (5, 7) := h.k (by decide +kernel)
theorem k_66 (h : Sh σ) : mK σ 66 = (5, 7) := h.k (by decide +kernel)
theorem k_74 (h : Sh σ) : mK σ 74 = (5, 6) := h.k (by decide +kernel)
theorem k_81 (h : Sh σ) : mK σ 81 = (5, 6) := h.k (by decide +kernel)
theorem k_88 (h : Sh σ) : mK σ 88 = (5, 12) := h.k (by decide +kernel)
theorem k_101 (h : Sh σ) : mK σ 101 = (5, 12) := h.k (by decide +kernel)
theorem k_114 (h : Sh σ) : mK σ 114 = (5, 160) := h.k (by decide +kernel)
theorem k_275 (h : Sh σ) : mK σ 275 = (5, 160) := h.k (by decide +kernel)
theorem k_436 (h : Sh σ) : mK σ 436 = (5, 6) := h.k (by decide +kernel)
theorem k_443 (h : Sh σ) : mK σ 443 = (5, 6) := h.k (by decide +kernel)
theorem k_450 (h : Sh σ) : mK σ 450 = (1, 160) := h.k (by decide +kernel)
theorem k_451 (h : Sh σ) : mK σ 451 = (1, 10) := h.k (by decide +kernel)
theorem k_452 (h : Sh σ) : mK σ 452 = (5, 80) := h.k (by decide +kernel)
theorem k_533 (h : Sh σ) : mK σ 533 = (1, 79) := h.k (by decide +kernel)
theorem k_534 (h : Sh σ) : mK σ 534 = (1, 79) := h.k (by decide +kernel)
theorem k_535 (h : Sh σ) : mK σ 535 = (5, 16) := h.k (by decide +kernel)
theorem k_552 (h : Sh σ) : mK σ 552 = (5, 3) := h.k (by decide +kernel)
theorem k_556 (h : Sh σ) : mK σ 556 = (1, 6) := h.k (by decide +kernel)
theorem k_557 (h : Sh σ) : mK σ 557 = (1, 6) := h.k (by decide +kernel)
theorem k_558 (h : Sh σ) : mK σ 558 = (1, 41) := h.k (by decide +kernel)
theorem k_559 (h : Sh σ) : mK σ 559 = (2, 14) := h.k (by decide +kernel)
theorem k_560 (h : Sh σ) : mK σ 560 = (2, 1) := h.k (by decide +kernel)
theorem k_r58 (h : Sh σ) {p : Nat} (hp : p < 7) : mK σ (59 + p) = (1, 2) := h.k ((show ∀ p, p < 7 → (59 + p < 561 ∧ kL.getD (59 + p) (0, 0) = (1, 2)) by decide +kernel) p hp)
theorem k_r66 (h : Sh σ) {p : Nat} (hp : p < 7) : mK σ (67 + p) = (1, 2) := h.k ((show ∀ p, p < 7 → (67 + p < 561 ∧ kL.getD (67 + p) (0, 0) = (1, 2)) by decide +kernel) p hp)
theorem k_r74 (h : Sh σ) {p : Nat} (hp : p < 6) : mK σ (75 + p) = (1, 2) := h.k ((show ∀ p, p < 6 → (75 + p < 561 ∧ kL.getD (75 + p) (0, 0) = (1, 2)) by decide +kernel) p hp)
theorem k_r81 (h : Sh σ) {p : Nat} (hp : p < 6) : mK σ (82 + p) = (1, 2) := h.k ((show ∀ p, p < 6 → (82 + p < 561 ∧ kL.getD (82 + p) (0, 0) = (1, 2)) by decide +kernel) p hp)
theorem k_r88 (h : Sh σ) {p : Nat} (hp : p < 12) : mK σ (89 + p) = (1, 2) := h.k ((show ∀ p, p < 12 → (89 + p < 561 ∧ kL.getD (89 + p) (0, 0) = (1, 2)) by decide +kernel) p hp)
theorem k_r101 (h : Sh σ) {p : Nat} (hp : p < 12) : mK σ (102 + p) = (1, 2) := h.k ((show ∀ p, p < 12 → (102 + p < 561 ∧ kL.getD (102 + p) (0, 0) = (1, 2)) by decide +kernel) p hp)
theorem k_r114 (h : Sh σ) {p : Nat} (hp : p < 160) : mK σ (115 + p) = (1, 2) := h.k ((show ∀ p, p < 160 → (115 + p < 561 ∧ kL.getD (115 + p) (0, 0) = (1, 2)) by decide +kernel) p hp)
theorem k_r275 (h : Sh σ) {p : Nat} (hp : p < 160) : mK σ (276 + p) = (1, 2) := h.k ((show ∀ p, p < 160 → (276 + p < 561 ∧ kL.getD (276 + p) (0, 0) = (1, 2)) by decide +kernel) p hp)
theorem k_r436 (h : Sh σ) {p : Nat} (hp : p < 6) : mK σ (437 + p) = (1, 2) := h.k ((show ∀ p, p < 6 → (437 + p < 561 ∧ kL.getD (437 + p) (0, 0) = (1, 2)) by decide +kernel) p hp)
theorem k_r443 (h : Sh σ) {p : Nat} (hp : p < 6) : mK σ (444 + p) = (1, 2) := h.k ((show ∀ p, p < 6 → (444 + p < 561 ∧ kL.getD (444 + p) (0, 0) = (1, 2)) by decide +kernel) p hp)
theorem k_r452 (h : Sh σ) {p : Nat} (hp : p < 80) : mK σ (453 + p) = (1, 4) := h.k ((show ∀ p, p < 80 → (453 + p < 561 ∧ kL.getD (453 + p) (0, 0) = (1, 4)) by decide +kernel) p hp)
theorem k_r535 (h : Sh σ) {p : Nat} (hp : p < 16) : mK σ (536 + p) = (1, 79) := h.k ((show ∀ p, p < 16 → (536 + p < 561 ∧ kL.getD (536 + p) (0, 0) = (1, 79)) by decide +kernel) p hp)
theorem k_r552 (h : Sh σ) {p : Nat} (hp : p < 3) : mK σ (553 + p) = (1, 1344) := h.k ((show ∀ p, p < 3 → (553 + p < 561 ∧ kL.getD (553 + p) (0, 0) = (1, 1344)) by decide +kernel) p hp)
theorem k_ld0 (h : Sh σ) {a : Nat} (e : isLd a) : mK σ a = (103, 0) := by
  rcases e with rfl | rfl
  · exact k_5 h
  · exact k_38 h
theorem k_ld1 (h : Sh σ) {a : Nat} (e : isLd a) : mK σ (a + 1) = (1, 7) := by
  rcases e with rfl | rfl
  · exact k_6 h
  · exact k_39 h
theorem k_ld2 (h : Sh σ) {a : Nat} (e : isLd a) : mK σ (a + 2) = (1, 7) := by
  rcases e with rfl | rfl
  · exact k_7 h
  · exact k_40 h
theorem k_ld3 (h : Sh σ) {a : Nat} (e : isLd a) : mK σ (a + 3) = (1, 7) := by
  rcases e with rfl | rfl
  · exact k_8 h
  · exact k_41 h
theorem k_ld4 (h : Sh σ) {a : Nat} (e : isLd a) : mK σ (a + 4) = (1, 6) := by
  rcases e with rfl | rfl
  · exact k_9 h
  · exact k_42 h
theorem k_ld5 (h : Sh σ) {a : Nat} (e : isLd a) : mK σ (a + 5) = (1, 6) := by
  rcases e with rfl | rfl
  · exact k_10 h
  · exact k_43 h
theorem k_ld6 (h : Sh σ) {a : Nat} (e : isLd a) : mK σ (a + 6) = (1, 12) := by
  rcases e with rfl | rfl
  · exact k_11 h
  · exact k_44 h
theorem k_ld7 (h : Sh σ) {a : Nat} (e : isLd a) : mK σ (a + 7) = (1, 12) := by
  rcases e with rfl | rfl
  · exact k_12 h
  · exact k_45 h
theorem k_lw0 (h : Sh σ) {a : Nat} (e : isLw a) : mK σ a = (104, 0) := by
  rcases e with rfl | rfl
  · exact k_13 h
  · exact k_46 h
theorem k_lw1 (h : Sh σ) {a : Nat} (e : isLw a) : mK σ (a + 1) = (1, 150) := by
  rcases e with rfl | rfl
  · exact k_14 h
  · exact k_47 h
theorem k_lw2 (h : Sh σ) {a : Nat} (e : isLw a) : mK σ (a + 2) = (1, 150) := by
  rcases e with rfl | rfl
  · exact k_15 h
  · exact k_48 h
theorem k_bk0 (h : Sh σ) {a : Nat} (e : isBk a) : mK σ a = (111, 0) := by
  rcases e with rfl | rfl
  · exact k_49 h
  · exact k_51 h
theorem k_bk1 (h : Sh σ) {a : Nat} (e : isBk a) : mK σ (a + 1) = (1, 6) := by
  rcases e with rfl | rfl
  · exact k_50 h
  · exact k_52 h
theorem k_da0 (h : Sh σ) {a : Nat} (e : isDa a) : mK σ a = (106, 0) := by
  rcases e with rfl | rfl
  · exact k_21 h
  · exact k_23 h
theorem k_da1 (h : Sh σ) {a : Nat} (e : isDa a) : mK σ (a + 1) = (1, 79) := by
  rcases e with rfl | rfl
  · exact k_22 h
  · exact k_24 h
theorem k_rw0 (h : Sh σ) {a : Nat} (e : isRw a) : mK σ a = (1, 79) := by
  rcases e with rfl | rfl
  · exact k_533 h
  · exact k_534 h
theorem r_0_0 (h : Sh σ) : mR σ 0 0 = some 1 := h.r (by decide +kernel)
theorem r_0_1 (h : Sh σ) : mR σ 0 1 = some 3 := h.r (by decide +kernel)
theorem r_0_2 (h : Sh σ) : mR σ 0 2 = some 16 := h.r (by decide +kernel)
theorem r_0_3 (h : Sh σ) : mR σ 0 3 = some 21 := h.r (by decide +kernel)
theorem r_0_4 (h : Sh σ) : mR σ 0 4 = some 23 := h.r (by decide +kernel)
theorem r_0_5 (h : Sh σ) : mR σ 0 5 = some 25 := h.r (by decide +kernel)
theorem r_0_6 (h : Sh σ) : mR σ 0 6 = some 29 := h.r (by decide +kernel)
theorem r_0_7 (h : Sh σ) : mR σ 0 7 = some 34 := h.r (by decide +kernel)
theorem r_0_8 (h : Sh σ) : mR σ 0 8 = some 37 := h.r (by decide +kernel)
theorem r_1_0 (h : Sh σ) : mR σ 1 0 = some 2 := h.r (by decide +kernel)
theorem r_3_0 (h : Sh σ) : mR σ 3 0 = some 4 := h.r (by decide +kernel)
theorem r_5_0 (h : Sh σ) : mR σ 5 0 = some 6 := h.r (by decide +kernel)
theorem r_5_1 (h : Sh σ) : mR σ 5 1 = some 7 := h.r (by decide +kernel)
theorem r_5_2 (h : Sh σ) : mR σ 5 2 = some 8 := h.r (by decide +kernel)
theorem r_5_3 (h : Sh σ) : mR σ 5 3 = some 9 := h.r (by decide +kernel)
theorem r_5_4 (h : Sh σ) : mR σ 5 4 = some 10 := h.r (by decide +kernel)
theorem r_5_5 (h : Sh σ) : mR σ 5 5 = some 11 := h.r (by decide +kernel)
theorem r_5_6 (h : Sh σ) : mR σ 5 6 = some 12 := h.r (by decide +kernel)
theorem r_13_0 (h : Sh σ) : mR σ 13 0 = some 14 := h.r (by decide +kernel)
theorem r_13_1 (h : Sh σ) : mR σ 13 1 = some 15 := h.r (by decide +kernel)
theorem r_16_0 (h : Sh σ) : mR σ 16 0 = some 17 := h.r (by decide +kernel)
theorem r_16_1 (h : Sh σ) : mR σ 16 1 = some 18 := h.r (by decide +kernel)
theorem r_16_2 (h : Sh σ) : mR σ 16 2 = some 19 := h.r (by decide +kernel)
theorem r_16_3 (h : Sh σ) : mR σ 16 3 = some 20 := h.r (by decide +kernel)
theorem r_21_0 (h : Sh σ) : mR σ 21 0 = some 22 := h.r (by decide +kernel)
theorem r_23_0 (h : Sh σ) : mR σ 23 0 = some 24 := h.r (by decide +kernel)
theorem r_25_0 (h : Sh σ) : mR σ 25 0 = some 26 := h.r (by decide +kernel)
theorem r_25_1 (h : Sh σ) : mR σ 25 1 = some 27 := h.r (by decide +kernel)
theorem r_25_2 (h : Sh σ) : mR σ 25 2 = some 28 := h.r (by decide +kernel)
theorem r_29_0 (h : Sh σ) : mR σ 29 0 = some 30 := h.r (by decide +kernel)
theorem r_29_1 (h : Sh σ) : mR σ 29 1 = some 31 := h.r (by decide +kernel)
theorem r_29_2 (h : Sh σ) : mR σ 29 2 = some 32 := h.r (by decide +kernel)
theorem r_29_3 (h : Sh σ) : mR σ 29 3 = some 33 := h.r (by decide +kernel)
theorem r_34_0 (h : Sh σ) : mR σ 34 0 = some 35 := h.r (by decide +kernel)
theorem r_34_1 (h : Sh σ) : mR σ 34 1 = some 36 := h.r (by decide +kernel)
theorem r_38_0 (h : Sh σ) : mR σ 38 0 = some 39 := h.r (by decide +kernel)
theorem r_38_1 (h : Sh σ) : mR σ 38 1 = some 40 := h.r (by decide +kernel)
theorem r_38_2 (h : Sh σ) : mR σ 38 2 = some 41 := h.r (by decide +kernel)
theorem r_38_3 (h : Sh σ) : mR σ 38 3 = some 42 := h.r (by decide +kernel)
theorem r_38_4 (h : Sh σ) : mR σ 38 4 = some 43 := h.r (by decide +kernel)
theorem r_38_5 (h : Sh σ) : mR σ 38 5 = some 44 := h.r (by decide +kernel)
theorem r_38_6 (h : Sh σ) : mR σ 38 6 = some 45 := h.r (by decide +kernel)
theorem r_46_0 (h : Sh σ) : mR σ 46 0 = some 47 := h.r (by decide +kernel)
theorem r_46_1 (h : Sh σ) : mR σ 46 1 = some 48 := h.r (by decide +kernel)
theorem r_49_0 (h : Sh σ) : mR σ 49 0 = some 50 := h.r (by decide +kernel)
theorem r_51_0 (h : Sh σ) : mR σ 51 0 = some 52 := h.r (by decide +kernel)
theorem r_53_9 (h : Sh σ) : mR σ 53 9 = some 54 := h.r (by decide +kernel)
theorem r_53_10 (h : Sh σ) : mR σ 53 10 = some 55 := h.r (by decide +kernel)
theorem r_53_11 (h : Sh σ) : mR σ 53 11 = some 56 := h.r (by decide +kernel)
theorem r_53_12 (h : Sh σ) : mR σ 53 12 = some 57 := h.r (by decide +kernel)
theorem r_53_13 (h : Sh σ) : mR σ 53 13 = some 58 := h.r (by decide +kernel)
theorem r_53_14 (h : Sh σ) : mR σ 53 14 = some 66 := h.r (by decide +kernel)
theorem r_53_15 (h : Sh σ) : mR σ 53 15 = some 74 := h.r (by decide +kernel)
theorem r_53_16 (h : Sh σ) : mR σ 53 16 = some 81 := h.r (by decide +kernel)
theorem r_53_17 (h : Sh σ) : mR σ 53 17 = some 88 := h.r (by decide +kernel)
theorem r_53_18 (h : Sh σ) : mR σ 53 18 = some 101 := h.r (by decide +kernel)
theorem r_53_21 (h : Sh σ) : mR σ 53 21 = some 114 := h.r (by decide +kernel)
theorem r_53_22 (h : Sh σ) : mR σ 53 22 = some 275 := h.r (by decide +kernel)
theorem r_53_23 (h : Sh σ) : mR σ 53 23 = some 436 := h.r (by decide +kernel)
theorem r_53_24 (h : Sh σ) : mR σ 53 24 = some 443 := h.r (by decide +kernel)
theorem r_53_25 (h : Sh σ) : mR σ 53 25 = some 450 := h.r (by decide +kernel)
theorem r_53_26 (h : Sh σ) : mR σ 53 26 = some 451 := h.r (by decide +kernel)
theorem r_53_27 (h : Sh σ) : mR σ 53 27 = some 452 := h.r (by decide +kernel)
theorem r_53_29 (h : Sh σ) : mR σ 53 29 = some 533 := h.r (by decide +kernel)
theorem r_53_30 (h : Sh σ) : mR σ 53 30 = some 534 := h.r (by decide +kernel)
theorem r_53_31 (h : Sh σ) : mR σ 53 31 = some 535 := h.r (by decide +kernel)
theorem r_53_32 (h : Sh σ) : mR σ 53 32 = some 552 := h.r (by decide +kernel)
theorem r_53_40 (h : Sh σ) : mR σ 53 40 = some 556 := h.r (by decide +kernel)
theorem r_53_41 (h : Sh σ) : mR σ 53 41 = some 557 := h.r (by decide +kernel)
theorem r_53_43 (h : Sh σ) : mR σ 53 43 = some 558 := h.r (by decide +kernel)
theorem r_53_44 (h : Sh σ) : mR σ 53 44 = some 559 := h.r (by decide +kernel)
theorem r_g58 (h : Sh σ) {p : Nat} (hp : p < 7) : mR σ 58 p = some (59 + p) := h.r ((show ∀ p, p < 7 → rr 58 p = some (59 + p) by decide +kernel) p hp)
theorem r_g66 (h : Sh σ) {p : Nat} (hp : p < 7) : mR σ 66 p = some (67 + p) := h.r ((show ∀ p, p < 7 → rr 66 p = some (67 + p) by decide +kernel) p hp)
theorem r_g74 (h : Sh σ) {p : Nat} (hp : p < 6) : mR σ 74 p = some (75 + p) := h.r ((show ∀ p, p < 6 → rr 74 p = some (75 + p) by decide +kernel) p hp)
theorem r_g81 (h : Sh σ) {p : Nat} (hp : p < 6) : mR σ 81 p = some (82 + p) := h.r ((show ∀ p, p < 6 → rr 81 p = some (82 + p) by decide +kernel) p hp)
theorem r_g88 (h : Sh σ) {p : Nat} (hp : p < 12) : mR σ 88 p = some (89 + p) := h.r ((show ∀ p, p < 12 → rr 88 p = some (89 + p) by decide +kernel) p hp)
theorem r_g101 (h : Sh σ) {p : Nat} (hp : p < 12) : mR σ 101 p = some (102 + p) := h.r ((show ∀ p, p < 12 → rr 101 p = some (102 + p) by decide +kernel) p hp)
theorem r_g114 (h : Sh σ) {p : Nat} (hp : p < 160) : mR σ 114 p = some (115 + p) := h.r ((show ∀ p, p < 160 → rr 114 p = some (115 + p) by decide +kernel) p hp)
theorem r_g275 (h : Sh σ) {p : Nat} (hp : p < 160) : mR σ 275 p = some (276 + p) := h.r ((show ∀ p, p < 160 → rr 275 p = some (276 + p) by decide +kernel) p hp)
theorem r_g436 (h : Sh σ) {p : Nat} (hp : p < 6) : mR σ 436 p = some (437 + p) := h.r ((show ∀ p, p < 6 → rr 436 p = some (437 + p) by decide +kernel) p hp)
theorem r_g443 (h : Sh σ) {p : Nat} (hp : p < 6) : mR σ 443 p = some (444 + p) := h.r ((show ∀ p, p < 6 → rr 443 p = some (444 + p) by decide +kernel) p hp)
theorem r_g452 (h : Sh σ) {p : Nat} (hp : p < 80) : mR σ 452 p = some (453 + p) := h.r ((show ∀ p, p < 80 → rr 452 p = some (453 + p) by decide +kernel) p hp)
theorem r_g535 (h : Sh σ) {p : Nat} (hp : p < 16) : mR σ 535 p = some (536 + p) := h.r ((show ∀ p, p < 16 → rr 535 p = some (536 + p) by decide +kernel) p hp)
theorem r_g552 (h : Sh σ) {p : Nat} (hp : p < 3) : mR σ 552 p = some (553 + p) := h.r ((show ∀ p, p < 3 → rr 552 p = some (553 + p) by decide +kernel) p hp)
theorem r_ld0 (h : Sh σ) {a : Nat} (e : isLd a) : mR σ a 0 = some (a + 1) := by
  rcases e with rfl | rfl
  · exact r_5_0 h
  · exact r_38_0 h
theorem r_ld1 (h : Sh σ) {a : Nat} (e : isLd a) : mR σ a 1 = some (a + 2) := by
  rcases e with rfl | rfl
  · exact r_5_1 h
  · exact r_38_1 h
theorem r_ld2 (h : Sh σ) {a : Nat} (e : isLd a) : mR σ a 2 = some (a + 3) := by
  rcases e with rfl | rfl
  · exact r_5_2 h
  · exact r_38_2 h
theorem r_ld3 (h : Sh σ) {a : Nat} (e : isLd a) : mR σ a 3 = some (a + 4) := by
  rcases e with rfl | rfl
  · exact r_5_3 h
  · exact r_38_3 h
theorem r_ld4 (h : Sh σ) {a : Nat} (e : isLd a) : mR σ a 4 = some (a + 5) := by
  rcases e with rfl | rfl
  · exact r_5_4 h
  · exact r_38_4 h
theorem r_ld5 (h : Sh σ) {a : Nat} (e : isLd a) : mR σ a 5 = some (a + 6) := by
  rcases e with rfl | rfl
  · exact r_5_5 h
  · exact r_38_5 h
theorem r_ld6 (h : Sh σ) {a : Nat} (e : isLd a) : mR σ a 6 = some (a + 7) := by
  rcases e with rfl | rfl
  · exact r_5_6 h
  · exact r_38_6 h
theorem r_lw0 (h : Sh σ) {a : Nat} (e : isLw a) : mR σ a 0 = some (a + 1) := by
  rcases e with rfl | rfl
  · exact r_13_0 h
  · exact r_46_0 h
theorem r_lw1 (h : Sh σ) {a : Nat} (e : isLw a) : mR σ a 1 = some (a + 2) := by
  rcases e with rfl | rfl
  · exact r_13_1 h
  · exact r_46_1 h
theorem r_bk0 (h : Sh σ) {a : Nat} (e : isBk a) : mR σ a 0 = some (a + 1) := by
  rcases e with rfl | rfl
  · exact r_49_0 h
  · exact r_51_0 h
theorem r_da0 (h : Sh σ) {a : Nat} (e : isDa a) : mR σ a 0 = some (a + 1) := by
  rcases e with rfl | rfl
  · exact r_21_0 h
  · exact r_23_0 h
theorem gI_k {c a : Nat} (h : (mK σ a).1 = 100 + c) (x : Nat) (k : Int32 → Option mm_R) : gI σ c a x k = k (mI σ a x) := if_pos h
theorem sI_k {c a : Nat} (h : (mK σ a).1 = 100 + c) (x : Nat) (v : Int32) (k : mm_M → Option mm_R) : sI σ c a x v k = k (wI σ a x v) := if_pos h
theorem gR_k {c a x r : Nat} (h : (mK σ a).1 = 100 + c) (e : mR σ a x = some r) (k : Nat → Option mm_R) : gR σ c a x k = k r := by unfold gR; rw [if_pos h, e]
theorem in_nI {p n : Nat} (h : p < n) (hn : n < 2147483648) : ¬ nI p < 0 ∧ (nI p).toNatClampNeg < n := by
  have hp : p < 2 ^ 31 := Nat.lt_trans h hn
  exact ⟨nI_pos hp, by rw [nI_clamp hp]; exact h⟩
theorem ix_nI {p : Nat} (h : p < 2147483648) : ix (nI p) = p := nI_clamp h
theorem aI_k {a p n : Nat} (h : mK σ a = (1, n)) (hp : p < n) (hn : n < 2147483648) (k : Int32 → Option mm_R) : aI σ a (nI p) k = k (mI σ a p) := by
  unfold aI
  rw [h, if_pos ⟨Or.inl rfl, in_nI hp hn⟩, ix_nI (Nat.lt_trans hp hn)]
theorem tI_k {a p n : Nat} (h : mK σ a = (1, n)) (hp : p < n) (hn : n < 2147483648) (v : Int32) (k : mm_M → Option mm_R) : tI σ a (nI p) v k = k (wI σ a p v) := by
  unfold tI
  rw [h, if_pos ⟨rfl, in_nI hp hn⟩, ix_nI (Nat.lt_trans hp hn)]
theorem aR_k {a p n r : Nat} (h : mK σ a = (5, n)) (hp : p < n) (hn : n < 2147483648) (e : mR σ a p = some r) (k : Nat → Option mm_R) : aR σ a (nI p) k = k r := by
  unfold aR
  rw [h, if_pos ⟨rfl, in_nI hp hn⟩, ix_nI (Nat.lt_trans hp hn), e]
theorem xg_0 (h : Sh σ) (x : Nat) (k : Int32 → Option mm_R) : gI σ 0 0 x k = k (mI σ 0 x) := gI_k (by rw [k_0 h]) x k
theorem xs_0 (h : Sh σ) (x : Nat) (v : Int32) (k : mm_M → Option mm_R) : sI σ 0 0 x v k = k (wI σ 0 x v) := sI_k (by rw [k_0 h]) x v k
theorem xg_1 (h : Sh σ) (x : Nat) (k : Int32 → Option mm_R) : gI σ 1 1 x k = k (mI σ 1 x) := gI_k (by rw [k_1 h]) x k
theorem xs_1 (h : Sh σ) (x : Nat) (v : Int32) (k : mm_M → Option mm_R) : sI σ 1 1 x v k = k (wI σ 1 x v) := sI_k (by rw [k_1 h]) x v k
theorem xg_3 (h : Sh σ) (x : Nat) (k : Int32 → Option mm_R) : gI σ 2 3 x k = k (mI σ 3 x) := gI_k (by rw [k_3 h]) x k
theorem xs_3 (h : Sh σ) (x : Nat) (v : Int32) (k : mm_M → Option mm_R) : sI σ 2 3 x v k = k (wI σ 3 x v) := sI_k (by rw [k_3 h]) x v k
theorem xa_4 (h : Sh σ) {p : Nat} (hp : p < 10) (k : Int32 → Option mm_R) : aI σ 4 (nI p) k = k (mI σ 4 p) := aI_k (k_4 h) hp (by decide) k
theorem xt_4 (h : Sh σ) {p : Nat} (hp : p < 10) (v : Int32) (k : mm_M → Option mm_R) : tI σ 4 (nI p) v k = k (wI σ 4 p v) := tI_k (k_4 h) hp (by decide) v k
theorem xg_5 (h : Sh σ) (x : Nat) (k : Int32 → Option mm_R) : gI σ 3 5 x k = k (mI σ 5 x) := gI_k (by rw [k_5 h]) x k
theorem xs_5 (h : Sh σ) (x : Nat) (v : Int32) (k : mm_M → Option mm_R) : sI σ 3 5 x v k = k (wI σ 5 x v) := sI_k (by rw [k_5 h]) x v k
theorem xa_6 (h : Sh σ) {p : Nat} (hp : p < 7) (k : Int32 → Option mm_R) : aI σ 6 (nI p) k = k (mI σ 6 p) := aI_k (k_6 h) hp (by decide) k
theorem xt_6 (h : Sh σ) {p : Nat} (hp : p < 7) (v : Int32) (k : mm_M → Option mm_R) : tI σ 6 (nI p) v k = k (wI σ 6 p v) := tI_k (k_6 h) hp (by decide) v k
theorem xa_7 (h : Sh σ) {p : Nat} (hp : p < 7) (k : Int32 → Option mm_R) : aI σ 7 (nI p) k = k (mI σ 7 p) := aI_k (k_7 h) hp (by decide) k
theorem xt_7 (h : Sh σ) {p : Nat} (hp : p < 7) (v : Int32) (k : mm_M → Option mm_R) : tI σ 7 (nI p) v k = k (wI σ 7 p v) := tI_k (k_7 h) hp (by decide) v k
theorem xa_8 (h : Sh σ) {p : Nat} (hp : p < 7) (k : Int32 → Option mm_R) : aI σ 8 (nI p) k = k (mI σ 8 p) := aI_k (k_8 h) hp (by decide) k
theorem xt_8 (h : Sh σ) {p : Nat} (hp : p < 7) (v : Int32) (k : mm_M → Option mm_R) : tI σ 8 (nI p) v k = k (wI σ 8 p v) := tI_k (k_8 h) hp (by decide) v k
theorem xa_9 (h : Sh σ) {p : Nat} (hp : p < 6) (k : Int32 → Option mm_R) : aI σ 9 (nI p) k = k (mI σ 9 p) := aI_k (k_9 h) hp (by decide) k
theorem xt_9 (h : Sh σ) {p : Nat} (hp : p < 6) (v : Int32) (k : mm_M → Option mm_R) : tI σ 9 (nI p) v k = k (wI σ 9 p v) := tI_k (k_9 h) hp (by decide) v k
theorem xa_10 (h : Sh σ) {p : Nat} (hp : p < 6) (k : Int32 → Option mm_R) : aI σ 10 (nI p) k = k (mI σ 10 p) := aI_k (k_10 h) hp (by decide) k
theorem xt_10 (h : Sh σ) {p : Nat} (hp : p < 6) (v : Int32) (k : mm_M → Option mm_R) : tI σ 10 (nI p) v k = k (wI σ 10 p v) := tI_k (k_10 h) hp (by decide) v k
theorem xa_11 (h : Sh σ) {p : Nat} (hp : p < 12) (k : Int32 → Option mm_R) : aI σ 11 (nI p) k = k (mI σ 11 p) := aI_k (k_11 h) hp (by decide) k
theorem xt_11 (h : Sh σ) {p : Nat} (hp : p < 12) (v : Int32) (k : mm_M → Option mm_R) : tI σ 11 (nI p) v k = k (wI σ 11 p v) := tI_k (k_11 h) hp (by decide) v k
theorem xa_12 (h : Sh σ) {p : Nat} (hp : p < 12) (k : Int32 → Option mm_R) : aI σ 12 (nI p) k = k (mI σ 12 p) := aI_k (k_12 h) hp (by decide) k
theorem xt_12 (h : Sh σ) {p : Nat} (hp : p < 12) (v : Int32) (k : mm_M → Option mm_R) : tI σ 12 (nI p) v k = k (wI σ 12 p v) := tI_k (k_12 h) hp (by decide) v k
theorem xg_13 (h : Sh σ) (x : Nat) (k : Int32 → Option mm_R) : gI σ 4 13 x k = k (mI σ 13 x) := gI_k (by rw [k_13 h]) x k
theorem xs_13 (h : Sh σ) (x : Nat) (v : Int32) (k : mm_M → Option mm_R) : sI σ 4 13 x v k = k (wI σ 13 x v) := sI_k (by rw [k_13 h]) x v k
theorem xa_14 (h : Sh σ) {p : Nat} (hp : p < 150) (k : Int32 → Option mm_R) : aI σ 14 (nI p) k = k (mI σ 14 p) := aI_k (k_14 h) hp (by decide) k
theorem xt_14 (h : Sh σ) {p : Nat} (hp : p < 150) (v : Int32) (k : mm_M → Option mm_R) : tI σ 14 (nI p) v k = k (wI σ 14 p v) := tI_k (k_14 h) hp (by decide) v k
theorem xa_15 (h : Sh σ) {p : Nat} (hp : p < 150) (k : Int32 → Option mm_R) : aI σ 15 (nI p) k = k (mI σ 15 p) := aI_k (k_15 h) hp (by decide) k
theorem xt_15 (h : Sh σ) {p : Nat} (hp : p < 150) (v : Int32) (k : mm_M → Option mm_R) : tI σ 15 (nI p) v k = k (wI σ 15 p v) := tI_k (k_15 h) hp (by decide) v k
theorem xg_16 (h : Sh σ) (x : Nat) (k : Int32 → Option mm_R) : gI σ 5 16 x k = k (mI σ 16 x) := gI_k (by rw [k_16 h]) x k
theorem xs_16 (h : Sh σ) (x : Nat) (v : Int32) (k : mm_M → Option mm_R) : sI σ 5 16 x v k = k (wI σ 16 x v) := sI_k (by rw [k_16 h]) x v k
theorem xa_17 (h : Sh σ) {p : Nat} (hp : p < 38) (k : Int32 → Option mm_R) : aI σ 17 (nI p) k = k (mI σ 17 p) := aI_k (k_17 h) hp (by decide) k
theorem xt_17 (h : Sh σ) {p : Nat} (hp : p < 38) (v : Int32) (k : mm_M → Option mm_R) : tI σ 17 (nI p) v k = k (wI σ 17 p v) := tI_k (k_17 h) hp (by decide) v k
theorem xa_18 (h : Sh σ) {p : Nat} (hp : p < 38) (k : Int32 → Option mm_R) : aI σ 18 (nI p) k = k (mI σ 18 p) := aI_k (k_18 h) hp (by decide) k
theorem xt_18 (h : Sh σ) {p : Nat} (hp : p < 38) (v : Int32) (k : mm_M → Option mm_R) : tI σ 18 (nI p) v k = k (wI σ 18 p v) := tI_k (k_18 h) hp (by decide) v k
theorem xa_19 (h : Sh σ) {p : Nat} (hp : p < 38) (k : Int32 → Option mm_R) : aI σ 19 (nI p) k = k (mI σ 19 p) := aI_k (k_19 h) hp (by decide) k
theorem xt_19 (h : Sh σ) {p : Nat} (hp : p < 38) (v : Int32) (k : mm_M → Option mm_R) : tI σ 19 (nI p) v k = k (wI σ 19 p v) := tI_k (k_19 h) hp (by decide) v k
theorem xa_20 (h : Sh σ) {p : Nat} (hp : p < 38) (k : Int32 → Option mm_R) : aI σ 20 (nI p) k = k (mI σ 20 p) := aI_k (k_20 h) hp (by decide) k
theorem xt_20 (h : Sh σ) {p : Nat} (hp : p < 38) (v : Int32) (k : mm_M → Option mm_R) : tI σ 20 (nI p) v k = k (wI σ 20 p v) := tI_k (k_20 h) hp (by decide) v k
theorem xg_21 (h : Sh σ) (x : Nat) (k : Int32 → Option mm_R) : gI σ 6 21 x k = k (mI σ 21 x) := gI_k (by rw [k_21 h]) x k
theorem xs_21 (h : Sh σ) (x : Nat) (v : Int32) (k : mm_M → Option mm_R) : sI σ 6 21 x v k = k (wI σ 21 x v) := sI_k (by rw [k_21 h]) x v k
theorem xa_22 (h : Sh σ) {p : Nat} (hp : p < 79) (k : Int32 → Option mm_R) : aI σ 22 (nI p) k = k (mI σ 22 p) := aI_k (k_22 h) hp (by decide) k
theorem xt_22 (h : Sh σ) {p : Nat} (hp : p < 79) (v : Int32) (k : mm_M → Option mm_R) : tI σ 22 (nI p) v k = k (wI σ 22 p v) := tI_k (k_22 h) hp (by decide) v k
theorem xg_23 (h : Sh σ) (x : Nat) (k : Int32 → Option mm_R) : gI σ 6 23 x k = k (mI σ 23 x) := gI_k (by rw [k_23 h]) x k
theorem xs_23 (h : Sh σ) (x : Nat) (v : Int32) (k : mm_M → Option mm_R) : sI σ 6 23 x v k = k (wI σ 23 x v) := sI_k (by rw [k_23 h]) x v k
theorem xa_24 (h : Sh σ) {p : Nat} (hp : p < 79) (k : Int32 → Option mm_R) : aI σ 24 (nI p) k = k (mI σ 24 p) := aI_k (k_24 h) hp (by decide) k
theorem xt_24 (h : Sh σ) {p : Nat} (hp : p < 79) (v : Int32) (k : mm_M → Option mm_R) : tI σ 24 (nI p) v k = k (wI σ 24 p v) := tI_k (k_24 h) hp (by decide) v k
theorem xg_25 (h : Sh σ) (x : Nat) (k : Int32 → Option mm_R) : gI σ 7 25 x k = k (mI σ 25 x) := gI_k (by rw [k_25 h]) x k
theorem xs_25 (h : Sh σ) (x : Nat) (v : Int32) (k : mm_M → Option mm_R) : sI σ 7 25 x v k = k (wI σ 25 x v) := sI_k (by rw [k_25 h]) x v k
theorem xa_26 (h : Sh σ) {p : Nat} (hp : p < 1264) (k : Int32 → Option mm_R) : aI σ 26 (nI p) k = k (mI σ 26 p) := aI_k (k_26 h) hp (by decide) k
theorem xt_26 (h : Sh σ) {p : Nat} (hp : p < 1264) (v : Int32) (k : mm_M → Option mm_R) : tI σ 26 (nI p) v k = k (wI σ 26 p v) := tI_k (k_26 h) hp (by decide) v k
theorem xa_27 (h : Sh σ) {p : Nat} (hp : p < 4029) (k : Int32 → Option mm_R) : aI σ 27 (nI p) k = k (mI σ 27 p) := aI_k (k_27 h) hp (by decide) k
theorem xt_27 (h : Sh σ) {p : Nat} (hp : p < 4029) (v : Int32) (k : mm_M → Option mm_R) : tI σ 27 (nI p) v k = k (wI σ 27 p v) := tI_k (k_27 h) hp (by decide) v k
theorem xa_28 (h : Sh σ) {p : Nat} (hp : p < 3) (k : Int32 → Option mm_R) : aI σ 28 (nI p) k = k (mI σ 28 p) := aI_k (k_28 h) hp (by decide) k
theorem xt_28 (h : Sh σ) {p : Nat} (hp : p < 3) (v : Int32) (k : mm_M → Option mm_R) : tI σ 28 (nI p) v k = k (wI σ 28 p v) := tI_k (k_28 h) hp (by decide) v k
theorem xg_29 (h : Sh σ) (x : Nat) (k : Int32 → Option mm_R) : gI σ 8 29 x k = k (mI σ 29 x) := gI_k (by rw [k_29 h]) x k
theorem xs_29 (h : Sh σ) (x : Nat) (v : Int32) (k : mm_M → Option mm_R) : sI σ 8 29 x v k = k (wI σ 29 x v) := sI_k (by rw [k_29 h]) x v k
theorem xa_30 (h : Sh σ) {p : Nat} (hp : p < 7) (k : Int32 → Option mm_R) : aI σ 30 (nI p) k = k (mI σ 30 p) := aI_k (k_30 h) hp (by decide) k
theorem xt_30 (h : Sh σ) {p : Nat} (hp : p < 7) (v : Int32) (k : mm_M → Option mm_R) : tI σ 30 (nI p) v k = k (wI σ 30 p v) := tI_k (k_30 h) hp (by decide) v k
theorem xa_31 (h : Sh σ) {p : Nat} (hp : p < 896) (k : Int32 → Option mm_R) : aI σ 31 (nI p) k = k (mI σ 31 p) := aI_k (k_31 h) hp (by decide) k
theorem xt_31 (h : Sh σ) {p : Nat} (hp : p < 896) (v : Int32) (k : mm_M → Option mm_R) : tI σ 31 (nI p) v k = k (wI σ 31 p v) := tI_k (k_31 h) hp (by decide) v k
theorem xa_32 (h : Sh σ) {p : Nat} (hp : p < 42) (k : Int32 → Option mm_R) : aI σ 32 (nI p) k = k (mI σ 32 p) := aI_k (k_32 h) hp (by decide) k
theorem xt_32 (h : Sh σ) {p : Nat} (hp : p < 42) (v : Int32) (k : mm_M → Option mm_R) : tI σ 32 (nI p) v k = k (wI σ 32 p v) := tI_k (k_32 h) hp (by decide) v k
theorem xa_33 (h : Sh σ) {p : Nat} (hp : p < 6) (k : Int32 → Option mm_R) : aI σ 33 (nI p) k = k (mI σ 33 p) := aI_k (k_33 h) hp (by decide) k
theorem xt_33 (h : Sh σ) {p : Nat} (hp : p < 6) (v : Int32) (k : mm_M → Option mm_R) : tI σ 33 (nI p) v k = k (wI σ 33 p v) := tI_k (k_33 h) hp (by decide) v k
theorem xg_34 (h : Sh σ) (x : Nat) (k : Int32 → Option mm_R) : gI σ 9 34 x k = k (mI σ 34 x) := gI_k (by rw [k_34 h]) x k
theorem xs_34 (h : Sh σ) (x : Nat) (v : Int32) (k : mm_M → Option mm_R) : sI σ 9 34 x v k = k (wI σ 34 x v) := sI_k (by rw [k_34 h]) x v k
theorem xa_36 (h : Sh σ) {p : Nat} (hp : p < 41) (k : Int32 → Option mm_R) : aI σ 36 (nI p) k = k (mI σ 36 p) := aI_k (k_36 h) hp (by decide) k
theorem xt_36 (h : Sh σ) {p : Nat} (hp : p < 41) (v : Int32) (k : mm_M → Option mm_R) : tI σ 36 (nI p) v k = k (wI σ 36 p v) := tI_k (k_36 h) hp (by decide) v k
theorem xg_37 (h : Sh σ) (x : Nat) (k : Int32 → Option mm_R) : gI σ 10 37 x k = k (mI σ 37 x) := gI_k (by rw [k_37 h]) x k
theorem xs_37 (h : Sh σ) (x : Nat) (v : Int32) (k : mm_M → Option mm_R) : sI σ 10 37 x v k = k (wI σ 37 x v) := sI_k (by rw [k_37 h]) x v k
theorem xg_38 (h : Sh σ) (x : Nat) (k : Int32 → Option mm_R) : gI σ 3 38 x k = k (mI σ 38 x) := gI_k (by rw [k_38 h]) x k
theorem xs_38 (h : Sh σ) (x : Nat) (v : Int32) (k : mm_M → Option mm_R) : sI σ 3 38 x v k = k (wI σ 38 x v) := sI_k (by rw [k_38 h]) x v k
theorem xa_39 (h : Sh σ) {p : Nat} (hp : p < 7) (k : Int32 → Option mm_R) : aI σ 39 (nI p) k = k (mI σ 39 p) := aI_k (k_39 h) hp (by decide) k
theorem xt_39 (h : Sh σ) {p : Nat} (hp : p < 7) (v : Int32) (k : mm_M → Option mm_R) : tI σ 39 (nI p) v k = k (wI σ 39 p v) := tI_k (k_39 h) hp (by decide) v k
theorem xa_40 (h : Sh σ) {p : Nat} (hp : p < 7) (k : Int32 → Option mm_R) : aI σ 40 (nI p) k = k (mI σ 40 p) := aI_k (k_40 h) hp (by decide) k
theorem xt_40 (h : Sh σ) {p : Nat} (hp : p < 7) (v : Int32) (k : mm_M → Option mm_R) : tI σ 40 (nI p) v k = k (wI σ 40 p v) := tI_k (k_40 h) hp (by decide) v k
theorem xa_41 (h : Sh σ) {p : Nat} (hp : p < 7) (k : Int32 → Option mm_R) : aI σ 41 (nI p) k = k (mI σ 41 p) := aI_k (k_41 h) hp (by decide) k
theorem xt_41 (h : Sh σ) {p : Nat} (hp : p < 7) (v : Int32) (k : mm_M → Option mm_R) : tI σ 41 (nI p) v k = k (wI σ 41 p v) := tI_k (k_41 h) hp (by decide) v k
theorem xa_42 (h : Sh σ) {p : Nat} (hp : p < 6) (k : Int32 → Option mm_R) : aI σ 42 (nI p) k = k (mI σ 42 p) := aI_k (k_42 h) hp (by decide) k
theorem xt_42 (h : Sh σ) {p : Nat} (hp : p < 6) (v : Int32) (k : mm_M → Option mm_R) : tI σ 42 (nI p) v k = k (wI σ 42 p v) := tI_k (k_42 h) hp (by decide) v k
theorem xa_43 (h : Sh σ) {p : Nat} (hp : p < 6) (k : Int32 → Option mm_R) : aI σ 43 (nI p) k = k (mI σ 43 p) := aI_k (k_43 h) hp (by decide) k
theorem xt_43 (h : Sh σ) {p : Nat} (hp : p < 6) (v : Int32) (k : mm_M → Option mm_R) : tI σ 43 (nI p) v k = k (wI σ 43 p v) := tI_k (k_43 h) hp (by decide) v k
theorem xa_44 (h : Sh σ) {p : Nat} (hp : p < 12) (k : Int32 → Option mm_R) : aI σ 44 (nI p) k = k (mI σ 44 p) := aI_k (k_44 h) hp (by decide) k
theorem xt_44 (h : Sh σ) {p : Nat} (hp : p < 12) (v : Int32) (k : mm_M → Option mm_R) : tI σ 44 (nI p) v k = k (wI σ 44 p v) := tI_k (k_44 h) hp (by decide) v k
theorem xa_45 (h : Sh σ) {p : Nat} (hp : p < 12) (k : Int32 → Option mm_R) : aI σ 45 (nI p) k = k (mI σ 45 p) := aI_k (k_45 h) hp (by decide) k
theorem xt_45 (h : Sh σ) {p : Nat} (hp : p < 12) (v : Int32) (k : mm_M → Option mm_R) : tI σ 45 (nI p) v k = k (wI σ 45 p v) := tI_k (k_45 h) hp (by decide) v k
theorem xg_46 (h : Sh σ) (x : Nat) (k : Int32 → Option mm_R) : gI σ 4 46 x k = k (mI σ 46 x) := gI_k (by rw [k_46 h]) x k
theorem xs_46 (h : Sh σ) (x : Nat) (v : Int32) (k : mm_M → Option mm_R) : sI σ 4 46 x v k = k (wI σ 46 x v) := sI_k (by rw [k_46 h]) x v k
theorem xa_47 (h : Sh σ) {p : Nat} (hp : p < 150) (k : Int32 → Option mm_R) : aI σ 47 (nI p) k = k (mI σ 47 p) := aI_k (k_47 h) hp (by decide) k
theorem xt_47 (h : Sh σ) {p : Nat} (hp : p < 150) (v : Int32) (k : mm_M → Option mm_R) : tI σ 47 (nI p) v k = k (wI σ 47 p v) := tI_k (k_47 h) hp (by decide) v k
theorem xa_48 (h : Sh σ) {p : Nat} (hp : p < 150) (k : Int32 → Option mm_R) : aI σ 48 (nI p) k = k (mI σ 48 p) := aI_k (k_48 h) hp (by decide) k
theorem xt_48 (h : Sh σ) {p : Nat} (hp : p < 150) (v : Int32) (k : mm_M → Option mm_R) : tI σ 48 (nI p) v k = k (wI σ 48 p v) := tI_k (k_48 h) hp (by decide) v k
theorem xg_49 (h : Sh σ) (x : Nat) (k : Int32 → Option mm_R) : gI σ 11 49 x k = k (mI σ 49 x) := gI_k (by rw [k_49 h]) x k
theorem xs_49 (h : Sh σ) (x : Nat) (v : Int32) (k : mm_M → Option mm_R) : sI σ 11 49 x v k = k (wI σ 49 x v) := sI_k (by rw [k_49 h]) x v k
theorem xa_50 (h : Sh σ) {p : Nat} (hp : p < 6) (k : Int32 → Option mm_R) : aI σ 50 (nI p) k = k (mI σ 50 p) := aI_k (k_50 h) hp (by decide) k
theorem xt_50 (h : Sh σ) {p : Nat} (hp : p < 6) (v : Int32) (k : mm_M → Option mm_R) : tI σ 50 (nI p) v k = k (wI σ 50 p v) := tI_k (k_50 h) hp (by decide) v k
theorem xg_51 (h : Sh σ) (x : Nat) (k : Int32 → Option mm_R) : gI σ 11 51 x k = k (mI σ 51 x) := gI_k (by rw [k_51 h]) x k
theorem xs_51 (h : Sh σ) (x : Nat) (v : Int32) (k : mm_M → Option mm_R) : sI σ 11 51 x v k = k (wI σ 51 x v) := sI_k (by rw [k_51 h]) x v k
theorem xa_52 (h : Sh σ) {p : Nat} (hp : p < 6) (k : Int32 → Option mm_R) : aI σ 52 (nI p) k = k (mI σ 52 p) := aI_k (k_52 h) hp (by decide) k
theorem xt_52 (h : Sh σ) {p : Nat} (hp : p < 6) (v : Int32) (k : mm_M → Option mm_R) : tI σ 52 (nI p) v k = k (wI σ 52 p v) := tI_k (k_52 h) hp (by decide) v k
theorem xg_53 (h : Sh σ) (x : Nat) (k : Int32 → Option mm_R) : gI σ 12 53 x k = k (mI σ 53 x) := gI_k (by rw [k_53 h]) x k
theorem xs_53 (h : Sh σ) (x : Nat) (v : Int32) (k : mm_M → Option mm_R) : sI σ 12 53 x v k = k (wI σ 53 x v) := sI_k (by rw [k_53 h]) x v k
theorem xa_54 (h : Sh σ) {p : Nat} (hp : p < 600) (k : Int32 → Option mm_R) : aI σ 54 (nI p) k = k (mI σ 54 p) := aI_k (k_54 h) hp (by decide) k
theorem xt_54 (h : Sh σ) {p : Nat} (hp : p < 600) (v : Int32) (k : mm_M → Option mm_R) : tI σ 54 (nI p) v k = k (wI σ 54 p v) := tI_k (k_54 h) hp (by decide) v k
theorem xa_55 (h : Sh σ) {p : Nat} (hp : p < 2) (k : Int32 → Option mm_R) : aI σ 55 (nI p) k = k (mI σ 55 p) := aI_k (k_55 h) hp (by decide) k
theorem xt_55 (h : Sh σ) {p : Nat} (hp : p < 2) (v : Int32) (k : mm_M → Option mm_R) : tI σ 55 (nI p) v k = k (wI σ 55 p v) := tI_k (k_55 h) hp (by decide) v k
theorem xa_56 (h : Sh σ) {p : Nat} (hp : p < 5) (k : Int32 → Option mm_R) : aI σ 56 (nI p) k = k (mI σ 56 p) := aI_k (k_56 h) hp (by decide) k
theorem xt_56 (h : Sh σ) {p : Nat} (hp : p < 5) (v : Int32) (k : mm_M → Option mm_R) : tI σ 56 (nI p) v k = k (wI σ 56 p v) := tI_k (k_56 h) hp (by decide) v k
theorem xa_57 (h : Sh σ) {p : Nat} (hp : p < 5) (k : Int32 → Option mm_R) : aI σ 57 (nI p) k = k (mI σ 57 p) := aI_k (k_57 h) hp (by decide) k
theorem xt_57 (h : Sh σ) {p : Nat} (hp : p < 5) (v : Int32) (k : mm_M → Option mm_R) : tI σ 57 (nI p) v k = k (wI σ 57 p v) := tI_k (k_57 h) hp (by decide) v k
theorem xR_58 (h : Sh σ) {p : Nat} (hp : p < 7) (k : Nat → Option mm_R) : aR σ 58 (nI p) k = k (59 + p) := aR_k (k_58 h) hp (by decide) (r_g58 h hp) k
theorem xa_r58 (h : Sh σ) {q p : Nat} (hq : q < 7) (hp : p < 2) (k : Int32 → Option mm_R) : aI σ (59 + q) (nI p) k = k (mI σ (59 + q) p) := aI_k (k_r58 h hq) hp (by decide) k
theorem xt_r58 (h : Sh σ) {q p : Nat} (hq : q < 7) (hp : p < 2) (v : Int32) (k : mm_M → Option mm_R) : tI σ (59 + q) (nI p) v k = k (wI σ (59 + q) p v) := tI_k (k_r58 h hq) hp (by decide) v k
theorem xR_66 (h : Sh σ) {p : Nat} (hp : p < 7) (k : Nat → Option mm_R) : aR σ 66 (nI p) k = k (67 + p) := aR_k (k_66 h) hp (by decide) (r_g66 h hp) k
theorem xa_r66 (h : Sh σ) {q p : Nat} (hq : q < 7) (hp : p < 2) (k : Int32 → Option mm_R) : aI σ (67 + q) (nI p) k = k (mI σ (67 + q) p) := aI_k (k_r66 h hq) hp (by decide) k
theorem xt_r66 (h : Sh σ) {q p : Nat} (hq : q < 7) (hp : p < 2) (v : Int32) (k : mm_M → Option mm_R) : tI σ (67 + q) (nI p) v k = k (wI σ (67 + q) p v) := tI_k (k_r66 h hq) hp (by decide) v k
theorem xR_74 (h : Sh σ) {p : Nat} (hp : p < 6) (k : Nat → Option mm_R) : aR σ 74 (nI p) k = k (75 + p) := aR_k (k_74 h) hp (by decide) (r_g74 h hp) k
theorem xa_r74 (h : Sh σ) {q p : Nat} (hq : q < 6) (hp : p < 2) (k : Int32 → Option mm_R) : aI σ (75 + q) (nI p) k = k (mI σ (75 + q) p) := aI_k (k_r74 h hq) hp (by decide) k
theorem xt_r74 (h : Sh σ) {q p : Nat} (hq : q < 6) (hp : p < 2) (v : Int32) (k : mm_M → Option mm_R) : tI σ (75 + q) (nI p) v k = k (wI σ (75 + q) p v) := tI_k (k_r74 h hq) hp (by decide) v k
theorem xR_81 (h : Sh σ) {p : Nat} (hp : p < 6) (k : Nat → Option mm_R) : aR σ 81 (nI p) k = k (82 + p) := aR_k (k_81 h) hp (by decide) (r_g81 h hp) k
theorem xa_r81 (h : Sh σ) {q p : Nat} (hq : q < 6) (hp : p < 2) (k : Int32 → Option mm_R) : aI σ (82 + q) (nI p) k = k (mI σ (82 + q) p) := aI_k (k_r81 h hq) hp (by decide) k
theorem xt_r81 (h : Sh σ) {q p : Nat} (hq : q < 6) (hp : p < 2) (v : Int32) (k : mm_M → Option mm_R) : tI σ (82 + q) (nI p) v k = k (wI σ (82 + q) p v) := tI_k (k_r81 h hq) hp (by decide) v k
theorem xR_88 (h : Sh σ) {p : Nat} (hp : p < 12) (k : Nat → Option mm_R) : aR σ 88 (nI p) k = k (89 + p) := aR_k (k_88 h) hp (by decide) (r_g88 h hp) k
theorem xa_r88 (h : Sh σ) {q p : Nat} (hq : q < 12) (hp : p < 2) (k : Int32 → Option mm_R) : aI σ (89 + q) (nI p) k = k (mI σ (89 + q) p) := aI_k (k_r88 h hq) hp (by decide) k
theorem xt_r88 (h : Sh σ) {q p : Nat} (hq : q < 12) (hp : p < 2) (v : Int32) (k : mm_M → Option mm_R) : tI σ (89 + q) (nI p) v k = k (wI σ (89 + q) p v) := tI_k (k_r88 h hq) hp (by decide) v k
theorem xR_101 (h : Sh σ) {p : Nat} (hp : p < 12) (k : Nat → Option mm_R) : aR σ 101 (nI p) k = k (102 + p) := aR_k (k_101 h) hp (by decide) (r_g101 h hp) k
theorem xa_r101 (h : Sh σ) {q p : Nat} (hq : q < 12) (hp : p < 2) (k : Int32 → Option mm_R) : aI σ (102 + q) (nI p) k = k (mI σ (102 + q) p) := aI_k (k_r101 h hq) hp (by decide) k
theorem xt_r101 (h : Sh σ) {q p : Nat} (hq : q < 12) (hp : p < 2) (v : Int32) (k : mm_M → Option mm_R) : tI σ (102 + q) (nI p) v k = k (wI σ (102 + q) p v) := tI_k (k_r101 h hq) hp (by decide) v k
theorem xR_114 (h : Sh σ) {p : Nat} (hp : p < 160) (k : Nat → Option mm_R) : aR σ 114 (nI p) k = k (115 + p) := aR_k (k_114 h) hp (by decide) (r_g114 h hp) k
theorem xa_r114 (h : Sh σ) {q p : Nat} (hq : q < 160) (hp : p < 2) (k : Int32 → Option mm_R) : aI σ (115 + q) (nI p) k = k (mI σ (115 + q) p) := aI_k (k_r114 h hq) hp (by decide) k
theorem xt_r114 (h : Sh σ) {q p : Nat} (hq : q < 160) (hp : p < 2) (v : Int32) (k : mm_M → Option mm_R) : tI σ (115 + q) (nI p) v k = k (wI σ (115 + q) p v) := tI_k (k_r114 h hq) hp (by decide) v k
theorem xR_275 (h : Sh σ) {p : Nat} (hp : p < 160) (k : Nat → Option mm_R) : aR σ 275 (nI p) k = k (276 + p) := aR_k (k_275 h) hp (by decide) (r_g275 h hp) k
theorem xa_r275 (h : Sh σ) {q p : Nat} (hq : q < 160) (hp : p < 2) (k : Int32 → Option mm_R) : aI σ (276 + q) (nI p) k = k (mI σ (276 + q) p) := aI_k (k_r275 h hq) hp (by decide) k
theorem xt_r275 (h : Sh σ) {q p : Nat} (hq : q < 160) (hp : p < 2) (v : Int32) (k : mm_M → Option mm_R) : tI σ (276 + q) (nI p) v k = k (wI σ (276 + q) p v) := tI_k (k_r275 h hq) hp (by decide) v k
theorem xR_436 (h : Sh σ) {p : Nat} (hp : p < 6) (k : Nat → Option mm_R) : aR σ 436 (nI p) k = k (437 + p) := aR_k (k_436 h) hp (by decide) (r_g436 h hp) k
theorem xa_r436 (h : Sh σ) {q p : Nat} (hq : q < 6) (hp : p < 2) (k : Int32 → Option mm_R) : aI σ (437 + q) (nI p) k = k (mI σ (437 + q) p) := aI_k (k_r436 h hq) hp (by decide) k
theorem xt_r436 (h : Sh σ) {q p : Nat} (hq : q < 6) (hp : p < 2) (v : Int32) (k : mm_M → Option mm_R) : tI σ (437 + q) (nI p) v k = k (wI σ (437 + q) p v) := tI_k (k_r436 h hq) hp (by decide) v k
theorem xR_443 (h : Sh σ) {p : Nat} (hp : p < 6) (k : Nat → Option mm_R) : aR σ 443 (nI p) k = k (444 + p) := aR_k (k_443 h) hp (by decide) (r_g443 h hp) k
theorem xa_r443 (h : Sh σ) {q p : Nat} (hq : q < 6) (hp : p < 2) (k : Int32 → Option mm_R) : aI σ (444 + q) (nI p) k = k (mI σ (444 + q) p) := aI_k (k_r443 h hq) hp (by decide) k
theorem xt_r443 (h : Sh σ) {q p : Nat} (hq : q < 6) (hp : p < 2) (v : Int32) (k : mm_M → Option mm_R) : tI σ (444 + q) (nI p) v k = k (wI σ (444 + q) p v) := tI_k (k_r443 h hq) hp (by decide) v k
theorem xa_450 (h : Sh σ) {p : Nat} (hp : p < 160) (k : Int32 → Option mm_R) : aI σ 450 (nI p) k = k (mI σ 450 p) := aI_k (k_450 h) hp (by decide) k
theorem xt_450 (h : Sh σ) {p : Nat} (hp : p < 160) (v : Int32) (k : mm_M → Option mm_R) : tI σ 450 (nI p) v k = k (wI σ 450 p v) := tI_k (k_450 h) hp (by decide) v k
theorem xa_451 (h : Sh σ) {p : Nat} (hp : p < 10) (k : Int32 → Option mm_R) : aI σ 451 (nI p) k = k (mI σ 451 p) := aI_k (k_451 h) hp (by decide) k
theorem xt_451 (h : Sh σ) {p : Nat} (hp : p < 10) (v : Int32) (k : mm_M → Option mm_R) : tI σ 451 (nI p) v k = k (wI σ 451 p v) := tI_k (k_451 h) hp (by decide) v k
theorem xR_452 (h : Sh σ) {p : Nat} (hp : p < 80) (k : Nat → Option mm_R) : aR σ 452 (nI p) k = k (453 + p) := aR_k (k_452 h) hp (by decide) (r_g452 h hp) k
theorem xa_r452 (h : Sh σ) {q p : Nat} (hq : q < 80) (hp : p < 4) (k : Int32 → Option mm_R) : aI σ (453 + q) (nI p) k = k (mI σ (453 + q) p) := aI_k (k_r452 h hq) hp (by decide) k
theorem xt_r452 (h : Sh σ) {q p : Nat} (hq : q < 80) (hp : p < 4) (v : Int32) (k : mm_M → Option mm_R) : tI σ (453 + q) (nI p) v k = k (wI σ (453 + q) p v) := tI_k (k_r452 h hq) hp (by decide) v k
theorem xa_533 (h : Sh σ) {p : Nat} (hp : p < 79) (k : Int32 → Option mm_R) : aI σ 533 (nI p) k = k (mI σ 533 p) := aI_k (k_533 h) hp (by decide) k
theorem xt_533 (h : Sh σ) {p : Nat} (hp : p < 79) (v : Int32) (k : mm_M → Option mm_R) : tI σ 533 (nI p) v k = k (wI σ 533 p v) := tI_k (k_533 h) hp (by decide) v k
theorem xa_534 (h : Sh σ) {p : Nat} (hp : p < 79) (k : Int32 → Option mm_R) : aI σ 534 (nI p) k = k (mI σ 534 p) := aI_k (k_534 h) hp (by decide) k
theorem xt_534 (h : Sh σ) {p : Nat} (hp : p < 79) (v : Int32) (k : mm_M → Option mm_R) : tI σ 534 (nI p) v k = k (wI σ 534 p v) := tI_k (k_534 h) hp (by decide) v k
theorem xR_535 (h : Sh σ) {p : Nat} (hp : p < 16) (k : Nat → Option mm_R) : aR σ 535 (nI p) k = k (536 + p) := aR_k (k_535 h) hp (by decide) (r_g535 h hp) k
theorem xa_r535 (h : Sh σ) {q p : Nat} (hq : q < 16) (hp : p < 79) (k : Int32 → Option mm_R) : aI σ (536 + q) (nI p) k = k (mI σ (536 + q) p) := aI_k (k_r535 h hq) hp (by decide) k
theorem xt_r535 (h : Sh σ) {q p : Nat} (hq : q < 16) (hp : p < 79) (v : Int32) (k : mm_M → Option mm_R) : tI σ (536 + q) (nI p) v k = k (wI σ (536 + q) p v) := tI_k (k_r535 h hq) hp (by decide) v k
theorem xR_552 (h : Sh σ) {p : Nat} (hp : p < 3) (k : Nat → Option mm_R) : aR σ 552 (nI p) k = k (553 + p) := aR_k (k_552 h) hp (by decide) (r_g552 h hp) k
theorem xa_r552 (h : Sh σ) {q p : Nat} (hq : q < 3) (hp : p < 1344) (k : Int32 → Option mm_R) : aI σ (553 + q) (nI p) k = k (mI σ (553 + q) p) := aI_k (k_r552 h hq) hp (by decide) k
theorem xt_r552 (h : Sh σ) {q p : Nat} (hq : q < 3) (hp : p < 1344) (v : Int32) (k : mm_M → Option mm_R) : tI σ (553 + q) (nI p) v k = k (wI σ (553 + q) p v) := tI_k (k_r552 h hq) hp (by decide) v k
theorem xa_556 (h : Sh σ) {p : Nat} (hp : p < 6) (k : Int32 → Option mm_R) : aI σ 556 (nI p) k = k (mI σ 556 p) := aI_k (k_556 h) hp (by decide) k
theorem xt_556 (h : Sh σ) {p : Nat} (hp : p < 6) (v : Int32) (k : mm_M → Option mm_R) : tI σ 556 (nI p) v k = k (wI σ 556 p v) := tI_k (k_556 h) hp (by decide) v k
theorem xa_557 (h : Sh σ) {p : Nat} (hp : p < 6) (k : Int32 → Option mm_R) : aI σ 557 (nI p) k = k (mI σ 557 p) := aI_k (k_557 h) hp (by decide) k
theorem xt_557 (h : Sh σ) {p : Nat} (hp : p < 6) (v : Int32) (k : mm_M → Option mm_R) : tI σ 557 (nI p) v k = k (wI σ 557 p v) := tI_k (k_557 h) hp (by decide) v k
theorem xa_558 (h : Sh σ) {p : Nat} (hp : p < 41) (k : Int32 → Option mm_R) : aI σ 558 (nI p) k = k (mI σ 558 p) := aI_k (k_558 h) hp (by decide) k
theorem xt_558 (h : Sh σ) {p : Nat} (hp : p < 41) (v : Int32) (k : mm_M → Option mm_R) : tI σ 558 (nI p) v k = k (wI σ 558 p v) := tI_k (k_558 h) hp (by decide) v k
theorem xg_ld (h : Sh σ) {a : Nat} (e : isLd a) (x : Nat) (k : Int32 → Option mm_R) : gI σ 3 a x k = k (mI σ a x) := gI_k (by rw [k_ld0 h e]) x k
theorem xs_ld (h : Sh σ) {a : Nat} (e : isLd a) (x : Nat) (v : Int32) (k : mm_M → Option mm_R) : sI σ 3 a x v k = k (wI σ a x v) := sI_k (by rw [k_ld0 h e]) x v k
theorem xr_ld0 (h : Sh σ) {a : Nat} (e : isLd a) (k : Nat → Option mm_R) : gR σ 3 a 0 k = k (a + 1) := gR_k (by rw [k_ld0 h e]) (r_ld0 h e) k
theorem xr_ld1 (h : Sh σ) {a : Nat} (e : isLd a) (k : Nat → Option mm_R) : gR σ 3 a 1 k = k (a + 2) := gR_k (by rw [k_ld0 h e]) (r_ld1 h e) k
theorem xr_ld2 (h : Sh σ) {a : Nat} (e : isLd a) (k : Nat → Option mm_R) : gR σ 3 a 2 k = k (a + 3) := gR_k (by rw [k_ld0 h e]) (r_ld2 h e) k
theorem xr_ld3 (h : Sh σ) {a : Nat} (e : isLd a) (k : Nat → Option mm_R) : gR σ 3 a 3 k = k (a + 4) := gR_k (by rw [k_ld0 h e]) (r_ld3 h e) k
theorem xr_ld4 (h : Sh σ) {a : Nat} (e : isLd a) (k : Nat → Option mm_R) : gR σ 3 a 4 k = k (a + 5) := gR_k (by rw [k_ld0 h e]) (r_ld4 h e) k
theorem xr_ld5 (h : Sh σ) {a : Nat} (e : isLd a) (k : Nat → Option mm_R) : gR σ 3 a 5 k = k (a + 6) := gR_k (by rw [k_ld0 h e]) (r_ld5 h e) k
theorem xr_ld6 (h : Sh σ) {a : Nat} (e : isLd a) (k : Nat → Option mm_R) : gR σ 3 a 6 k = k (a + 7) := gR_k (by rw [k_ld0 h e]) (r_ld6 h e) k
theorem xa_ld1 (h : Sh σ) {a : Nat} (e : isLd a) {p : Nat} (hp : p < 7) (k : Int32 → Option mm_R) : aI σ (a + 1) (nI p) k = k (mI σ (a + 1) p) := aI_k (k_ld1 h e) hp (by decide) k
theorem xt_ld1 (h : Sh σ) {a : Nat} (e : isLd a) {p : Nat} (hp : p < 7) (v : Int32) (k : mm_M → Option mm_R) : tI σ (a + 1) (nI p) v k = k (wI σ (a + 1) p v) := tI_k (k_ld1 h e) hp (by decide) v k
theorem xa_ld2 (h : Sh σ) {a : Nat} (e : isLd a) {p : Nat} (hp : p < 7) (k : Int32 → Option mm_R) : aI σ (a + 2) (nI p) k = k (mI σ (a + 2) p) := aI_k (k_ld2 h e) hp (by decide) k
theorem xt_ld2 (h : Sh σ) {a : Nat} (e : isLd a) {p : Nat} (hp : p < 7) (v : Int32) (k : mm_M → Option mm_R) : tI σ (a + 2) (nI p) v k = k (wI σ (a + 2) p v) := tI_k (k_ld2 h e) hp (by decide) v k
theorem xa_ld3 (h : Sh σ) {a : Nat} (e : isLd a) {p : Nat} (hp : p < 7) (k : Int32 → Option mm_R) : aI σ (a + 3) (nI p) k = k (mI σ (a + 3) p) := aI_k (k_ld3 h e) hp (by decide) k
theorem xt_ld3 (h : Sh σ) {a : Nat} (e : isLd a) {p : Nat} (hp : p < 7) (v : Int32) (k : mm_M → Option mm_R) : tI σ (a + 3) (nI p) v k = k (wI σ (a + 3) p v) := tI_k (k_ld3 h e) hp (by decide) v k
theorem xa_ld4 (h : Sh σ) {a : Nat} (e : isLd a) {p : Nat} (hp : p < 6) (k : Int32 → Option mm_R) : aI σ (a + 4) (nI p) k = k (mI σ (a + 4) p) := aI_k (k_ld4 h e) hp (by decide) k
theorem xt_ld4 (h : Sh σ) {a : Nat} (e : isLd a) {p : Nat} (hp : p < 6) (v : Int32) (k : mm_M → Option mm_R) : tI σ (a + 4) (nI p) v k = k (wI σ (a + 4) p v) := tI_k (k_ld4 h e) hp (by decide) v k
theorem xa_ld5 (h : Sh σ) {a : Nat} (e : isLd a) {p : Nat} (hp : p < 6) (k : Int32 → Option mm_R) : aI σ (a + 5) (nI p) k = k (mI σ (a + 5) p) := aI_k (k_ld5 h e) hp (by decide) k
theorem xt_ld5 (h : Sh σ) {a : Nat} (e : isLd a) {p : Nat} (hp : p < 6) (v : Int32) (k : mm_M → Option mm_R) : tI σ (a + 5) (nI p) v k = k (wI σ (a + 5) p v) := tI_k (k_ld5 h e) hp (by decide) v k
theorem xa_ld6 (h : Sh σ) {a : Nat} (e : isLd a) {p : Nat} (hp : p < 12) (k : Int32 → Option mm_R) : aI σ (a + 6) (nI p) k = k (mI σ (a + 6) p) := aI_k (k_ld6 h e) hp (by decide) k
theorem xt_ld6 (h : Sh σ) {a : Nat} (e : isLd a) {p : Nat} (hp : p < 12) (v : Int32) (k : mm_M → Option mm_R) : tI σ (a + 6) (nI p) v k = k (wI σ (a + 6) p v) := tI_k (k_ld6 h e) hp (by decide) v k
theorem xa_ld7 (h : Sh σ) {a : Nat} (e : isLd a) {p : Nat} (hp : p < 12) (k : Int32 → Option mm_R) : aI σ (a + 7) (nI p) k = k (mI σ (a + 7) p) := aI_k (k_ld7 h e) hp (by decide) k
theorem xt_ld7 (h : Sh σ) {a : Nat} (e : isLd a) {p : Nat} (hp : p < 12) (v : Int32) (k : mm_M → Option mm_R) : tI σ (a + 7) (nI p) v k = k (wI σ (a + 7) p v) := tI_k (k_ld7 h e) hp (by decide) v k
theorem xg_lw (h : Sh σ) {a : Nat} (e : isLw a) (x : Nat) (k : Int32 → Option mm_R) : gI σ 4 a x k = k (mI σ a x) := gI_k (by rw [k_lw0 h e]) x k
theorem xs_lw (h : Sh σ) {a : Nat} (e : isLw a) (x : Nat) (v : Int32) (k : mm_M → Option mm_R) : sI σ 4 a x v k = k (wI σ a x v) := sI_k (by rw [k_lw0 h e]) x v k
theorem xr_lw0 (h : Sh σ) {a : Nat} (e : isLw a) (k : Nat → Option mm_R) : gR σ 4 a 0 k = k (a + 1) := gR_k (by rw [k_lw0 h e]) (r_lw0 h e) k
theorem xr_lw1 (h : Sh σ) {a : Nat} (e : isLw a) (k : Nat → Option mm_R) : gR σ 4 a 1 k = k (a + 2) := gR_k (by rw [k_lw0 h e]) (r_lw1 h e) k
theorem xa_lw1 (h : Sh σ) {a : Nat} (e : isLw a) {p : Nat} (hp : p < 150) (k : Int32 → Option mm_R) : aI σ (a + 1) (nI p) k = k (mI σ (a + 1) p) := aI_k (k_lw1 h e) hp (by decide) k
theorem xt_lw1 (h : Sh σ) {a : Nat} (e : isLw a) {p : Nat} (hp : p < 150) (v : Int32) (k : mm_M → Option mm_R) : tI σ (a + 1) (nI p) v k = k (wI σ (a + 1) p v) := tI_k (k_lw1 h e) hp (by decide) v k
theorem xa_lw2 (h : Sh σ) {a : Nat} (e : isLw a) {p : Nat} (hp : p < 150) (k : Int32 → Option mm_R) : aI σ (a + 2) (nI p) k = k (mI σ (a + 2) p) := aI_k (k_lw2 h e) hp (by decide) k
theorem xt_lw2 (h : Sh σ) {a : Nat} (e : isLw a) {p : Nat} (hp : p < 150) (v : Int32) (k : mm_M → Option mm_R) : tI σ (a + 2) (nI p) v k = k (wI σ (a + 2) p v) := tI_k (k_lw2 h e) hp (by decide) v k
theorem xg_bk (h : Sh σ) {a : Nat} (e : isBk a) (x : Nat) (k : Int32 → Option mm_R) : gI σ 11 a x k = k (mI σ a x) := gI_k (by rw [k_bk0 h e]) x k
theorem xs_bk (h : Sh σ) {a : Nat} (e : isBk a) (x : Nat) (v : Int32) (k : mm_M → Option mm_R) : sI σ 11 a x v k = k (wI σ a x v) := sI_k (by rw [k_bk0 h e]) x v k
theorem xr_bk0 (h : Sh σ) {a : Nat} (e : isBk a) (k : Nat → Option mm_R) : gR σ 11 a 0 k = k (a + 1) := gR_k (by rw [k_bk0 h e]) (r_bk0 h e) k
theorem xa_bk1 (h : Sh σ) {a : Nat} (e : isBk a) {p : Nat} (hp : p < 6) (k : Int32 → Option mm_R) : aI σ (a + 1) (nI p) k = k (mI σ (a + 1) p) := aI_k (k_bk1 h e) hp (by decide) k
theorem xt_bk1 (h : Sh σ) {a : Nat} (e : isBk a) {p : Nat} (hp : p < 6) (v : Int32) (k : mm_M → Option mm_R) : tI σ (a + 1) (nI p) v k = k (wI σ (a + 1) p v) := tI_k (k_bk1 h e) hp (by decide) v k
theorem xg_da (h : Sh σ) {a : Nat} (e : isDa a) (x : Nat) (k : Int32 → Option mm_R) : gI σ 6 a x k = k (mI σ a x) := gI_k (by rw [k_da0 h e]) x k
theorem xs_da (h : Sh σ) {a : Nat} (e : isDa a) (x : Nat) (v : Int32) (k : mm_M → Option mm_R) : sI σ 6 a x v k = k (wI σ a x v) := sI_k (by rw [k_da0 h e]) x v k
theorem xr_da0 (h : Sh σ) {a : Nat} (e : isDa a) (k : Nat → Option mm_R) : gR σ 6 a 0 k = k (a + 1) := gR_k (by rw [k_da0 h e]) (r_da0 h e) k
theorem xa_da1 (h : Sh σ) {a : Nat} (e : isDa a) {p : Nat} (hp : p < 79) (k : Int32 → Option mm_R) : aI σ (a + 1) (nI p) k = k (mI σ (a + 1) p) := aI_k (k_da1 h e) hp (by decide) k
theorem xt_da1 (h : Sh σ) {a : Nat} (e : isDa a) {p : Nat} (hp : p < 79) (v : Int32) (k : mm_M → Option mm_R) : tI σ (a + 1) (nI p) v k = k (wI σ (a + 1) p v) := tI_k (k_da1 h e) hp (by decide) v k
theorem xa_rw0 (h : Sh σ) {a : Nat} (e : isRw a) {p : Nat} (hp : p < 79) (k : Int32 → Option mm_R) : aI σ a (nI p) k = k (mI σ a p) := aI_k (k_rw0 h e) hp (by decide) k
theorem xt_rw0 (h : Sh σ) {a : Nat} (e : isRw a) {p : Nat} (hp : p < 79) (v : Int32) (k : mm_M → Option mm_R) : tI σ a (nI p) v k = k (wI σ a p v) := tI_k (k_rw0 h e) hp (by decide) v k
theorem xr_0_0 (h : Sh σ) (k : Nat → Option mm_R) : gR σ 0 0 0 k = k 1 := gR_k (by rw [k_0 h]) (r_0_0 h) k
theorem xr_0_1 (h : Sh σ) (k : Nat → Option mm_R) : gR σ 0 0 1 k = k 3 := gR_k (by rw [k_0 h]) (r_0_1 h) k
theorem xr_0_2 (h : Sh σ) (k : Nat → Option mm_R) : gR σ 0 0 2 k = k 16 := gR_k (by rw [k_0 h]) (r_0_2 h) k
theorem xr_0_3 (h : Sh σ) (k : Nat → Option mm_R) : gR σ 0 0 3 k = k 21 := gR_k (by rw [k_0 h]) (r_0_3 h) k
theorem xr_0_4 (h : Sh σ) (k : Nat → Option mm_R) : gR σ 0 0 4 k = k 23 := gR_k (by rw [k_0 h]) (r_0_4 h) k
theorem xr_0_5 (h : Sh σ) (k : Nat → Option mm_R) : gR σ 0 0 5 k = k 25 := gR_k (by rw [k_0 h]) (r_0_5 h) k
theorem xr_0_6 (h : Sh σ) (k : Nat → Option mm_R) : gR σ 0 0 6 k = k 29 := gR_k (by rw [k_0 h]) (r_0_6 h) k
theorem xr_0_7 (h : Sh σ) (k : Nat → Option mm_R) : gR σ 0 0 7 k = k 34 := gR_k (by rw [k_0 h]) (r_0_7 h) k
theorem xr_0_8 (h : Sh σ) (k : Nat → Option mm_R) : gR σ 0 0 8 k = k 37 := gR_k (by rw [k_0 h]) (r_0_8 h) k
theorem xr_1_0 (h : Sh σ) (k : Nat → Option mm_R) : gR σ 1 1 0 k = k 2 := gR_k (by rw [k_1 h]) (r_1_0 h) k
theorem xr_3_0 (h : Sh σ) (k : Nat → Option mm_R) : gR σ 2 3 0 k = k 4 := gR_k (by rw [k_3 h]) (r_3_0 h) k
theorem xr_5_0 (h : Sh σ) (k : Nat → Option mm_R) : gR σ 3 5 0 k = k 6 := gR_k (by rw [k_5 h]) (r_5_0 h) k
theorem xr_5_1 (h : Sh σ) (k : Nat → Option mm_R) : gR σ 3 5 1 k = k 7 := gR_k (by rw [k_5 h]) (r_5_1 h) k
theorem xr_5_2 (h : Sh σ) (k : Nat → Option mm_R) : gR σ 3 5 2 k = k 8 := gR_k (by rw [k_5 h]) (r_5_2 h) k
theorem xr_5_3 (h : Sh σ) (k : Nat → Option mm_R) : gR σ 3 5 3 k = k 9 := gR_k (by rw [k_5 h]) (r_5_3 h) k
theorem xr_5_4 (h : Sh σ) (k : Nat → Option mm_R) : gR σ 3 5 4 k = k 10 := gR_k (by rw [k_5 h]) (r_5_4 h) k
theorem xr_5_5 (h : Sh σ) (k : Nat → Option mm_R) : gR σ 3 5 5 k = k 11 := gR_k (by rw [k_5 h]) (r_5_5 h) k
theorem xr_5_6 (h : Sh σ) (k : Nat → Option mm_R) : gR σ 3 5 6 k = k 12 := gR_k (by rw [k_5 h]) (r_5_6 h) k
theorem xr_13_0 (h : Sh σ) (k : Nat → Option mm_R) : gR σ 4 13 0 k = k 14 := gR_k (by rw [k_13 h]) (r_13_0 h) k
theorem xr_13_1 (h : Sh σ) (k : Nat → Option mm_R) : gR σ 4 13 1 k = k 15 := gR_k (by rw [k_13 h]) (r_13_1 h) k
theorem xr_16_0 (h : Sh σ) (k : Nat → Option mm_R) : gR σ 5 16 0 k = k 17 := gR_k (by rw [k_16 h]) (r_16_0 h) k
theorem xr_16_1 (h : Sh σ) (k : Nat → Option mm_R) : gR σ 5 16 1 k = k 18 := gR_k (by rw [k_16 h]) (r_16_1 h) k
theorem xr_16_2 (h : Sh σ) (k : Nat → Option mm_R) : gR σ 5 16 2 k = k 19 := gR_k (by rw [k_16 h]) (r_16_2 h) k
theorem xr_16_3 (h : Sh σ) (k : Nat → Option mm_R) : gR σ 5 16 3 k = k 20 := gR_k (by rw [k_16 h]) (r_16_3 h) k
theorem xr_21_0 (h : Sh σ) (k : Nat → Option mm_R) : gR σ 6 21 0 k = k 22 := gR_k (by rw [k_21 h]) (r_21_0 h) k
theorem xr_23_0 (h : Sh σ) (k : Nat → Option mm_R) : gR σ 6 23 0 k = k 24 := gR_k (by rw [k_23 h]) (r_23_0 h) k
theorem xr_25_0 (h : Sh σ) (k : Nat → Option mm_R) : gR σ 7 25 0 k = k 26 := gR_k (by rw [k_25 h]) (r_25_0 h) k
theorem xr_25_1 (h : Sh σ) (k : Nat → Option mm_R) : gR σ 7 25 1 k = k 27 := gR_k (by rw [k_25 h]) (r_25_1 h) k
theorem xr_25_2 (h : Sh σ) (k : Nat → Option mm_R) : gR σ 7 25 2 k = k 28 := gR_k (by rw [k_25 h]) (r_25_2 h) k
theorem xr_29_0 (h : Sh σ) (k : Nat → Option mm_R) : gR σ 8 29 0 k = k 30 := gR_k (by rw [k_29 h]) (r_29_0 h) k
theorem xr_29_1 (h : Sh σ) (k : Nat → Option mm_R) : gR σ 8 29 1 k = k 31 := gR_k (by rw [k_29 h]) (r_29_1 h) k
theorem xr_29_2 (h : Sh σ) (k : Nat → Option mm_R) : gR σ 8 29 2 k = k 32 := gR_k (by rw [k_29 h]) (r_29_2 h) k
theorem xr_29_3 (h : Sh σ) (k : Nat → Option mm_R) : gR σ 8 29 3 k = k 33 := gR_k (by rw [k_29 h]) (r_29_3 h) k
theorem xr_34_0 (h : Sh σ) (k : Nat → Option mm_R) : gR σ 9 34 0 k = k 35 := gR_k (by rw [k_34 h]) (r_34_0 h) k
theorem xr_34_1 (h : Sh σ) (k : Nat → Option mm_R) : gR σ 9 34 1 k = k 36 := gR_k (by rw [k_34 h]) (r_34_1 h) k
theorem xr_38_0 (h : Sh σ) (k : Nat → Option mm_R) : gR σ 3 38 0 k = k 39 := gR_k (by rw [k_38 h]) (r_38_0 h) k
theorem xr_38_1 (h : Sh σ) (k : Nat → Option mm_R) : gR σ 3 38 1 k = k 40 := gR_k (by rw [k_38 h]) (r_38_1 h) k
theorem xr_38_2 (h : Sh σ) (k : Nat → Option mm_R) : gR σ 3 38 2 k = k 41 := gR_k (by rw [k_38 h]) (r_38_2 h) k
theorem xr_38_3 (h : Sh σ) (k : Nat → Option mm_R) : gR σ 3 38 3 k = k 42 := gR_k (by rw [k_38 h]) (r_38_3 h) k
theorem xr_38_4 (h : Sh σ) (k : Nat → Option mm_R) : gR σ 3 38 4 k = k 43 := gR_k (by rw [k_38 h]) (r_38_4 h) k
theorem xr_38_5 (h : Sh σ) (k : Nat → Option mm_R) : gR σ 3 38 5 k = k 44 := gR_k (by rw [k_38 h]) (r_38_5 h) k
theorem xr_38_6 (h : Sh σ) (k : Nat → Option mm_R) : gR σ 3 38 6 k = k 45 := gR_k (by rw [k_38 h]) (r_38_6 h) k
theorem xr_46_0 (h : Sh σ) (k : Nat → Option mm_R) : gR σ 4 46 0 k = k 47 := gR_k (by rw [k_46 h]) (r_46_0 h) k
theorem xr_46_1 (h : Sh σ) (k : Nat → Option mm_R) : gR σ 4 46 1 k = k 48 := gR_k (by rw [k_46 h]) (r_46_1 h) k
theorem xr_49_0 (h : Sh σ) (k : Nat → Option mm_R) : gR σ 11 49 0 k = k 50 := gR_k (by rw [k_49 h]) (r_49_0 h) k
theorem xr_51_0 (h : Sh σ) (k : Nat → Option mm_R) : gR σ 11 51 0 k = k 52 := gR_k (by rw [k_51 h]) (r_51_0 h) k
theorem xr_53_9 (h : Sh σ) (k : Nat → Option mm_R) : gR σ 12 53 9 k = k 54 := gR_k (by rw [k_53 h]) (r_53_9 h) k
theorem xr_53_10 (h : Sh σ) (k : Nat → Option mm_R) : gR σ 12 53 10 k = k 55 := gR_k (by rw [k_53 h]) (r_53_10 h) k
theorem xr_53_11 (h : Sh σ) (k : Nat → Option mm_R) : gR σ 12 53 11 k = k 56 := gR_k (by rw [k_53 h]) (r_53_11 h) k
theorem xr_53_12 (h : Sh σ) (k : Nat → Option mm_R) : gR σ 12 53 12 k = k 57 := gR_k (by rw [k_53 h]) (r_53_12 h) k
theorem xr_53_13 (h : Sh σ) (k : Nat → Option mm_R) : gR σ 12 53 13 k = k 58 := gR_k (by rw [k_53 h]) (r_53_13 h) k
theorem xr_53_14 (h : Sh σ) (k : Nat → Option mm_R) : gR σ 12 53 14 k = k 66 := gR_k (by rw [k_53 h]) (r_53_14 h) k
theorem xr_53_15 (h : Sh σ) (k : Nat → Option mm_R) : gR σ 12 53 15 k = k 74 := gR_k (by rw [k_53 h]) (r_53_15 h) k
theorem xr_53_16 (h : Sh σ) (k : Nat → Option mm_R) : gR σ 12 53 16 k = k 81 := gR_k (by rw [k_53 h]) (r_53_16 h) k
theorem xr_53_17 (h : Sh σ) (k : Nat → Option mm_R) : gR σ 12 53 17 k = k 88 := gR_k (by rw [k_53 h]) (r_53_17 h) k
theorem xr_53_18 (h : Sh σ) (k : Nat → Option mm_R) : gR σ 12 53 18 k = k 101 := gR_k (by rw [k_53 h]) (r_53_18 h) k
theorem xr_53_21 (h : Sh σ) (k : Nat → Option mm_R) : gR σ 12 53 21 k = k 114 := gR_k (by rw [k_53 h]) (r_53_21 h) k
theorem xr_53_22 (h : Sh σ) (k : Nat → Option mm_R) : gR σ 12 53 22 k = k 275 := gR_k (by rw [k_53 h]) (r_53_22 h) k
theorem xr_53_23 (h : Sh σ) (k : Nat → Option mm_R) : gR σ 12 53 23 k = k 436 := gR_k (by rw [k_53 h]) (r_53_23 h) k
theorem xr_53_24 (h : Sh σ) (k : Nat → Option mm_R) : gR σ 12 53 24 k = k 443 := gR_k (by rw [k_53 h]) (r_53_24 h) k
theorem xr_53_25 (h : Sh σ) (k : Nat → Option mm_R) : gR σ 12 53 25 k = k 450 := gR_k (by rw [k_53 h]) (r_53_25 h) k
theorem xr_53_26 (h : Sh σ) (k : Nat → Option mm_R) : gR σ 12 53 26 k = k 451 := gR_k (by rw [k_53 h]) (r_53_26 h) k
theorem xr_53_27 (h : Sh σ) (k : Nat → Option mm_R) : gR σ 12 53 27 k = k 452 := gR_k (by rw [k_53 h]) (r_53_27 h) k
theorem xr_53_29 (h : Sh σ) (k : Nat → Option mm_R) : gR σ 12 53 29 k = k 533 := gR_k (by rw [k_53 h]) (r_53_29 h) k
theorem xr_53_30 (h : Sh σ) (k : Nat → Option mm_R) : gR σ 12 53 30 k = k 534 := gR_k (by rw [k_53 h]) (r_53_30 h) k
theorem xr_53_31 (h : Sh σ) (k : Nat → Option mm_R) : gR σ 12 53 31 k = k 535 := gR_k (by rw [k_53 h]) (r_53_31 h) k
theorem xr_53_32 (h : Sh σ) (k : Nat → Option mm_R) : gR σ 12 53 32 k = k 552 := gR_k (by rw [k_53 h]) (r_53_32 h) k
theorem xr_53_40 (h : Sh σ) (k : Nat → Option mm_R) : gR σ 12 53 40 k = k 556 := gR_k (by rw [k_53 h]) (r_53_40 h) k
theorem xr_53_41 (h : Sh σ) (k : Nat → Option mm_R) : gR σ 12 53 41 k = k 557 := gR_k (by rw [k_53 h]) (r_53_41 h) k
theorem xr_53_43 (h : Sh σ) (k : Nat → Option mm_R) : gR σ 12 53 43 k = k 558 := gR_k (by rw [k_53 h]) (r_53_43 h) k
theorem xr_53_44 (h : Sh σ) (k : Nat → Option mm_R) : gR σ 12 53 44 k = k 559 := gR_k (by rw [k_53 h]) (r_53_44 h) k
theorem xr_3_1 (h : Sh σ) (k : Nat → Option mm_R) : gR σ 2 3 1 k = k (ldA σ) := gR_k (by rw [k_3 h]) h.2.2.1.1 k
theorem xr_3_2 (h : Sh σ) (k : Nat → Option mm_R) : gR σ 2 3 2 k = k (lwA σ) := gR_k (by rw [k_3 h]) h.2.2.1.2.1 k
theorem xr_0_9 (h : Sh σ) (k : Nat → Option mm_R) : gR σ 0 0 9 k = k (43 - ldA σ) := gR_k (by rw [k_0 h]) h.2.2.1.2.2.1 k
theorem xr_0_10 (h : Sh σ) (k : Nat → Option mm_R) : gR σ 0 0 10 k = k (59 - lwA σ) := gR_k (by rw [k_0 h]) h.2.2.1.2.2.2.1 k
theorem xr_0_11 (h : Sh σ) (k : Nat → Option mm_R) : gR σ 0 0 11 k = k (bkA σ) := gR_k (by rw [k_0 h]) h.2.2.1.2.2.2.2.1 k
theorem xr_0_12 (h : Sh σ) (k : Nat → Option mm_R) : gR σ 0 0 12 k = k (100 - bkA σ) := gR_k (by rw [k_0 h]) h.2.2.1.2.2.2.2.2 k
theorem al_0 (a : Nat) (k : Int32 → Option mm_R) : aI σ a 0 k = aI σ a (nI 0) k := rfl
theorem tl_0 (a : Nat) (v : Int32) (k : mm_M → Option mm_R) : tI σ a 0 v k = tI σ a (nI 0) v k := rfl
theorem Rl_0 (a : Nat) (k : Nat → Option mm_R) : aR σ a 0 k = aR σ a (nI 0) k := rfl
theorem la_0 (p : Nat) : (0 : Int32) + nI p = nI (0 + p) := nI_add 0 p
theorem ra_0 (p : Nat) : nI p + (0 : Int32) = nI (p + 0) := nI_add p 0
theorem lm_0 (p : Nat) : (0 : Int32) * nI p = nI (0 * p) := pk_mul 0 p
theorem rm_0 (p : Nat) : nI p * (0 : Int32) = nI (p * 0) := pk_mul p 0
theorem lel_0 {b : Nat} (hb : b < 2147483648) : ((0 : Int32) ≤ nI b) = (0 ≤ b) := propext (nI_leI (by decide) hb)
theorem ler_0 {a : Nat} (ha : a < 2147483648) : (nI a ≤ (0 : Int32)) = (a ≤ 0) := propext (nI_leI ha (by decide))
theorem ltl_0 {b : Nat} (hb : b < 2147483648) : ((0 : Int32) < nI b) = (0 < b) := propext (nI_ltI (by decide) hb)
theorem ltr_0 {a : Nat} (ha : a < 2147483648) : (nI a < (0 : Int32)) = (a < 0) := propext (nI_ltI ha (by decide))
theorem eqr_0 {a : Nat} (ha : a < 2147483648) : (nI a = (0 : Int32)) = (a = 0) := propext (nI_eq ha (by decide))
theorem al_1 (a : Nat) (k : Int32 → Option mm_R) : aI σ a 1 k = aI σ a (nI 1) k := rfl
theorem tl_1 (a : Nat) (v : Int32) (k : mm_M → Option mm_R) : tI σ a 1 v k = tI σ a (nI 1) v k := rfl
theorem Rl_1 (a : Nat) (k : Nat → Option mm_R) : aR σ a 1 k = aR σ a (nI 1) k := rfl
theorem la_1 (p : Nat) : (1 : Int32) + nI p = nI (1 + p) := nI_add 1 p
theorem ra_1 (p : Nat) : nI p + (1 : Int32) = nI (p + 1) := nI_add p 1
theorem lm_1 (p : Nat) : (1 : Int32) * nI p = nI (1 * p) := pk_mul 1 p
theorem rm_1 (p : Nat) : nI p * (1 : Int32) = nI (p * 1) := pk_mul p 1
theorem lel_1 {b : Nat} (hb : b < 2147483648) : ((1 : Int32) ≤ nI b) = (1 ≤ b) := propext (nI_leI (by decide) hb)
theorem ler_1 {a : Nat} (ha : a < 2147483648) : (nI a ≤ (1 : Int32)) = (a ≤ 1) := propext (nI_leI ha (by decide))
theorem ltl_1 {b : Nat} (hb : b < 2147483648) : ((1 : Int32) < nI b) = (1 < b) := propext (nI_ltI (by decide) hb)
theorem ltr_1 {a : Nat} (ha : a < 2147483648) : (nI a < (1 : Int32)) = (a < 1) := propext (nI_ltI ha (by decide))
theorem eqr_1 {a : Nat} (ha : a < 2147483648) : (nI a = (1 : Int32)) = (a = 1) := propext (nI_eq ha (by decide))
theorem al_2 (a : Nat) (k : Int32 → Option mm_R) : aI σ a 2 k = aI σ a (nI 2) k := rfl
theorem tl_2 (a : Nat) (v : Int32) (k : mm_M → Option mm_R) : tI σ a 2 v k = tI σ a (nI 2) v k := rfl
theorem Rl_2 (a : Nat) (k : Nat → Option mm_R) : aR σ a 2 k = aR σ a (nI 2) k := rfl
theorem la_2 (p : Nat) : (2 : Int32) + nI p = nI (2 + p) := nI_add 2 p
theorem ra_2 (p : Nat) : nI p + (2 : Int32) = nI (p + 2) := nI_add p 2
theorem lm_2 (p : Nat) : (2 : Int32) * nI p = nI (2 * p) := pk_mul 2 p
theorem rm_2 (p : Nat) : nI p * (2 : Int32) = nI (p * 2) := pk_mul p 2
theorem lel_2 {b : Nat} (hb : b < 2147483648) : ((2 : Int32) ≤ nI b) = (2 ≤ b) := propext (nI_leI (by decide) hb)
theorem ler_2 {a : Nat} (ha : a < 2147483648) : (nI a ≤ (2 : Int32)) = (a ≤ 2) := propext (nI_leI ha (by decide))
theorem ltl_2 {b : Nat} (hb : b < 2147483648) : ((2 : Int32) < nI b) = (2 < b) := propext (nI_ltI (by decide) hb)
theorem ltr_2 {a : Nat} (ha : a < 2147483648) : (nI a < (2 : Int32)) = (a < 2) := propext (nI_ltI ha (by decide))
theorem eqr_2 {a : Nat} (ha : a < 2147483648) : (nI a = (2 : Int32)) = (a = 2) := propext (nI_eq ha (by decide))
theorem al_3 (a : Nat) (k : Int32 → Option mm_R) : aI σ a 3 k = aI σ a (nI 3) k := rfl
theorem tl_3 (a : Nat) (v : Int32) (k : mm_M → Option mm_R) : tI σ a 3 v k = tI σ a (nI 3) v k := rfl
theorem Rl_3 (a : Nat) (k : Nat → Option mm_R) : aR σ a 3 k = aR σ a (nI 3) k := rfl
theorem la_3 (p : Nat) : (3 : Int32) + nI p = nI (3 + p) := nI_add 3 p
theorem ra_3 (p : Nat) : nI p + (3 : Int32) = nI (p + 3) := nI_add p 3
theorem lm_3 (p : Nat) : (3 : Int32) * nI p = nI (3 * p) := pk_mul 3 p
theorem rm_3 (p : Nat) : nI p * (3 : Int32) = nI (p * 3) := pk_mul p 3
theorem lel_3 {b : Nat} (hb : b < 2147483648) : ((3 : Int32) ≤ nI b) = (3 ≤ b) := propext (nI_leI (by decide) hb)
theorem ler_3 {a : Nat} (ha : a < 2147483648) : (nI a ≤ (3 : Int32)) = (a ≤ 3) := propext (nI_leI ha (by decide))
theorem ltl_3 {b : Nat} (hb : b < 2147483648) : ((3 : Int32) < nI b) = (3 < b) := propext (nI_ltI (by decide) hb)
theorem ltr_3 {a : Nat} (ha : a < 2147483648) : (nI a < (3 : Int32)) = (a < 3) := propext (nI_ltI ha (by decide))
theorem eqr_3 {a : Nat} (ha : a < 2147483648) : (nI a = (3 : Int32)) = (a = 3) := propext (nI_eq ha (by decide))
theorem al_4 (a : Nat) (k : Int32 → Option mm_R) : aI σ a 4 k = aI σ a (nI 4) k := rfl
theorem tl_4 (a : Nat) (v : Int32) (k : mm_M → Option mm_R) : tI σ a 4 v k = tI σ a (nI 4) v k := rfl
theorem Rl_4 (a : Nat) (k : Nat → Option mm_R) : aR σ a 4 k = aR σ a (nI 4) k := rfl
theorem la_4 (p : Nat) : (4 : Int32) + nI p = nI (4 + p) := nI_add 4 p
theorem ra_4 (p : Nat) : nI p + (4 : Int32) = nI (p + 4) := nI_add p 4
theorem lm_4 (p : Nat) : (4 : Int32) * nI p = nI (4 * p) := pk_mul 4 p
theorem rm_4 (p : Nat) : nI p * (4 : Int32) = nI (p * 4) := pk_mul p 4
theorem lel_4 {b : Nat} (hb : b < 2147483648) : ((4 : Int32) ≤ nI b) = (4 ≤ b) := propext (nI_leI (by decide) hb)
theorem ler_4 {a : Nat} (ha : a < 2147483648) : (nI a ≤ (4 : Int32)) = (a ≤ 4) := propext (nI_leI ha (by decide))
theorem ltl_4 {b : Nat} (hb : b < 2147483648) : ((4 : Int32) < nI b) = (4 < b) := propext (nI_ltI (by decide) hb)
theorem ltr_4 {a : Nat} (ha : a < 2147483648) : (nI a < (4 : Int32)) = (a < 4) := propext (nI_ltI ha (by decide))
theorem eqr_4 {a : Nat} (ha : a < 2147483648) : (nI a = (4 : Int32)) = (a = 4) := propext (nI_eq ha (by decide))
theorem al_5 (a : Nat) (k : Int32 → Option mm_R) : aI σ a 5 k = aI σ a (nI 5) k := rfl
theorem tl_5 (a : Nat) (v : Int32) (k : mm_M → Option mm_R) : tI σ a 5 v k = tI σ a (nI 5) v k := rfl
theorem Rl_5 (a : Nat) (k : Nat → Option mm_R) : aR σ a 5 k = aR σ a (nI 5) k := rfl
theorem la_5 (p : Nat) : (5 : Int32) + nI p = nI (5 + p) := nI_add 5 p
theorem ra_5 (p : Nat) : nI p + (5 : Int32) = nI (p + 5) := nI_add p 5
theorem lm_5 (p : Nat) : (5 : Int32) * nI p = nI (5 * p) := pk_mul 5 p
theorem rm_5 (p : Nat) : nI p * (5 : Int32) = nI (p * 5) := pk_mul p 5
theorem lel_5 {b : Nat} (hb : b < 2147483648) : ((5 : Int32) ≤ nI b) = (5 ≤ b) := propext (nI_leI (by decide) hb)
theorem ler_5 {a : Nat} (ha : a < 2147483648) : (nI a ≤ (5 : Int32)) = (a ≤ 5) := propext (nI_leI ha (by decide))
theorem ltl_5 {b : Nat} (hb : b < 2147483648) : ((5 : Int32) < nI b) = (5 < b) := propext (nI_ltI (by decide) hb)
theorem ltr_5 {a : Nat} (ha : a < 2147483648) : (nI a < (5 : Int32)) = (a < 5) := propext (nI_ltI ha (by decide))
theorem eqr_5 {a : Nat} (ha : a < 2147483648) : (nI a = (5 : Int32)) = (a = 5) := propext (nI_eq ha (by decide))
theorem al_6 (a : Nat) (k : Int32 → Option mm_R) : aI σ a 6 k = aI σ a (nI 6) k := rfl
theorem tl_6 (a : Nat) (v : Int32) (k : mm_M → Option mm_R) : tI σ a 6 v k = tI σ a (nI 6) v k := rfl
theorem Rl_6 (a : Nat) (k : Nat → Option mm_R) : aR σ a 6 k = aR σ a (nI 6) k := rfl
theorem la_6 (p : Nat) : (6 : Int32) + nI p = nI (6 + p) := nI_add 6 p
theorem ra_6 (p : Nat) : nI p + (6 : Int32) = nI (p + 6) := nI_add p 6
theorem lm_6 (p : Nat) : (6 : Int32) * nI p = nI (6 * p) := pk_mul 6 p
theorem rm_6 (p : Nat) : nI p * (6 : Int32) = nI (p * 6) := pk_mul p 6
theorem lel_6 {b : Nat} (hb : b < 2147483648) : ((6 : Int32) ≤ nI b) = (6 ≤ b) := propext (nI_leI (by decide) hb)
theorem ler_6 {a : Nat} (ha : a < 2147483648) : (nI a ≤ (6 : Int32)) = (a ≤ 6) := propext (nI_leI ha (by decide))
theorem ltl_6 {b : Nat} (hb : b < 2147483648) : ((6 : Int32) < nI b) = (6 < b) := propext (nI_ltI (by decide) hb)
theorem ltr_6 {a : Nat} (ha : a < 2147483648) : (nI a < (6 : Int32)) = (a < 6) := propext (nI_ltI ha (by decide))
theorem eqr_6 {a : Nat} (ha : a < 2147483648) : (nI a = (6 : Int32)) = (a = 6) := propext (nI_eq ha (by decide))
theorem al_7 (a : Nat) (k : Int32 → Option mm_R) : aI σ a 7 k = aI σ a (nI 7) k := rfl
theorem tl_7 (a : Nat) (v : Int32) (k : mm_M → Option mm_R) : tI σ a 7 v k = tI σ a (nI 7) v k := rfl
theorem Rl_7 (a : Nat) (k : Nat → Option mm_R) : aR σ a 7 k = aR σ a (nI 7) k := rfl
theorem la_7 (p : Nat) : (7 : Int32) + nI p = nI (7 + p) := nI_add 7 p
theorem ra_7 (p : Nat) : nI p + (7 : Int32) = nI (p + 7) := nI_add p 7
theorem lm_7 (p : Nat) : (7 : Int32) * nI p = nI (7 * p) := pk_mul 7 p
theorem rm_7 (p : Nat) : nI p * (7 : Int32) = nI (p * 7) := pk_mul p 7
theorem lel_7 {b : Nat} (hb : b < 2147483648) : ((7 : Int32) ≤ nI b) = (7 ≤ b) := propext (nI_leI (by decide) hb)
theorem ler_7 {a : Nat} (ha : a < 2147483648) : (nI a ≤ (7 : Int32)) = (a ≤ 7) := propext (nI_leI ha (by decide))
theorem ltl_7 {b : Nat} (hb : b < 2147483648) : ((7 : Int32) < nI b) = (7 < b) := propext (nI_ltI (by decide) hb)
theorem ltr_7 {a : Nat} (ha : a < 2147483648) : (nI a < (7 : Int32)) = (a < 7) := propext (nI_ltI ha (by decide))
theorem eqr_7 {a : Nat} (ha : a < 2147483648) : (nI a = (7 : Int32)) = (a = 7) := propext (nI_eq ha (by decide))
theorem al_8 (a : Nat) (k : Int32 → Option mm_R) : aI σ a 8 k = aI σ a (nI 8) k := rfl
theorem tl_8 (a : Nat) (v : Int32) (k : mm_M → Option mm_R) : tI σ a 8 v k = tI σ a (nI 8) v k := rfl
theorem Rl_8 (a : Nat) (k : Nat → Option mm_R) : aR σ a 8 k = aR σ a (nI 8) k := rfl
theorem la_8 (p : Nat) : (8 : Int32) + nI p = nI (8 + p) := nI_add 8 p
theorem ra_8 (p : Nat) : nI p + (8 : Int32) = nI (p + 8) := nI_add p 8
theorem lm_8 (p : Nat) : (8 : Int32) * nI p = nI (8 * p) := pk_mul 8 p
theorem rm_8 (p : Nat) : nI p * (8 : Int32) = nI (p * 8) := pk_mul p 8
theorem lel_8 {b : Nat} (hb : b < 2147483648) : ((8 : Int32) ≤ nI b) = (8 ≤ b) := propext (nI_leI (by decide) hb)
theorem ler_8 {a : Nat} (ha : a < 2147483648) : (nI a ≤ (8 : Int32)) = (a ≤ 8) := propext (nI_leI ha (by decide))
theorem ltl_8 {b : Nat} (hb : b < 2147483648) : ((8 : Int32) < nI b) = (8 < b) := propext (nI_ltI (by decide) hb)
theorem ltr_8 {a : Nat} (ha : a < 2147483648) : (nI a < (8 : Int32)) = (a < 8) := propext (nI_ltI ha (by decide))
theorem eqr_8 {a : Nat} (ha : a < 2147483648) : (nI a = (8 : Int32)) = (a = 8) := propext (nI_eq ha (by decide))
theorem al_9 (a : Nat) (k : Int32 → Option mm_R) : aI σ a 9 k = aI σ a (nI 9) k := rfl
theorem tl_9 (a : Nat) (v : Int32) (k : mm_M → Option mm_R) : tI σ a 9 v k = tI σ a (nI 9) v k := rfl
theorem Rl_9 (a : Nat) (k : Nat → Option mm_R) : aR σ a 9 k = aR σ a (nI 9) k := rfl
theorem la_9 (p : Nat) : (9 : Int32) + nI p = nI (9 + p) := nI_add 9 p
theorem ra_9 (p : Nat) : nI p + (9 : Int32) = nI (p + 9) := nI_add p 9
theorem lm_9 (p : Nat) : (9 : Int32) * nI p = nI (9 * p) := pk_mul 9 p
theorem rm_9 (p : Nat) : nI p * (9 : Int32) = nI (p * 9) := pk_mul p 9
theorem lel_9 {b : Nat} (hb : b < 2147483648) : ((9 : Int32) ≤ nI b) = (9 ≤ b) := propext (nI_leI (by decide) hb)
theorem ler_9 {a : Nat} (ha : a < 2147483648) : (nI a ≤ (9 : Int32)) = (a ≤ 9) := propext (nI_leI ha (by decide))
theorem ltl_9 {b : Nat} (hb : b < 2147483648) : ((9 : Int32) < nI b) = (9 < b) := propext (nI_ltI (by decide) hb)
theorem ltr_9 {a : Nat} (ha : a < 2147483648) : (nI a < (9 : Int32)) = (a < 9) := propext (nI_ltI ha (by decide))
theorem eqr_9 {a : Nat} (ha : a < 2147483648) : (nI a = (9 : Int32)) = (a = 9) := propext (nI_eq ha (by decide))
theorem al_10 (a : Nat) (k : Int32 → Option mm_R) : aI σ a 10 k = aI σ a (nI 10) k := rfl
theorem tl_10 (a : Nat) (v : Int32) (k : mm_M → Option mm_R) : tI σ a 10 v k = tI σ a (nI 10) v k := rfl
theorem Rl_10 (a : Nat) (k : Nat → Option mm_R) : aR σ a 10 k = aR σ a (nI 10) k := rfl
theorem la_10 (p : Nat) : (10 : Int32) + nI p = nI (10 + p) := nI_add 10 p
theorem ra_10 (p : Nat) : nI p + (10 : Int32) = nI (p + 10) := nI_add p 10
theorem lm_10 (p : Nat) : (10 : Int32) * nI p = nI (10 * p) := pk_mul 10 p
theorem rm_10 (p : Nat) : nI p * (10 : Int32) = nI (p * 10) := pk_mul p 10
theorem lel_10 {b : Nat} (hb : b < 2147483648) : ((10 : Int32) ≤ nI b) = (10 ≤ b) := propext (nI_leI (by decide) hb)
theorem ler_10 {a : Nat} (ha : a < 2147483648) : (nI a ≤ (10 : Int32)) = (a ≤ 10) := propext (nI_leI ha (by decide))
theorem ltl_10 {b : Nat} (hb : b < 2147483648) : ((10 : Int32) < nI b) = (10 < b) := propext (nI_ltI (by decide) hb)
theorem ltr_10 {a : Nat} (ha : a < 2147483648) : (nI a < (10 : Int32)) = (a < 10) := propext (nI_ltI ha (by decide))
theorem eqr_10 {a : Nat} (ha : a < 2147483648) : (nI a = (10 : Int32)) = (a = 10) := propext (nI_eq ha (by decide))
theorem al_11 (a : Nat) (k : Int32 → Option mm_R) : aI σ a 11 k = aI σ a (nI 11) k := rfl
theorem tl_11 (a : Nat) (v : Int32) (k : mm_M → Option mm_R) : tI σ a 11 v k = tI σ a (nI 11) v k := rfl
theorem Rl_11 (a : Nat) (k : Nat → Option mm_R) : aR σ a 11 k = aR σ a (nI 11) k := rfl
theorem la_11 (p : Nat) : (11 : Int32) + nI p = nI (11 + p) := nI_add 11 p
theorem ra_11 (p : Nat) : nI p + (11 : Int32) = nI (p + 11) := nI_add p 11
theorem lm_11 (p : Nat) : (11 : Int32) * nI p = nI (11 * p) := pk_mul 11 p
theorem rm_11 (p : Nat) : nI p * (11 : Int32) = nI (p * 11) := pk_mul p 11
theorem lel_11 {b : Nat} (hb : b < 2147483648) : ((11 : Int32) ≤ nI b) = (11 ≤ b) := propext (nI_leI (by decide) hb)
theorem ler_11 {a : Nat} (ha : a < 2147483648) : (nI a ≤ (11 : Int32)) = (a ≤ 11) := propext (nI_leI ha (by decide))
theorem ltl_11 {b : Nat} (hb : b < 2147483648) : ((11 : Int32) < nI b) = (11 < b) := propext (nI_ltI (by decide) hb)
theorem ltr_11 {a : Nat} (ha : a < 2147483648) : (nI a < (11 : Int32)) = (a < 11) := propext (nI_ltI ha (by decide))
theorem eqr_11 {a : Nat} (ha : a < 2147483648) : (nI a = (11 : Int32)) = (a = 11) := propext (nI_eq ha (by decide))
theorem al_12 (a : Nat) (k : Int32 → Option mm_R) : aI σ a 12 k = aI σ a (nI 12) k := rfl
theorem tl_12 (a : Nat) (v : Int32) (k : mm_M → Option mm_R) : tI σ a 12 v k = tI σ a (nI 12) v k := rfl
theorem Rl_12 (a : Nat) (k : Nat → Option mm_R) : aR σ a 12 k = aR σ a (nI 12) k := rfl
theorem la_12 (p : Nat) : (12 : Int32) + nI p = nI (12 + p) := nI_add 12 p
theorem ra_12 (p : Nat) : nI p + (12 : Int32) = nI (p + 12) := nI_add p 12
theorem lm_12 (p : Nat) : (12 : Int32) * nI p = nI (12 * p) := pk_mul 12 p
theorem rm_12 (p : Nat) : nI p * (12 : Int32) = nI (p * 12) := pk_mul p 12
theorem lel_12 {b : Nat} (hb : b < 2147483648) : ((12 : Int32) ≤ nI b) = (12 ≤ b) := propext (nI_leI (by decide) hb)
theorem ler_12 {a : Nat} (ha : a < 2147483648) : (nI a ≤ (12 : Int32)) = (a ≤ 12) := propext (nI_leI ha (by decide))
theorem ltl_12 {b : Nat} (hb : b < 2147483648) : ((12 : Int32) < nI b) = (12 < b) := propext (nI_ltI (by decide) hb)
theorem ltr_12 {a : Nat} (ha : a < 2147483648) : (nI a < (12 : Int32)) = (a < 12) := propext (nI_ltI ha (by decide))
theorem eqr_12 {a : Nat} (ha : a < 2147483648) : (nI a = (12 : Int32)) = (a = 12) := propext (nI_eq ha (by decide))
theorem al_13 (a : Nat) (k : Int32 → Option mm_R) : aI σ a 13 k = aI σ a (nI 13) k := rfl
theorem tl_13 (a : Nat) (v : Int32) (k : mm_M → Option mm_R) : tI σ a 13 v k = tI σ a (nI 13) v k := rfl
theorem Rl_13 (a : Nat) (k : Nat → Option mm_R) : aR σ a 13 k = aR σ a (nI 13) k := rfl
theorem la_13 (p : Nat) : (13 : Int32) + nI p = nI (13 + p) := nI_add 13 p
theorem ra_13 (p : Nat) : nI p + (13 : Int32) = nI (p + 13) := nI_add p 13
theorem lm_13 (p : Nat) : (13 : Int32) * nI p = nI (13 * p) := pk_mul 13 p
theorem rm_13 (p : Nat) : nI p * (13 : Int32) = nI (p * 13) := pk_mul p 13
theorem lel_13 {b : Nat} (hb : b < 2147483648) : ((13 : Int32) ≤ nI b) = (13 ≤ b) := propext (nI_leI (by decide) hb)
theorem ler_13 {a : Nat} (ha : a < 2147483648) : (nI a ≤ (13 : Int32)) = (a ≤ 13) := propext (nI_leI ha (by decide))
theorem ltl_13 {b : Nat} (hb : b < 2147483648) : ((13 : Int32) < nI b) = (13 < b) := propext (nI_ltI (by decide) hb)
theorem ltr_13 {a : Nat} (ha : a < 2147483648) : (nI a < (13 : Int32)) = (a < 13) := propext (nI_ltI ha (by decide))
theorem eqr_13 {a : Nat} (ha : a < 2147483648) : (nI a = (13 : Int32)) = (a = 13) := propext (nI_eq ha (by decide))
theorem al_14 (a : Nat) (k : Int32 → Option mm_R) : aI σ a 14 k = aI σ a (nI 14) k := rfl
theorem tl_14 (a : Nat) (v : Int32) (k : mm_M → Option mm_R) : tI σ a 14 v k = tI σ a (nI 14) v k := rfl
theorem Rl_14 (a : Nat) (k : Nat → Option mm_R) : aR σ a 14 k = aR σ a (nI 14) k := rfl
theorem la_14 (p : Nat) : (14 : Int32) + nI p = nI (14 + p) := nI_add 14 p
theorem ra_14 (p : Nat) : nI p + (14 : Int32) = nI (p + 14) := nI_add p 14
theorem lm_14 (p : Nat) : (14 : Int32) * nI p = nI (14 * p) := pk_mul 14 p
theorem rm_14 (p : Nat) : nI p * (14 : Int32) = nI (p * 14) := pk_mul p 14
theorem lel_14 {b : Nat} (hb : b < 2147483648) : ((14 : Int32) ≤ nI b) = (14 ≤ b) := propext (nI_leI (by decide) hb)
theorem ler_14 {a : Nat} (ha : a < 2147483648) : (nI a ≤ (14 : Int32)) = (a ≤ 14) := propext (nI_leI ha (by decide))
theorem ltl_14 {b : Nat} (hb : b < 2147483648) : ((14 : Int32) < nI b) = (14 < b) := propext (nI_ltI (by decide) hb)
theorem ltr_14 {a : Nat} (ha : a < 2147483648) : (nI a < (14 : Int32)) = (a < 14) := propext (nI_ltI ha (by decide))
theorem eqr_14 {a : Nat} (ha : a < 2147483648) : (nI a = (14 : Int32)) = (a = 14) := propext (nI_eq ha (by decide))
theorem al_15 (a : Nat) (k : Int32 → Option mm_R) : aI σ a 15 k = aI σ a (nI 15) k := rfl
theorem tl_15 (a : Nat) (v : Int32) (k : mm_M → Option mm_R) : tI σ a 15 v k = tI σ a (nI 15) v k := rfl
theorem Rl_15 (a : Nat) (k : Nat → Option mm_R) : aR σ a 15 k = aR σ a (nI 15) k := rfl
theorem la_15 (p : Nat) : (15 : Int32) + nI p = nI (15 + p) := nI_add 15 p
theorem ra_15 (p : Nat) : nI p + (15 : Int32) = nI (p + 15) := nI_add p 15
theorem lm_15 (p : Nat) : (15 : Int32) * nI p = nI (15 * p) := pk_mul 15 p
theorem rm_15 (p : Nat) : nI p * (15 : Int32) = nI (p * 15) := pk_mul p 15
theorem lel_15 {b : Nat} (hb : b < 2147483648) : ((15 : Int32) ≤ nI b) = (15 ≤ b) := propext (nI_leI (by decide) hb)
theorem ler_15 {a : Nat} (ha : a < 2147483648) : (nI a ≤ (15 : Int32)) = (a ≤ 15) := propext (nI_leI ha (by decide))
theorem ltl_15 {b : Nat} (hb : b < 2147483648) : ((15 : Int32) < nI b) = (15 < b) := propext (nI_ltI (by decide) hb)
theorem ltr_15 {a : Nat} (ha : a < 2147483648) : (nI a < (15 : Int32)) = (a < 15) := propext (nI_ltI ha (by decide))
theorem eqr_15 {a : Nat} (ha : a < 2147483648) : (nI a = (15 : Int32)) = (a = 15) := propext (nI_eq ha (by decide))
theorem al_16 (a : Nat) (k : Int32 → Option mm_R) : aI σ a 16 k = aI σ a (nI 16) k := rfl
theorem tl_16 (a : Nat) (v : Int32) (k : mm_M → Option mm_R) : tI σ a 16 v k = tI σ a (nI 16) v k := rfl
theorem Rl_16 (a : Nat) (k : Nat → Option mm_R) : aR σ a 16 k = aR σ a (nI 16) k := rfl
theorem la_16 (p : Nat) : (16 : Int32) + nI p = nI (16 + p) := nI_add 16 p
theorem ra_16 (p : Nat) : nI p + (16 : Int32) = nI (p + 16) := nI_add p 16
theorem lm_16 (p : Nat) : (16 : Int32) * nI p = nI (16 * p) := pk_mul 16 p
theorem rm_16 (p : Nat) : nI p * (16 : Int32) = nI (p * 16) := pk_mul p 16
theorem lel_16 {b : Nat} (hb : b < 2147483648) : ((16 : Int32) ≤ nI b) = (16 ≤ b) := propext (nI_leI (by decide) hb)
theorem ler_16 {a : Nat} (ha : a < 2147483648) : (nI a ≤ (16 : Int32)) = (a ≤ 16) := propext (nI_leI ha (by decide))
theorem ltl_16 {b : Nat} (hb : b < 2147483648) : ((16 : Int32) < nI b) = (16 < b) := propext (nI_ltI (by decide) hb)
theorem ltr_16 {a : Nat} (ha : a < 2147483648) : (nI a < (16 : Int32)) = (a < 16) := propext (nI_ltI ha (by decide))
theorem eqr_16 {a : Nat} (ha : a < 2147483648) : (nI a = (16 : Int32)) = (a = 16) := propext (nI_eq ha (by decide))
theorem al_17 (a : Nat) (k : Int32 → Option mm_R) : aI σ a 17 k = aI σ a (nI 17) k := rfl
theorem tl_17 (a : Nat) (v : Int32) (k : mm_M → Option mm_R) : tI σ a 17 v k = tI σ a (nI 17) v k := rfl
theorem Rl_17 (a : Nat) (k : Nat → Option mm_R) : aR σ a 17 k = aR σ a (nI 17) k := rfl
theorem la_17 (p : Nat) : (17 : Int32) + nI p = nI (17 + p) := nI_add 17 p
theorem ra_17 (p : Nat) : nI p + (17 : Int32) = nI (p + 17) := nI_add p 17
theorem lm_17 (p : Nat) : (17 : Int32) * nI p = nI (17 * p) := pk_mul 17 p
theorem rm_17 (p : Nat) : nI p * (17 : Int32) = nI (p * 17) := pk_mul p 17
theorem lel_17 {b : Nat} (hb : b < 2147483648) : ((17 : Int32) ≤ nI b) = (17 ≤ b) := propext (nI_leI (by decide) hb)
theorem ler_17 {a : Nat} (ha : a < 2147483648) : (nI a ≤ (17 : Int32)) = (a ≤ 17) := propext (nI_leI ha (by decide))
theorem ltl_17 {b : Nat} (hb : b < 2147483648) : ((17 : Int32) < nI b) = (17 < b) := propext (nI_ltI (by decide) hb)
theorem ltr_17 {a : Nat} (ha : a < 2147483648) : (nI a < (17 : Int32)) = (a < 17) := propext (nI_ltI ha (by decide))
theorem eqr_17 {a : Nat} (ha : a < 2147483648) : (nI a = (17 : Int32)) = (a = 17) := propext (nI_eq ha (by decide))
theorem al_18 (a : Nat) (k : Int32 → Option mm_R) : aI σ a 18 k = aI σ a (nI 18) k := rfl
theorem tl_18 (a : Nat) (v : Int32) (k : mm_M → Option mm_R) : tI σ a 18 v k = tI σ a (nI 18) v k := rfl
theorem Rl_18 (a : Nat) (k : Nat → Option mm_R) : aR σ a 18 k = aR σ a (nI 18) k := rfl
theorem la_18 (p : Nat) : (18 : Int32) + nI p = nI (18 + p) := nI_add 18 p
theorem ra_18 (p : Nat) : nI p + (18 : Int32) = nI (p + 18) := nI_add p 18
theorem lm_18 (p : Nat) : (18 : Int32) * nI p = nI (18 * p) := pk_mul 18 p
theorem rm_18 (p : Nat) : nI p * (18 : Int32) = nI (p * 18) := pk_mul p 18
theorem lel_18 {b : Nat} (hb : b < 2147483648) : ((18 : Int32) ≤ nI b) = (18 ≤ b) := propext (nI_leI (by decide) hb)
theorem ler_18 {a : Nat} (ha : a < 2147483648) : (nI a ≤ (18 : Int32)) = (a ≤ 18) := propext (nI_leI ha (by decide))
theorem ltl_18 {b : Nat} (hb : b < 2147483648) : ((18 : Int32) < nI b) = (18 < b) := propext (nI_ltI (by decide) hb)
theorem ltr_18 {a : Nat} (ha : a < 2147483648) : (nI a < (18 : Int32)) = (a < 18) := propext (nI_ltI ha (by decide))
theorem eqr_18 {a : Nat} (ha : a < 2147483648) : (nI a = (18 : Int32)) = (a = 18) := propext (nI_eq ha (by decide))
theorem al_19 (a : Nat) (k : Int32 → Option mm_R) : aI σ a 19 k = aI σ a (nI 19) k := rfl
theorem tl_19 (a : Nat) (v : Int32) (k : mm_M → Option mm_R) : tI σ a 19 v k = tI σ a (nI 19) v k := rfl
theorem Rl_19 (a : Nat) (k : Nat → Option mm_R) : aR σ a 19 k = aR σ a (nI 19) k := rfl
theorem la_19 (p : Nat) : (19 : Int32) + nI p = nI (19 + p) := nI_add 19 p
theorem ra_19 (p : Nat) : nI p + (19 : Int32) = nI (p + 19) := nI_add p 19
theorem lm_19 (p : Nat) : (19 : Int32) * nI p = nI (19 * p) := pk_mul 19 p
theorem rm_19 (p : Nat) : nI p * (19 : Int32) = nI (p * 19) := pk_mul p 19
theorem lel_19 {b : Nat} (hb : b < 2147483648) : ((19 : Int32) ≤ nI b) = (19 ≤ b) := propext (nI_leI (by decide) hb)
theorem ler_19 {a : Nat} (ha : a < 2147483648) : (nI a ≤ (19 : Int32)) = (a ≤ 19) := propext (nI_leI ha (by decide))
theorem ltl_19 {b : Nat} (hb : b < 2147483648) : ((19 : Int32) < nI b) = (19 < b) := propext (nI_ltI (by decide) hb)
theorem ltr_19 {a : Nat} (ha : a < 2147483648) : (nI a < (19 : Int32)) = (a < 19) := propext (nI_ltI ha (by decide))
theorem eqr_19 {a : Nat} (ha : a < 2147483648) : (nI a = (19 : Int32)) = (a = 19) := propext (nI_eq ha (by decide))
theorem al_20 (a : Nat) (k : Int32 → Option mm_R) : aI σ a 20 k = aI σ a (nI 20) k := rfl
theorem tl_20 (a : Nat) (v : Int32) (k : mm_M → Option mm_R) : tI σ a 20 v k = tI σ a (nI 20) v k := rfl
theorem Rl_20 (a : Nat) (k : Nat → Option mm_R) : aR σ a 20 k = aR σ a (nI 20) k := rfl
theorem la_20 (p : Nat) : (20 : Int32) + nI p = nI (20 + p) := nI_add 20 p
theorem ra_20 (p : Nat) : nI p + (20 : Int32) = nI (p + 20) := nI_add p 20
theorem lm_20 (p : Nat) : (20 : Int32) * nI p = nI (20 * p) := pk_mul 20 p
theorem rm_20 (p : Nat) : nI p * (20 : Int32) = nI (p * 20) := pk_mul p 20
theorem lel_20 {b : Nat} (hb : b < 2147483648) : ((20 : Int32) ≤ nI b) = (20 ≤ b) := propext (nI_leI (by decide) hb)
theorem ler_20 {a : Nat} (ha : a < 2147483648) : (nI a ≤ (20 : Int32)) = (a ≤ 20) := propext (nI_leI ha (by decide))
theorem ltl_20 {b : Nat} (hb : b < 2147483648) : ((20 : Int32) < nI b) = (20 < b) := propext (nI_ltI (by decide) hb)
theorem ltr_20 {a : Nat} (ha : a < 2147483648) : (nI a < (20 : Int32)) = (a < 20) := propext (nI_ltI ha (by decide))
theorem eqr_20 {a : Nat} (ha : a < 2147483648) : (nI a = (20 : Int32)) = (a = 20) := propext (nI_eq ha (by decide))
theorem al_21 (a : Nat) (k : Int32 → Option mm_R) : aI σ a 21 k = aI σ a (nI 21) k := rfl
theorem tl_21 (a : Nat) (v : Int32) (k : mm_M → Option mm_R) : tI σ a 21 v k = tI σ a (nI 21) v k := rfl
theorem Rl_21 (a : Nat) (k : Nat → Option mm_R) : aR σ a 21 k = aR σ a (nI 21) k := rfl
theorem la_21 (p : Nat) : (21 : Int32) + nI p = nI (21 + p) := nI_add 21 p
theorem ra_21 (p : Nat) : nI p + (21 : Int32) = nI (p + 21) := nI_add p 21
theorem lm_21 (p : Nat) : (21 : Int32) * nI p = nI (21 * p) := pk_mul 21 p
theorem rm_21 (p : Nat) : nI p * (21 : Int32) = nI (p * 21) := pk_mul p 21
theorem lel_21 {b : Nat} (hb : b < 2147483648) : ((21 : Int32) ≤ nI b) = (21 ≤ b) := propext (nI_leI (by decide) hb)
theorem ler_21 {a : Nat} (ha : a < 2147483648) : (nI a ≤ (21 : Int32)) = (a ≤ 21) := propext (nI_leI ha (by decide))
theorem ltl_21 {b : Nat} (hb : b < 2147483648) : ((21 : Int32) < nI b) = (21 < b) := propext (nI_ltI (by decide) hb)
theorem ltr_21 {a : Nat} (ha : a < 2147483648) : (nI a < (21 : Int32)) = (a < 21) := propext (nI_ltI ha (by decide))
theorem eqr_21 {a : Nat} (ha : a < 2147483648) : (nI a = (21 : Int32)) = (a = 21) := propext (nI_eq ha (by decide))
theorem al_24 (a : Nat) (k : Int32 → Option mm_R) : aI σ a 24 k = aI σ a (nI 24) k := rfl
theorem tl_24 (a : Nat) (v : Int32) (k : mm_M → Option mm_R) : tI σ a 24 v k = tI σ a (nI 24) v k := rfl
theorem Rl_24 (a : Nat) (k : Nat → Option mm_R) : aR σ a 24 k = aR σ a (nI 24) k := rfl
theorem la_24 (p : Nat) : (24 : Int32) + nI p = nI (24 + p) := nI_add 24 p
theorem ra_24 (p : Nat) : nI p + (24 : Int32) = nI (p + 24) := nI_add p 24
theorem lm_24 (p : Nat) : (24 : Int32) * nI p = nI (24 * p) := pk_mul 24 p
theorem rm_24 (p : Nat) : nI p * (24 : Int32) = nI (p * 24) := pk_mul p 24
theorem lel_24 {b : Nat} (hb : b < 2147483648) : ((24 : Int32) ≤ nI b) = (24 ≤ b) := propext (nI_leI (by decide) hb)
theorem ler_24 {a : Nat} (ha : a < 2147483648) : (nI a ≤ (24 : Int32)) = (a ≤ 24) := propext (nI_leI ha (by decide))
theorem ltl_24 {b : Nat} (hb : b < 2147483648) : ((24 : Int32) < nI b) = (24 < b) := propext (nI_ltI (by decide) hb)
theorem ltr_24 {a : Nat} (ha : a < 2147483648) : (nI a < (24 : Int32)) = (a < 24) := propext (nI_ltI ha (by decide))
theorem eqr_24 {a : Nat} (ha : a < 2147483648) : (nI a = (24 : Int32)) = (a = 24) := propext (nI_eq ha (by decide))
theorem al_28 (a : Nat) (k : Int32 → Option mm_R) : aI σ a 28 k = aI σ a (nI 28) k := rfl
theorem tl_28 (a : Nat) (v : Int32) (k : mm_M → Option mm_R) : tI σ a 28 v k = tI σ a (nI 28) v k := rfl
theorem Rl_28 (a : Nat) (k : Nat → Option mm_R) : aR σ a 28 k = aR σ a (nI 28) k := rfl
theorem la_28 (p : Nat) : (28 : Int32) + nI p = nI (28 + p) := nI_add 28 p
theorem ra_28 (p : Nat) : nI p + (28 : Int32) = nI (p + 28) := nI_add p 28
theorem lm_28 (p : Nat) : (28 : Int32) * nI p = nI (28 * p) := pk_mul 28 p
theorem rm_28 (p : Nat) : nI p * (28 : Int32) = nI (p * 28) := pk_mul p 28
theorem lel_28 {b : Nat} (hb : b < 2147483648) : ((28 : Int32) ≤ nI b) = (28 ≤ b) := propext (nI_leI (by decide) hb)
theorem ler_28 {a : Nat} (ha : a < 2147483648) : (nI a ≤ (28 : Int32)) = (a ≤ 28) := propext (nI_leI ha (by decide))
theorem ltl_28 {b : Nat} (hb : b < 2147483648) : ((28 : Int32) < nI b) = (28 < b) := propext (nI_ltI (by decide) hb)
theorem ltr_28 {a : Nat} (ha : a < 2147483648) : (nI a < (28 : Int32)) = (a < 28) := propext (nI_ltI ha (by decide))
theorem eqr_28 {a : Nat} (ha : a < 2147483648) : (nI a = (28 : Int32)) = (a = 28) := propext (nI_eq ha (by decide))
theorem al_31 (a : Nat) (k : Int32 → Option mm_R) : aI σ a 31 k = aI σ a (nI 31) k := rfl
theorem tl_31 (a : Nat) (v : Int32) (k : mm_M → Option mm_R) : tI σ a 31 v k = tI σ a (nI 31) v k := rfl
theorem Rl_31 (a : Nat) (k : Nat → Option mm_R) : aR σ a 31 k = aR σ a (nI 31) k := rfl
theorem la_31 (p : Nat) : (31 : Int32) + nI p = nI (31 + p) := nI_add 31 p
theorem ra_31 (p : Nat) : nI p + (31 : Int32) = nI (p + 31) := nI_add p 31
theorem lm_31 (p : Nat) : (31 : Int32) * nI p = nI (31 * p) := pk_mul 31 p
theorem rm_31 (p : Nat) : nI p * (31 : Int32) = nI (p * 31) := pk_mul p 31
theorem lel_31 {b : Nat} (hb : b < 2147483648) : ((31 : Int32) ≤ nI b) = (31 ≤ b) := propext (nI_leI (by decide) hb)
theorem ler_31 {a : Nat} (ha : a < 2147483648) : (nI a ≤ (31 : Int32)) = (a ≤ 31) := propext (nI_leI ha (by decide))
theorem ltl_31 {b : Nat} (hb : b < 2147483648) : ((31 : Int32) < nI b) = (31 < b) := propext (nI_ltI (by decide) hb)
theorem ltr_31 {a : Nat} (ha : a < 2147483648) : (nI a < (31 : Int32)) = (a < 31) := propext (nI_ltI ha (by decide))
theorem eqr_31 {a : Nat} (ha : a < 2147483648) : (nI a = (31 : Int32)) = (a = 31) := propext (nI_eq ha (by decide))
theorem al_35 (a : Nat) (k : Int32 → Option mm_R) : aI σ a 35 k = aI σ a (nI 35) k := rfl
theorem tl_35 (a : Nat) (v : Int32) (k : mm_M → Option mm_R) : tI σ a 35 v k = tI σ a (nI 35) v k := rfl
theorem Rl_35 (a : Nat) (k : Nat → Option mm_R) : aR σ a 35 k = aR σ a (nI 35) k := rfl
theorem la_35 (p : Nat) : (35 : Int32) + nI p = nI (35 + p) := nI_add 35 p
theorem ra_35 (p : Nat) : nI p + (35 : Int32) = nI (p + 35) := nI_add p 35
theorem lm_35 (p : Nat) : (35 : Int32) * nI p = nI (35 * p) := pk_mul 35 p
theorem rm_35 (p : Nat) : nI p * (35 : Int32) = nI (p * 35) := pk_mul p 35
theorem lel_35 {b : Nat} (hb : b < 2147483648) : ((35 : Int32) ≤ nI b) = (35 ≤ b) := propext (nI_leI (by decide) hb)
theorem ler_35 {a : Nat} (ha : a < 2147483648) : (nI a ≤ (35 : Int32)) = (a ≤ 35) := propext (nI_leI ha (by decide))
theorem ltl_35 {b : Nat} (hb : b < 2147483648) : ((35 : Int32) < nI b) = (35 < b) := propext (nI_ltI (by decide) hb)
theorem ltr_35 {a : Nat} (ha : a < 2147483648) : (nI a < (35 : Int32)) = (a < 35) := propext (nI_ltI ha (by decide))
theorem eqr_35 {a : Nat} (ha : a < 2147483648) : (nI a = (35 : Int32)) = (a = 35) := propext (nI_eq ha (by decide))
theorem al_37 (a : Nat) (k : Int32 → Option mm_R) : aI σ a 37 k = aI σ a (nI 37) k := rfl
theorem tl_37 (a : Nat) (v : Int32) (k : mm_M → Option mm_R) : tI σ a 37 v k = tI σ a (nI 37) v k := rfl
theorem Rl_37 (a : Nat) (k : Nat → Option mm_R) : aR σ a 37 k = aR σ a (nI 37) k := rfl
theorem la_37 (p : Nat) : (37 : Int32) + nI p = nI (37 + p) := nI_add 37 p
theorem ra_37 (p : Nat) : nI p + (37 : Int32) = nI (p + 37) := nI_add p 37
theorem lm_37 (p : Nat) : (37 : Int32) * nI p = nI (37 * p) := pk_mul 37 p
theorem rm_37 (p : Nat) : nI p * (37 : Int32) = nI (p * 37) := pk_mul p 37
theorem lel_37 {b : Nat} (hb : b < 2147483648) : ((37 : Int32) ≤ nI b) = (37 ≤ b) := propext (nI_leI (by decide) hb)
theorem ler_37 {a : Nat} (ha : a < 2147483648) : (nI a ≤ (37 : Int32)) = (a ≤ 37) := propext (nI_leI ha (by decide))
theorem ltl_37 {b : Nat} (hb : b < 2147483648) : ((37 : Int32) < nI b) = (37 < b) := propext (nI_ltI (by decide) hb)
theorem ltr_37 {a : Nat} (ha : a < 2147483648) : (nI a < (37 : Int32)) = (a < 37) := propext (nI_ltI ha (by decide))
theorem eqr_37 {a : Nat} (ha : a < 2147483648) : (nI a = (37 : Int32)) = (a = 37) := propext (nI_eq ha (by decide))
theorem al_38 (a : Nat) (k : Int32 → Option mm_R) : aI σ a 38 k = aI σ a (nI 38) k := rfl
theorem tl_38 (a : Nat) (v : Int32) (k : mm_M → Option mm_R) : tI σ a 38 v k = tI σ a (nI 38) v k := rfl
theorem Rl_38 (a : Nat) (k : Nat → Option mm_R) : aR σ a 38 k = aR σ a (nI 38) k := rfl
theorem la_38 (p : Nat) : (38 : Int32) + nI p = nI (38 + p) := nI_add 38 p
theorem ra_38 (p : Nat) : nI p + (38 : Int32) = nI (p + 38) := nI_add p 38
theorem lm_38 (p : Nat) : (38 : Int32) * nI p = nI (38 * p) := pk_mul 38 p
theorem rm_38 (p : Nat) : nI p * (38 : Int32) = nI (p * 38) := pk_mul p 38
theorem lel_38 {b : Nat} (hb : b < 2147483648) : ((38 : Int32) ≤ nI b) = (38 ≤ b) := propext (nI_leI (by decide) hb)
theorem ler_38 {a : Nat} (ha : a < 2147483648) : (nI a ≤ (38 : Int32)) = (a ≤ 38) := propext (nI_leI ha (by decide))
theorem ltl_38 {b : Nat} (hb : b < 2147483648) : ((38 : Int32) < nI b) = (38 < b) := propext (nI_ltI (by decide) hb)
theorem ltr_38 {a : Nat} (ha : a < 2147483648) : (nI a < (38 : Int32)) = (a < 38) := propext (nI_ltI ha (by decide))
theorem eqr_38 {a : Nat} (ha : a < 2147483648) : (nI a = (38 : Int32)) = (a = 38) := propext (nI_eq ha (by decide))
theorem al_40 (a : Nat) (k : Int32 → Option mm_R) : aI σ a 40 k = aI σ a (nI 40) k := rfl
theorem tl_40 (a : Nat) (v : Int32) (k : mm_M → Option mm_R) : tI σ a 40 v k = tI σ a (nI 40) v k := rfl
theorem Rl_40 (a : Nat) (k : Nat → Option mm_R) : aR σ a 40 k = aR σ a (nI 40) k := rfl
theorem la_40 (p : Nat) : (40 : Int32) + nI p = nI (40 + p) := nI_add 40 p
theorem ra_40 (p : Nat) : nI p + (40 : Int32) = nI (p + 40) := nI_add p 40
theorem lm_40 (p : Nat) : (40 : Int32) * nI p = nI (40 * p) := pk_mul 40 p
theorem rm_40 (p : Nat) : nI p * (40 : Int32) = nI (p * 40) := pk_mul p 40
theorem lel_40 {b : Nat} (hb : b < 2147483648) : ((40 : Int32) ≤ nI b) = (40 ≤ b) := propext (nI_leI (by decide) hb)
theorem ler_40 {a : Nat} (ha : a < 2147483648) : (nI a ≤ (40 : Int32)) = (a ≤ 40) := propext (nI_leI ha (by decide))
theorem ltl_40 {b : Nat} (hb : b < 2147483648) : ((40 : Int32) < nI b) = (40 < b) := propext (nI_ltI (by decide) hb)
theorem ltr_40 {a : Nat} (ha : a < 2147483648) : (nI a < (40 : Int32)) = (a < 40) := propext (nI_ltI ha (by decide))
theorem eqr_40 {a : Nat} (ha : a < 2147483648) : (nI a = (40 : Int32)) = (a = 40) := propext (nI_eq ha (by decide))
theorem al_41 (a : Nat) (k : Int32 → Option mm_R) : aI σ a 41 k = aI σ a (nI 41) k := rfl
theorem tl_41 (a : Nat) (v : Int32) (k : mm_M → Option mm_R) : tI σ a 41 v k = tI σ a (nI 41) v k := rfl
theorem Rl_41 (a : Nat) (k : Nat → Option mm_R) : aR σ a 41 k = aR σ a (nI 41) k := rfl
theorem la_41 (p : Nat) : (41 : Int32) + nI p = nI (41 + p) := nI_add 41 p
theorem ra_41 (p : Nat) : nI p + (41 : Int32) = nI (p + 41) := nI_add p 41
theorem lm_41 (p : Nat) : (41 : Int32) * nI p = nI (41 * p) := pk_mul 41 p
theorem rm_41 (p : Nat) : nI p * (41 : Int32) = nI (p * 41) := pk_mul p 41
theorem lel_41 {b : Nat} (hb : b < 2147483648) : ((41 : Int32) ≤ nI b) = (41 ≤ b) := propext (nI_leI (by decide) hb)
theorem ler_41 {a : Nat} (ha : a < 2147483648) : (nI a ≤ (41 : Int32)) = (a ≤ 41) := propext (nI_leI ha (by decide))
theorem ltl_41 {b : Nat} (hb : b < 2147483648) : ((41 : Int32) < nI b) = (41 < b) := propext (nI_ltI (by decide) hb)
theorem ltr_41 {a : Nat} (ha : a < 2147483648) : (nI a < (41 : Int32)) = (a < 41) := propext (nI_ltI ha (by decide))
theorem eqr_41 {a : Nat} (ha : a < 2147483648) : (nI a = (41 : Int32)) = (a = 41) := propext (nI_eq ha (by decide))
theorem al_60 (a : Nat) (k : Int32 → Option mm_R) : aI σ a 60 k = aI σ a (nI 60) k := rfl
theorem tl_60 (a : Nat) (v : Int32) (k : mm_M → Option mm_R) : tI σ a 60 v k = tI σ a (nI 60) v k := rfl
theorem Rl_60 (a : Nat) (k : Nat → Option mm_R) : aR σ a 60 k = aR σ a (nI 60) k := rfl
theorem la_60 (p : Nat) : (60 : Int32) + nI p = nI (60 + p) := nI_add 60 p
theorem ra_60 (p : Nat) : nI p + (60 : Int32) = nI (p + 60) := nI_add p 60
theorem lm_60 (p : Nat) : (60 : Int32) * nI p = nI (60 * p) := pk_mul 60 p
theorem rm_60 (p : Nat) : nI p * (60 : Int32) = nI (p * 60) := pk_mul p 60
theorem lel_60 {b : Nat} (hb : b < 2147483648) : ((60 : Int32) ≤ nI b) = (60 ≤ b) := propext (nI_leI (by decide) hb)
theorem ler_60 {a : Nat} (ha : a < 2147483648) : (nI a ≤ (60 : Int32)) = (a ≤ 60) := propext (nI_leI ha (by decide))
theorem ltl_60 {b : Nat} (hb : b < 2147483648) : ((60 : Int32) < nI b) = (60 < b) := propext (nI_ltI (by decide) hb)
theorem ltr_60 {a : Nat} (ha : a < 2147483648) : (nI a < (60 : Int32)) = (a < 60) := propext (nI_ltI ha (by decide))
theorem eqr_60 {a : Nat} (ha : a < 2147483648) : (nI a = (60 : Int32)) = (a = 60) := propext (nI_eq ha (by decide))
theorem al_77 (a : Nat) (k : Int32 → Option mm_R) : aI σ a 77 k = aI σ a (nI 77) k := rfl
theorem tl_77 (a : Nat) (v : Int32) (k : mm_M → Option mm_R) : tI σ a 77 v k = tI σ a (nI 77) v k := rfl
theorem Rl_77 (a : Nat) (k : Nat → Option mm_R) : aR σ a 77 k = aR σ a (nI 77) k := rfl
theorem la_77 (p : Nat) : (77 : Int32) + nI p = nI (77 + p) := nI_add 77 p
theorem ra_77 (p : Nat) : nI p + (77 : Int32) = nI (p + 77) := nI_add p 77
theorem lm_77 (p : Nat) : (77 : Int32) * nI p = nI (77 * p) := pk_mul 77 p
theorem rm_77 (p : Nat) : nI p * (77 : Int32) = nI (p * 77) := pk_mul p 77
theorem lel_77 {b : Nat} (hb : b < 2147483648) : ((77 : Int32) ≤ nI b) = (77 ≤ b) := propext (nI_leI (by decide) hb)
theorem ler_77 {a : Nat} (ha : a < 2147483648) : (nI a ≤ (77 : Int32)) = (a ≤ 77) := propext (nI_leI ha (by decide))
theorem ltl_77 {b : Nat} (hb : b < 2147483648) : ((77 : Int32) < nI b) = (77 < b) := propext (nI_ltI (by decide) hb)
theorem ltr_77 {a : Nat} (ha : a < 2147483648) : (nI a < (77 : Int32)) = (a < 77) := propext (nI_ltI ha (by decide))
theorem eqr_77 {a : Nat} (ha : a < 2147483648) : (nI a = (77 : Int32)) = (a = 77) := propext (nI_eq ha (by decide))
theorem al_78 (a : Nat) (k : Int32 → Option mm_R) : aI σ a 78 k = aI σ a (nI 78) k := rfl
theorem tl_78 (a : Nat) (v : Int32) (k : mm_M → Option mm_R) : tI σ a 78 v k = tI σ a (nI 78) v k := rfl
theorem Rl_78 (a : Nat) (k : Nat → Option mm_R) : aR σ a 78 k = aR σ a (nI 78) k := rfl
theorem la_78 (p : Nat) : (78 : Int32) + nI p = nI (78 + p) := nI_add 78 p
theorem ra_78 (p : Nat) : nI p + (78 : Int32) = nI (p + 78) := nI_add p 78
theorem lm_78 (p : Nat) : (78 : Int32) * nI p = nI (78 * p) := pk_mul 78 p
theorem rm_78 (p : Nat) : nI p * (78 : Int32) = nI (p * 78) := pk_mul p 78
theorem lel_78 {b : Nat} (hb : b < 2147483648) : ((78 : Int32) ≤ nI b) = (78 ≤ b) := propext (nI_leI (by decide) hb)
theorem ler_78 {a : Nat} (ha : a < 2147483648) : (nI a ≤ (78 : Int32)) = (a ≤ 78) := propext (nI_leI ha (by decide))
theorem ltl_78 {b : Nat} (hb : b < 2147483648) : ((78 : Int32) < nI b) = (78 < b) := propext (nI_ltI (by decide) hb)
theorem ltr_78 {a : Nat} (ha : a < 2147483648) : (nI a < (78 : Int32)) = (a < 78) := propext (nI_ltI ha (by decide))
theorem eqr_78 {a : Nat} (ha : a < 2147483648) : (nI a = (78 : Int32)) = (a = 78) := propext (nI_eq ha (by decide))
theorem al_79 (a : Nat) (k : Int32 → Option mm_R) : aI σ a 79 k = aI σ a (nI 79) k := rfl
theorem tl_79 (a : Nat) (v : Int32) (k : mm_M → Option mm_R) : tI σ a 79 v k = tI σ a (nI 79) v k := rfl
theorem Rl_79 (a : Nat) (k : Nat → Option mm_R) : aR σ a 79 k = aR σ a (nI 79) k := rfl
theorem la_79 (p : Nat) : (79 : Int32) + nI p = nI (79 + p) := nI_add 79 p
theorem ra_79 (p : Nat) : nI p + (79 : Int32) = nI (p + 79) := nI_add p 79
theorem lm_79 (p : Nat) : (79 : Int32) * nI p = nI (79 * p) := pk_mul 79 p
theorem rm_79 (p : Nat) : nI p * (79 : Int32) = nI (p * 79) := pk_mul p 79
theorem lel_79 {b : Nat} (hb : b < 2147483648) : ((79 : Int32) ≤ nI b) = (79 ≤ b) := propext (nI_leI (by decide) hb)
theorem ler_79 {a : Nat} (ha : a < 2147483648) : (nI a ≤ (79 : Int32)) = (a ≤ 79) := propext (nI_leI ha (by decide))
theorem ltl_79 {b : Nat} (hb : b < 2147483648) : ((79 : Int32) < nI b) = (79 < b) := propext (nI_ltI (by decide) hb)
theorem ltr_79 {a : Nat} (ha : a < 2147483648) : (nI a < (79 : Int32)) = (a < 79) := propext (nI_ltI ha (by decide))
theorem eqr_79 {a : Nat} (ha : a < 2147483648) : (nI a = (79 : Int32)) = (a = 79) := propext (nI_eq ha (by decide))
theorem al_80 (a : Nat) (k : Int32 → Option mm_R) : aI σ a 80 k = aI σ a (nI 80) k := rfl
theorem tl_80 (a : Nat) (v : Int32) (k : mm_M → Option mm_R) : tI σ a 80 v k = tI σ a (nI 80) v k := rfl
theorem Rl_80 (a : Nat) (k : Nat → Option mm_R) : aR σ a 80 k = aR σ a (nI 80) k := rfl
theorem la_80 (p : Nat) : (80 : Int32) + nI p = nI (80 + p) := nI_add 80 p
theorem ra_80 (p : Nat) : nI p + (80 : Int32) = nI (p + 80) := nI_add p 80
theorem lm_80 (p : Nat) : (80 : Int32) * nI p = nI (80 * p) := pk_mul 80 p
theorem rm_80 (p : Nat) : nI p * (80 : Int32) = nI (p * 80) := pk_mul p 80
theorem lel_80 {b : Nat} (hb : b < 2147483648) : ((80 : Int32) ≤ nI b) = (80 ≤ b) := propext (nI_leI (by decide) hb)
theorem ler_80 {a : Nat} (ha : a < 2147483648) : (nI a ≤ (80 : Int32)) = (a ≤ 80) := propext (nI_leI ha (by decide))
theorem ltl_80 {b : Nat} (hb : b < 2147483648) : ((80 : Int32) < nI b) = (80 < b) := propext (nI_ltI (by decide) hb)
theorem ltr_80 {a : Nat} (ha : a < 2147483648) : (nI a < (80 : Int32)) = (a < 80) := propext (nI_ltI ha (by decide))
theorem eqr_80 {a : Nat} (ha : a < 2147483648) : (nI a = (80 : Int32)) = (a = 80) := propext (nI_eq ha (by decide))
theorem al_96 (a : Nat) (k : Int32 → Option mm_R) : aI σ a 96 k = aI σ a (nI 96) k := rfl
theorem tl_96 (a : Nat) (v : Int32) (k : mm_M → Option mm_R) : tI σ a 96 v k = tI σ a (nI 96) v k := rfl
theorem Rl_96 (a : Nat) (k : Nat → Option mm_R) : aR σ a 96 k = aR σ a (nI 96) k := rfl
theorem la_96 (p : Nat) : (96 : Int32) + nI p = nI (96 + p) := nI_add 96 p
theorem ra_96 (p : Nat) : nI p + (96 : Int32) = nI (p + 96) := nI_add p 96
theorem lm_96 (p : Nat) : (96 : Int32) * nI p = nI (96 * p) := pk_mul 96 p
theorem rm_96 (p : Nat) : nI p * (96 : Int32) = nI (p * 96) := pk_mul p 96
theorem lel_96 {b : Nat} (hb : b < 2147483648) : ((96 : Int32) ≤ nI b) = (96 ≤ b) := propext (nI_leI (by decide) hb)
theorem ler_96 {a : Nat} (ha : a < 2147483648) : (nI a ≤ (96 : Int32)) = (a ≤ 96) := propext (nI_leI ha (by decide))
theorem ltl_96 {b : Nat} (hb : b < 2147483648) : ((96 : Int32) < nI b) = (96 < b) := propext (nI_ltI (by decide) hb)
theorem ltr_96 {a : Nat} (ha : a < 2147483648) : (nI a < (96 : Int32)) = (a < 96) := propext (nI_ltI ha (by decide))
theorem eqr_96 {a : Nat} (ha : a < 2147483648) : (nI a = (96 : Int32)) = (a = 96) := propext (nI_eq ha (by decide))
theorem al_99 (a : Nat) (k : Int32 → Option mm_R) : aI σ a 99 k = aI σ a (nI 99) k := rfl
theorem tl_99 (a : Nat) (v : Int32) (k : mm_M → Option mm_R) : tI σ a 99 v k = tI σ a (nI 99) v k := rfl
theorem Rl_99 (a : Nat) (k : Nat → Option mm_R) : aR σ a 99 k = aR σ a (nI 99) k := rfl
theorem la_99 (p : Nat) : (99 : Int32) + nI p = nI (99 + p) := nI_add 99 p
theorem ra_99 (p : Nat) : nI p + (99 : Int32) = nI (p + 99) := nI_add p 99
theorem lm_99 (p : Nat) : (99 : Int32) * nI p = nI (99 * p) := pk_mul 99 p
theorem rm_99 (p : Nat) : nI p * (99 : Int32) = nI (p * 99) := pk_mul p 99
theorem lel_99 {b : Nat} (hb : b < 2147483648) : ((99 : Int32) ≤ nI b) = (99 ≤ b) := propext (nI_leI (by decide) hb)
theorem ler_99 {a : Nat} (ha : a < 2147483648) : (nI a ≤ (99 : Int32)) = (a ≤ 99) := propext (nI_leI ha (by decide))
theorem ltl_99 {b : Nat} (hb : b < 2147483648) : ((99 : Int32) < nI b) = (99 < b) := propext (nI_ltI (by decide) hb)
theorem ltr_99 {a : Nat} (ha : a < 2147483648) : (nI a < (99 : Int32)) = (a < 99) := propext (nI_ltI ha (by decide))
theorem eqr_99 {a : Nat} (ha : a < 2147483648) : (nI a = (99 : Int32)) = (a = 99) := propext (nI_eq ha (by decide))
theorem al_100 (a : Nat) (k : Int32 → Option mm_R) : aI σ a 100 k = aI σ a (nI 100) k := rfl
theorem tl_100 (a : Nat) (v : Int32) (k : mm_M → Option mm_R) : tI σ a 100 v k = tI σ a (nI 100) v k := rfl
theorem Rl_100 (a : Nat) (k : Nat → Option mm_R) : aR σ a 100 k = aR σ a (nI 100) k := rfl
theorem la_100 (p : Nat) : (100 : Int32) + nI p = nI (100 + p) := nI_add 100 p
theorem ra_100 (p : Nat) : nI p + (100 : Int32) = nI (p + 100) := nI_add p 100
theorem lm_100 (p : Nat) : (100 : Int32) * nI p = nI (100 * p) := pk_mul 100 p
theorem rm_100 (p : Nat) : nI p * (100 : Int32) = nI (p * 100) := pk_mul p 100
theorem lel_100 {b : Nat} (hb : b < 2147483648) : ((100 : Int32) ≤ nI b) = (100 ≤ b) := propext (nI_leI (by decide) hb)
theorem ler_100 {a : Nat} (ha : a < 2147483648) : (nI a ≤ (100 : Int32)) = (a ≤ 100) := propext (nI_leI ha (by decide))
theorem ltl_100 {b : Nat} (hb : b < 2147483648) : ((100 : Int32) < nI b) = (100 < b) := propext (nI_ltI (by decide) hb)
theorem ltr_100 {a : Nat} (ha : a < 2147483648) : (nI a < (100 : Int32)) = (a < 100) := propext (nI_ltI ha (by decide))
theorem eqr_100 {a : Nat} (ha : a < 2147483648) : (nI a = (100 : Int32)) = (a = 100) := propext (nI_eq ha (by decide))
theorem al_127 (a : Nat) (k : Int32 → Option mm_R) : aI σ a 127 k = aI σ a (nI 127) k := rfl
theorem tl_127 (a : Nat) (v : Int32) (k : mm_M → Option mm_R) : tI σ a 127 v k = tI σ a (nI 127) v k := rfl
theorem Rl_127 (a : Nat) (k : Nat → Option mm_R) : aR σ a 127 k = aR σ a (nI 127) k := rfl
theorem la_127 (p : Nat) : (127 : Int32) + nI p = nI (127 + p) := nI_add 127 p
theorem ra_127 (p : Nat) : nI p + (127 : Int32) = nI (p + 127) := nI_add p 127
theorem lm_127 (p : Nat) : (127 : Int32) * nI p = nI (127 * p) := pk_mul 127 p
theorem rm_127 (p : Nat) : nI p * (127 : Int32) = nI (p * 127) := pk_mul p 127
theorem lel_127 {b : Nat} (hb : b < 2147483648) : ((127 : Int32) ≤ nI b) = (127 ≤ b) := propext (nI_leI (by decide) hb)
theorem ler_127 {a : Nat} (ha : a < 2147483648) : (nI a ≤ (127 : Int32)) = (a ≤ 127) := propext (nI_leI ha (by decide))
theorem ltl_127 {b : Nat} (hb : b < 2147483648) : ((127 : Int32) < nI b) = (127 < b) := propext (nI_ltI (by decide) hb)
theorem ltr_127 {a : Nat} (ha : a < 2147483648) : (nI a < (127 : Int32)) = (a < 127) := propext (nI_ltI ha (by decide))
theorem eqr_127 {a : Nat} (ha : a < 2147483648) : (nI a = (127 : Int32)) = (a = 127) := propext (nI_eq ha (by decide))
theorem al_128 (a : Nat) (k : Int32 → Option mm_R) : aI σ a 128 k = aI σ a (nI 128) k := rfl
theorem tl_128 (a : Nat) (v : Int32) (k : mm_M → Option mm_R) : tI σ a 128 v k = tI σ a (nI 128) v k := rfl
theorem Rl_128 (a : Nat) (k : Nat → Option mm_R) : aR σ a 128 k = aR σ a (nI 128) k := rfl
theorem la_128 (p : Nat) : (128 : Int32) + nI p = nI (128 + p) := nI_add 128 p
theorem ra_128 (p : Nat) : nI p + (128 : Int32) = nI (p + 128) := nI_add p 128
theorem lm_128 (p : Nat) : (128 : Int32) * nI p = nI (128 * p) := pk_mul 128 p
theorem rm_128 (p : Nat) : nI p * (128 : Int32) = nI (p * 128) := pk_mul p 128
theorem lel_128 {b : Nat} (hb : b < 2147483648) : ((128 : Int32) ≤ nI b) = (128 ≤ b) := propext (nI_leI (by decide) hb)
theorem ler_128 {a : Nat} (ha : a < 2147483648) : (nI a ≤ (128 : Int32)) = (a ≤ 128) := propext (nI_leI ha (by decide))
theorem ltl_128 {b : Nat} (hb : b < 2147483648) : ((128 : Int32) < nI b) = (128 < b) := propext (nI_ltI (by decide) hb)
theorem ltr_128 {a : Nat} (ha : a < 2147483648) : (nI a < (128 : Int32)) = (a < 128) := propext (nI_ltI ha (by decide))
theorem eqr_128 {a : Nat} (ha : a < 2147483648) : (nI a = (128 : Int32)) = (a = 128) := propext (nI_eq ha (by decide))
theorem al_150 (a : Nat) (k : Int32 → Option mm_R) : aI σ a 150 k = aI σ a (nI 150) k := rfl
theorem tl_150 (a : Nat) (v : Int32) (k : mm_M → Option mm_R) : tI σ a 150 v k = tI σ a (nI 150) v k := rfl
theorem Rl_150 (a : Nat) (k : Nat → Option mm_R) : aR σ a 150 k = aR σ a (nI 150) k := rfl
theorem la_150 (p : Nat) : (150 : Int32) + nI p = nI (150 + p) := nI_add 150 p
theorem ra_150 (p : Nat) : nI p + (150 : Int32) = nI (p + 150) := nI_add p 150
theorem lm_150 (p : Nat) : (150 : Int32) * nI p = nI (150 * p) := pk_mul 150 p
theorem rm_150 (p : Nat) : nI p * (150 : Int32) = nI (p * 150) := pk_mul p 150
theorem lel_150 {b : Nat} (hb : b < 2147483648) : ((150 : Int32) ≤ nI b) = (150 ≤ b) := propext (nI_leI (by decide) hb)
theorem ler_150 {a : Nat} (ha : a < 2147483648) : (nI a ≤ (150 : Int32)) = (a ≤ 150) := propext (nI_leI ha (by decide))
theorem ltl_150 {b : Nat} (hb : b < 2147483648) : ((150 : Int32) < nI b) = (150 < b) := propext (nI_ltI (by decide) hb)
theorem ltr_150 {a : Nat} (ha : a < 2147483648) : (nI a < (150 : Int32)) = (a < 150) := propext (nI_ltI ha (by decide))
theorem eqr_150 {a : Nat} (ha : a < 2147483648) : (nI a = (150 : Int32)) = (a = 150) := propext (nI_eq ha (by decide))
theorem al_160 (a : Nat) (k : Int32 → Option mm_R) : aI σ a 160 k = aI σ a (nI 160) k := rfl
theorem tl_160 (a : Nat) (v : Int32) (k : mm_M → Option mm_R) : tI σ a 160 v k = tI σ a (nI 160) v k := rfl
theorem Rl_160 (a : Nat) (k : Nat → Option mm_R) : aR σ a 160 k = aR σ a (nI 160) k := rfl
theorem la_160 (p : Nat) : (160 : Int32) + nI p = nI (160 + p) := nI_add 160 p
theorem ra_160 (p : Nat) : nI p + (160 : Int32) = nI (p + 160) := nI_add p 160
theorem lm_160 (p : Nat) : (160 : Int32) * nI p = nI (160 * p) := pk_mul 160 p
theorem rm_160 (p : Nat) : nI p * (160 : Int32) = nI (p * 160) := pk_mul p 160
theorem lel_160 {b : Nat} (hb : b < 2147483648) : ((160 : Int32) ≤ nI b) = (160 ≤ b) := propext (nI_leI (by decide) hb)
theorem ler_160 {a : Nat} (ha : a < 2147483648) : (nI a ≤ (160 : Int32)) = (a ≤ 160) := propext (nI_leI ha (by decide))
theorem ltl_160 {b : Nat} (hb : b < 2147483648) : ((160 : Int32) < nI b) = (160 < b) := propext (nI_ltI (by decide) hb)
theorem ltr_160 {a : Nat} (ha : a < 2147483648) : (nI a < (160 : Int32)) = (a < 160) := propext (nI_ltI ha (by decide))
theorem eqr_160 {a : Nat} (ha : a < 2147483648) : (nI a = (160 : Int32)) = (a = 160) := propext (nI_eq ha (by decide))
theorem al_200 (a : Nat) (k : Int32 → Option mm_R) : aI σ a 200 k = aI σ a (nI 200) k := rfl
theorem tl_200 (a : Nat) (v : Int32) (k : mm_M → Option mm_R) : tI σ a 200 v k = tI σ a (nI 200) v k := rfl
theorem Rl_200 (a : Nat) (k : Nat → Option mm_R) : aR σ a 200 k = aR σ a (nI 200) k := rfl
theorem la_200 (p : Nat) : (200 : Int32) + nI p = nI (200 + p) := nI_add 200 p
theorem ra_200 (p : Nat) : nI p + (200 : Int32) = nI (p + 200) := nI_add p 200
theorem lm_200 (p : Nat) : (200 : Int32) * nI p = nI (200 * p) := pk_mul 200 p
theorem rm_200 (p : Nat) : nI p * (200 : Int32) = nI (p * 200) := pk_mul p 200
theorem lel_200 {b : Nat} (hb : b < 2147483648) : ((200 : Int32) ≤ nI b) = (200 ≤ b) := propext (nI_leI (by decide) hb)
theorem ler_200 {a : Nat} (ha : a < 2147483648) : (nI a ≤ (200 : Int32)) = (a ≤ 200) := propext (nI_leI ha (by decide))
theorem ltl_200 {b : Nat} (hb : b < 2147483648) : ((200 : Int32) < nI b) = (200 < b) := propext (nI_ltI (by decide) hb)
theorem ltr_200 {a : Nat} (ha : a < 2147483648) : (nI a < (200 : Int32)) = (a < 200) := propext (nI_ltI ha (by decide))
theorem eqr_200 {a : Nat} (ha : a < 2147483648) : (nI a = (200 : Int32)) = (a = 200) := propext (nI_eq ha (by decide))
theorem al_400 (a : Nat) (k : Int32 → Option mm_R) : aI σ a 400 k = aI σ a (nI 400) k := rfl
theorem tl_400 (a : Nat) (v : Int32) (k : mm_M → Option mm_R) : tI σ a 400 v k = tI σ a (nI 400) v k := rfl
theorem Rl_400 (a : Nat) (k : Nat → Option mm_R) : aR σ a 400 k = aR σ a (nI 400) k := rfl
theorem la_400 (p : Nat) : (400 : Int32) + nI p = nI (400 + p) := nI_add 400 p
theorem ra_400 (p : Nat) : nI p + (400 : Int32) = nI (p + 400) := nI_add p 400
theorem lm_400 (p : Nat) : (400 : Int32) * nI p = nI (400 * p) := pk_mul 400 p
theorem rm_400 (p : Nat) : nI p * (400 : Int32) = nI (p * 400) := pk_mul p 400
theorem lel_400 {b : Nat} (hb : b < 2147483648) : ((400 : Int32) ≤ nI b) = (400 ≤ b) := propext (nI_leI (by decide) hb)
theorem ler_400 {a : Nat} (ha : a < 2147483648) : (nI a ≤ (400 : Int32)) = (a ≤ 400) := propext (nI_leI ha (by decide))
theorem ltl_400 {b : Nat} (hb : b < 2147483648) : ((400 : Int32) < nI b) = (400 < b) := propext (nI_ltI (by decide) hb)
theorem ltr_400 {a : Nat} (ha : a < 2147483648) : (nI a < (400 : Int32)) = (a < 400) := propext (nI_ltI ha (by decide))
theorem eqr_400 {a : Nat} (ha : a < 2147483648) : (nI a = (400 : Int32)) = (a = 400) := propext (nI_eq ha (by decide))
theorem al_600 (a : Nat) (k : Int32 → Option mm_R) : aI σ a 600 k = aI σ a (nI 600) k := rfl
theorem tl_600 (a : Nat) (v : Int32) (k : mm_M → Option mm_R) : tI σ a 600 v k = tI σ a (nI 600) v k := rfl
theorem Rl_600 (a : Nat) (k : Nat → Option mm_R) : aR σ a 600 k = aR σ a (nI 600) k := rfl
theorem la_600 (p : Nat) : (600 : Int32) + nI p = nI (600 + p) := nI_add 600 p
theorem ra_600 (p : Nat) : nI p + (600 : Int32) = nI (p + 600) := nI_add p 600
theorem lm_600 (p : Nat) : (600 : Int32) * nI p = nI (600 * p) := pk_mul 600 p
theorem rm_600 (p : Nat) : nI p * (600 : Int32) = nI (p * 600) := pk_mul p 600
theorem lel_600 {b : Nat} (hb : b < 2147483648) : ((600 : Int32) ≤ nI b) = (600 ≤ b) := propext (nI_leI (by decide) hb)
theorem ler_600 {a : Nat} (ha : a < 2147483648) : (nI a ≤ (600 : Int32)) = (a ≤ 600) := propext (nI_leI ha (by decide))
theorem ltl_600 {b : Nat} (hb : b < 2147483648) : ((600 : Int32) < nI b) = (600 < b) := propext (nI_ltI (by decide) hb)
theorem ltr_600 {a : Nat} (ha : a < 2147483648) : (nI a < (600 : Int32)) = (a < 600) := propext (nI_ltI ha (by decide))
theorem eqr_600 {a : Nat} (ha : a < 2147483648) : (nI a = (600 : Int32)) = (a = 600) := propext (nI_eq ha (by decide))
theorem al_999 (a : Nat) (k : Int32 → Option mm_R) : aI σ a 999 k = aI σ a (nI 999) k := rfl
theorem tl_999 (a : Nat) (v : Int32) (k : mm_M → Option mm_R) : tI σ a 999 v k = tI σ a (nI 999) v k := rfl
theorem Rl_999 (a : Nat) (k : Nat → Option mm_R) : aR σ a 999 k = aR σ a (nI 999) k := rfl
theorem la_999 (p : Nat) : (999 : Int32) + nI p = nI (999 + p) := nI_add 999 p
theorem ra_999 (p : Nat) : nI p + (999 : Int32) = nI (p + 999) := nI_add p 999
theorem lm_999 (p : Nat) : (999 : Int32) * nI p = nI (999 * p) := pk_mul 999 p
theorem rm_999 (p : Nat) : nI p * (999 : Int32) = nI (p * 999) := pk_mul p 999
theorem lel_999 {b : Nat} (hb : b < 2147483648) : ((999 : Int32) ≤ nI b) = (999 ≤ b) := propext (nI_leI (by decide) hb)
theorem ler_999 {a : Nat} (ha : a < 2147483648) : (nI a ≤ (999 : Int32)) = (a ≤ 999) := propext (nI_leI ha (by decide))
theorem ltl_999 {b : Nat} (hb : b < 2147483648) : ((999 : Int32) < nI b) = (999 < b) := propext (nI_ltI (by decide) hb)
theorem ltr_999 {a : Nat} (ha : a < 2147483648) : (nI a < (999 : Int32)) = (a < 999) := propext (nI_ltI ha (by decide))
theorem eqr_999 {a : Nat} (ha : a < 2147483648) : (nI a = (999 : Int32)) = (a = 999) := propext (nI_eq ha (by decide))
theorem al_1000 (a : Nat) (k : Int32 → Option mm_R) : aI σ a 1000 k = aI σ a (nI 1000) k := rfl
theorem tl_1000 (a : Nat) (v : Int32) (k : mm_M → Option mm_R) : tI σ a 1000 v k = tI σ a (nI 1000) v k := rfl
theorem Rl_1000 (a : Nat) (k : Nat → Option mm_R) : aR σ a 1000 k = aR σ a (nI 1000) k := rfl
theorem la_1000 (p : Nat) : (1000 : Int32) + nI p = nI (1000 + p) := nI_add 1000 p
theorem ra_1000 (p : Nat) : nI p + (1000 : Int32) = nI (p + 1000) := nI_add p 1000
theorem lm_1000 (p : Nat) : (1000 : Int32) * nI p = nI (1000 * p) := pk_mul 1000 p
theorem rm_1000 (p : Nat) : nI p * (1000 : Int32) = nI (p * 1000) := pk_mul p 1000
theorem lel_1000 {b : Nat} (hb : b < 2147483648) : ((1000 : Int32) ≤ nI b) = (1000 ≤ b) := propext (nI_leI (by decide) hb)
theorem ler_1000 {a : Nat} (ha : a < 2147483648) : (nI a ≤ (1000 : Int32)) = (a ≤ 1000) := propext (nI_leI ha (by decide))
theorem ltl_1000 {b : Nat} (hb : b < 2147483648) : ((1000 : Int32) < nI b) = (1000 < b) := propext (nI_ltI (by decide) hb)
theorem ltr_1000 {a : Nat} (ha : a < 2147483648) : (nI a < (1000 : Int32)) = (a < 1000) := propext (nI_ltI ha (by decide))
theorem eqr_1000 {a : Nat} (ha : a < 2147483648) : (nI a = (1000 : Int32)) = (a = 1000) := propext (nI_eq ha (by decide))
end KF
section Fo
variable {α : Type}
/-- f 0, f 1, .. f (n - 1), one behind the other -/
def fo : Nat → (Nat → α → α) → α → α
  | 0, _, a => a
  | n + 1, f, a => f n (fo n f a)
theorem fo_z (f : Nat → α → α) (a : α) : fo 0 f a = a := rfl
theorem fo_s (n : Nat) (f : Nat → α → α) (a : α) : fo (n + 1) f a = f n (fo n f a) := rfl
theorem fo_as {f g : Nat → α → α} {a : α} : ∀ (n : Nat), (∀ i, i < n → ∀ x, f i x = g i x) → fo n f a = fo n g a
  | 0, _ => rfl
  | n + 1, h => by rw [fo_s, fo_s, fo_as n (fun i hi => h i (by omega)), h n (by omega)]
/-- a loop by one of its rounds -/
theorem lpU {R : Type} {F : Nat → α → R} {n : Nat} {st : Nat → α → α} (h : ∀ i b, i < n → F i b = F (i + 1) (st i b)) (b : α) : ∀ i, i ≤ n → F 0 b = F i (fo i st b)
  | 0, _ => rfl
  | i + 1, hi => (lpU h b i (by omega)).trans (h i _ (by omega))
theorem lp {R : Type} {F : Nat → α → R} {n : Nat} {st : Nat → α → α} (h : ∀ i b, i < n → F i b = F (i + 1) (st i b)) (b : α) : F 0 b = F n (fo n st b) := lpU h b n (Nat.le_refl n)
/-- a loop that may end early, and whose memory may move: what holds before each round holds behind it -/
theorem lpI {β : Type} {F : Nat → α → β → Option mm_R} {n : Nat} {I : Nat → α → β → Prop} {P : mm_R → Prop} (h : ∀ i b s, i < n → I i b s → (∃ b' s', I (i + 1) b' s' ∧ F i b s = F (i + 1) b' s') ∨ ∃ q, F i b s = some q ∧ P q) (he : ∀ b s, I n b s → ∃ q, F n b s = some q ∧ P q) :
    ∀ k i b s, i + k = n → I i b s → ∃ q, F i b s = some q ∧ P q
  | 0, i, b, s, e, hI => by
    have : i = n := by omega
    subst this
    exact he b s hI
  | k + 1, i, b, s, e, hI => by
    rcases h i b s (by omega) hI with ⟨b', s', h1, h2⟩ | h1
    · rw [h2]
      exact lpI h he k (i + 1) b' s' (by omega) h1
    · exact h1
end Fo
/-- τ is σ but for the ints at the places S -/
def Ag (S : Nat → Prop) (σ τ : mm_M) : Prop := mK τ = mK σ ∧ mR τ = mR σ ∧ mL τ = mL σ ∧ mN τ = mN σ ∧ mX τ = mX σ ∧ mS τ = mS σ ∧ ∀ a, ¬ S a → mI τ a = mI σ a
section AgF
variable {S T : Nat → Prop} {σ τ υ : mm_M}
theorem Ag.refl (S : Nat → Prop) (σ : mm_M) : Ag S σ σ := ⟨rfl, rfl, rfl, rfl, rfl, rfl, fun _ _ => rfl⟩
theorem Ag.trans (h : Ag S σ τ) (g : Ag S τ υ) : Ag S σ υ := ⟨g.1.trans h.1, g.2.1.trans h.2.1, g.2.2.1.trans h.2.2.1, g.2.2.2.1.trans h.2.2.2.1, g.2.2.2.2.1.trans h.2.2.2.2.1, g.2.2.2.2.2.1.trans h.2.2.2.2.2.1, fun a n => (g.2.2.2.2.2.2 a n).trans (h.2.2.2.2.2.2 a n)⟩
theorem Ag.mono (h : Ag S σ τ) (i : ∀ a, S a → T a) : Ag T σ τ := ⟨h.1, h.2.1, h.2.2.1, h.2.2.2.1, h.2.2.2.2.1, h.2.2.2.2.2.1, fun a n => h.2.2.2.2.2.2 a (fun q => n (i a q))⟩
theorem Ag.at (h : Ag S σ τ) {a : Nat} (n : ¬ S a) : mI τ a = mI σ a := h.2.2.2.2.2.2 a n
theorem Ag.wI (h : Ag S σ τ) {a : Nat} (n : S a) (i : Nat) (v : Int32) : Ag S σ (wI τ a i v) := ⟨h.1, h.2.1, h.2.2.1, h.2.2.2.1, h.2.2.2.2.1, h.2.2.2.2.2.1, fun b nb => by
  have hne : b ≠ a := fun e => nb (by rw [e]; exact n)
  rw [rI_o hne]
  exact h.2.2.2.2.2.2 b nb⟩
theorem rA_o {σ : mm_M} {a : Nat} {f : Nat → Int32} {b : Nat} (h : b ≠ a) : mI (wA σ a f) b = mI σ b := by
  funext j
  show (if b = a then f j else mI σ b j) = _
  rw [if_neg h]
theorem rA_a {σ : mm_M} {a : Nat} {f : Nat → Int32} : mI (wA σ a f) a = f := by
  funext j
  show (if a = a then f j else mI σ a j) = _
  rw [if_pos rfl]
theorem Ag.wA (h : Ag S σ τ) {a : Nat} (n : S a) (f : Nat → Int32) : Ag S σ (wA τ a f) := ⟨h.1, h.2.1, h.2.2.1, h.2.2.2.1, h.2.2.2.2.1, h.2.2.2.2.2.1, fun b nb => by
  have hne : b ≠ a := fun e => nb (by rw [e]; exact n)
  rw [rA_o hne]
  exact h.2.2.2.2.2.2 b nb⟩
theorem Ag.sh (h : Ag S σ τ) (g : Sh σ) : Sh τ := by
  obtain ⟨h1, h2, -, h4, -⟩ := h
  unfold Sh ldA lwA bkA at g ⊢
  rw [h1, h2, h4]
  exact g
theorem Ag.ld (h : Ag S σ τ) : ldA τ = ldA σ := by unfold ldA; rw [h.2.1]
theorem Ag.lw (h : Ag S σ τ) : lwA τ = lwA σ := by unfold lwA; rw [h.2.1]
theorem Ag.bk (h : Ag S σ τ) : bkA τ = bkA σ := by unfold bkA; rw [h.2.1]
/-- writing one place of a row is writing the row -/
theorem wI_wA (σ : mm_M) (a i : Nat) (v : Int32) (f : Nat → Int32) : wI (wA σ a f) a i v = wA σ a (fun j => if j = i then v else f j) := by
  show ((fun b j => if b = a ∧ j = i then v else if b = a then f j else σ.1 b j), σ.2) = ((fun b j => if b = a then (if j = i then v else f j) else σ.1 b j), σ.2)
  refine congrArg (·, σ.2) (funext fun b => funext fun j => ?_)
  by_cases h1 : b = a
  · by_cases h2 : j = i
    · rw [if_pos ⟨h1, h2⟩, if_pos h1, if_pos h2]
    · rw [if_neg (fun q => h2 q.2), if_pos h1, if_pos h1, if_neg h2]
  · rw [if_neg (fun q => h1 q.1), if_neg h1, if_neg h1]
theorem wA_id (σ : mm_M) (a : Nat) : wA σ a (mI σ a) = σ := by
  show ((fun b j => if b = a then σ.1 a j else σ.1 b j), σ.2) = σ
  refine Prod.ext (funext fun b => funext fun j => ?_) rfl
  by_cases h1 : b = a
  · subst h1; exact if_pos rfl
  · exact if_neg h1
theorem wI_row (σ : mm_M) (a i : Nat) (v : Int32) : wI σ a i v = wA σ a (fun j => if j = i then v else mI σ a j) := by
  have h := wI_wA σ a i v (mI σ a)
  rw [wA_id] at h
  exact h
theorem wA_wA (σ : mm_M) (a : Nat) (f g : Nat → Int32) : wA (wA σ a f) a g = wA σ a g := by
  show ((fun b j => if b = a then g j else if b = a then f j else σ.1 b j), σ.2) = ((fun b j => if b = a then g j else σ.1 b j), σ.2)
  refine congrArg (·, σ.2) (funext fun b => funext fun j => ?_)
  by_cases h1 : b = a
  · rw [if_pos h1, if_pos h1]
  · rw [if_neg h1, if_neg h1, if_neg h1]
end AgF
theorem nar0 (v : Int32) : nar 0 v = v := rfl
theorem nar1_0 : nar 1 0 = 0 := by decide +kernel
theorem nar1_1 : nar 1 1 = 1 := by decide +kernel
theorem leI {a b : Nat} (ha : a < 2147483648) (hb : b < 2147483648) : (nI a ≤ nI b) = (a ≤ b) := propext (nI_leI ha hb)
theorem ltI {a b : Nat} (ha : a < 2147483648) (hb : b < 2147483648) : (nI a < nI b) = (a < b) := propext (nI_ltI ha hb)
