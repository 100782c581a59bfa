/-! ===== all directions, clockwise from north ===== -/
def dTab : List (Int × Int) := [(0, -1), (1, -11), (1, -10), (1, -9), (1, -8), (1, -7), (1, -6), (2, -11), (1, -5), (2, -9), (1, -4), (3, -11), (2, -7), (3, -10), (1, -3), (4, -11), (3, -8), (2, -5), (3, -7), (4, -9), (5, -11), (1, -2), (6, -11), (5, -9), (4, -7), (3, -5), (5, -8), (7, -11), (2, -3), (7, -10), (5, -7), (8, -11), (3, -4), (7, -9), (4, -5), (9, -11), (5, -6), (6, -7), (7, -8), (8, -9), (9, -10), (10, -11), (1, -1), (11, -10), (10, -9), (9, -8), (8, -7), (7, -6), (6, -5), (11, -9), (5, -4), (9, -7), (4, -3), (11, -8), (7, -5), (10, -7), (3, -2), (11, -7), (8, -5), (5, -3), (7, -4), (9, -5), (11, -6), (2, -1), (11, -5), (9, -4), (7, -3), (5, -2), (8, -3), (11, -4), (3, -1), (10, -3), (7, -2), (11, -3), (4, -1), (9, -2), (5, -1), (11, -2), (6, -1), (7, -1), (8, -1), (9, -1), (10, -1), (11, -1), (1, 0), (11, 1), (10, 1), (9, 1), (8, 1), (7, 1), (6, 1), (11, 2), (5, 1), (9, 2), (4, 1), (11, 3), (7, 2), (10, 3), (3, 1), (11, 4), (8, 3), (5, 2), (7, 3), (9, 4), (11, 5), (2, 1), (11, 6), (9, 5), (7, 4), (5, 3), (8, 5), (11, 7), (3, 2), (10, 7), (7, 5), (11, 8), (4, 3), (9, 7), (5, 4), (11, 9), (6, 5), (7, 6), (8, 7), (9, 8), (10, 9), (11, 10), (1, 1), (10, 11), (9, 10), (8, 9), (7, 8), (6, 7), (5, 6), (9, 11), (4, 5), (7, 9), (3, 4), (8, 11), (5, 7), (7, 10), (2, 3), (7, 11), (5, 8), (3, 5), (4, 7), (5, 9), (6, 11), (1, 2), (5, 11), (4, 9), (3, 7), (2, 5), (3, 8), (4, 11), (1, 3), (3, 10), (2, 7), (3, 11), (1, 4), (2, 9), (1, 5), (2, 11), (1, 6), (1, 7), (1, 8), (1, 9), (1, 10), (1, 11), (0, 1), (-1, 11), (-1, 10), (-1, 9), (-1, 8), (-1, 7), (-1, 6), (-2, 11), (-1, 5), (-2, 9), (-1, 4), (-3, 11), (-2, 7), (-3, 10), (-1, 3), (-4, 11), (-3, 8), (-2, 5), (-3, 7), (-4, 9), (-5, 11), (-1, 2), (-6, 11), (-5, 9), (-4, 7), (-3, 5), (-5, 8), (-7, 11), (-2, 3), (-7, 10), (-5, 7), (-8, 11), (-3, 4), (-7, 9), (-4, 5), (-9, 11), (-5, 6), (-6, 7), (-7, 8), (-8, 9), (-9, 10), (-10, 11), (-1, 1), (-11, 10), (-10, 9), (-9, 8), (-8, 7), (-7, 6), (-6, 5), (-11, 9), (-5, 4), (-9, 7), (-4, 3), (-11, 8), (-7, 5), (-10, 7), (-3, 2), (-11, 7), (-8, 5), (-5, 3), (-7, 4), (-9, 5), (-11, 6), (-2, 1), (-11, 5), (-9, 4), (-7, 3), (-5, 2), (-8, 3), (-11, 4), (-3, 1), (-10, 3), (-7, 2), (-11, 3), (-4, 1), (-9, 2), (-5, 1), (-11, 2), (-6, 1), (-7, 1), (-8, 1), (-9, 1), (-10, 1), (-11, 1), (-1, 0), (-11, -1), (-10, -1), (-9, -1), (-8, -1), (-7, -1), (-6, -1), (-11, -2), (-5, -1), (-9, -2), (-4, -1), (-11, -3), (-7, -2), (-10, -3), (-3, -1), (-11, -4), (-8, -3), (-5, -2), (-7, -3), (-9, -4), (-11, -5), (-2, -1), (-11, -6), (-9, -5), (-7, -4), (-5, -3), (-8, -5), (-11, -7), (-3, -2), (-10, -7), (-7, -5), (-11, -8), (-4, -3), (-9, -7), (-5, -4), (-11, -9), (-6, -5), (-7, -6), (-8, -7), (-9, -8), (-10, -9), (-11, -10), (-1, -1), (-10, -11), (-9, -10), (-8, -9), (-7, -8), (-6, -7), (-5, -6), (-9, -11), (-4, -5), (-7, -9), (-3, -4), (-8, -11), (-5, -7), (-7, -10), (-2, -3), (-7, -11), (-5, -8), (-3, -5), (-4, -7), (-5, -9), (-6, -11), (-1, -2), (-5, -11), (-4, -9), (-3, -7), (-2, -5), (-3, -8), (-4, -11), (-1, -3), (-3, -10), (-2, -7), (-3, -11), (-1, -4), (-2, -9), (-1, -5), (-2, -11), (-1, -6), (-1, -7), (-1, -8), (-1, -9), (-1, -10), (-1, -11)]
def dIdx : List Nat := [294, 293, 287, 283, 279, 274, 272, 267, 263, 259, 253, 252, 251, 245, 241, 237, 232, 230, 225, 221, 217, 211, 210, 295, 294, 292, 286, 281, 277, 273, 269, 265, 260, 254, 252, 250, 244, 239, 235, 231, 227, 223, 218, 212, 210, 209, 301, 296, 294, 291, 285, 280, 275, 271, 266, 261, 255, 252, 249, 243, 238, 233, 229, 224, 219, 213, 210, 208, 203, 305, 302, 297, 294, 290, 284, 278, 273, 268, 262, 256, 252, 248, 242, 236, 231, 226, 220, 214, 210, 207, 202, 199, 309, 307, 303, 298, 294, 289, 282, 276, 270, 264, 257, 252, 247, 240, 234, 228, 222, 215, 210, 206, 201, 197, 195, 314, 311, 308, 304, 299, 294, 288, 280, 273, 266, 258, 252, 246, 238, 231, 224, 216, 210, 205, 200, 196, 193, 190, 316, 315, 313, 310, 306, 300, 294, 286, 277, 269, 260, 252, 244, 235, 227, 218, 210, 204, 198, 194, 191, 189, 188, 321, 319, 317, 315, 312, 308, 302, 294, 284, 273, 262, 252, 242, 231, 220, 210, 202, 196, 192, 189, 187, 185, 183, 325, 323, 322, 320, 318, 315, 311, 304, 294, 280, 266, 252, 238, 224, 210, 200, 193, 189, 186, 184, 182, 181, 179, 329, 328, 327, 326, 324, 322, 319, 315, 308, 294, 273, 252, 231, 210, 196, 189, 185, 182, 180, 178, 177, 176, 175, 335, 334, 333, 332, 331, 330, 328, 326, 322, 315, 294, 252, 210, 189, 182, 178, 176, 174, 173, 172, 171, 170, 169, 0, 0, 0, 0, 0, 0, 0, 0, 0, 0, 0, 0, 168, 168, 168, 168, 168, 168, 168, 168, 168, 168, 168, 1, 2, 3, 4, 5, 6, 8, 10, 14, 21, 42, 84, 126, 147, 154, 158, 160, 162, 163, 164, 165, 166, 167, 7, 8, 9, 10, 12, 14, 17, 21, 28, 42, 63, 84, 105, 126, 140, 147, 151, 154, 156, 158, 159, 160, 161, 11, 13, 14, 16, 18, 21, 25, 32, 42, 56, 70, 84, 98, 112, 126, 136, 143, 147, 150, 152, 154, 155, 157, 15, 17, 19, 21, 24, 28, 34, 42, 52, 63, 74, 84, 94, 105, 116, 126, 134, 140, 144, 147, 149, 151, 153, 20, 21, 23, 26, 30, 36, 42, 50, 59, 67, 76, 84, 92, 101, 109, 118, 126, 132, 138, 142, 145, 147, 148, 22, 25, 28, 32, 37, 42, 48, 56, 63, 70, 78, 84, 90, 98, 105, 112, 120, 126, 131, 136, 140, 143, 146, 27, 29, 33, 38, 42, 47, 54, 60, 66, 72, 79, 84, 89, 96, 102, 108, 114, 121, 126, 130, 135, 139, 141, 31, 34, 39, 42, 46, 52, 58, 63, 68, 74, 80, 84, 88, 94, 100, 105, 110, 116, 122, 126, 129, 134, 137, 35, 40, 42, 45, 51, 56, 61, 65, 70, 75, 81, 84, 87, 93, 98, 103, 107, 112, 117, 123, 126, 128, 133, 41, 42, 44, 50, 55, 59, 63, 67, 71, 76, 82, 84, 86, 92, 97, 101, 105, 109, 113, 118, 124, 126, 127, 42, 43, 49, 53, 57, 62, 64, 69, 73, 77, 83, 84, 85, 91, 95, 99, 104, 106, 111, 115, 119, 125, 126]
def dAt (k : Int) : Int × Int := dTab.getD k.toNat (0, 0)
def dE (k : Int) : Int := (dAt k).1
def dS (k : Int) : Int := (dAt k).2
def dU (k : Int) : Int := dE k * dE k + dS k * dS k
/-- the direction of a way -/
def dK (x y : Int) : Int := (dIdx.getD (23 * (x + 11) + (y + 11)).toNat 0 : Nat)
/-- clockwise from north, the former comes first -/
def erl (ax ay bx dy : Int) : Bool := let f := decide (0 < ax) || (decide (ax = 0) && decide (ay < 0)); let s := decide (0 < bx) || (decide (bx = 0) && decide (dy < 0)); if f != s then f else decide (0 < ax * dy - ay * bx)
def upTo (f : Nat → Bool) : Nat → Bool
  | 0 => true
  | n + 1 => f n && upTo f n
theorem upTo_e {f : Nat → Bool} : ∀ {n i : Nat}, upTo f n = true → i < n → f i = true
  | 0, i, _, h => absurd h (Nat.not_lt_zero _)
  | n + 1, i, e, h => by
    unfold upTo at e
    rw [Bool.and_eq_true] at e
    by_cases q : i = n
    · rw [q]; exact e.1
    · exact upTo_e e.2 (by omega)
theorem dTab_len : dTab.length = 336 := by decide +kernel
def dGood (d : Int × Int) : Bool := decide (-11 ≤ d.1) && decide (d.1 ≤ 11) && decide (-11 ≤ d.2) && decide (d.2 ≤ 11) && decide (Int.gcd d.1 d.2 = 1)
theorem dTab_good : dTab.all dGood = true := by decide +kernel
theorem dAt_mem {k : Int} (h0 : 0 ≤ k) (h1 : k < 336) : dAt k ∈ dTab := by
  unfold dAt
  have : k.toNat < dTab.length := by rw [dTab_len]; omega
  rw [List.getD_eq_getElem?_getD, List.getElem?_eq_getElem this, Option.getD_some]
  exact List.getElem_mem this
theorem d_b {k : Int} (h0 : 0 ≤ k) (h1 : k < 336) : (-11 ≤ dE k ∧ dE k ≤ 11) ∧ (-11 ≤ dS k ∧ dS k ≤ 11) ∧ Int.gcd (dE k) (dS k) = 1 := by
  have := List.all_eq_true.mp dTab_good _ (dAt_mem h0 h1)
  unfold dGood at this
  simp only [Bool.and_eq_true, decide_eq_true_eq] at this
  unfold dE dS
  exact ⟨⟨this.1.1.1.1, this.1.1.1.2⟩, ⟨this.1.1.2, this.1.2⟩, this.2⟩
theorem d_n {k : Int} (h0 : 0 ≤ k) (h1 : k < 336) : dE k ≠ 0 ∨ dS k ≠ 0 := by
  have := (d_b h0 h1).2.2
  apply Classical.byContradiction; intro hn
  have e1 : dE k = 0 := by omega
  have e2 : dS k = 0 := by omega
  rw [e1, e2] at this; exact absurd this (by decide)
theorem dU_b {k : Int} (h0 : 0 ≤ k) (h1 : k < 336) : 0 < dU k ∧ dU k ≤ 242 := by
  have h := d_b h0 h1; have h2 := d_n h0 h1
  have := sq_le h.1.1 h.1.2; have := sq_le h.2.1.1 h.2.1.2; have a1 := sq_nn (dE k); have a2 := sq_nn (dS k)
  unfold dU
  refine ⟨?_, by omega⟩
  apply Classical.byContradiction; intro hn
  have e1 : dE k * dE k = 0 := by omega
  have e2 : dS k * dS k = 0 := by omega
  have e1 := Int.mul_eq_zero.mp e1; have e2 := Int.mul_eq_zero.mp e2
  omega
def dKgood (n : Nat) : Bool := let x : Int := n / 23 - 11; let y : Int := n % 23 - 11; let k := dK x y; (decide (x = 0) && decide (y = 0)) || (decide (0 ≤ k) && decide (k < 336) && decide (x = Int.gcd x y * dE k) && decide (y = Int.gcd x y * dS k))
theorem dK_all : upTo dKgood 529 = true := by decide +kernel
theorem dK_ok {x y : Int} (h0 : -11 ≤ x) (h1 : x ≤ 11) (h2 : -11 ≤ y) (h3 : y ≤ 11) (hn : x ≠ 0 ∨ y ≠ 0) : (0 ≤ dK x y ∧ dK x y < 336) ∧ x = Int.gcd x y * dE (dK x y) ∧ y = Int.gcd x y * dS (dK x y) := by
  have := upTo_e dK_all (i := (23 * (x + 11) + (y + 11)).toNat) (by omega)
  unfold dKgood at this
  have e1 : ((23 * (x + 11) + (y + 11)).toNat : Int) / 23 - 11 = x := by omega
  have e2 : ((23 * (x + 11) + (y + 11)).toNat : Int) % 23 - 11 = y := by omega
  simp only [e1, e2, Bool.or_eq_true, Bool.and_eq_true, decide_eq_true_eq] at this
  rcases this with h | h
  · omega
  · exact ⟨⟨h.1.1.1, h.1.1.2⟩, h.1.2, h.2⟩
def pw : List (Int × Int) → Bool
  | [] => true
  | a :: l => l.all (fun b => erl a.1 a.2 b.1 b.2 && !erl b.1 b.2 a.1 a.2) && pw l
theorem dTab_pw : pw dTab = true := by decide +kernel
theorem pw_e : ∀ {l : List (Int × Int)}, pw l = true → ∀ (i j : Nat) (hi : i < j) (hj : j < l.length), erl (l[i]'(by omega)).1 (l[i]'(by omega)).2 l[j].1 l[j].2 = true ∧ erl l[j].1 l[j].2 (l[i]'(by omega)).1 (l[i]'(by omega)).2 = false
  | [], _, _, _, _, hj => absurd hj (Nat.not_lt_zero _)
  | a :: l, h, 0, j + 1, _, hj => by
    unfold pw at h
    rw [Bool.and_eq_true] at h
    have := List.all_eq_true.mp h.1 (l[j]'(by simpa using hj)) (List.getElem_mem _)
    simp only [Bool.and_eq_true, Bool.not_eq_true'] at this
    exact this
  | a :: l, h, i + 1, j + 1, hi, hj => by
    unfold pw at h
    rw [Bool.and_eq_true] at h
    exact pw_e h.2 i j (by omega) (by simpa using hj)
theorem dAt_get {k : Int} (h0 : 0 ≤ k) (h1 : k < 336) : dAt k = dTab[k.toNat]'(by rw [dTab_len]; omega) := by
  unfold dAt
  have : k.toNat < dTab.length := by rw [dTab_len]; omega
  rw [List.getD_eq_getElem?_getD, List.getElem?_eq_getElem this, Option.getD_some]
theorem d_sort {i j : Int} (h0 : 0 ≤ i) (h1 : i < j) (h2 : j < 336) : erl (dE i) (dS i) (dE j) (dS j) = true ∧ erl (dE j) (dS j) (dE i) (dS i) = false := by
  unfold dE dS
  rw [dAt_get h0 (by omega), dAt_get (show 0 ≤ j by omega) h2]
  exact pw_e dTab_pw i.toNat j.toNat (by omega) (by rw [dTab_len]; omega)
theorem erl_rf {x y : Int} : erl x y x y = false := by
  unfold erl
  simp [Int.mul_comm]
theorem pos_sc {t x : Int} (ht : 0 < t) : (0 < t * x ↔ 0 < x) ∧ (t * x = 0 ↔ x = 0) ∧ (t * x < 0 ↔ x < 0) := by
  rcases Int.lt_trichotomy x 0 with h | h | h
  · have := Int.mul_neg_of_pos_of_neg ht h; omega
  · subst h; simp
  · have := Int.mul_pos ht h; omega
/-- only the direction counts, not the length -/
theorem erl_sc {t s ax ay bx dy : Int} (ht : 0 < t) (hs : 0 < s) : erl (t * ax) (t * ay) (s * bx) (s * dy) = erl ax ay bx dy := by
  unfold erl
  have e : t * ax * (s * dy) - t * ay * (s * bx) = (t * s) * (ax * dy - ay * bx) := by
    rw [Int.mul_sub]; simp only [Int.mul_assoc, Int.mul_left_comm, Int.mul_comm]
  simp only [e, (pos_sc ht).1, (pos_sc ht).2.1, (pos_sc ht).2.2, (pos_sc hs).1, (pos_sc hs).2.1, (pos_sc hs).2.2, (pos_sc (Int.mul_pos ht hs)).1]
