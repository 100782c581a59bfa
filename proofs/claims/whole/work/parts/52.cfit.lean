/-! ===== the class: the fitter ===== -/
def far5 (a b : Int) : Prop := b < 250 ∨ 254 < a
def Ft (μ : Mm) (c k n : Int) (g s : Int → Int) (p : Int) : Prop := (FtF μ ∧ μ 250 0 = c ∧ μ 250 1 = k ∧ μ 250 2 = n) ∧ La μ c g ∧ Sk μ k s ∧ Li μ n g p ∧ (LdOk g ∧ SkOk s ∧ Pl g p) ∧ far5 c (c + 5) ∧ far5 k (k + 2) ∧ far5 n (n + 6)
theorem Ft.fw {R : Int → Prop} {μ μ' : Mm} {c k n p : Int} {g s : Int → Int} (h : Ft μ c k n g s p) (f : Fw R μ μ') (hR : ∀ x, R x → 251 ≤ x ∧ x ≤ 254) : Ft μ' c k n g s p := by
  obtain ⟨h1, h2, h3, h4, h5, d1, d2, d3⟩ := h
  unfold far5 at *
  refine ⟨?_, h2.fw f (fun x a b r => by have := hR x r; omega), h3.fw f (fun x a b r => by have := hR x r; omega), h4.fw f (fun x a b r => by have := hR x r; omega), h5, d1, d2, d3⟩
  unfold FtF; rw [f 250 (fun r => by have := hR _ r; omega)]; exact h1
section
variable {μ : Mm} {c k n p st i j y : Int} {g s : Int → Int}
theorem mrk {m : Int} (h0 : 0 ≤ m) (h1 : m ≤ 5) : (iand m 6 = 0 ↔ iand m 2 = 0 ∧ iand m 4 = 0) ∧ ¬(iand m 2 ≠ 0 ∧ iand m 4 ≠ 0) := by
  have : m = 0 ∨ m = 1 ∨ m = 2 ∨ m = 3 ∨ m = 4 ∨ m = 5 := by omega
  rcases this with e | e | e | e | e | e <;> (subst e; decide)
theorem c_canBe (h : Ft μ c k n g s p) : fX1_canBe 250 μ = some (bi (cb g s p)) := by
  obtain ⟨⟨hF, e0, e1, e2⟩, hA, hS, hL, ⟨hD, hO, hp⟩, _⟩ := h
  have hb := hN_b hD hp; have o := hO.1
  unfold fX1_canBe
  simp (disch := omega) only [w32_eq, w64_eq, chk_T, chk_t, lt, lm, ob, Int.add_zero, Int.zero_add, true_and, and_true, if_true, if_false, K100, K101, K102, K103, K104, K200, K201, K230, K231, K232, K233, K234, K235, K236, K237, K250, K251, K252, K253, K254, K300, K301, K302, K303, K304, N101, N102, N103, N104, N201, N232, N233, N234, N235, N236, N237, N251, N252, N253, N254, N301, N302, N303, N304, e1, e2, hS.1.1, hL.1.k, hS.2.2.1.1, hS.2.2.1.2.2.2.1, hL.2.2.1.2.1]
  unfold cb
  by_cases q1 : s 0 = hN g p
  · rw [if_pos q1, bi_t ⟨by omega, .inl q1⟩]
  · rw [if_neg q1]
    rcases hO.2.2.2.1 with q2 | q2
    · rw [if_pos q2, bi_f (by omega)]
    · rw [if_neg (by omega)]
      by_cases q3 : hN g p ≤ s 0
      · rw [if_pos q3, bi_f (by omega)]
      · rw [if_neg q3, bi_t ⟨by omega, .inr ⟨by omega, q2⟩⟩]
theorem c_rayFor (h : Ft μ c k n g s p) (hc : cb g s p) (hs : 0 ≤ st ∧ st < hN g p) (hi : 0 ≤ i ∧ i < s 0) : fX1_rayFor 250 st i μ = some (hI g p (hx s (hN g p) st i)) := by
  obtain ⟨⟨hF, e0, e1, e2⟩, hA, hS, hL, ⟨hD, hO, hp⟩, _⟩ := h
  have hb := hN_b hD hp; have o := hO.1; have le := cb_le hc
  unfold fX1_rayFor jX1_rayFor_19 jX1_rayFor_41 hx
  simp (disch := omega) only [w32_eq, w64_eq, chk_T, chk_t, lt, lm, ob, Int.add_zero, Int.zero_add, true_and, and_true, if_true, if_false, K100, K101, K102, K103, K104, K200, K201, K230, K231, K232, K233, K234, K235, K236, K237, K250, K251, K252, K253, K254, K300, K301, K302, K303, K304, N101, N102, N103, N104, N201, N232, N233, N234, N235, N236, N237, N251, N252, N253, N254, N301, N302, N303, N304, e1, e2, hS.1.1, hL.1.k, hS.2.2.1.2.2.2.2.1, hL.2.2.1.2.1]
  rcases hO.2.2.2.2.1 with q | q
  · rw [if_pos q, if_neg (show ¬s 4 = 1 by omega), if_pos (by omega), c_rayOfHump hL hD hp (by omega) (by omega)]
    simp only [ob]
  · rw [if_neg (show ¬s 4 = 0 by omega), if_pos q]
    by_cases z : 0 ≤ st - i
    · rw [if_pos z, c_rayOfHump hL hD hp z (by omega), Int.add_emod_right]
      simp only [ob]
    · rw [if_neg z]
      rw [c_rayOfHump hL hD hp (by omega) (by omega)]
      simp only [ob]
/-- the first m spots are set -/
def Spt (μ : Mm) (g s : Int → Int) (p st m : Int) : Prop := ∀ i, 0 ≤ i → i < m → μ 252 i = hI g p (hx s (hN g p) st i)
theorem T_sel (h : Ft μ c k n g s p) (hc : cb g s p) : (0 ≤ hI g p (hx s (hN g p) st i) ∧ hI g p (hx s (hN g p) st i) < nR g p) ∧ T g p (hI g p (hx s (hN g p) st i)) = hl g s p st i := by
  have b := hx_b (s := s) (st := st) (i := i) hc.1
  exact ⟨(hI_ok h.2.2.2.2.1.1 h.2.2.2.2.1.2.2 b.1 b.2).1, rfl⟩
theorem c_inProportion (h : Ft μ c k n g s p) (hc : cb g s p) (hi : 0 ≤ i ∧ i < s 0) (hj : 0 ≤ j ∧ j < s 0) (h2 : s 2 ≠ 0) : fX1_inProportion 250 (s (7 + i)) (s (7 + j)) (hI g p (hx s (hN g p) st i)) (hI g p (hx s (hN g p) st j)) μ = some (bi (ar g s p st j i)) := by
  have r1 := T_sel (st := st) (i := i) h hc; have r2 := T_sel (st := st) (i := j) h hc
  obtain ⟨⟨hF, e0, e1, e2⟩, hA, hS, hL, ⟨hD, hO, hp⟩, _⟩ := h
  have nb := nR_b hD hp; have o1 := hO.2.1
  have P1 := hl_P (s := s) (st := st) (i := i) hD hp hc.1; have P2 := hl_P (s := s) (st := st) (i := j) hD hp hc.1
  have t1 := hL.2.2.2.1 _ r1.1.1 r1.1.2; have t2 := hL.2.2.2.1 _ r2.1.1 r2.1.2
  rw [r1.2] at t1; rw [r2.2] at t2
  have z1 : 0 < zV g p (hl g s p st i) ↔ 0 < zR g p (hl g s p st i) := zQ_p
  have z2 : 0 < zV g p (hl g s p st j) ↔ 0 < zR g p (hl g s p st j) := zQ_p
  unfold fX1_inProportion
  rw [if_neg (by omega), if_neg (by omega), if_neg (by omega), if_pos (by omega)]
  simp (disch := omega) only [w32_eq, w64_eq, chk_T, chk_t, lt, lm, ob, Int.add_zero, Int.zero_add, true_and, and_true, if_true, if_false, K100, K101, K102, K103, K104, K200, K201, K230, K231, K232, K233, K234, K235, K236, K237, K250, K251, K252, K253, K254, K300, K301, K302, K303, K304, N101, N102, N103, N104, N201, N232, N233, N234, N235, N236, N237, N251, N252, N253, N254, N301, N302, N303, N304, e1, e2, LiK.k hL.1, LiK.k1 hL.1, LiK.n1 hL.1, LiK.k2 hL.1, LiK.n2 hL.1, LiK.k3 hL.1, LiK.n3 hL.1, LiK.k4 hL.1, LiK.n4 hL.1, LiK.k5 hL.1, LiK.n5 hL.1, LiK.k6 hL.1, LiK.n6 hL.1, LiF.f4 hL.2.1, LiF.f5 hL.2.1, LiF.f6 hL.2.1, LiF.f7 hL.2.1, LiF.f8 hL.2.1, LiF.f9 hL.2.1, t1.2.1, t2.2.1, t1.2.2, t2.2.2, hS.1.1, hS.2.2.1.2.1]
  by_cases q1 : zV g p (hl g s p st i) ≤ 0
  · rw [if_pos q1, bi_f]
    rintro (w | w)
    · exact h2 w.1
    · have := z1.mpr w.2.1; omega
  · rw [if_neg q1]
    have y1 : 0 < zR g p (hl g s p st i) := z1.mp (by omega)
    by_cases q2 : 0 < zV g p (hl g s p st j)
    · have y2 : 0 < zR g p (hl g s p st j) := z2.mp q2
      have v1 : zV g p (hl g s p st i) = zR g p (hl g s p st i) * zR g p (hl g s p st i) := zQ_s (by omega)
      have v2 : zV g p (hl g s p st j) = zR g p (hl g s p st j) * zR g p (hl g s p st j) := zQ_s (by omega)
      have L := aL_b (st := st) (k := j) (i := i) hO hD hp hc.1 hi y2
      have R := aL_b (st := st) (k := i) (i := j) hO hD hp hc.1 hj y1
      have gb := mul_le_of (x := s 1) (y := aL g s p st i j) (a := 99) (b := 2367115787640) o1.1 o1.2 R.1 R.2.1
      have gb' := mul_nn (x := s 1) (y := aL g s p st i j) o1.1 R.1
      have eL : s (7 + i) * s (7 + i) * zV g p (hl g s p st j) * zF g p (hl g s p st i) = aL g s p st j i := by rw [v2]; unfold aL; rw [← Int.mul_assoc]
      have eR : s (7 + j) * s (7 + j) * zV g p (hl g s p st i) * zF g p (hl g s p st j) = aL g s p st i j := by rw [v1]; unfold aL; rw [← Int.mul_assoc]
      have m1 : 0 ≤ s (7 + i) * s (7 + i) * zV g p (hl g s p st j) ∧ s (7 + i) * s (7 + i) * zV g p (hl g s p st j) ≤ 9781407801 := by rw [v2, ← Int.mul_assoc]; exact L.2.2.2.2
      have m2 : 0 ≤ s (7 + j) * s (7 + j) * zV g p (hl g s p st i) ∧ s (7 + j) * s (7 + j) * zV g p (hl g s p st i) ≤ 9781407801 := by rw [v1, ← Int.mul_assoc]; exact R.2.2.2.2
      have la : labs (aL g s p st j i - aL g s p st i j) = if aL g s p st i j ≤ aL g s p st j i then aL g s p st j i - aL g s p st i j else aL g s p st i j - aL g s p st j i := by
        unfold labs
        by_cases q : aL g s p st i j ≤ aL g s p st j i
        · rw [if_pos (by omega), if_pos q]
        · rw [if_neg (by omega), if_neg q, w64_eq (by omega) (by omega)]; omega
      have lb : 0 ≤ labs (aL g s p st j i - aL g s p st i j) ∧ labs (aL g s p st j i - aL g s p st i j) ≤ 2367115787640 := by rw [la]; split <;> omega
      have l3 := L.2.2.1; have l4 := R.2.2.1
      rw [if_pos q2]
      simp (disch := omega) only [w32_eq, w64_eq, chk_T, chk_t, lt, lm, ob, Int.add_zero, Int.zero_add, true_and, and_true, if_true, if_false, eL, eR]
      by_cases q3 : s 1 * aL g s p st i j < 100 * labs (aL g s p st j i - aL g s p st i j)
      · rw [if_pos q3, bi_f]
        rintro (v | v)
        · exact h2 v.1
        · have v1 := v.2.2.2.1; have v2 := v.2.2.2.2; rw [la] at q3; split at q3 <;> omega
      · rw [if_neg q3, bi_t]
        rw [la] at q3
        refine .inr ⟨h2, y1, y2, ?_, ?_⟩ <;> (split at q3 <;> omega)
    · rw [if_neg q2, bi_f]
      rintro (w | w)
      · exact h2 w.1
      · have := z2.mpr w.2.2.1; omega
theorem c_agree {m : Int} (h : Ft μ c k n g s p) (hc : cb g s p) (hm : Spt μ g s p st m) (hi : 0 ≤ i ∧ i < s 0) (hj : 0 ≤ j ∧ j < s 0) (im : i < m) (jm : j < m) : fX1_agree 250 i j μ = some (bi (ar g s p st j i)) := by
  have ip := c_inProportion (st := st) h hc hi hj
  have r1 := T_sel (st := st) (i := i) h hc; have r2 := T_sel (st := st) (i := j) h hc
  have s1 := hm i hi.1 im; have s2 := hm j hj.1 jm
  obtain ⟨⟨hF, e0, e1, e2⟩, hA, hS, hL, ⟨hD, hO, hp⟩, _⟩ := h
  have o := hO.1; have o1 := hO.2.1
  have a1 := (hO.2.2.2.2.2.2 i hi.1 hi.2).1; have a2 := (hO.2.2.2.2.2.2 j hj.1 hj.2).1
  have x1 := (hS.2.2.2 i hi.1 hi.2).1; have x2 := (hS.2.2.2 j hj.1 hj.2).1
  obtain ⟨f4, f9, f10, f11⟩ := hF
  have w := c_weigh hL.1 hL.2.1 hL.2.2.2.1 hD hp r1.1 r2.1
  rw [r1.2, r2.2] at w
  unfold fX1_agree
  rw [if_neg (by omega), if_neg (by omega), if_neg (by omega), if_pos (by omega)]
  simp (disch := omega) only [w32_eq, w64_eq, chk_T, chk_t, lt, lm, ob, Int.add_zero, Int.zero_add, true_and, and_true, if_true, if_false, K100, K101, K102, K103, K104, K200, K201, K230, K231, K232, K233, K234, K235, K236, K237, K250, K251, K252, K253, K254, K300, K301, K302, K303, K304, N101, N102, N103, N104, N201, N232, N233, N234, N235, N236, N237, N251, N252, N253, N254, N301, N302, N303, N304, e1, e2, f9, hS.1.1, hS.1.2.1.1, hS.1.2.1.2, hS.2.1.1, hS.2.2.1.2.1, hS.2.2.1.2.2.1, x1, x2, s1, s2, hL.1.k, w]
  by_cases q : s 2 = 0
  · rw [if_pos q]
    have ia : iabs (s (7 + i) - s (7 + j)) = if 0 ≤ s (7 + i) - s (7 + j) then s (7 + i) - s (7 + j) else s (7 + j) - s (7 + i) := by
      unfold iabs; split
      · rfl
      · rw [w32_eq (by omega) (by omega)]; omega
    rw [ia]
    by_cases q1 : s 1 < (if 0 ≤ s (7 + i) - s (7 + j) then s (7 + i) - s (7 + j) else s (7 + j) - s (7 + i))
    · rw [if_pos q1]
      by_cases q2 : s (7 + i) - s (7 + j) ≤ 0
      · rw [if_pos q2]
        by_cases q3 : 0 ≤ sg (zT g p (hl g s p st i) (hl g s p st j))
        · rw [if_pos q3, bi_f]
          rintro (v | v)
          · have t := v.2.2 (by split at q1 <;> omega)
            have := sg_lt.mpr t; omega
          · exact v.1 q
        · rw [if_neg q3, bi_t (.inl ⟨q, fun _ => by omega, fun _ => sg_lt.mp (by omega)⟩)]
      · rw [if_neg q2]
        by_cases q3 : sg (zT g p (hl g s p st i) (hl g s p st j)) ≤ 0
        · rw [if_pos q3, bi_f]
          rintro (v | v)
          · have t := v.2.1 (by split at q1 <;> omega)
            have := sg_le.mp q3; omega
          · exact v.1 q
        · rw [if_neg q3, bi_t (.inl ⟨q, fun _ => by rw [sg_le] at q3; omega, fun _ => by omega⟩)]
    · rw [if_neg q1, bi_t (.inl ⟨q, fun _ => by split at q1 <;> omega, fun _ => by split at q1 <;> omega⟩)]
  · rw [if_neg q, ip q]
    have := bi_b (ar g s p st j i)
    simp only [ob]
    rw [chk_t (by omega)]
theorem c_isMarked (h : Ft μ c k n g s p) (hi : 0 ≤ i ∧ i < s 0) (m : Int) : fX6_isMarked k i m μ = some (bi (iand (s (19 + i)) m ≠ 0)) := by
  obtain ⟨_, hA, hS, hL, ⟨hD, hO, hp⟩, _⟩ := h
  have o := hO.1
  unfold fX6_isMarked
  rw [if_neg (by omega)]
  simp (disch := omega) only [w32_eq, w64_eq, chk_T, chk_t, lt, lm, ob, Int.add_zero, Int.zero_add, true_and, and_true, if_true, if_false, hS.1.1, hS.2.2.1.1, hS.2.1.2, hS.1.2.2.1, hS.1.2.2.2, (hS.2.2.2 i hi.1 hi.2).2, if_neg]
  by_cases z : iand (s (19 + i)) m = 0
  · rw [if_pos z, bi_f (fun w => w z)]
  · rw [if_neg z, bi_t z]
/-- the tower or none that hump i asks for -/
def tok (g s : Int → Int) (p st y i : Int) : Prop := (iand (s (19 + i)) 2 ≠ 0 → tw g (hl g s p st i) y) ∧ (iand (s (19 + i)) 4 ≠ 0 → ¬tw g (hl g s p st i) y)
def lok (g s : Int → Int) (p st i : Int) : Prop := iand (s (19 + i)) 1 ≠ 0 → i ≠ 0 → (s 4 = 1 → lk g p (hl g s p st i) (hl g s p st (i - 1))) ∧ (s 4 ≠ 1 → lk g p (hl g s p st (i - 1)) (hl g s p st i))
def hny (g s : Int → Int) (p st i : Int) : Prop := (∀ k, 0 ≤ k → k < i → ar g s p st k i) ∧ lok g s p st i
theorem okk_iff : okk g s p st y i ↔ hny g s p st i ∧ tok g s p st y i := by
  unfold okk mk hny tok lok
  exact ⟨fun h => ⟨⟨h.2, h.1.2.2⟩, h.1.1, h.1.2.1⟩, fun h => ⟨⟨h.2.1, h.2.2, h.1.2⟩, h.1.1⟩⟩
theorem c_lacksTower {m : Int} (h : Ft μ c k n g s p) (hc : cb g s p) (hm : Spt μ g s p st m) (hi : 0 ≤ i ∧ i < s 0) (im : i < m) : fX1_lacksTower 250 i y μ = some (bi (¬tok g s p st y i)) := by
  have r1 := T_sel (st := st) (i := i) h hc
  have s1 := hm i hi.1 im
  have mk6 := c_isMarked h hi 6; have mk2 := c_isMarked h hi 2
  obtain ⟨⟨hF, e0, e1, e2⟩, hA, hS, hL, ⟨hD, hO, hp⟩, _⟩ := h
  have o := hO.1
  have mr := (hO.2.2.2.2.2.2 i hi.1 hi.2).2
  have M := mrk mr.1 mr.2
  have tp := c_topOfRay hL hD hp (hI g p (hx s (hN g p) st i))
  rw [sel_t r1.1, r1.2] at tp
  unfold fX1_lacksTower
  rw [if_neg (by omega), if_neg (by omega)]
  simp (disch := omega) only [w32_eq, w64_eq, chk_T, chk_t, lt, lm, ob, Int.add_zero, Int.zero_add, true_and, and_true, if_true, if_false, K100, K101, K102, K103, K104, K200, K201, K230, K231, K232, K233, K234, K235, K236, K237, K250, K251, K252, K253, K254, K300, K301, K302, K303, K304, N101, N102, N103, N104, N201, N232, N233, N234, N235, N236, N237, N251, N252, N253, N254, N301, N302, N303, N304, e0, e1, e2, hF.2.1, hS.1.1, mk6, mk2, s1, tp, hL.1.k, La_k hA, c_hasTower hA hD, bi_if]
  unfold tok
  by_cases q6 : iand (s (19 + i)) 6 = 0
  · rw [sel_f (fun w => w q6), bi_f]
    intro w; apply w
    have := M.1.mp q6
    exact ⟨fun v => absurd this.1 v, fun v => absurd this.2 v⟩
  · rw [sel_t q6]
    by_cases q2 : iand (s (19 + i)) 2 = 0
    · have q4 : iand (s (19 + i)) 4 ≠ 0 := fun v => q6 (M.1.mpr ⟨q2, v⟩)
      rw [bi_f (c := iand (s (19 + i)) 2 ≠ 0) (fun w => w q2)]
      by_cases t : tw g (hl g s p st i) y
      · rw [bi_t t, if_neg (by decide), bi_t (fun w => w.2 q4 t)]
      · rw [bi_f t, if_pos rfl, bi_f (fun w => w ⟨fun v => absurd q2 v, fun _ => t⟩)]
    · have q4 : iand (s (19 + i)) 4 = 0 := by
        apply Classical.byContradiction; intro v; exact M.2 ⟨q2, v⟩
      rw [bi_t (c := iand (s (19 + i)) 2 ≠ 0) q2]
      by_cases t : tw g (hl g s p st i) y
      · rw [bi_t t, if_pos rfl, bi_f (fun w => w ⟨fun _ => t, fun v => absurd q4 v⟩)]
      · rw [bi_f t, if_neg (by decide), bi_t (fun w => t (w.1 q2))]
end
