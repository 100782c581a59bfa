/-! ===== the fitter: how far a start reaches ===== -/
def sp2 (x : Int) : Prop := x = 252
theorem tok_nb {g s : Int → Int} {p st y i : Int} (hO : SkOk s) (hb : ¬byY s) (hi : 0 ≤ i ∧ i < s 0) : tok g s p st y i := by
  have mr := (hO.2.2.2.2.2.2 i hi.1 hi.2).2
  have M := mrk mr.1 mr.2
  have z : iand (s (19 + i)) 6 = 0 := by
    apply Classical.byContradiction; intro w; exact hb ⟨i, hi.1, hi.2, w⟩
  have := M.1.mp z
  exact ⟨fun v => absurd this.1 v, fun v => absurd this.2 v⟩
/-- up to the first that lacks a tower, within those that hold in any year -/
theorem ld_and {P Q R : Int → Prop} {n : Nat} (h : ∀ i : Int, 0 ≤ i → i < n → (R i ↔ P i ∧ Q i)) : ld R n = ld Q (ld P n).toNat := by
  obtain ⟨a0, a1, a2⟩ := ld_ok P n
  obtain ⟨b0, b1, b2⟩ := ld_ok Q (ld P n).toNat
  refine (ld_u ⟨b0.1, by omega⟩ (fun i i0 i1 => (h i i0 (by omega)).mpr ⟨a1 i i0 (by omega), b1 i i0 i1⟩) (fun w z => ?_)).symm
  have z' := (h _ b0.1 w).mp z
  by_cases e : ld Q (ld P n).toNat < ((ld P n).toNat : Int)
  · exact b2 e z'.2
  · have e2 : ld Q (ld P n).toNat = ld P n := by omega
    rw [e2] at z'; exact a2 (by omega) z'.1
theorem fI_ld {g s : Int → Int} {p st y : Int} (hc : cb g s p) : fI g s p st y = ld (tok g s p st y) (ld (hny g s p st) (s 0).toNat).toNat := by
  unfold fI; rw [sel_t hc]
  exact ld_and (fun i _ _ => okk_iff)
theorem ld_all {P : Int → Prop} {n : Nat} (h : ∀ i : Int, 0 ≤ i → i < n → P i) : ld P n = n := (ld_u (by omega) (fun i a b => h i a b) (fun w => by omega)).symm
theorem fI_nb {g s : Int → Int} {p st y : Int} (hO : SkOk s) (hc : cb g s p) (hb : ¬byY s) : fI g s p st y = ld (hny g s p st) (s 0).toNat := by
  have o := hO.1
  obtain ⟨a0, _, _⟩ := ld_ok (hny g s p st) (s 0).toNat
  rw [fI_ld hc, ld_all (fun i i0 i1 => tok_nb hO hb ⟨i0, by omega⟩)]; omega
/-- the greatest of the spans lo .. hi -/
def Rc (μ : Mm) (g s : Int → Int) (p st lo hi R : Int) : Prop := (∀ j, lo ≤ j → j ≤ hi → fI g s p st (μ 251 j) ≤ R) ∧ ∃ j, lo ≤ j ∧ j ≤ hi ∧ R = fI g s p st (μ 251 j)
theorem Rc_u {μ : Mm} {g s : Int → Int} {p st lo hi R S : Int} (h : Rc μ g s p st lo hi R) (k : Rc μ g s p st lo hi S) : R = S := by
  obtain ⟨a, j, j0, j1, e⟩ := h; obtain ⟨b, i, i0, i1, f⟩ := k
  have := a i i0 i1; have := b j j0 j1; omega
section
variable {μ : Mm} {c k n p st i j y yr m lo hi : Int} {g s : Int → Int}
theorem c_yearFrom (hF : FtF μ) (hm : μ 250 3 = m) (h25 : m ≤ 25) (hj : 0 ≤ j ∧ j < m) : fX1_yearFrom 250 j μ = some (μ 251 j) := by
  unfold fX1_yearFrom
  rw [if_neg (by omega)]
  simp (disch := omega) only [w32_eq, w64_eq, chk_T, chk_t, lt, lm, ob, Int.add_zero, Int.zero_add, true_and, and_true, if_true, if_false, K100, K101, K102, K103, K104, K200, K201, K230, K231, K232, K233, K234, K235, K236, K237, K250, K251, K252, K253, K254, K300, K301, K302, K303, K304, N101, N102, N103, N104, N201, N232, N233, N234, N235, N236, N237, N251, N252, N253, N254, N301, N302, N303, N304, hm, hF.1]
  rw [if_neg (by omega), if_neg (by omega)]
theorem c_reachY {lim : Int} (h : Ft μ c k n g s p) (hc : cb g s p) (hm : Spt μ g s p st lim) (hl : lim = ld (hny g s p st) (s 0).toNat) (h3 : μ 250 3 = m) (h25 : m ≤ 25) (h5 : μ 250 5 = lo) (h6 : μ 250 6 = hi) (hlo : 0 ≤ lo ∧ lo ≤ hi ∧ hi < m) : Ev (fX1_reachByYears 250 lim μ) (fun R => Rc μ g s p st lo hi R) := by
  have hF := h.1.1
  have o := h.2.2.2.2.1.2.1.1
  have lt := fun i y (hi : 0 ≤ i ∧ i < s 0) (im : i < lim) => c_lacksTower (st := st) (y := y) (i := i) h hc hm hi im
  obtain ⟨a0, a1, a2⟩ := ld_ok (hny g s p st) (s 0).toNat
  rw [← hl] at a0
  have fe : ∀ y, fI g s p st y = ld (tok g s p st y) lim.toNat := fun y => by rw [fI_ld hc, hl]
  have fb : ∀ y, 0 ≤ fI g s p st y ∧ fI g s p st y ≤ lim := fun y => by
    have := (ld_ok (tok g s p st y) lim.toNat).1; rw [fe]; omega
  unfold fX1_reachByYears
  simp (disch := omega) only [w32_eq, w64_eq, chk_T, chk_t, lt, lm, ob, Int.add_zero, Int.zero_add, true_and, and_true, if_true, if_false, K100, K101, K102, K103, K104, K200, K201, K230, K231, K232, K233, K234, K235, K236, K237, K250, K251, K252, K253, K254, K300, K301, K302, K303, K304, N101, N102, N103, N104, N201, N232, N233, N234, N235, N236, N237, N251, N252, N253, N254, N301, N302, N303, N304, h5]
  refine Ev_bind (Ev_lop (P := fun R => Rc μ g s p st lo hi R) (fun t => (lo ≤ t.2 ∧ t.2 ≤ hi + 1) ∧ (0 ≤ t.1 ∧ t.1 ≤ lim) ∧ (∀ j, lo ≤ j → j < t.2 → fI g s p st (μ 251 j) ≤ t.1) ∧ ((t.2 = lo ∧ t.1 = 0) ∨ ∃ j, lo ≤ j ∧ j < t.2 ∧ t.1 = fI g s p st (μ 251 j))) (fun t => (hi + 1 - t.2).toNat) ⟨(by first | omega | (dsimp only; omega) | (dsimp only)), (by first | omega | (dsimp only; omega) | (dsimp only)), fun j a b => by dsimp only at b; omega, .inl ⟨rfl, rfl⟩⟩ (by unfold FU; dsimp only; omega) ?_) (fun r h => Ev_some h)
  rintro ⟨v2, v3⟩ ⟨k1, k2, k3, k4⟩
  dsimp only at k1 k2 k3 k4 ⊢
  unfold sX1_reachByYears_7
  dsimp only
  simp (disch := omega) only [w32_eq, w64_eq, chk_T, chk_t, lt, lm, ob, Int.add_zero, Int.zero_add, true_and, and_true, if_true, if_false, K100, K101, K102, K103, K104, K200, K201, K230, K231, K232, K233, K234, K235, K236, K237, K250, K251, K252, K253, K254, K300, K301, K302, K303, K304, N101, N102, N103, N104, N201, N232, N233, N234, N235, N236, N237, N251, N252, N253, N254, N301, N302, N303, N304, h6]
  refine Ev_ite (fun z => Ev_out ⟨fun j a b => k3 j a (by omega), ?_⟩) (fun z => Ev_ite (fun z2 => Ev_out ⟨fun j a b => by have := (fb (μ 251 j)).2; omega, ?_⟩) (fun z2 => ?_))
  · rcases k4 with ⟨w, _⟩ | ⟨j, a, b, e⟩
    · omega
    · exact ⟨j, a, by omega, e⟩
  · rcases k4 with ⟨w, w2⟩ | ⟨j, a, b, e⟩
    · have := fb (μ 251 lo); exact ⟨lo, by omega, by omega, by omega⟩
    · exact ⟨j, a, by omega, e⟩
  · rw [c_yearFrom hF h3 h25 (j := v3) (by omega)]
    simp only [ob]
    refine Ev_bind (Ev_lop (P := fun r => r = fI g s p st (μ 251 v3)) (fun t => (0 ≤ t ∧ t ≤ lim) ∧ ∀ i, 0 ≤ i → i < t → tok g s p st (μ 251 v3) i) (fun t => (lim - t).toNat) ⟨by omega, fun i a b => by omega⟩ (by unfold FU; omega) ?_) (fun r hr => ?_)
    · intro v5 ⟨l1, l2⟩
      unfold sX1_reachByYears_30
      refine Ev_ite (fun w => Ev_out ?_) (fun w => ?_)
      · rw [fe]; exact ld_u (by omega) l2 (fun w => by omega)
      · simp (disch := omega) only [w32_eq, w64_eq, chk_T, chk_t, lt, lm, ob, Int.add_zero, Int.zero_add, true_and, and_true, if_true, if_false, K100, K101, K102, K103, K104, K200, K201, K230, K231, K232, K233, K234, K235, K236, K237, K250, K251, K252, K253, K254, K300, K301, K302, K303, K304, N101, N102, N103, N104, N201, N232, N233, N234, N235, N236, N237, N251, N252, N253, N254, N301, N302, N303, N304, lt v5 (μ 251 v3) (by omega) (by omega), bi_if]
        by_cases q : tok g s p st (μ 251 v3) v5
        · rw [sel_f (fun v => v q)]
          refine Ev_in ⟨by omega, fun i a b => ?_⟩ (by omega)
          by_cases e : i = v5
          · subst e; exact q
          · exact l2 i a (by omega)
        · rw [sel_t q]; apply Ev_out; rw [fe]; exact ld_u (by omega) l2 (fun _ => q)
    · subst hr
      have fv := fb (μ 251 v3)
      have im : imax v2 (fI g s p st (μ 251 v3)) = if v2 < fI g s p st (μ 251 v3) then fI g s p st (μ 251 v3) else v2 := rfl
      rw [im]
      refine Ev_in ⟨(by first | omega | (dsimp only; omega) | (dsimp only)), by dsimp only; split <;> omega, fun j a b => ?_, .inr ?_⟩ (by first | omega | (dsimp only; omega) | (dsimp only))
      · dsimp only at b ⊢
        by_cases e : j = v3
        · subst e; split <;> omega
        · have := k3 j a (by omega); split <;> omega
      · dsimp only
        by_cases q : v2 < fI g s p st (μ 251 v3)
        · rw [if_pos q]; exact ⟨v3, by omega, by omega, rfl⟩
        · rw [if_neg q]
          rcases k4 with ⟨w, w2⟩ | ⟨j, a, b, e⟩
          · exact ⟨v3, by omega, by omega, by omega⟩
          · exact ⟨j, a, by omega, e⟩
theorem c_reach (h : Ft μ c k n g s p) (hs : 0 ≤ st ∧ st < hN g p) (h8 : μ 250 8 = bi (byY s)) (h3 : μ 250 3 = m) (h25 : m ≤ 25) (h5 : μ 250 5 = lo) (h6 : μ 250 6 = hi) (hlo : 0 ≤ lo ∧ lo ≤ hi ∧ hi < m) : Ev (fX1_reach 250 st μ) (fun r => Fw sp2 μ r.2 ∧ Rc μ g s p st lo hi r.1) := by
  have hO := h.2.2.2.2.1.2.1
  have o := hO.1
  have bY := bi_b (byY s)
  unfold fX1_reach
  simp (disch := omega) only [w32_eq, w64_eq, chk_T, chk_t, lt, lm, ob, Int.add_zero, Int.zero_add, true_and, and_true, if_true, if_false, K100, K101, K102, K103, K104, K200, K201, K230, K231, K232, K233, K234, K235, K236, K237, K250, K251, K252, K253, K254, K300, K301, K302, K303, K304, N101, N102, N103, N104, N201, N232, N233, N234, N235, N236, N237, N251, N252, N253, N254, N301, N302, N303, N304, c_canBe h, bi_if]
  by_cases hc : cb g s p
  · rw [sel_t hc]
    have fin : ∀ (v : Int) (μ1 : Mm), Fw sp2 μ μ1 → Spt μ1 g s p st v → v = ld (hny g s p st) (s 0).toNat → Ev (jX1_reach_62 250 v μ1) (fun r => Fw sp2 μ r.2 ∧ Rc μ g s p st lo hi r.1) := by
      intro v μ1 f1 S1 hv
      have r250 : μ1 250 = μ 250 := f1 250 (by unfold sp2; omega)
      have r251 : μ1 251 = μ 251 := f1 251 (by unfold sp2; omega)
      have H1 : Ft μ1 c k n g s p := h.fw f1 (fun x hx => by unfold sp2 at hx; omega)
      unfold jX1_reach_62
      simp (disch := omega) only [w32_eq, w64_eq, chk_T, chk_t, lt, lm, ob, Int.add_zero, Int.zero_add, true_and, and_true, if_true, if_false, K100, K101, K102, K103, K104, K200, K201, K230, K231, K232, K233, K234, K235, K236, K237, K250, K251, K252, K253, K254, K300, K301, K302, K303, K304, N101, N102, N103, N104, N201, N232, N233, N234, N235, N236, N237, N251, N252, N253, N254, N301, N302, N303, N304, r250, h8]
      by_cases hb : byY s
      · rw [bi_t hb, if_neg (by decide)]
        refine Ev_bind (c_reachY H1 hc S1 hv (by rw [r250]; exact h3) h25 (by rw [r250]; exact h5) (by rw [r250]; exact h6) hlo) (fun R hR => ?_)
        unfold Rc at hR; rw [r251] at hR
        exact Ev_some ⟨f1, hR⟩
      · rw [bi_f hb, if_pos rfl]
        refine Ev_some ⟨f1, fun j _ _ => ?_, lo, by omega, by omega, ?_⟩
        · rw [fI_nb hO hc hb]; omega
        · dsimp only; rw [fI_nb hO hc hb]; exact hv
    refine Ev_bind (Ev_lop (P := fun x => ∃ v μ1, (x = .inl (v, μ1) ∨ x = .inr (v, μ1)) ∧ Fw sp2 μ μ1 ∧ Spt μ1 g s p st v ∧ v = ld (hny g s p st) (s 0).toNat) (fun t => (0 ≤ t.2.1 ∧ t.2.1 ≤ s 0) ∧ t.1 = t.2.1 ∧ Fw sp2 μ t.2.2 ∧ Spt t.2.2 g s p st t.2.1 ∧ ∀ i, 0 ≤ i → i < t.2.1 → hny g s p st i) (fun t => (s 0 - t.2.1).toNat) ⟨(by first | omega | (dsimp only; omega) | (dsimp only)), rfl, Fw.rf, fun i a b => by dsimp only at b; omega, fun i a b => by dsimp only at b; omega⟩ (by unfold FU; dsimp only; omega) ?_) ?_
    · rintro ⟨v2, v3, μ1⟩ ⟨k1, k2, f1, S1, k5⟩
      dsimp only at k1 k2 f1 S1 k5 ⊢
      have H1 : Ft μ1 c k n g s p := h.fw f1 (fun x hx => by unfold sp2 at hx; omega)
      have e1 := H1.1.2.2.1; have hS := H1.2.2.1
      unfold sX1_reach_13
      dsimp only
      simp (disch := omega) only [w32_eq, w64_eq, chk_T, chk_t, lt, lm, ob, Int.add_zero, Int.zero_add, true_and, and_true, if_true, if_false, K100, K101, K102, K103, K104, K200, K201, K230, K231, K232, K233, K234, K235, K236, K237, K250, K251, K252, K253, K254, K300, K301, K302, K303, K304, N101, N102, N103, N104, N201, N232, N233, N234, N235, N236, N237, N251, N252, N253, N254, N301, N302, N303, N304, e1, hS.1.1, hS.2.2.1.1]
      refine Ev_ite (fun z => Ev_out ⟨v2, μ1, .inl rfl, f1, by rw [k2]; exact S1, ld_u (by omega) (fun i a b => k5 i a (by omega)) (fun w => by omega)⟩) (fun z => ?_)
      have hi' : 0 ≤ v3 ∧ v3 < s 0 := by omega
      rw [if_neg (by omega)]
      simp (disch := omega) only [w32_eq, w64_eq, chk_T, chk_t, lt, lm, ob, Int.add_zero, Int.zero_add, true_and, and_true, if_true, if_false, K100, K101, K102, K103, K104, K200, K201, K230, K231, K232, K233, K234, K235, K236, K237, K250, K251, K252, K253, K254, K300, K301, K302, K303, K304, N101, N102, N103, N104, N201, N232, N233, N234, N235, N236, N237, N251, N252, N253, N254, N301, N302, N303, N304, c_rayFor H1 hc hs hi', H1.1.1.2.1]
      have f2 : Fw sp2 μ (mst μ1 252 v3 (hI g p (hx s (hN g p) st v3))) := f1.st rfl
      have H2 : Ft (mst μ1 252 v3 (hI g p (hx s (hN g p) st v3))) c k n g s p := h.fw f2 (fun x hx => by unfold sp2 at hx; omega)
      have S2 : Spt (mst μ1 252 v3 (hI g p (hx s (hN g p) st v3))) g s p st (v3 + 1) := by
        intro i a b
        by_cases e : i = v3
        · subst e; exact mst_s
        · rw [mst_j e]; exact S1 i a (by omega)
      rw [c_holds H2 hc hs S2 hi' (by omega)]
      simp only [ob, bi_if]
      by_cases q : hny g s p st v3
      · rw [sel_t q]
        refine Ev_in ⟨(by first | omega | (dsimp only; omega) | (dsimp only)), (by first | omega | (dsimp only; omega) | (dsimp only)), f2, S2, fun i a b => ?_⟩ (by first | omega | (dsimp only; omega) | (dsimp only))
        dsimp only at b
        by_cases e : i = v3
        · subst e; exact q
        · exact k5 i a (by omega)
      · rw [sel_f q]
        refine Ev_out ⟨v2, _, .inr rfl, f2, fun i a b => S2 i a (by omega), ld_u (by omega) (fun i a b => k5 i a (by omega)) (fun _ => by rw [k2]; exact q)⟩
    · rintro x ⟨v, μ1, hx, f1, S1, hv⟩
      rcases hx with hx | hx <;> (subst hx; exact fin v μ1 f1 S1 hv)
  · rw [sel_f hc]
    have e : ∀ y, fI g s p st y = 0 := fun y => by unfold fI; rw [sel_f hc]
    exact Ev_some ⟨Fw.rf, fun j _ _ => by rw [e]; exact Int.le_refl _, lo, by omega, by omega, by dsimp only; rw [e]⟩
/-- the spans tell all years -/
theorem sp_cov (hO : SkOk s) (hP : Spn μ g s yr m (g 5)) (hy : y0 s yr ≤ y ∧ y ≤ y9 s yr) : ∃ j, 0 ≤ j ∧ j < m ∧ fI g s p st y = fI g s p st (μ 251 j) := by
  obtain ⟨⟨p3, p7, p8⟩, pm, pS, p0, pb, pc⟩ := hP
  by_cases hc : cb g s p
  · by_cases hb : byY s
    · by_cases hyr : yr = -1
      · have key : ∀ q : Nat, 1 ≤ q → (q : Int) ≤ m → ∃ j : Int, 0 ≤ j ∧ j < q ∧ μ 251 j ≤ y ∧ ∀ i : Int, 0 ≤ i → i < q → μ 251 i ≤ y → i ≤ j := by
          intro q
          induction q with
          | zero => intro h _; omega
          | succ q ih =>
            intro h1 h2
            by_cases w : μ 251 (q : Int) ≤ y
            · exact ⟨q, by omega, by omega, w, fun i a b _ => by omega⟩
            · by_cases w2 : q = 0
              · subst w2; exfalso; rw [show ((0 : Nat) : Int) = 0 by rfl, p0] at w; omega
              · obtain ⟨j, j0, j1, j2, j3⟩ := ih (by omega) (by omega)
                refine ⟨j, j0, by omega, j2, fun i a b c => ?_⟩
                by_cases e : i = q
                · subst e; exact absurd c w
                · exact j3 i a (by omega) c
        obtain ⟨j, j0, j1, j2, j3⟩ := key m.toNat (by omega) (by omega)
        refine ⟨j, j0, by omega, ?_⟩
        have bj := pb j j0 (by omega)
        have ny : NY g (μ 251 j) (y + 1) := by
          intro k k0 k1 kt
          obtain ⟨w1, w2⟩ := pc hb hyr k k0 k1 kt
          refine ⟨fun w => ?_, fun w => ?_⟩
          · obtain ⟨i, i0, i1, e⟩ := w1 (by clear w1 w2; omega) (by clear w1 w2; omega)
            clear w1 w2
            have l := j3 i i0 (by omega) (by omega)
            by_cases q : i = j
            · subst q; omega
            · have := pS i j i0 (by omega) (by omega); omega
          · obtain ⟨i, i0, i1, e⟩ := w2 (by clear w1 w2; omega) (by clear w1 w2; omega)
            clear w1 w2
            have l := j3 i i0 (by omega) (by omega)
            by_cases q : i = j
            · subst q; omega
            · have := pS i j i0 (by omega) (by omega); omega
        exact NY_fI ny j2 (by omega)
      · have : y = yr := by unfold y0 y9 at hy; rw [if_neg hyr, if_neg hyr] at hy; omega
        refine ⟨0, by omega, by omega, ?_⟩
        rw [p0, this]; unfold y0; rw [if_neg hyr]
    · exact ⟨0, by omega, by omega, by rw [fI_nb hO hc hb, fI_nb hO hc hb]⟩
  · exact ⟨0, by omega, by omega, by unfold fI; rw [sel_f hc, sel_f hc]⟩
theorem Rc_fO {R : Int} (hO : SkOk s) (hyr : -1 ≤ yr ∧ yr ≤ 99) (hP : Spn μ g s yr m (g 5)) (h : Rc μ g s p st 0 (m - 1) R) : R = fO g s p st yr := by
  obtain ⟨a, j, j0, j1, e⟩ := h
  have o6 := hO.2.2.2.2.2.1
  have pb := hP.2.2.2.2.1 j j0 (by omega)
  unfold fO
  by_cases w : yr < 0
  · have ey : yr = -1 := by omega
    rw [if_pos w]
    have e0 : y0 s yr = s 5 := by unfold y0; rw [if_pos ey]
    have e9 : y9 s yr = s 6 := by unfold y9; rw [if_pos ey]
    rw [e0, e9] at pb
    refine my_u (by rw [e]; exact (fI_b hO).1) (fun y x z => ?_) (.inr ⟨μ 251 j, by omega, by omega, e.symm⟩)
    obtain ⟨i, i0, i1, f⟩ := sp_cov (p := p) (st := st) (y := y) hO hP (by rw [e0, e9]; omega)
    rw [f]; exact a i i0 (by omega)
  · have ey : ¬yr = -1 := by omega
    rw [if_neg w, e]
    have e0 : y0 s yr = yr := by unfold y0; rw [if_neg ey]
    have e9 : y9 s yr = yr := by unfold y9; rw [if_neg ey]
    rw [e0, e9] at pb
    rw [show μ 251 j = yr by omega]
/-- what reach answers, for a fitter that stays as it is -/
def Rch (μ : Mm) (g : Int → Int) (p : Int) (F : Int → Int) : Prop := ∀ μ1, Fw sp2 μ μ1 → ∀ st, 0 ≤ st → st < hN g p → Ev (fX1_reach 250 st μ1) (fun r => Fw sp2 μ r.2 ∧ r.1 = F st)
theorem c_rch (h : Ft μ c k n g s p) (hyr : -1 ≤ yr ∧ yr ≤ 99) (hP : Spn μ g s yr m (g 5)) (h5 : μ 250 5 = 0) (h6 : μ 250 6 = m - 1) : Rch μ g p (fun st => fO g s p st yr) := by
  intro μ1 f1 st s0 s1
  have hO := h.2.2.2.2.1.2.1; have hD := h.2.2.2.2.1.1
  have tl := hD.t
  have r250 : μ1 250 = μ 250 := f1 250 (by unfold sp2; omega)
  have r251 : μ1 251 = μ 251 := f1 251 (by unfold sp2; omega)
  have H1 : Ft μ1 c k n g s p := h.fw f1 (fun x hx => by unfold sp2 at hx; omega)
  have pm := hP.2.1
  refine Ev_mono (c_reach (m := m) (lo := 0) (hi := m - 1) H1 ⟨s0, s1⟩ (by rw [r250]; exact hP.1.2.2) (by rw [r250]; exact hP.1.1) (by omega) (by rw [r250]; exact h5) (by rw [r250]; exact h6) (by omega)) ?_
  rintro ⟨r, μ2⟩ ⟨f2, hR⟩
  unfold Rc at hR; rw [r251] at hR
  exact ⟨f1.tr f2, Rc_fO hO hyr hP hR⟩
def LsA (g s : Int → Int) (p : Int) (F : Int → Int) (r : Int) : Prop := (cb g s p ∧ Fi (fun st => F st = s 0) (hN g p) r) ∨ (¬cb g s p ∧ r = -1)
theorem c_leastStart {F : Int → Int} (h : Ft μ c k n g s p) (hR : Rch μ g p F) : Ev (fX1_leastStart 250 μ) (fun r => Fw sp2 μ r.2 ∧ LsA g s p F r.1) := by
  have hO := h.2.2.2.2.1.2.1; have hD := h.2.2.2.2.1.1; have hp := h.2.2.2.2.1.2.2
  have hb := hN_b hD hp
  unfold fX1_leastStart
  refine Ev_bind (Ev_lop (P := fun x => (∃ μ', x = .inl μ' ∧ Fw sp2 μ μ' ∧ (¬cb g s p ∨ ∀ st, 0 ≤ st → st < hN g p → F st ≠ s 0)) ∨ ∃ r μ', x = .inr (r, μ') ∧ Fw sp2 μ μ' ∧ cb g s p ∧ (0 ≤ r ∧ r < hN g p) ∧ F r = s 0 ∧ ∀ st, 0 ≤ st → st < r → F st ≠ s 0) (fun t => (0 ≤ t.1 ∧ t.1 ≤ hN g p) ∧ Fw sp2 μ t.2 ∧ ∀ st, 0 ≤ st → st < t.1 → F st ≠ s 0) (fun t => (hN g p - t.1).toNat) ⟨(by first | omega | (dsimp only; omega) | (dsimp only)), Fw.rf, fun i a b => by dsimp only at b; omega⟩ (by unfold FU; dsimp only; omega) ?_) ?_
  · rintro ⟨v1, μ1⟩ ⟨k1, f1, k3⟩
    dsimp only at k1 f1 k3 ⊢
    have H1 : Ft μ1 c k n g s p := h.fw f1 (fun x hx => by unfold sp2 at hx; omega)
    have e2 := H1.1.2.2.2; have hL := H1.2.2.2.1
    unfold sX1_leastStart_2
    dsimp only
    simp (disch := omega) only [w32_eq, w64_eq, chk_T, chk_t, lt, lm, ob, Int.add_zero, Int.zero_add, true_and, and_true, if_true, if_false, K100, K101, K102, K103, K104, K200, K201, K230, K231, K232, K233, K234, K235, K236, K237, K250, K251, K252, K253, K254, K300, K301, K302, K303, K304, N101, N102, N103, N104, N201, N232, N233, N234, N235, N236, N237, N251, N252, N253, N254, N301, N302, N303, N304, e2, hL.1.k, hL.2.2.1.2.1, c_canBe H1, bi_if]
    refine Ev_ite (fun z => Ev_out (.inl ⟨μ1, rfl, f1, .inr (fun st a b => k3 st a (by omega))⟩)) (fun z => ?_)
    by_cases hc : cb g s p
    · rw [sel_t hc]
      refine Ev_bind (hR μ1 f1 v1 k1.1 (by omega)) ?_
      rintro ⟨r, μ2⟩ ⟨f2, e⟩
      dsimp only at f2 e ⊢
      have H2 : Ft μ2 c k n g s p := h.fw f2 (fun x hx => by unfold sp2 at hx; omega)
      have e1 := H2.1.2.2.1; have hS := H2.2.2.1
      simp (disch := omega) only [w32_eq, w64_eq, chk_T, chk_t, lt, lm, ob, Int.add_zero, Int.zero_add, true_and, and_true, if_true, if_false, K100, K101, K102, K103, K104, K200, K201, K230, K231, K232, K233, K234, K235, K236, K237, K250, K251, K252, K253, K254, K300, K301, K302, K303, K304, N101, N102, N103, N104, N201, N232, N233, N234, N235, N236, N237, N251, N252, N253, N254, N301, N302, N303, N304, e1, hS.1.1, hS.2.2.1.1]
      refine Ev_ite (fun q => Ev_out (.inr ⟨v1, μ2, rfl, f2, hc, by omega, by omega, k3⟩)) (fun q => Ev_in ⟨(by first | omega | (dsimp only; omega) | (dsimp only)), f2, fun st a b => ?_⟩ (by first | omega | (dsimp only; omega) | (dsimp only)))
      dsimp only at b
      by_cases w : st = v1
      · subst w; omega
      · exact k3 st a (by omega)
    · rw [sel_f hc]; exact Ev_out (.inl ⟨μ1, rfl, f1, .inl hc⟩)
  · rintro x (⟨μ', e, f, w⟩ | ⟨r, μ', e, f, hc, h1, h2, h3⟩)
    · subst e
      refine Ev_some ⟨f, ?_⟩
      by_cases hc : cb g s p
      · rcases w with w | w
        · exact absurd hc w
        · exact .inl ⟨hc, .inr ⟨rfl, w⟩⟩
      · exact .inr ⟨hc, rfl⟩
    · subst e; exact Ev_some ⟨f, .inl ⟨hc, .inl ⟨h1.1, h1.2, h2, h3⟩⟩⟩
end
