/-! ===== lakes: rays in order ===== -/
theorem erl_ray {k j t u : Int} (hk : 0 ≤ k ∧ k < 336) (hj : 0 ≤ j ∧ j < 336) (ht : 0 < t) (hu : 0 < u) : erl (t * dE k) (t * dS k) (u * dE j) (u * dS j) = true ↔ k < j := by
  rw [erl_sc ht hu]
  rcases Int.lt_trichotomy k j with z | z | z
  · exact ⟨fun _ => z, fun _ => (d_sort hk.1 z hj.2).1⟩
  · subst z; rw [erl_rf]; exact ⟨fun h => Bool.noConfusion h, fun h => by omega⟩
  · rw [(d_sort hj.1 z hk.2).2]; exact ⟨fun h => Bool.noConfusion h, fun h => by omega⟩
theorem erl_rK {g : Int → Int} {p a q : Int} (hL : LdOk g) (hp : Pl g p) (ha : Pl g a) (hq : Pl g q) (na : a ≠ p) (nq : q ≠ p) : erl (zE g p a) (zS g p a) (zE g p q) (zS g p q) = true ↔ rK g p a < rK g p q := by
  obtain ⟨k1, t1, i1, e1⟩ := rK_ok hL hp ha (Ne.symm na)
  obtain ⟨k2, t2, i2, e2⟩ := rK_ok hL hp hq (Ne.symm nq)
  have a1 := rP_E i1; have a2 := rP_S i1; have b1 := rP_E i2; have b2 := rP_S i2
  rw [e1] at a1 a2; rw [e2] at b1 b2
  rw [a1, a2, b1, b2]
  exact erl_ray k1 k2 t1 t2
theorem ry_lt {g : Int → Int} {p k j : Int} (hk : 0 ≤ k) (hj : 0 ≤ j) (ck : cT g p k) (cj : cT g p j) : ct (cT g p) k.toNat < ct (cT g p) j.toNat ↔ k < j := by
  constructor
  · intro h; apply Classical.byContradiction; intro z
    have := ct_mono (cT g p) j.toNat k.toNat (by omega); omega
  · intro h; exact ct_lt hk h ck
/-- the top of a ray lies on it -/
theorem rK_T {g : Int → Int} {p j : Int} (hL : LdOk g) (hp : Pl g p) (h0 : 0 ≤ j) (h1 : j < nR g p) : rK g p (T g p j) = rI g p j := by
  obtain ⟨s, s0, hr, e, _⟩ := T_ok hL hp h0 h1
  rw [e]; exact (rP_u (rI_ok h0 h1).1 s0 hr.1 hL hp).1
theorem cw_iff {a b q m : Int} (ha : 0 ≤ a ∧ a < m) (hb : 0 ≤ b ∧ b < m) (hq : 0 ≤ q ∧ q < m) (hn : a ≠ b) : (0 < (if q < a then q - a + m else q - a) ∧ (if q < a then q - a + m else q - a) < (if b < a then b - a + m else b - a)) ↔ (if a < b then a < q ∧ q < b else a < q ∨ q < b) := by
  by_cases h1 : q < a <;> by_cases h2 : b < a <;> by_cases h3 : a < b <;> simp only [h1, h2, h3, if_true, if_false] <;> omega
section
variable {μ : Mm} {c k n p st i j y : Int} {g s : Int → Int}
theorem c_clockwise {a b : Int} (h : Ft μ c k n g s p) (ha : 0 ≤ a ∧ a < nR g p) (hb : 0 ≤ b ∧ b < nR g p) : fX1_clockwise 250 a b μ = some (if b < a then b - a + nR g p else b - a) := by
  obtain ⟨⟨hF, e0, e1, e2⟩, hA, hS, hL, ⟨hD, hO, hp⟩, _⟩ := h
  have nb := nR_b hD hp
  unfold fX1_clockwise
  simp (disch := omega) only [w32_eq, w64_eq, chk_T, chk_t, lt, lm, ob, Int.add_zero, Int.zero_add, true_and, and_true, if_true, if_false, K100, K101, K102, K103, K104, K200, K201, K230, K231, K232, K233, K234, K235, K236, K237, K250, K251, K252, K253, K254, K300, K301, K302, K303, K304, N101, N102, N103, N104, N201, N232, N233, N234, N235, N236, N237, N251, N252, N253, N254, N301, N302, N303, N304, e2, hL.1.k, hL.2.2.1.1]
  split <;> rfl
/-- lakes between two rays, by their numbers -/
theorem lk_ray {a b : Int} (hL : LdOk g) (hp : Pl g p) (ha : 0 ≤ a ∧ a < nR g p) (hb : 0 ≤ b ∧ b < nR g p) : lk g p (T g p a) (T g p b) ↔ ∃ j, 0 ≤ j ∧ j < lkN g p ∧ (if a < b then a < lkI g p j ∧ lkI g p j < b else a < lkI g p j ∨ lkI g p j < b) := by
  have A := T_P hL hp ha.1 ha.2; have B := T_P hL hp hb.1 hb.2
  have ra := rI_ok ha.1 ha.2; have rb := rI_ok hb.1 hb.2
  have tl := hL.t
  have key : ∀ q, vS g p q → (btw g p (T g p a) q (T g p b) ↔ (if a < b then a < ry g p q ∧ ry g p q < b else a < ry g p q ∨ ry g p q < b)) ∧ (0 ≤ ry g p q ∧ ry g p q < nR g p) := by
    intro q hv
    obtain ⟨kq, tq, iq, eq⟩ := rK_ok hL hp hv.1 (Ne.symm hv.2.1)
    have cq : cT g p (rK g p q) := iR_mono hL hp kq hv.2.2.1 (by omega) (by omega)
    have r := rI_of kq.1 kq.2 cq
    refine ⟨?_, r.2⟩
    unfold btw
    have h1 := erl_rK hL hp A.1 B.1 A.2.2 B.2.2
    have h2 := erl_rK hL hp A.1 hv.1 A.2.2 hv.2.1
    have h3 := erl_rK hL hp hv.1 B.1 hv.2.1 B.2.2
    rw [rK_T hL hp ha.1 ha.2] at h1 h2; rw [rK_T hL hp hb.1 hb.2] at h1 h3
    have l1 := ry_lt (g := g) (p := p) ra.1.1 rb.1.1 ra.2.1 rb.2.1
    have l2 := ry_lt (g := g) (p := p) ra.1.1 kq.1 ra.2.1 cq
    have l3 := ry_lt (g := g) (p := p) kq.1 rb.1.1 cq rb.2.1
    rw [ra.2.2, rb.2.2] at l1; rw [ra.2.2] at l2; rw [rb.2.2] at l3
    have er : ct (cT g p) (rK g p q).toNat = ry g p q := rfl
    rw [er] at l2 l3
    by_cases z : a < b
    · rw [if_pos (h1.mpr (l1.mp z)), if_pos z, h2, h3, l2, l3]
    · rw [if_neg (fun w => z (l1.mpr (h1.mp w))), if_neg z, h2, h3, l2, l3]
  constructor
  · rintro ⟨m, m0, m1, hc, hb⟩
    have e := fa_vi (c := lc g p) (v := fun k => ry g p (g (151 + 4 * k))) (n := (g 5).toNat) m0 (by omega) hc
    have lt := ct_lt (c := lc g p) (i := m) (j := g 5) m0 m1 hc
    refine ⟨ct (lc g p) m.toNat, (ct_b _ _).1, lt, ?_⟩
    have e2 : lkI g p (ct (lc g p) m.toNat) = ry g p (g (151 + 4 * m)) := e
    rw [e2]; exact (key _ hc.2).1.mp hb
  · rintro ⟨j, j0, j1, h⟩
    obtain ⟨m, m0, m1, hc, _, e⟩ := fa_of (lc g p) (fun k => ry g p (g (151 + 4 * k))) (g 5).toNat j j0 j1
    have e2 : lkI g p j = ry g p (g (151 + 4 * m)) := e
    rw [e2] at h
    exact ⟨m, m0, by omega, hc, (key _ hc.2).1.mpr h⟩
theorem lkI_b (hL : LdOk g) (hp : Pl g p) (j0 : 0 ≤ j) (j1 : j < lkN g p) : 0 ≤ lkI g p j ∧ lkI g p j < nR g p := by
  obtain ⟨m, m0, m1, hc, _, e⟩ := fa_of (lc g p) (fun k => ry g p (g (151 + 4 * k))) (g 5).toNat j j0 j1
  have e2 : lkI g p j = ry g p (g (151 + 4 * m)) := e
  obtain ⟨kq, tq, iq, eq⟩ := rK_ok hL hp hc.2.1 (Ne.symm hc.2.2.1)
  have cq : cT g p (rK g p (g (151 + 4 * m))) := iR_mono hL hp kq hc.2.2.2.1 (by omega) (by omega)
  rw [e2]; exact (rI_of kq.1 kq.2 cq).2
theorem c_lake79 {a b : Int} (h : Ft μ c k n g s p) (ha : 0 ≤ a ∧ a < nR g p) (hb : 0 ≤ b ∧ b < nR g p) (hn : a ≠ b) : jX1_lacksLake_79 250 a b μ = some (bi (¬lk g p (T g p a) (T g p b))) := by
  have cw1 := fun q hq => c_clockwise (a := a) (b := q) h ha hq
  obtain ⟨⟨hF, e0, e1, e2⟩, hA, hS, hL, ⟨hD, hO, hp⟩, _⟩ := h
  have nb := nR_b hD hp; have tl := hD.t
  have lb : 0 ≤ lkN g p ∧ lkN g p ≤ 12 := by
    have := ct_b (lc g p) (g 5).toNat; unfold lkN; omega
  rw [bi_c (not_congr (lk_ray hD hp ha hb))]
  apply Ev.eq
  unfold jX1_lacksLake_79
  refine Ev_bind (Ev_lop (P := fun x => (x = .inl () ∧ ¬∃ j, 0 ≤ j ∧ j < lkN g p ∧ (if a < b then a < lkI g p j ∧ lkI g p j < b else a < lkI g p j ∨ lkI g p j < b)) ∨ (x = .inr () ∧ ∃ j, 0 ≤ j ∧ j < lkN g p ∧ (if a < b then a < lkI g p j ∧ lkI g p j < b else a < lkI g p j ∨ lkI g p j < b))) (fun t => (0 ≤ t ∧ t ≤ lkN g p) ∧ ∀ j, 0 ≤ j → j < t → ¬(if a < b then a < lkI g p j ∧ lkI g p j < b else a < lkI g p j ∨ lkI g p j < b)) (fun t => (lkN g p - t).toNat) ⟨by omega, fun j x y => by omega⟩ (by unfold FU; omega) ?_) ?_
  · intro v4 ⟨h1, h2⟩
    unfold sX1_lacksLake_83
    have e3 := hL.2.2.1.2.2
    simp (disch := omega) only [w32_eq, w64_eq, chk_T, chk_t, lt, lm, ob, Int.add_zero, Int.zero_add, true_and, and_true, if_true, if_false, K100, K101, K102, K103, K104, K200, K201, K230, K231, K232, K233, K234, K235, K236, K237, K250, K251, K252, K253, K254, K300, K301, K302, K303, K304, N101, N102, N103, N104, N201, N232, N233, N234, N235, N236, N237, N251, N252, N253, N254, N301, N302, N303, N304, e2, hL.1.k, e3]
    refine Ev_ite (fun z => Ev_out (.inl ⟨rfl, ?_⟩)) (fun z => ?_)
    · rintro ⟨j, j0, j1, hj⟩; exact h2 j j0 (by omega) hj
    · have hv : 0 ≤ v4 ∧ v4 < lkN g p := by omega
      have bq := lkI_b hD hp hv.1 hv.2
      rw [if_neg (by omega)]
      have iff := cw_iff ha hb bq hn
      have go : ¬(if a < b then a < lkI g p v4 ∧ lkI g p v4 < b else a < lkI g p v4 ∨ lkI g p v4 < b) → Ev (some (Sum.inl (v4 + 1)) : Option (Int ⊕ (Unit ⊕ Unit))) (Nx (fun t => (0 ≤ t ∧ t ≤ lkN g p) ∧ ∀ j, 0 ≤ j → j < t → ¬(if a < b then a < lkI g p j ∧ lkI g p j < b else a < lkI g p j ∨ lkI g p j < b)) (fun t => (lkN g p - t).toNat) (fun x => (x = .inl () ∧ ¬∃ j, 0 ≤ j ∧ j < lkN g p ∧ (if a < b then a < lkI g p j ∧ lkI g p j < b else a < lkI g p j ∨ lkI g p j < b)) ∨ (x = .inr () ∧ ∃ j, 0 ≤ j ∧ j < lkN g p ∧ (if a < b then a < lkI g p j ∧ lkI g p j < b else a < lkI g p j ∨ lkI g p j < b))) (lkN g p - v4).toNat) := by
        intro hno
        refine Ev_in ⟨by omega, fun j j0 j1 => ?_⟩ (by omega)
        by_cases e : j = v4
        · subst e; exact hno
        · exact h2 j j0 (by omega)
      simp (disch := omega) only [w32_eq, w64_eq, chk_T, chk_t, lt, lm, ob, Int.add_zero, Int.zero_add, true_and, and_true, if_true, if_false, K100, K101, K102, K103, K104, K200, K201, K230, K231, K232, K233, K234, K235, K236, K237, K250, K251, K252, K253, K254, K300, K301, K302, K303, K304, N101, N102, N103, N104, N201, N232, N233, N234, N235, N236, N237, N251, N252, N253, N254, N301, N302, N303, N304, LiK.k hL.1, LiK.k1 hL.1, LiK.n1 hL.1, LiK.k2 hL.1, LiK.n2 hL.1, LiK.k3 hL.1, LiK.n3 hL.1, LiK.k4 hL.1, LiK.n4 hL.1, LiK.k5 hL.1, LiK.n5 hL.1, LiK.k6 hL.1, LiK.n6 hL.1, LiF.f4 hL.2.1, LiF.f5 hL.2.1, LiF.f6 hL.2.1, LiF.f7 hL.2.1, LiF.f8 hL.2.1, LiF.f9 hL.2.1, hL.2.2.2.2.2.1 v4 hv.1 hv.2, cw1 _ bq, cw1 _ hb]
      refine Ev_ite (fun q1 => go (fun w => ?_)) (fun q1 => Ev_ite (fun q2 => go (fun w => ?_)) (fun q2 => Ev_out (.inr ⟨rfl, v4, hv.1, hv.2, iff.mp ⟨by omega, by omega⟩⟩)))
      · have := (iff.mpr w).1; omega
      · have := (iff.mpr w).2; omega
  · rintro r (⟨e, w⟩ | ⟨e, w⟩)
    · subst e; exact Ev_some (bi_t w).symm
    · subst e; exact Ev_some (bi_f (fun v => v w)).symm
theorem hx_ne (hc : cb g s p) (hs : 0 ≤ st ∧ st < hN g p) (hi : 0 < i ∧ i < s 0) : hx s (hN g p) st i ≠ hx s (hN g p) st (i - 1) := by
  have le := cb_le hc
  generalize hN g p = m at *
  have e : ∀ x : Int, 0 ≤ x → x < 2 * m → x % m = if x < m then x else x - m := by
    intro x x0 x1
    by_cases z : x < m
    · rw [if_pos z, Int.emod_eq_of_lt x0 z]
    · rw [if_neg z]
      have : x % m = (x - m) % m := (Int.sub_emod_right x m).symm
      rw [this, Int.emod_eq_of_lt (by omega) (by omega)]
  unfold hx
  by_cases q : s 4 = 1
  · rw [if_pos q, if_pos q, e _ (by omega) (by omega), e _ (by omega) (by omega)]
    split <;> split <;> omega
  · rw [if_neg q, if_neg q, e _ (by omega) (by omega), e _ (by omega) (by omega)]
    split <;> split <;> omega
theorem hI_inj (hL : LdOk g) (hp : Pl g p) {a b : Int} (ha : 0 ≤ a ∧ a < hN g p) (hb : 0 ≤ b ∧ b < hN g p) (h : a ≠ b) : hI g p a ≠ hI g p b := by
  rcases Int.lt_trichotomy a b with z | z | z
  · have := hI_lt hL hp ha.1 z hb.2; omega
  · exact absurd z h
  · have := hI_lt hL hp hb.1 z ha.2; omega
theorem c_lacksLake {m : Int} (h : Ft μ c k n g s p) (hc : cb g s p) (hs : 0 ≤ st ∧ st < hN g p) (hm : Spt μ g s p st m) (hi : 0 ≤ i ∧ i < s 0) (im : i < m) : fX1_lacksLake 250 i μ = some (bi (¬lok g s p st i)) := by
  have r1 := T_sel (st := st) (i := i) h hc; have r2 := T_sel (st := st) (i := i - 1) h hc
  have s1 := hm i hi.1 im
  have mk1 := c_isMarked h hi 1
  have l79 := fun a b ha hb hn => c_lake79 (a := a) (b := b) h ha hb hn
  have h0 := h
  obtain ⟨⟨hF, e0, e1, e2⟩, hA, hS, hL, ⟨hD, hO, hp⟩, _⟩ := h
  have o := hO.1
  unfold fX1_lacksLake lok
  by_cases z : i ≤ 0
  · rw [if_pos z, bi_f (fun w => w (fun _ v => absurd (by omega) v))]
  · have s2 := hm (i - 1) (by omega) (by omega)
    have b1 := hx_b (s := s) (st := st) (i := i) hc.1; have b2 := hx_b (s := s) (st := st) (i := i - 1) hc.1
    have ne := hI_inj hD hp b1 b2 (hx_ne hc hs (by omega))
    rw [if_neg z, if_neg (by omega)]
    simp (disch := omega) only [w32_eq, w64_eq, chk_T, chk_t, lt, lm, ob, Int.add_zero, Int.zero_add, true_and, and_true, if_true, if_false, K100, K101, K102, K103, K104, K200, K201, K230, K231, K232, K233, K234, K235, K236, K237, K250, K251, K252, K253, K254, K300, K301, K302, K303, K304, N101, N102, N103, N104, N201, N232, N233, N234, N235, N236, N237, N251, N252, N253, N254, N301, N302, N303, N304, e1, hS.1.1, mk1, bi_if, hF.2.1, s1, s2, hS.2.2.1.2.2.2.2.1]
    by_cases q : iand (s (19 + i)) 1 = 0
    · rw [sel_f (fun w => w q), bi_f (fun w => w (fun v => absurd q v))]
    · rw [sel_t q]
      unfold jX1_lacksLake_51
      simp (disch := omega) only [w32_eq, w64_eq, chk_T, chk_t, lt, lm, ob, Int.add_zero, Int.zero_add, true_and, and_true, if_true, if_false, K100, K101, K102, K103, K104, K200, K201, K230, K231, K232, K233, K234, K235, K236, K237, K250, K251, K252, K253, K254, K300, K301, K302, K303, K304, N101, N102, N103, N104, N201, N232, N233, N234, N235, N236, N237, N251, N252, N253, N254, N301, N302, N303, N304, e1, hS.1.1, hF.2.1, s1, s2, hS.2.2.1.2.2.2.2.1]
      rcases hO.2.2.2.2.1 with q4 | q4
      · rw [if_pos q4]
        simp only [if_pos q4]
        rw [l79 _ _ r2.1 r1.1 (Ne.symm ne), r1.2, r2.2]
        congr 1; apply bi_c; apply not_congr
        exact ⟨fun w _ _ => ⟨fun v => by omega, fun _ => w⟩, fun w => (w q (by omega)).2 (by omega)⟩
      · rw [if_neg (by omega)]
        simp only [if_neg (show ¬s 4 = 0 by omega)]
        rw [l79 _ _ r1.1 r2.1 ne, r1.2, r2.2]
        congr 1; apply bi_c; apply not_congr
        exact ⟨fun w _ _ => ⟨fun _ => w, fun v => absurd q4 v⟩, fun w => (w q (by omega)).1 q4⟩
theorem c_holds {m : Int} (h : Ft μ c k n g s p) (hc : cb g s p) (hs : 0 ≤ st ∧ st < hN g p) (hm : Spt μ g s p st m) (hi : 0 ≤ i ∧ i < s 0) (im : i < m) : fX1_holdsInAnyYear 250 i μ = some (bi (hny g s p st i)) := by
  have ag := fun j (hj : 0 ≤ j ∧ j < s 0) (jm : j < m) => c_agree (st := st) h hc hm hi hj im jm
  have ll := c_lacksLake h hc hs hm hi im
  have o := h.2.2.2.2.1.2.1.1
  apply Ev.eq
  unfold fX1_holdsInAnyYear
  refine Ev_bind (Ev_lop (P := fun x => (x = .inl () ∧ ∀ j, 0 ≤ j → j < i → ar g s p st j i) ∨ (x = .inr () ∧ ¬∀ j, 0 ≤ j → j < i → ar g s p st j i)) (fun t => (0 ≤ t ∧ t ≤ i) ∧ ∀ j, 0 ≤ j → j < t → ar g s p st j i) (fun t => (i - t).toNat) ⟨by omega, fun j x y => by omega⟩ (by unfold FU; omega) ?_) ?_
  · intro v2 ⟨h1, h2⟩
    unfold sX1_holdsInAnyYear_2
    refine Ev_ite (fun z => Ev_out (.inl ⟨rfl, fun j j0 j1 => h2 j j0 (by omega)⟩)) (fun z => ?_)
    simp (disch := omega) only [w32_eq, w64_eq, chk_T, chk_t, lt, lm, ob, Int.add_zero, Int.zero_add, true_and, and_true, if_true, if_false, K100, K101, K102, K103, K104, K200, K201, K230, K231, K232, K233, K234, K235, K236, K237, K250, K251, K252, K253, K254, K300, K301, K302, K303, K304, N101, N102, N103, N104, N201, N232, N233, N234, N235, N236, N237, N251, N252, N253, N254, N301, N302, N303, N304, ag v2 (by omega) (by omega), bi_if]
    by_cases q : ar g s p st v2 i
    · rw [sel_t q]
      refine Ev_in ⟨by omega, fun j j0 j1 => ?_⟩ (by omega)
      by_cases e : j = v2
      · subst e; exact q
      · exact h2 j j0 (by omega)
    · rw [sel_f q]; exact Ev_out (.inr ⟨rfl, fun w => q (w v2 h1.1 (by omega))⟩)
  · rintro r (⟨e, w⟩ | ⟨e, w⟩)
    · subst e
      dsimp only
      simp (disch := omega) only [w32_eq, w64_eq, chk_T, chk_t, lt, lm, ob, Int.add_zero, Int.zero_add, true_and, and_true, if_true, if_false, K100, K101, K102, K103, K104, K200, K201, K230, K231, K232, K233, K234, K235, K236, K237, K250, K251, K252, K253, K254, K300, K301, K302, K303, K304, N101, N102, N103, N104, N201, N232, N233, N234, N235, N236, N237, N251, N252, N253, N254, N301, N302, N303, N304, ll, bi_if]
      by_cases q : lok g s p st i
      · rw [sel_f (fun v => v q)]; exact Ev_some (bi_t (c := hny g s p st i) ⟨w, q⟩).symm
      · rw [sel_t q]; exact Ev_some (bi_f (c := hny g s p st i) (fun v => q v.2)).symm
    · subst e; exact Ev_some (bi_f (c := hny g s p st i) (fun v => w v.1)).symm
end
