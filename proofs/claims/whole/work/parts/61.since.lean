/-! ===== since: the class ===== -/
section
variable {μ μ' : Mm} {b : Int → Int} {vb n kk yr m lo hi p k i j y : Int} {s g : Int → Int}
theorem sp_loc (hO : SkOk s) (hP : Spn μ g s (-1) m (g 5)) (hy : s 5 ≤ y ∧ y ≤ s 6) : ∃ j : Int, 0 ≤ j ∧ j < m ∧ μ 251 j ≤ y ∧ (∀ i : Int, j < i → i < m → y < μ 251 i) ∧ ∀ p st, fI g s p st y = fI g s p st (μ 251 j) := by
  obtain ⟨⟨p3, p7, p8⟩, pm, pS, p0, pb, pc⟩ := hP
  have e0 : y0 s (-1) = s 5 := by unfold y0; rw [if_pos rfl]
  have e9 : y9 s (-1) = s 6 := by unfold y9; rw [if_pos rfl]
  rw [e0] at p0 pb pc; rw [e9] at pb pc
  have key : ∀ q : Nat, 1 ≤ q → (q : Int) ≤ m → ∃ j : Int, 0 ≤ j ∧ j < q ∧ μ 251 j ≤ y ∧ ∀ i : Int, 0 ≤ i → i < q → μ 251 i ≤ y → i ≤ j := by
    intro q
    induction q with
    | zero => intro h _; omega
    | succ q ih =>
      intro h1 h2
      by_cases w : μ 251 (q : Int) ≤ y
      · exact ⟨q, by omega, by omega, w, fun i a b _ => by omega⟩
      · by_cases w2 : q = 0
        · subst w2; exfalso; rw [show ((0 : Nat) : Int) = 0 by rfl, p0] at w; omega
        · obtain ⟨j, j0, j1, j2, j3⟩ := ih (by omega) (by omega)
          refine ⟨j, j0, by omega, j2, fun i a b c => ?_⟩
          by_cases e : i = q
          · subst e; exact absurd c w
          · exact j3 i a (by omega) c
  obtain ⟨j, j0, j1, j2, j3⟩ := key m.toNat (by omega) (by omega)
  have bj := pb j j0 (by omega)
  refine ⟨j, j0, by omega, j2, fun i a c => ?_, fun p st => ?_⟩
  · apply Classical.byContradiction; intro w
    have := j3 i (by omega) (by omega) (by omega); omega
  · by_cases hc : cb g s p
    · by_cases hb : byY s
      · have ny : NY g (μ 251 j) (y + 1) := by
          intro k k0 k1 kt
          obtain ⟨w1, w2⟩ := pc hb rfl k k0 k1 kt
          refine ⟨fun w => ?_, fun w => ?_⟩
          · obtain ⟨i, i0, i1, e⟩ := w1 (by clear w1 w2; omega) (by clear w1 w2; omega)
            clear w1 w2
            have l := j3 i i0 (by omega) (by omega)
            by_cases q : i = j
            · subst q; omega
            · have := pS i j i0 (by omega) (by omega); omega
          · obtain ⟨i, i0, i1, e⟩ := w2 (by clear w1 w2; omega) (by clear w1 w2; omega)
            clear w1 w2
            have l := j3 i i0 (by omega) (by omega)
            by_cases q : i = j
            · subst q; omega
            · have := pS i j i0 (by omega) (by omega); omega
        exact NY_fI ny j2 (by omega)
      · rw [fI_nb hO hc hb, fI_nb hO hc hb]
    · unfold fI; rw [sel_f hc, sel_f hc]
theorem yk_e {y' : Int} (h : ∀ p st, fI g s p st y = fI g s p st y') : yk g s y ↔ yk g s y' := by
  unfold yk
  constructor
  · rintro ⟨p, a, c, st, s0, s1, e⟩; exact ⟨p, a, c, st, s0, s1, (h p st).symm.trans e⟩
  · rintro ⟨p, a, c, st, s0, s1, e⟩; exact ⟨p, a, c, st, s0, s1, (h p st).trans e⟩
theorem rch_j {L : Int} (h : Fz μ b vb n kk s yr m j j) (hf : Ft μ (1010 + 10 * n) kk L (lg b n) s p) (hj : 0 ≤ j ∧ j < m) : Rch μ (lg b n) p (fun st => fI (lg b n) s p st (μ 251 j)) := by
  intro μ1 f1 st s0 s1
  have hD := hf.2.2.2.2.1.1
  have tl := hD.t
  have r250 : μ1 250 = μ 250 := f1 250 (by unfold sp2; omega)
  have r251 : μ1 251 = μ 251 := f1 251 (by unfold sp2; omega)
  have H1 := hf.fw f1 (fun x hx => by unfold sp2 at hx; omega)
  have hP := h.2.2.2.2.2.1
  have pm := hP.2.1
  refine Ev_mono (c_reach (m := m) (lo := j) (hi := j) H1 ⟨s0, s1⟩ (by rw [r250]; exact hP.1.2.2) (by rw [r250]; exact hP.1.1) (by omega) (by rw [r250]; exact h.2.2.2.2.2.2.1) (by rw [r250]; exact h.2.2.2.2.2.2.2) (by omega)) ?_
  rintro ⟨r, μ2⟩ ⟨f2, hR⟩
  obtain ⟨_, i, i0, i1, e⟩ := hR
  rw [r251, show i = j by omega] at e
  exact ⟨f1.tr f2, e⟩
theorem Fz.nar (h : Fz μ b vb n kk s yr m lo hi) (v : Int) : Fz (mst (mst μ 250 5 v) 250 6 v) b vb n kk s yr m v v ∧ Bd (mst (mst μ 250 5 v) 250 6 v) = Bd μ ∧ Fw f5R μ (mst (mst μ 250 5 v) 250 6 v) ∧ mst (mst μ 250 5 v) 250 6 v 251 = μ 251 := by
  obtain ⟨h1, h2, h3, h4, h5, h6, h7⟩ := h
  have f : Fw f5R μ (mst (mst μ 250 5 v) 250 6 v) := (Fw.s0 (by unfold f5R; omega)).st (by unfold f5R; omega)
  have F : FtF (mst (mst μ 250 5 v) 250 6 v) := by
    obtain ⟨q1, q2, q3, q4⟩ := h2.1.2.2.1
    unfold FtF; simp (disch := omega) only [mst_n, mst_s, mst_j, ]; exact ⟨q1, q2, q3, q4⟩
  have e251 : mst (mst μ 250 5 v) 250 6 v 251 = μ 251 := by simp (disch := omega) only [mst_n, mst_s, mst_j, ]
  refine ⟨⟨h1.ft f, h2.ft f F, h3, by simp (disch := omega) only [mst_n, mst_s, mst_j, ]; exact h4, ⟨h5.1.fw f (fun x a b => by unfold f5R; have := h5.2.2; omega), h5.2⟩, h6.e (fun i _ w5 w6 => by rw [mst_j w6, mst_j w5]) e251, by simp (disch := omega) only [mst_n, mst_s, mst_j, ], by simp (disch := omega) only [mst_n, mst_s, mst_j, ]⟩, Bd_ft f, f, e251⟩
theorem q_since (hW : Nw μ b) (hC : Ca μ b vb) (hvb : 0 ≤ vb) (n k u : Int) : Ec (fX10_since 100 n k u μ) (Bd μ) (QP μ b vb (ZSince b n k u)) := by
  unfold fX10_since
  simp (disch := omega) only [w32_eq, w64_eq, chk_T, chk_t, lt, lm, ob, Int.add_zero, Int.zero_add, true_and, and_true, if_true, if_false, K100, K101, K102, K103, K104, K200, K201, K230, K231, K232, K233, K234, K235, K236, K237, K250, K251, K252, K253, K254, K300, K301, K302, K303, K304, N101, N102, N103, N104, N201, N232, N233, N234, N235, N236, N237, N251, N252, N253, N254, N301, N302, N303, N304, ]
  refine q_scene hW hC hvb (fun z => ⟨-1, .inr ⟨fun w => z w.1, rfl⟩, fun μ1 cc nn => by dsimp only; rw [if_pos rfl]⟩) (fun hL μ1 N1 fq C1 hD hs cc nn => ⟨_, rfl, ?_⟩)
  dsimp only
  have hn1 := hL.1; have nb := np_b hD; have tl := hD.t
  rw [if_neg (by omega)]
  refine Ec_bindE (c_takesUp N1 C1 n k (-1)) ?_
  rintro ⟨t, μ2⟩ (⟨e, w, f2, m, hz⟩ | ⟨e, w, e2⟩)
  · dsimp only at e f2 hz ⊢
    subst e
    rw [if_neg (by decide)]
    have f2' := aR_f5 f2
    have fq2 : Fw Rq μ μ2 := fq.tr (f2'.mo (fun x hx => Rq_ft hx))
    have bb : Bd μ2 = Bd μ1 := Bd_ft f2'
    have s2 : μ2 102 n ≠ 0 := by rw [f2 102 (by unfold aR; omega)]; exact hs
    have hO := hz.2.2.2.2.1.2.1
    have hP := hz.2.2.2.2.2.1
    have o6 := hO.2.2.2.2.2.1
    have e3 := hP.1.1; have pm := hP.2.1
    have e0 : y0 (ls b k) (-1) = ls b k 5 := by unfold y0; rw [if_pos rfl]
    have e9 : y9 (ls b k) (-1) = ls b k 6 := by unfold y9; rw [if_pos rfl]
    have pb := hP.2.2.2.2.1
    rw [e0, e9] at pb
    have p0 := hP.2.2.2.1
    rw [e0] at p0
    have pS := hP.2.2.1
    have loc := fun y (hy : ls b k 5 ≤ y ∧ y ≤ ls b k 6) => sp_loc (y := y) hO hP hy
    generalize hYe : μ2 251 = Y at *
    unfold Srt at pS
    rw [hYe] at pS
    have m25 : m ≤ 25 := by omega
    simp (disch := omega) only [w32_eq, w64_eq, chk_T, chk_t, lt, lm, ob, Int.add_zero, Int.zero_add, true_and, and_true, if_true, if_false, K100, K101, K102, K103, K104, K200, K201, K230, K231, K232, K233, K234, K235, K236, K237, K250, K251, K252, K253, K254, K300, K301, K302, K303, K304, N101, N102, N103, N104, N201, N232, N233, N234, N235, N236, N237, N251, N252, N253, N254, N301, N302, N303, N304, X10F.f0 hz.1.1, X10F.f1 hz.1.1, X10F.f2 hz.1.1, X10F.f3 hz.1.1, X10F.f4 hz.1.1, X10F.f5 hz.1.1, X10F.f6 hz.1.1, X10F.f7 hz.1.1, X10F.f8 hz.1.1, X10F.f9 hz.1.1, X10F.f10 hz.1.1, e3]
    rw [← bb]
    have done : ∀ (j : Int) (μ5 : Mm) (b5 : Int), b5 = Bd μ5 → Fw Rq μ μ5 → (∃ lo hi, Fz μ5 b vb n (1040 + 10 * k) (ls b k) (-1) m lo hi) → True := fun _ _ _ _ _ _ => trivial
    refine Ec_bind (Ec_lop (P := fun x b' => (∃ μ5, x = .inl μ5 ∧ b' = Bd μ5 ∧ Fw Rq μ μ5 ∧ Ca μ5 b vb ∧ ∀ j, 0 ≤ j → j < m → ¬yk (lg b n) (ls b k) (Y j)) ∨ ∃ j μ5, x = .inr (j, μ5) ∧ b' = Bd μ5 ∧ Fw Rq μ μ5 ∧ (∃ lo hi, Fz μ5 b vb n (1040 + 10 * k) (ls b k) (-1) m lo hi) ∧ μ5 251 = Y ∧ (0 ≤ j ∧ j < m) ∧ yk (lg b n) (ls b k) (Y j) ∧ (u = 0 → ∀ i, 0 ≤ i → i < j → ¬yk (lg b n) (ls b k) (Y i)) ∧ (u ≠ 0 → ∀ i, j < i → i < m → ¬yk (lg b n) (ls b k) (Y i))) (fun t b' => b' = Bd t.2 ∧ Fw Rq μ t.2 ∧ (∃ lo hi, Fz t.2 b vb n (1040 + 10 * k) (ls b k) (-1) m lo hi) ∧ t.2 251 = Y ∧ t.2 102 n ≠ 0 ∧ (0 ≤ t.1 ∧ t.1 ≤ m) ∧ (u = 0 → ∀ i, 0 ≤ i → i < t.1 → ¬yk (lg b n) (ls b k) (Y i)) ∧ (u ≠ 0 → ∀ i, m - 1 - t.1 < i → i < m → ¬yk (lg b n) (ls b k) (Y i))) (fun t => (m - t.1).toNat) ⟨rfl, fq2, ⟨_, _, hz⟩, hYe, s2, (by first | omega | (dsimp only; omega) | (dsimp only)), fun _ i a c => by dsimp only at c; omega, fun _ i a c => by dsimp only at a; omega⟩ (by unfold FU; dsimp only; omega) ?_) ?_
    · rintro ⟨v6, μ4⟩ b4 ⟨hb4, f4, ⟨lo, hi, z4⟩, y4, s4, h4, n0', n1'⟩
      dsimp only at hb4 f4 z4 y4 s4 h4 n0' n1' ⊢
      unfold sX10_since_36
      dsimp only
      rw [hb4]
      refine Ec_ite (fun q => Ec_outA (.inl ⟨μ4, rfl, rfl, f4, z4.2.1, fun j j0 j1 => ?_⟩)) (fun q => ?_)
      · by_cases hu : u = 0
        · exact n0' hu j j0 (by omega)
        · exact n1' hu j (by omega) j1
      · have go : ∀ j : Int, (0 ≤ j ∧ j < m) → (u = 0 → j = v6) → (u ≠ 0 → j = m - 1 - v6) → Ec (jX10_since_59 100 u (10000 + 2000 * n) m v6 j μ4) (Bd μ4) (NxA (fun t b' => b' = Bd t.2 ∧ Fw Rq μ t.2 ∧ (∃ lo hi, Fz t.2 b vb n (1040 + 10 * k) (ls b k) (-1) m lo hi) ∧ t.2 251 = Y ∧ t.2 102 n ≠ 0 ∧ (0 ≤ t.1 ∧ t.1 ≤ m) ∧ (u = 0 → ∀ i, 0 ≤ i → i < t.1 → ¬yk (lg b n) (ls b k) (Y i)) ∧ (u ≠ 0 → ∀ i, m - 1 - t.1 < i → i < m → ¬yk (lg b n) (ls b k) (Y i))) (fun t => (m - t.1).toNat) (fun x b' => (∃ μ5, x = .inl μ5 ∧ b' = Bd μ5 ∧ Fw Rq μ μ5 ∧ Ca μ5 b vb ∧ ∀ j, 0 ≤ j → j < m → ¬yk (lg b n) (ls b k) (Y j)) ∨ ∃ j μ5, x = .inr (j, μ5) ∧ b' = Bd μ5 ∧ Fw Rq μ μ5 ∧ (∃ lo hi, Fz μ5 b vb n (1040 + 10 * k) (ls b k) (-1) m lo hi) ∧ μ5 251 = Y ∧ (0 ≤ j ∧ j < m) ∧ yk (lg b n) (ls b k) (Y j) ∧ (u = 0 → ∀ i, 0 ≤ i → i < j → ¬yk (lg b n) (ls b k) (Y i)) ∧ (u ≠ 0 → ∀ i, j < i → i < m → ¬yk (lg b n) (ls b k) (Y i))) (m - v6).toNat) := by
          intro j hj j1 j2
          obtain ⟨A, B, C, D⟩ := z4.nar j
          unfold jX10_since_59 fX1_narrow
          simp (disch := omega) only [w32_eq, w64_eq, chk_T, chk_t, lt, lm, ob, Int.add_zero, Int.zero_add, true_and, and_true, if_true, if_false, K100, K101, K102, K103, K104, K200, K201, K230, K231, K232, K233, K234, K235, K236, K237, K250, K251, K252, K253, K254, K300, K301, K302, K303, K304, N101, N102, N103, N104, N201, N232, N233, N234, N235, N236, N237, N251, N252, N253, N254, N301, N302, N303, N304, X10F.f0 z4.1.1, X10F.f1 z4.1.1, X10F.f2 z4.1.1, X10F.f3 z4.1.1, X10F.f4 z4.1.1, X10F.f5 z4.1.1, X10F.f6 z4.1.1, X10F.f7 z4.1.1, X10F.f8 z4.1.1, X10F.f9 z4.1.1, X10F.f10 z4.1.1]
          rw [← B]
          refine Ec_bind (c_count (F := fun p st => fI (lg b n) (ls b k) p st (Y j)) (but := -1) (most := 1) A (D.trans y4) (fun μ1 p L a1 a2 a3 => by have := rch_j a1 a3 hj; rw [a2] at this; exact this) (by decide) (f4.tr (C.mo (fun x hx => Rq_ft hx))) (by rw [C 102 (by unfold f5R; omega)]; exact s4)) ?_
          rintro ⟨r5, μ5⟩ b5 ⟨hb5, f5, z5, y5, s5, e5, _⟩ cc nn
          refine ⟨_, rfl, ?_⟩
          dsimp only at hb5 f5 z5 y5 s5 e5 ⊢
          have iff : 0 < r5 ↔ yk (lg b n) (ls b k) (Y j) := by
            have c0 := (ct_b (cfP (lg b n) (ls b k) (fun p st => fI (lg b n) (ls b k) p st (Y j)) (-1)) (np (lg b n)).toNat).1
            have : 0 < r5 ↔ 0 < ct (cfP (lg b n) (ls b k) (fun p st => fI (lg b n) (ls b k) p st (Y j)) (-1)) (np (lg b n)).toNat := by
              rw [e5]; split <;> omega
            rw [this, ct_pos]
            constructor
            · rintro ⟨p, a, c, d⟩; exact ⟨p, d.2⟩
            · rintro ⟨p, d⟩
              have d1 := d.1.1; have d2 := d.1.2
              exact ⟨p, d1, by omega, by omega, d⟩
          refine Ec_ite (fun q => ?_) (fun q => Ec_outA (.inr ⟨j, μ5, rfl, hb5, f5, ⟨_, _, z5⟩, y5, hj, iff.mp (by omega), fun hu i a c => n0' hu i a (by have := j1 hu; omega), fun hu i a c => n1' hu i (by have := j2 hu; omega) c⟩))
          · have nq : ¬yk (lg b n) (ls b k) (Y j) := fun w => by have := iff.mpr w; omega
            refine Ec_inA ⟨hb5, f5, ⟨_, _, z5⟩, y5, s5, (by first | omega | (dsimp only; omega) | (dsimp only)), fun hu i a c => ?_, fun hu i a c => ?_⟩ (by first | omega | (dsimp only; omega) | (dsimp only))
            · dsimp only at c
              have := j1 hu
              by_cases v : i = v6
              · rw [v, ← this]; exact nq
              · exact n0' hu i a (by omega)
            · dsimp only at a
              have := j2 hu
              by_cases v : i = m - 1 - v6
              · rw [v, ← this]; exact nq
              · exact n1' hu i (by omega) c
        refine Ec_ite (fun hu => go v6 (by omega) (fun _ => rfl) (fun w => absurd hu w)) (fun hu => ?_)
        have := go (m - 1 - v6) (by omega) (fun w => absurd w hu) (fun _ => rfl)
        rw [w32_eq (x := m - 1) (by omega) (by omega), w32_eq (x := m - 1 - v6) (by omega) (by omega)]
        exact this
    · rintro x b5 (⟨μ5, e, hb5, f5, C5, no⟩ | ⟨j, μ5, e, hb5, f5, ⟨lo, hi, z5⟩, y5, hj, yes, n0', n1'⟩) cc nn
      · subst e
        refine ⟨_, rfl, Ec_some ⟨hb5, f5, C5, .inl ⟨w.1, .inr ⟨rfl, fun y a c => ?_⟩⟩⟩⟩
        obtain ⟨j, j0, j1, _, _, fe⟩ := loc y ⟨a, c⟩
        rw [yk_e fe]; exact no j j0 j1
      · subst e
        refine ⟨_, rfl, ?_⟩
        dsimp only
        have F5 := z5.2.1.1.2.2.1
        have e35 := z5.2.2.2.2.2.1.1.1
        have bj := pb j hj.1 hj.2
        refine Ec_ite (fun hu => ?_) (fun hu => ?_)
        · simp (disch := omega) only [w32_eq, w64_eq, chk_T, chk_t, lt, lm, ob, Int.add_zero, Int.zero_add, true_and, and_true, if_true, if_false, K100, K101, K102, K103, K104, K200, K201, K230, K231, K232, K233, K234, K235, K236, K237, K250, K251, K252, K253, K254, K300, K301, K302, K303, K304, N101, N102, N103, N104, N201, N232, N233, N234, N235, N236, N237, N251, N252, N253, N254, N301, N302, N303, N304, X10F.f0 z5.1.1, X10F.f1 z5.1.1, X10F.f2 z5.1.1, X10F.f3 z5.1.1, X10F.f4 z5.1.1, X10F.f5 z5.1.1, X10F.f6 z5.1.1, X10F.f7 z5.1.1, X10F.f8 z5.1.1, X10F.f9 z5.1.1, X10F.f10 z5.1.1]
          rw [c_yearFrom F5 e35 m25 hj, y5]
          simp only [ob]
          refine Ec_some ⟨hb5, f5, z5.2.1, .inl ⟨w.1, .inl ⟨bj, yes, fun _ y a c => ?_, fun v => absurd hu v⟩⟩⟩
          obtain ⟨i, i0, i1, i2, i3, fe⟩ := loc y ⟨a, by omega⟩
          rw [yk_e fe]
          apply n0' hu i i0
          apply Classical.byContradiction; intro v
          have : Y j ≤ Y i := by
            by_cases q : i = j
            · rw [q]; exact Int.le_refl _
            · have := pS j i hj.1 (by omega) i1; omega
          omega
        · have e7 := z5.2.2.2.2.2.1.1.2.1
          rw [e9] at e7
          unfold fX1_yearTo
          simp (disch := omega) only [w32_eq, w64_eq, chk_T, chk_t, lt, lm, ob, Int.add_zero, Int.zero_add, true_and, and_true, if_true, if_false, K100, K101, K102, K103, K104, K200, K201, K230, K231, K232, K233, K234, K235, K236, K237, K250, K251, K252, K253, K254, K300, K301, K302, K303, K304, N101, N102, N103, N104, N201, N232, N233, N234, N235, N236, N237, N251, N252, N253, N254, N301, N302, N303, N304, X10F.f0 z5.1.1, X10F.f1 z5.1.1, X10F.f2 z5.1.1, X10F.f3 z5.1.1, X10F.f4 z5.1.1, X10F.f5 z5.1.1, X10F.f6 z5.1.1, X10F.f7 z5.1.1, X10F.f8 z5.1.1, X10F.f9 z5.1.1, X10F.f10 z5.1.1, e35, e7]
          have fin : ∀ v : Int, Y j ≤ v → v ≤ ls b k 6 → (∀ i, j < i → i < m → v < Y i) → (∀ y, v < y → y ≤ ls b k 6 → ∃ i, j < i ∧ i < m ∧ Y i ≤ y) → Ec (some ((v, μ5), 0, 0)) b5 (QP μ b vb (ZSince b n k u)) := by
            intro v v0 v1 v2 v3
            refine Ec_some ⟨hb5, f5, z5.2.1, .inl ⟨w.1, .inl ⟨⟨by dsimp only; omega, v1⟩, ?_, fun q => absurd q hu, fun _ y a c => ?_⟩⟩⟩
            · obtain ⟨i, i0, i1, i2, i3, fe⟩ := loc v ⟨by omega, v1⟩
              dsimp only
              rw [yk_e fe]
              have : i = j := by
                rcases Int.lt_trichotomy i j with q | q | q
                · have := i3 j q hj.2; omega
                · exact q
                · have := v2 i q i1; omega
              rw [this]; exact yes
            · obtain ⟨i, i0, i1, i2, i3, fe⟩ := loc y ⟨by dsimp only at a; omega, c⟩
              rw [yk_e fe]
              apply n1' hu i _ i1
              obtain ⟨i', q0, q1, q2⟩ := v3 y a c
              apply Classical.byContradiction; intro r
              have := i3 i' (by omega) q1; omega
          by_cases q : m ≤ j + 1
          · rw [if_pos q, ob]
            exact fin _ bj.2 (Int.le_refl _) (fun i a c => by omega) (fun y a c => by omega)
          · rw [if_neg q, c_yearFrom F5 e35 m25 (j := j + 1) (by omega), y5]
            have b2 := pb (j + 1) (by omega) (by omega)
            have lt := pS j (j + 1) hj.1 (by omega) (by omega)
            simp (disch := omega) only [w32_eq, w64_eq, chk_T, chk_t, lt, lm, ob, Int.add_zero, Int.zero_add, true_and, and_true, if_true, if_false, ]
            refine fin _ (by omega) (by omega) (fun i a c => ?_) (fun y a c => ⟨j + 1, by omega, by omega, by omega⟩)
            by_cases r : i = j + 1
            · rw [r]; omega
            · have := pS (j + 1) i (by omega) (by omega) c; omega
  · dsimp only at e e2 ⊢
    subst e e2
    rw [if_pos rfl]
    exact Ec_some ⟨rfl, fq, C1, .inr ⟨fun v => w ⟨v, by decide⟩, rfl⟩⟩
end
