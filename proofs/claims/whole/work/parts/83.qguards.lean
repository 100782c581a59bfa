/-! ===== guards: the call ===== -/
section
variable {μ μ' μ0 : Mm} {b : Int → Int} {vb n : Int}
theorem c_findGuards (hW : Nw μ b) (hC : Ca μ b vb) (hL : isL b n) (hs : μ 102 n ≠ 0) (hD : LdOk (lg b n)) (h9 : μ (10000 + 2000 * n) 9 < μ (10000 + 2000 * n) 1) : Ec (fX4_findGuards (10000 + 2000 * n) μ) (Bd μ) (fun r b' => b' = Bd r.2 ∧ Fw Rq μ r.2 ∧ Ca r.2 b vb ∧ (r.2 102 n ≠ 0 ∧ r.2 (10000 + 2000 * n) 9 < r.2 (10000 + 2000 * n) 1) ∧ GdS (lg b n) r.1 (r.2 (10000 + 2000 * n + 1) 0) (r.2 (10000 + 2000 * n + 1) 1) (r.2 (10000 + 2000 * n + 1) 2)) := by
  have n0 := hW.n0; have hn1 := hL.1; have hn2 := hL.2
  have nn : n = 0 ∨ n = 1 := by omega
  have nb := np_b hD
  have hq : 10000 + 2000 * n = 10000 ∨ 10000 + 2000 * n = 12000 := by omega
  have hK := ScK_q hq
  obtain ⟨e102, hSn⟩ := hC.sn (n := n) (by omega) hs
  have s7 := hSn.1.2.2.2.2.2.2
  have ca : ∀ μ1 μ2 : Mm, Ca μ1 b vb → μ1 102 n ≠ 0 → μ1 (10000 + 2000 * n) 9 < μ1 (10000 + 2000 * n) 1 → Fw (gA n) μ1 μ2 → (∀ i, i ≠ 10 → μ2 (10000 + 2000 * n) i = μ1 (10000 + 2000 * n) i) → Ca μ2 b vb := by
    intro μ1 μ2 c1 h1 h2 f h
    refine c1.gw nn h1 f (fun i hi => h i (by omega)) ?_
    rw [h 9 (by omega), h 1 (by omega)]
    exact ⟨by omega, fun z => by omega⟩
  unfold fX4_findGuards
  simp (disch := omega) only [w32_eq, w64_eq, chk_T, chk_t, lt, lm, ob, Int.add_zero, Int.zero_add, true_and, and_true, if_true, if_false, hK.1, s7]
  refine Ec_bindE (c_fillL hK.2.2.2.2.1.1 (by rw [hK.2.2.2.2.1.2]; omega)) (fun μ1 ⟨f1, z1, _⟩ => ?_)
  rw [hK.2.2.2.2.1.2] at z1
  have f2 : Fw (gA n) μ (mst μ1 (10000 + 2000 * n) 10 0) := (f1.mo (fun x hx => by unfold gA; omega)).st (by unfold gA; omega)
  have q2 : ∀ i, i ≠ 10 → mst μ1 (10000 + 2000 * n) 10 0 (10000 + 2000 * n) i = μ (10000 + 2000 * n) i := fun i hi => by rw [mst_j hi, f1 (10000 + 2000 * n) (by omega)]
  have C2 := ca _ _ hC hs h9 f2 q2
  rw [← Bd_ga f2 nn]
  refine Ec_bind (Ec_lop (P := fun r b' => b' = Bd r ∧ Fw Rq μ r ∧ Nw r b ∧ Ca r b vb ∧ (r 102 n ≠ 0 ∧ r (10000 + 2000 * n) 9 < r (10000 + 2000 * n) 1) ∧ Wb (r (10000 + 2000 * n + 4)) 0 (Pl (lg b n)) ∧ (∀ p, Pl (lg b n) p → Wb (r (10000 + 2000 * n + 3)) (3 * p) (W1 (lg b n) p) ∧ ct (W1 (lg b n) p) 144 ≤ r (10000 + 2000 * n) 10) ∧ 0 ≤ r (10000 + 2000 * n) 10 ∧ r (10000 + 2000 * n) 10 ≤ 145) (fun t b' => b' = Bd t.2 ∧ Fw Rq μ t.2 ∧ Nw t.2 b ∧ Ca t.2 b vb ∧ (t.2 102 n ≠ 0 ∧ t.2 (10000 + 2000 * n) 9 < t.2 (10000 + 2000 * n) 1) ∧ (0 ≤ t.1 ∧ t.1 ≤ np (lg b n)) ∧ Wb (t.2 (10000 + 2000 * n + 4)) 0 (fun x => 0 ≤ x ∧ x < t.1) ∧ (∀ p, 0 ≤ p → p < t.1 → Wb (t.2 (10000 + 2000 * n + 3)) (3 * p) (W1 (lg b n) p) ∧ ct (W1 (lg b n) p) 144 ≤ t.2 (10000 + 2000 * n) 10) ∧ 0 ≤ t.2 (10000 + 2000 * n) 10 ∧ t.2 (10000 + 2000 * n) 10 ≤ 145) (fun t => (np (lg b n) - t.1).toNat) ⟨rfl, f2.mo (fun x hx => gA_q nn hx), hW.q (f2.mo (fun x hx => gA_q nn hx)), C2, ⟨?_, ?_⟩, (by first | omega | (dsimp only; omega) | (dsimp only)), ?_, fun p a c => ?_, ?_⟩ (by unfold FU; dsimp only; omega) ?_) ?_
  · dsimp only; rw [f2 102 (by unfold gA; omega)]; exact hs
  · dsimp only; rw [q2 9 (by omega), q2 1 (by omega)]; exact h9
  · dsimp only
    rw [mst_n (by omega)]
    refine ⟨fun w w0 w1 => by rw [z1 _ (by omega) (by omega)]; unfold R64; omega, fun x x0 x1 => ?_⟩
    rw [z1 _ (by omega) (by omega), bw_0]
    constructor
    · intro h; cases h
    · intro h; omega
  · dsimp only at c; omega
  · dsimp only; rw [mst_s]; omega
  · rintro ⟨v1, μ3⟩ b3 ⟨hb, f3, N3, C3, ⟨s3, h3⟩, k3, w3, p3, i3⟩
    dsimp only at hb f3 N3 C3 s3 h3 k3 w3 p3 i3 ⊢
    obtain ⟨a1, a2, a3, a4⟩ := sc_k N3 C3 hL s3
    unfold sX4_findGuards_15
    simp (disch := omega) only [w32_eq, w64_eq, chk_T, chk_t, lt, lm, ob, Int.add_zero, Int.zero_add, true_and, and_true, if_true, if_false, a1, a2, a3, a4]
    subst hb
    refine Ec_ite (fun z => Ec_outA ⟨rfl, f3, N3, C3, ⟨s3, h3⟩, ?_, fun p hp => p3 p hp.1 (by have := hp.2; omega), i3⟩) (fun z => ?_)
    · have e : v1 = np (lg b n) := by omega
      rw [e] at w3; exact w3
    · have hp : Pl (lg b n) v1 := ⟨k3.1, by omega⟩
      have bp := Pl.i hD hp
      refine Ec_bind (c_lineOf N3 C3 hL s3 hp) ?_
      rintro ⟨r4, μ4⟩ b4 ⟨hb4, hr4, f4, C4, L4⟩ cc nn'
      refine ⟨_, rfl, ?_⟩
      dsimp only at hb4 hr4 f4 C4 L4 ⊢
      subst hb4 hr4
      have fq4 : Fw Rq μ μ4 := f3.tr (f4.mo (fun x hx => lnR_q (by omega) bp hx))
      have rQ : μ4 (10000 + 2000 * n) = μ3 (10000 + 2000 * n) := f4 _ (by unfold lnR sR0; omega)
      have rQ3 : μ4 (10000 + 2000 * n + 3) = μ3 (10000 + 2000 * n + 3) := f4 _ (by unfold lnR sR0; omega)
      have rQ4 : μ4 (10000 + 2000 * n + 4) = μ3 (10000 + 2000 * n + 4) := f4 _ (by unfold lnR sR0; omega)
      have r102 : μ4 102 = μ3 102 := f4 102 (by unfold lnR sR0; omega)
      rw [c_cS L4 hD]
      have cb := ct_b (vS (lg b n) v1) 144
      have cw := W1_n hD hp
      have ce : cS (lg b n) v1 = ct (vS (lg b n) v1) 144 := rfl
      simp (disch := omega) only [w32_eq, w64_eq, chk_T, chk_t, lt, lm, ob, Int.add_zero, Int.zero_add, true_and, and_true, if_true, if_false, L4.1.k, rQ]
      have im := imax_v (x := μ3 (10000 + 2000 * n) 10) (y := cS (lg b n) v1 + 1)
      generalize hm : imax (μ3 (10000 + 2000 * n) 10) (cS (lg b n) v1 + 1) = m at im ⊢
      have f5 : Fw (gA n) μ4 (mst μ4 (10000 + 2000 * n) 10 m) := Fw.s0 (by unfold gA; omega)
      have fm : Fw (fun x => x = 10000 + 2000 * n) μ4 (mst μ4 (10000 + 2000 * n) 10 m) := Fw.s0 rfl
      have F4 := (C4.sn (n := n) (by omega) (by rw [r102]; exact s3)).2.1
      refine Ec_bindE (c_words (q := 10000 + 2000 * n) (g := lg b n) hq (by rw [mst_j (by omega)]; exact F4.2.2.2.2.2.2) (by rw [mst_j (by omega)]; exact F4.2.2.2.2.2.1) hD hp (L4.fw fm (fun x a c => by omega)) (by omega) (by rw [mst_n (by omega), rQ4]; exact w3)) (fun μ6 ⟨f6, w6, x6, o6⟩ => ?_)
      have f46 : Fw (gA n) μ4 μ6 := f5.tr (f6.mo (fun x hx => by unfold gA; omega))
      have r6 : μ6 (10000 + 2000 * n) = mst μ4 (10000 + 2000 * n) 10 m (10000 + 2000 * n) := f6 _ (by omega)
      have q6 : ∀ i, i ≠ 10 → μ6 (10000 + 2000 * n) i = μ4 (10000 + 2000 * n) i := fun i hi => by rw [r6, mst_j hi]
      have t6 : μ6 (10000 + 2000 * n) 10 = m := by rw [r6, mst_s]
      have h4 : μ4 (10000 + 2000 * n) 9 < μ4 (10000 + 2000 * n) 1 := by rw [rQ]; exact h3
      have C6 := ca _ _ C4 (by rw [r102]; exact s3) h4 f46 q6
      have fq6 : Fw Rq μ μ6 := fq4.tr (f46.mo (fun x hx => gA_q nn hx))
      rw [← Bd_ga f46 nn]
      refine Ec_inA ⟨rfl, fq6, hW.q fq6, C6, ⟨?_, ?_⟩, (by first | omega | (dsimp only; omega) | (dsimp only)), w6, fun p p0 p1 => ?_, ?_⟩ (by first | omega | (dsimp only; omega) | (dsimp only))
      · dsimp only; rw [f46 102 (by unfold gA; omega), r102]; exact s3
      · dsimp only; rw [q6 9 (by omega), q6 1 (by omega)]; exact h4
      · dsimp only at p1 ⊢
        rw [t6]
        by_cases e : p = v1
        · subst e; exact ⟨x6, by omega⟩
        · have old := p3 p p0 (by omega)
          refine ⟨old.1.e (fun i a c => ?_), by omega⟩
          rw [o6 i (by omega), mst_n (by omega), rQ3]
      · dsimp only; rw [t6]; omega
  · rintro μ3 b3 ⟨hb, f3, N3, C3, ⟨s3, h3⟩, w3, p3, i3⟩ cc nn'
    refine ⟨_, rfl, ?_⟩
    dsimp only
    have F3 := (C3.sn (n := n) (by omega) s3).2.1
    have A3 := N3.la hn1 hn2
    refine Ec_bindE (c_sizes (q := 10000 + 2000 * n) hq nn F3 A3 hD w3 (fun p hp => (p3 p hp).1) (fun p hp => (p3 p hp).2) i3) (fun x hx => ?_)
    have fin : ∀ (r : Int) (μ4 : Mm), Fw (gR (10000 + 2000 * n)) μ3 μ4 → GdS (lg b n) r (μ4 (10000 + 2000 * n + 1) 0) (μ4 (10000 + 2000 * n + 1) 1) (μ4 (10000 + 2000 * n + 1) 2) → Ec (some ((r, μ4), 0, 0)) b3 (fun r b' => b' = Bd r.2 ∧ Fw Rq μ r.2 ∧ Ca r.2 b vb ∧ (r.2 102 n ≠ 0 ∧ r.2 (10000 + 2000 * n) 9 < r.2 (10000 + 2000 * n) 1) ∧ GdS (lg b n) r.1 (r.2 (10000 + 2000 * n + 1) 0) (r.2 (10000 + 2000 * n + 1) 1) (r.2 (10000 + 2000 * n + 1) 2)) := by
      intro r μ4 f4 d4
      have g4 : Fw (gA n) μ3 μ4 := f4.mo (fun x hx => by unfold gR at hx; unfold gA; omega)
      have rQ : μ4 (10000 + 2000 * n) = μ3 (10000 + 2000 * n) := f4 _ (by unfold gR; omega)
      refine Ec_some ⟨by dsimp only; rw [Bd_ga g4 nn]; exact hb, f3.tr (g4.mo (fun x hx => gA_q nn hx)), ca _ _ C3 s3 h3 g4 (fun i _ => by dsimp only; rw [rQ]), ⟨?_, ?_⟩, d4⟩
      · dsimp only; rw [g4 102 (by unfold gA; omega)]; exact s3
      · dsimp only; rw [rQ]; exact h3
    rcases x with μ4 | ⟨r, μ4⟩
    · exact fin _ _ hx.1 hx.2
    · exact fin _ _ hx.1 hx.2
theorem c_guardCount (hW : Nw μ b) (hC : Ca μ b vb) (hL : isL b n) (hs : μ 102 n ≠ 0) (hD : LdOk (lg b n)) : Ec (fX4_guardCount (10000 + 2000 * n) μ) (Bd μ) (fun r b' => b' = Bd r.2 ∧ Fw Rq μ r.2 ∧ Ca r.2 b vb ∧ r.2 102 n ≠ 0 ∧ GdS (lg b n) r.1 (r.2 (10000 + 2000 * n + 1) 0) (r.2 (10000 + 2000 * n + 1) 1) (r.2 (10000 + 2000 * n + 1) 2)) := by
  have n0 := hW.n0; have hn1 := hL.1; have hn2 := hL.2
  have nn : n = 0 ∨ n = 1 := by omega
  have hq : 10000 + 2000 * n = 10000 ∨ 10000 + 2000 * n = 12000 := by omega
  have hK := ScK_q hq
  obtain ⟨e102, hF, hv, hl, hg⟩ := hC.sn (n := n) (by omega) hs
  unfold fX4_guardCount
  rw [chk_t hK.1]
  refine Ec_ite (fun z => Ec_some ⟨rfl, Fw.rf, hC, hs, (hg.2 z).2⟩) (fun z => ?_)
  refine Ec_bind (c_findGuards hW hC hL hs hD (by omega)) ?_
  rintro ⟨r, μ1⟩ b1 ⟨hb, f1, C1, ⟨s1, h1⟩, d1⟩ cc nn'
  refine ⟨_, rfl, ?_⟩
  dsimp only at hb f1 C1 s1 h1 d1 ⊢
  simp (disch := omega) only [w32_eq, w64_eq, chk_T, chk_t, lt, lm, ob, Int.add_zero, Int.zero_add, true_and, and_true, if_true, if_false, mst_j]
  have f2 : Fw (gA n) μ1 (mst (mst μ1 (10000 + 2000 * n) 8 r) (10000 + 2000 * n) 9 (μ1 (10000 + 2000 * n) 1)) := (Fw.s0 (by unfold gA; omega)).st (by unfold gA; omega)
  have e8 : mst (mst μ1 (10000 + 2000 * n) 8 r) (10000 + 2000 * n) 9 (μ1 (10000 + 2000 * n) 1) (10000 + 2000 * n) 8 = r := by rw [mst_j (by omega), mst_s]
  have e9 : mst (mst μ1 (10000 + 2000 * n) 8 r) (10000 + 2000 * n) 9 (μ1 (10000 + 2000 * n) 1) (10000 + 2000 * n) 9 = μ1 (10000 + 2000 * n) 1 := by rw [mst_s]
  have ei : ∀ i, i < 8 → mst (mst μ1 (10000 + 2000 * n) 8 r) (10000 + 2000 * n) 9 (μ1 (10000 + 2000 * n) 1) (10000 + 2000 * n) i = μ1 (10000 + 2000 * n) i := fun i hi => by rw [mst_j (by omega), mst_j (by omega)]
  have eg : mst (mst μ1 (10000 + 2000 * n) 8 r) (10000 + 2000 * n) 9 (μ1 (10000 + 2000 * n) 1) (10000 + 2000 * n + 1) = μ1 (10000 + 2000 * n + 1) := by rw [mst_n (by omega), mst_n (by omega)]
  refine Ec_some ⟨?_, f1.tr (f2.mo (fun x hx => gA_q nn hx)), C1.gw nn s1 f2 ei ?_, ?_, ?_⟩
  · dsimp only; rw [Bd_ga f2 nn]; exact hb
  · dsimp only; rw [e8, e9, ei 1 (by omega), eg]; exact ⟨Int.le_refl _, fun _ => ⟨hn2, d1⟩⟩
  · dsimp only; rw [f2 102 (by unfold gA; omega)]; exact s1
  · dsimp only
    rw [eg]
    first | exact d1 | (rw [mst_s]; exact d1)
def ZGuards (b : Int → Int) (n k r : Int) : Prop := (isL b n ∧ ∃ c t0 t1 t2, GdS (lg b n) c t0 t1 t2 ∧ ((k = -1 ∧ r = c) ∨ (k = 0 ∧ 1 ≤ c ∧ r = t0) ∨ (k = 1 ∧ 2 ≤ c ∧ r = t1) ∨ (k = 2 ∧ 3 ≤ c ∧ r = t2) ∨ (k ≠ -1 ∧ ¬(0 ≤ k ∧ k < c) ∧ r = -1))) ∨ (¬isL b n ∧ r = -1)
theorem GdS_c {g : Int → Int} {c t0 t1 t2 : Int} (h : GdS g c t0 t1 t2) : c = 1 ∨ c = 2 ∨ c = 3 ∨ c = -1 := by
  rcases h with h | h | h | h
  · exact .inl h.1
  · exact .inr (.inl h.1)
  · exact .inr (.inr (.inl h.1))
  · exact .inr (.inr (.inr h.1))
theorem GdS_u {g : Int → Int} {c d t0 t1 t2 u0 u1 u2 : Int} (h : GdS g c t0 t1 t2) (k : GdS g d u0 u1 u2) : c = d ∧ (1 ≤ c → t0 = u0) ∧ (2 ≤ c → t1 = u1) ∧ (3 ≤ c → t2 = u2) := by
  rcases h with ⟨e, a, cv, l⟩ | ⟨e, n1, a, cv, l⟩ | ⟨e, n1, n2, a, cv, l⟩ | ⟨e, n1, n2, n3⟩ <;> rcases k with ⟨e', a', cv', l'⟩ | ⟨e', n1', a', cv', l'⟩ | ⟨e', n1', n2', a', cv', l'⟩ | ⟨e', n1', n2', n3'⟩
  · subst e e'
    refine ⟨rfl, fun _ => ?_, fun _ => by omega, fun _ => by omega⟩
    rcases Int.lt_trichotomy t0 u0 with q | q | q
    · exact absurd cv (l' t0 a.1 q)
    · exact q
    · exact absurd cv' (l u0 a'.1 q)
  · exact absurd cv (n1' t0 a)
  · exact absurd cv (n1' t0 a)
  · exact absurd cv (n1' t0 a)
  · exact absurd cv' (n1 u0 a')
  · subst e e'
    have : t0 = u0 ∧ t1 = u1 := by
      apply Classical.byContradiction; intro ng
      by_cases q : t0 < u0 ∨ t0 = u0 ∧ t1 < u1
      · exact l' t0 t1 a.1 a.2.1 a.2.2 q cv
      · exact l u0 u1 a'.1 a'.2.1 a'.2.2 (by omega) cv'
    exact ⟨rfl, fun _ => this.1, fun _ => this.2, fun _ => by omega⟩
  · exact absurd cv (n2' t0 t1 a.1 a.2.1 a.2.2)
  · exact absurd cv (n2' t0 t1 a.1 a.2.1 a.2.2)
  · exact absurd cv' (n1 u0 a')
  · exact absurd cv' (n2 u0 u1 a'.1 a'.2.1 a'.2.2)
  · subst e e'
    have : t0 = u0 ∧ t1 = u1 ∧ t2 = u2 := by
      apply Classical.byContradiction; intro ng
      by_cases q : t0 < u0 ∨ t0 = u0 ∧ (t1 < u1 ∨ t1 = u1 ∧ t2 < u2)
      · exact l' t0 t1 t2 a.1 a.2.1 a.2.2.1 a.2.2.2 q cv
      · exact l u0 u1 u2 a'.1 a'.2.1 a'.2.2.1 a'.2.2.2 (by omega) cv'
    exact ⟨rfl, fun _ => this.1, fun _ => this.2.1, fun _ => this.2.2⟩
  · exact absurd cv (n3' t0 t1 t2 a.1 a.2.1 a.2.2.1 a.2.2.2)
  · exact absurd cv' (n1 u0 a')
  · exact absurd cv' (n2 u0 u1 a'.1 a'.2.1 a'.2.2)
  · exact absurd cv' (n3 u0 u1 u2 a'.1 a'.2.1 a'.2.2.1 a'.2.2.2)
  · subst e e'; exact ⟨rfl, fun _ => by omega, fun _ => by omega, fun _ => by omega⟩
theorem ZGuards_u {k r s : Int} (h : ZGuards b n k r) (h2 : ZGuards b n k s) : r = s := by
  rcases h with ⟨a, c, t0, t1, t2, d, e⟩ | ⟨a, d⟩ <;> rcases h2 with ⟨a', c', u0, u1, u2, d', e'⟩ | ⟨a', d'⟩
  · have := GdS_u d d'
    omega
  · exact absurd a a'
  · exact absurd a' a
  · omega
theorem q_guards (hW : Nw μ b) (hC : Ca μ b vb) (hvb : 0 ≤ vb) (n k : Int) : Ec (fX10_guards 100 n k μ) (Bd μ) (QP μ b vb (ZGuards b n k)) := by
  have n0 := hW.n0
  unfold fX10_guards
  simp (disch := omega) only [w32_eq, w64_eq, chk_T, chk_t, lt, lm, ob, Int.add_zero, Int.zero_add, true_and, and_true, if_true, if_false, K100, K101, K102, K103, K104, K200, K201, K230, K231, K232, K233, K234, K235, K236, K237, K250, K251, K252, K253, K254, K300, K301, K302, K303, K304, N101, N102, N103, N104, N201, N232, N233, N234, N235, N236, N237, N251, N252, N253, N254, N301, N302, N303, N304, ]
  refine q_scene hW hC hvb (fun z => ⟨-1, .inr ⟨z, rfl⟩, fun μ1 cc nn => by dsimp only; rw [if_pos rfl]⟩) (fun hL μ1 N1 fq C1 hD hs cc nn => ⟨_, rfl, ?_⟩)
  dsimp only
  have hn1 := hL.1; have hn2 := hL.2
  have hq : 10000 + 2000 * n = 10000 ∨ 10000 + 2000 * n = 12000 := by omega
  have hK := ScK_q hq
  rw [if_neg (by omega), chk_t hK.1]
  refine Ec_bind (c_guardCount N1 C1 hL hs hD) ?_
  rintro ⟨r, μ2⟩ b2 ⟨hb, f2, C2, s2, d2⟩ cc nn
  refine ⟨_, rfl, ?_⟩
  dsimp only at hb f2 C2 s2 d2 ⊢
  have c3 := GdS_c d2
  have F2 := (C2.sn (n := n) (by omega) s2).2.1
  have go : ∀ v, ((k = -1 ∧ v = r) ∨ (k = 0 ∧ 1 ≤ r ∧ v = μ2 (10000 + 2000 * n + 1) 0) ∨ (k = 1 ∧ 2 ≤ r ∧ v = μ2 (10000 + 2000 * n + 1) 1) ∨ (k = 2 ∧ 3 ≤ r ∧ v = μ2 (10000 + 2000 * n + 1) 2) ∨ (k ≠ -1 ∧ ¬(0 ≤ k ∧ k < r) ∧ v = -1)) → Ec (some ((v, μ2), 0, 0)) b2 (QP μ b vb (ZGuards b n k)) := fun v h => Ec_some ⟨hb, fq.tr f2, C2, .inl ⟨hL, r, _, _, _, d2, h⟩⟩
  refine Ec_ite (fun z => go _ (by omega)) (fun z => ?_)
  refine Ec_ite (fun z1 => go _ (by omega)) (fun z1 => ?_)
  refine Ec_ite (fun z2 => go _ (by omega)) (fun z2 => ?_)
  refine Ec_ite (fun z3 => go _ (by omega)) (fun z3 => ?_)
  simp (disch := omega) only [w32_eq, w64_eq, chk_T, chk_t, lt, lm, ob, Int.add_zero, Int.zero_add, true_and, and_true, if_true, if_false, F2.2.1, hK.2.1.1, hK.2.1.2]
  refine go _ ?_
  have : k = 0 ∨ k = 1 ∨ k = 2 := by omega
  rcases this with e | e | e
  · subst e; exact .inr (.inl ⟨rfl, by omega, rfl⟩)
  · subst e; exact .inr (.inr (.inl ⟨rfl, by omega, rfl⟩))
  · subst e; exact .inr (.inr (.inr (.inl ⟨rfl, by omega, rfl⟩)))
end
