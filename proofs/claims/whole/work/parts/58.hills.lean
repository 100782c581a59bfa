/-! ===== hills, sure: both sides; bars: the reference ===== -/
def hlp (g s : Int → Int) (i q : Int) : Prop := ∃ p, Pl g p ∧ cb g s p ∧ ∃ st, 0 ≤ st ∧ st < hN g p ∧ fO g s p st (-1) = s 0 ∧ hl g s p st i = q
noncomputable def zzHills (b : Int → Int) (n k i j : Int) : Int := sel ((isL b n ∧ isS b k) ∧ 0 ≤ i ∧ i < ls b k 0) (tellS (hlp (lg b n) (ls b k) i) 144 j) (-1)
noncomputable def zzSure (b : Int → Int) (n k i : Int) : Int := bi (((isL b n ∧ isS b k) ∧ 0 ≤ i ∧ i < ls b k 0) ∧ ct (hlp (lg b n) (ls b k) i) 144 = 1)
section
variable {μ μ' : Mm} {b : Int → Int} {vb n kk yr m lo hi p k i : Int} {s : Int → Int}
def s3R (x : Int) : Prop := x = 252 ∨ x = 103
theorem Fz.s3 (h : Fz μ b vb n kk s yr m lo hi) (f : Fw s3R μ μ') : Fz μ' b vb n kk s yr m lo hi := by
  obtain ⟨h1, h2, h3, h4, h5, h6, h7⟩ := h
  have r : μ' 250 = μ 250 := f 250 (by unfold s3R; omega)
  refine ⟨h1.fw f (by unfold s3R; omega) (fun x a b => by unfold s3R; omega), ⟨h2.1.fw f (by unfold s3R; omega) (by unfold s3R; omega) (by unfold s3R; omega) (by unfold s3R; omega) (by unfold s3R; omega) (f 101 (by unfold s3R; omega)) (fun x a b => by rw [f 0 (by unfold s3R; omega)]), fun n h0 h1 => (h2.2 n h0 h1).fw f (by rw [f 102 (by unfold s3R; omega)]) (fun x a b => by unfold s3R; omega) (fun x a b => by rw [f 0 (by unfold s3R; omega)])⟩, h3, by rw [r]; exact h4, ⟨h5.1.fw f (fun x a b => by unfold s3R; have := h5.2.2; omega), h5.2⟩, h6.e (fun i _ _ _ => by rw [r]) (f 251 (by unfold s3R; omega)), by rw [r]; exact h7⟩
theorem Ft.s3 {c k n p : Int} {g s : Int → Int} (h : Ft μ c k n g s p) (f : Fw s3R μ μ') (hr : 200 ≤ c ∧ 200 ≤ k ∧ 200 ≤ n) : Ft μ' c k n g s p := by
  obtain ⟨h1, h2, h3, h4, h5, d1, d2, d3⟩ := h
  have d1' := d1; have d2' := d2; have d3' := d3
  unfold far5 at d1' d2' d3'
  refine ⟨?_, h2.fw f (fun x a b => by unfold s3R; omega), h3.fw f (fun x a b => by unfold s3R; omega), h4.fw f (fun x a b => by unfold s3R; omega), h5, d1, d2, d3⟩
  unfold FtF; rw [f 250 (by unfold s3R; omega)]; exact h1
theorem c_markTops {c k' L : Int} (hz : Fz μ b vb n kk s (-1) m 0 (m - 1)) (h : Ft μ c k' L (lg b n) s p) (hi : 0 ≤ i ∧ i < s 0) (hr : 200 ≤ c ∧ 200 ≤ k' ∧ 200 ≤ L) : Ev (fX1_markTops 250 i 103 μ) (fun μ1 => Fw s3R μ μ1 ∧ ∀ q, 0 ≤ q → q < 144 → μ1 103 q = sel (cb (lg b n) s p ∧ ∃ st, 0 ≤ st ∧ st < hN (lg b n) p ∧ fO (lg b n) s p st (-1) = s 0 ∧ hl (lg b n) s p st i = q) 1 (μ 103 q)) := by
  have hO := h.2.2.2.2.1.2.1; have hD := h.2.2.2.2.1.1; have hp := h.2.2.2.2.1.2.2
  have hb := hN_b hD hp
  unfold fX1_markTops
  refine Ev_bind (Ev_lop (P := fun μ1 => Fw s3R μ μ1 ∧ ∀ q, 0 ≤ q → q < 144 → μ1 103 q = sel (cb (lg b n) s p ∧ ∃ st, 0 ≤ st ∧ st < hN (lg b n) p ∧ fO (lg b n) s p st (-1) = s 0 ∧ hl (lg b n) s p st i = q) 1 (μ 103 q)) (fun t => (0 ≤ t.1 ∧ t.1 ≤ hN (lg b n) p) ∧ Fw s3R μ t.2 ∧ ∀ q, 0 ≤ q → q < 144 → t.2 103 q = sel (cb (lg b n) s p ∧ ∃ st, 0 ≤ st ∧ st < t.1 ∧ fO (lg b n) s p st (-1) = s 0 ∧ hl (lg b n) s p st i = q) 1 (μ 103 q)) (fun t => (hN (lg b n) p - t.1).toNat) ⟨(by first | omega | (dsimp only; omega) | (dsimp only)), Fw.rf, fun q a c => by dsimp only; rw [sel_f]; rintro ⟨_, st, s0, s1, _⟩; omega⟩ (by unfold FU; dsimp only; omega) ?_) (fun r h => Ev_some h)
  rintro ⟨v3, μ1⟩ ⟨k1, f1, k3⟩
  dsimp only at k1 f1 k3 ⊢
  have H1 := h.s3 f1 hr
  have Z1 := hz.s3 f1
  have e2 := H1.1.2.2.2; have hL := H1.2.2.2.1
  unfold sX1_markTops_2
  dsimp only
  simp (disch := omega) only [w32_eq, w64_eq, chk_T, chk_t, lt, lm, ob, Int.add_zero, Int.zero_add, true_and, and_true, if_true, if_false, K100, K101, K102, K103, K104, K200, K201, K230, K231, K232, K233, K234, K235, K236, K237, K250, K251, K252, K253, K254, K300, K301, K302, K303, K304, N101, N102, N103, N104, N201, N232, N233, N234, N235, N236, N237, N251, N252, N253, N254, N301, N302, N303, N304, e2, hL.1.k, hL.2.2.1.2.1, c_canBe H1, bi_if]
  refine Ev_ite (fun z => Ev_out ⟨f1, fun q a c => ?_⟩) (fun z => ?_)
  · rw [k3 q a c]
    have : (cb (lg b n) s p ∧ ∃ st, 0 ≤ st ∧ st < v3 ∧ fO (lg b n) s p st (-1) = s 0 ∧ hl (lg b n) s p st i = q) ↔ (cb (lg b n) s p ∧ ∃ st, 0 ≤ st ∧ st < hN (lg b n) p ∧ fO (lg b n) s p st (-1) = s 0 ∧ hl (lg b n) s p st i = q) := by
      constructor
      · rintro ⟨w, st, s0, s1, r⟩; exact ⟨w, st, s0, by omega, r⟩
      · rintro ⟨w, st, s0, s1, r⟩; exact ⟨w, st, s0, by omega, r⟩
    rw [propext this]
  · by_cases hc : cb (lg b n) s p
    · rw [sel_t hc]
      refine Ev_bind (Z1.rch H1 (by decide) μ1 Fw.rf v3 k1.1 (by omega)) ?_
      rintro ⟨r, μ2⟩ ⟨f2, e⟩
      dsimp only at f2 e ⊢
      have f12 : Fw s3R μ μ2 := f1.tr (f2.mo (fun x hx => .inl hx))
      have H2 := h.s3 f12 hr
      have e1 := H2.1.2.2.1; have hS := H2.2.2.1; have e2 := H2.1.2.2.2; have hL := H2.2.2.2.1
      have r103 : μ2 103 = μ1 103 := f2 103 (by unfold sp2; omega)
      simp (disch := omega) only [w32_eq, w64_eq, chk_T, chk_t, lt, lm, ob, Int.add_zero, Int.zero_add, true_and, and_true, if_true, if_false, K100, K101, K102, K103, K104, K200, K201, K230, K231, K232, K233, K234, K235, K236, K237, K250, K251, K252, K253, K254, K300, K301, K302, K303, K304, N101, N102, N103, N104, N201, N232, N233, N234, N235, N236, N237, N251, N252, N253, N254, N301, N302, N303, N304, e1, hS.1.1, hS.2.2.1.1]
      refine Ev_ite (fun q => ?_) (fun q => Ev_in ⟨(by first | omega | (dsimp only; omega) | (dsimp only)), f12, fun x a c => ?_⟩ (by first | omega | (dsimp only; omega) | (dsimp only)))
      · have ts := T_sel (st := v3) (i := i) H2 hc
        have hlP := hl_P (s := s) (st := v3) (i := i) hD hp hc.1
        have bl := Pl.i hD hlP.1
        rw [c_rayFor H2 hc (st := v3) (by omega) hi]
        simp (disch := omega) only [w32_eq, w64_eq, chk_T, chk_t, lt, lm, ob, Int.add_zero, Int.zero_add, true_and, and_true, if_true, if_false, K100, K101, K102, K103, K104, K200, K201, K230, K231, K232, K233, K234, K235, K236, K237, K250, K251, K252, K253, K254, K300, K301, K302, K303, K304, N101, N102, N103, N104, N201, N232, N233, N234, N235, N236, N237, N251, N252, N253, N254, N301, N302, N303, N304, e2, hL.1.k, c_topOfRay hL hD hp]
        rw [sel_t ts.1, ts.2, if_neg (by omega)]
        rw [if_neg (by omega)]
        try simp (disch := omega) only [w32_eq, w64_eq, chk_T, chk_t, lt, lm, ob, Int.add_zero, Int.zero_add, true_and, and_true, if_true, if_false, K100, K101, K102, K103, K104, K200, K201, K230, K231, K232, K233, K234, K235, K236, K237, K250, K251, K252, K253, K254, K300, K301, K302, K303, K304, N101, N102, N103, N104, N201, N232, N233, N234, N235, N236, N237, N251, N252, N253, N254, N301, N302, N303, N304]
        refine Ev_in ⟨(by first | omega | (dsimp only; omega) | (dsimp only)), f12.st (.inr rfl), fun x a c => ?_⟩ (by first | omega | (dsimp only; omega) | (dsimp only))
        dsimp only
        by_cases w : x = hl (lg b n) s p v3 i
        · rw [w, mst_s, sel_t]
          exact ⟨hc, v3, k1.1, by omega, by omega, rfl⟩
        · rw [mst_j w, r103, k3 x a c]
          have : (cb (lg b n) s p ∧ ∃ st, 0 ≤ st ∧ st < v3 ∧ fO (lg b n) s p st (-1) = s 0 ∧ hl (lg b n) s p st i = x) ↔ (cb (lg b n) s p ∧ ∃ st, 0 ≤ st ∧ st < v3 + 1 ∧ fO (lg b n) s p st (-1) = s 0 ∧ hl (lg b n) s p st i = x) := by
            constructor
            · rintro ⟨w, st, s0, s1, r⟩; exact ⟨w, st, s0, by omega, r⟩
            · rintro ⟨u, st, s0, s1, r1, r2⟩
              by_cases v : st = v3
              · subst v; exact absurd r2.symm w
              · exact ⟨u, st, s0, by omega, r1, r2⟩
          rw [propext this]
      · dsimp only
        rw [r103, k3 x a c]
        have : (cb (lg b n) s p ∧ ∃ st, 0 ≤ st ∧ st < v3 ∧ fO (lg b n) s p st (-1) = s 0 ∧ hl (lg b n) s p st i = x) ↔ (cb (lg b n) s p ∧ ∃ st, 0 ≤ st ∧ st < v3 + 1 ∧ fO (lg b n) s p st (-1) = s 0 ∧ hl (lg b n) s p st i = x) := by
          constructor
          · rintro ⟨w, st, s0, s1, r⟩; exact ⟨w, st, s0, by omega, r⟩
          · rintro ⟨u, st, s0, s1, r1, r2⟩
            by_cases v : st = v3
            · subst v; exact absurd (e.trans r1) q
            · exact ⟨u, st, s0, by omega, r1, r2⟩
        rw [propext this]
    · rw [sel_f hc]
      exact Ev_out ⟨f1, fun q a c => by rw [k3 q a c, sel_f (fun w => hc w.1), sel_f (fun w => hc w.1)]⟩
theorem c_marksHills (hW : Nw μ b) (hC : Ca μ b vb) (hvb : 0 ≤ vb) (n k i : Int) : Ec (fX10_marksHills 100 n k i μ) (Bd μ) (fun r b' => b' = Bd r.2 ∧ Fw Rq μ r.2 ∧ Ca r.2 b vb ∧ ((r.1 = 1 ∧ ((isL b n ∧ isS b k) ∧ 0 ≤ i ∧ i < ls b k 0) ∧ ∀ q, 0 ≤ q → q < 144 → r.2 103 q = bi (hlp (lg b n) (ls b k) i q)) ∨ (r.1 = 0 ∧ ¬((isL b n ∧ isS b k) ∧ 0 ≤ i ∧ i < ls b k 0)))) := by
  have n0 := hW.n0
  unfold fX10_marksHills
  simp (disch := omega) only [w32_eq, w64_eq, chk_T, chk_t, lt, lm, ob, Int.add_zero, Int.zero_add, true_and, and_true, if_true, if_false, K100, K101, K102, K103, K104, K200, K201, K230, K231, K232, K233, K234, K235, K236, K237, K250, K251, K252, K253, K254, K300, K301, K302, K303, K304, N101, N102, N103, N104, N201, N232, N233, N234, N235, N236, N237, N251, N252, N253, N254, N301, N302, N303, N304, ]
  refine Ec_bind (c_sceneAt hW hC hvb) ?_
  rintro ⟨r, μ1⟩ b1 ⟨hb, hr, f1, C1, s1, sn⟩ cc nn
  refine ⟨_, rfl, ?_⟩
  dsimp only at hb hr f1 C1 s1 sn ⊢
  by_cases hL : isL b n
  · have hn1 := hL.1; have hn2 := hL.2
    have fq1 : Fw Rq μ μ1 := f1.mo (fun x hx => Rq_sc (by omega) hx)
    have N1 := hW.q fq1
    rw [hr, sel_t hL, if_neg (by omega)]
    refine Ec_bindE (c_takesUp N1 C1 n k (-1)) ?_
    rintro ⟨t, μ2⟩ (⟨e, w, f2, m, hz⟩ | ⟨e, w, e2⟩)
    · dsimp only at e f2 hz ⊢
      subst e
      rw [if_neg (by decide)]
      have f2' := aR_f5 f2
      have fq2 : Fw Rq μ μ2 := fq1.tr (f2'.mo (fun x hx => Rq_ft hx))
      have bb2 : b1 = Bd μ2 := by rw [Bd_ft f2']; exact hb
      have e1 := hz.2.2.2.1.2; have hS := hz.2.2.2.2.1.1; have hO := hz.2.2.2.2.1.2.1
      simp (disch := omega) only [w32_eq, w64_eq, chk_T, chk_t, lt, lm, ob, Int.add_zero, Int.zero_add, true_and, and_true, if_true, if_false, K100, K101, K102, K103, K104, K200, K201, K230, K231, K232, K233, K234, K235, K236, K237, K250, K251, K252, K253, K254, K300, K301, K302, K303, K304, N101, N102, N103, N104, N201, N232, N233, N234, N235, N236, N237, N251, N252, N253, N254, N301, N302, N303, N304, X10F.f0 hz.1.1, X10F.f1 hz.1.1, X10F.f2 hz.1.1, X10F.f3 hz.1.1, X10F.f4 hz.1.1, X10F.f5 hz.1.1, X10F.f6 hz.1.1, X10F.f7 hz.1.1, X10F.f8 hz.1.1, X10F.f9 hz.1.1, X10F.f10 hz.1.1, e1, hS.1.1, hS.2.2.1.1]
      by_cases hi : 0 ≤ i ∧ i < ls b k 0
      · rw [if_neg (by omega), if_pos (by omega)]
        refine Ec_bindE (c_wipe (a := 103) (by omega)) (fun μ3 ⟨f3, w3⟩ => ?_)
        have f3' : Fw mR μ2 μ3 := f3.mo (fun x hx => by unfold mR; omega)
        have fq3 : Fw Rq μ μ3 := fq2.tr (f3'.mo (fun x hx => Rq_mk hx))
        have hz3 := hz.mk f3'
        have hD := N1.ld hn1 hn2
        have nb := np_b hD
        have s3 : μ3 102 n ≠ 0 := by rw [f3 102 (by omega), f2 102 (by unfold aR; omega)]; exact s1 hL
        have bb : b1 = Bd μ3 := by rw [Bd_mk f3']; exact bb2
        rw [bb]
        refine Ec_bind (Ec_lop (P := fun μ' b' => b' = Bd μ' ∧ Fw Rq μ μ' ∧ Ca μ' b vb ∧ ∀ q, 0 ≤ q → q < 144 → μ' 103 q = bi (hlp (lg b n) (ls b k) i q)) (fun t b' => b' = Bd t.2 ∧ Fw Rq μ t.2 ∧ Fz t.2 b vb n (1040 + 10 * k) (ls b k) (-1) m 0 (m - 1) ∧ t.2 102 n ≠ 0 ∧ (0 ≤ t.1 ∧ t.1 ≤ np (lg b n)) ∧ ∀ q, 0 ≤ q → q < 144 → t.2 103 q = bi (∃ p, (0 ≤ p ∧ p < t.1) ∧ cb (lg b n) (ls b k) p ∧ ∃ st, 0 ≤ st ∧ st < hN (lg b n) p ∧ fO (lg b n) (ls b k) p st (-1) = ls b k 0 ∧ hl (lg b n) (ls b k) p st i = q)) (fun t => (np (lg b n) - t.1).toNat) ⟨rfl, fq3, hz3, s3, (by first | omega | (dsimp only; omega) | (dsimp only)), fun q x y => by dsimp only; rw [w3 q x y, bi_f]; rintro ⟨p, hp, _⟩; omega⟩ (by unfold FU; dsimp only; omega) ?_) ?_
        · rintro ⟨v5, μ4⟩ b4 ⟨hb4, f4, z4, s4, h4, w4⟩
          dsimp only at hb4 f4 z4 s4 h4 w4 ⊢
          obtain ⟨k1, k2, k3, k4⟩ := sc_k z4.1 z4.2.1 hL s4
          unfold sX10_marksHills_52
          simp (disch := omega) only [w32_eq, w64_eq, chk_T, chk_t, lt, lm, ob, Int.add_zero, Int.zero_add, true_and, and_true, if_true, if_false, k1, k2, k3, k4]
          rw [hb4]
          refine Ec_ite (fun y => Ec_outA ⟨rfl, f4, z4.2.1, fun q x x' => ?_⟩) (fun y => ?_)
          · rw [w4 q x x']; apply bi_c
            constructor
            · rintro ⟨p, hp, r⟩; exact ⟨p, ⟨hp.1, by omega⟩, r⟩
            · rintro ⟨p, hp, r⟩; exact ⟨p, ⟨hp.1, by have := hp.2; omega⟩, r⟩
          · have hp : Pl (lg b n) v5 := ⟨by omega, by omega⟩
            simp (disch := omega) only [w32_eq, w64_eq, chk_T, chk_t, lt, lm, ob, Int.add_zero, Int.zero_add, true_and, and_true, if_true, if_false, K100, K101, K102, K103, K104, K200, K201, K230, K231, K232, K233, K234, K235, K236, K237, K250, K251, K252, K253, K254, K300, K301, K302, K303, K304, N101, N102, N103, N104, N201, N232, N233, N234, N235, N236, N237, N251, N252, N253, N254, N301, N302, N303, N304, ]
            refine Ec_bind (c_lnF z4 f4 s4 hp) ?_
            rintro ⟨r5, μ5⟩ b5 ⟨hb5, hr5, f5, e100, s5, z5, t5, g5, li5⟩ cc nn
            refine ⟨_, rfl, ?_⟩
            dsimp only at hb5 hr5 f5 e100 s5 z5 t5 g5 ⊢
            have kk2 := w.1.2.1
            simp (disch := omega) only [w32_eq, w64_eq, chk_T, chk_t, lt, lm, ob, Int.add_zero, Int.zero_add, true_and, and_true, if_true, if_false, K100, K101, K102, K103, K104, K200, K201, K230, K231, K232, K233, K234, K235, K236, K237, K250, K251, K252, K253, K254, K300, K301, K302, K303, K304, N101, N102, N103, N104, N201, N232, N233, N234, N235, N236, N237, N251, N252, N253, N254, N301, N302, N303, N304, X10F.f0 z4.1.1, X10F.f1 z4.1.1, X10F.f2 z4.1.1, X10F.f3 z4.1.1, X10F.f4 z4.1.1, X10F.f5 z4.1.1, X10F.f6 z4.1.1, X10F.f7 z4.1.1, X10F.f8 z4.1.1, X10F.f9 z4.1.1, X10F.f10 z4.1.1, X10F.f0 z5.1.1, X10F.f1 z5.1.1, X10F.f2 z5.1.1, X10F.f3 z5.1.1, X10F.f4 z5.1.1, X10F.f5 z5.1.1, X10F.f6 z5.1.1, X10F.f7 z5.1.1, X10F.f8 z5.1.1, X10F.f9 z5.1.1, X10F.f10 z5.1.1]
            refine Ec_bindE (c_markTops z5 t5 hi (by omega)) (fun μ6 ⟨f6, h6⟩ => ?_)
            have z6 := z5.s3 f6
            have s6 : μ6 102 n ≠ 0 := by rw [f6 102 (by unfold s3R; omega), mst_n (by decide)]; exact s5
            have r103 : mst μ5 250 2 r5 103 = μ4 103 := g5 103 (by omega)
            refine Ec_inA ⟨?_, f5.tr (f6.mo (fun x hx => by unfold s3R at hx; unfold Rq; omega)), z6, s6, (by first | omega | (dsimp only; omega) | (dsimp only)), fun q x x' => ?_⟩ (by first | omega | (dsimp only; omega) | (dsimp only))
            · dsimp only
              rw [hb5]; exact (Bd_e (f6 101 (by unfold s3R; omega)) (f6 102 (by unfold s3R; omega)) (f6 10002 (by unfold s3R; omega)) (f6 12002 (by unfold s3R; omega))).symm
            · dsimp only
              rw [h6 q x x', r103, w4 q x x']
              by_cases u : cb (lg b n) (ls b k) v5 ∧ ∃ st, 0 ≤ st ∧ st < hN (lg b n) v5 ∧ fO (lg b n) (ls b k) v5 st (-1) = ls b k 0 ∧ hl (lg b n) (ls b k) v5 st i = q
              · rw [sel_t u, bi_t]; exact ⟨v5, by omega, u⟩
              · rw [sel_f u]; apply bi_c
                constructor
                · rintro ⟨p, hp, r⟩; exact ⟨p, by omega, r⟩
                · rintro ⟨p, hp, r⟩
                  by_cases v : p = v5
                  · subst v; exact absurd r u
                  · exact ⟨p, by omega, r⟩
        · rintro μ4 b4 ⟨h1, h2, h3, h5⟩ cc nn
          exact ⟨_, rfl, Ec_some ⟨h1, h2, h3, .inl ⟨rfl, ⟨w.1, hi⟩, h5⟩⟩⟩
      · refine Ec_ite (fun z => Ec_some ⟨bb2, fq2, hz.2.1, .inr ⟨rfl, fun v => hi v.2⟩⟩) (fun z => ?_)
        rw [if_neg (by omega)]; exact Ec_some ⟨bb2, fq2, hz.2.1, .inr ⟨rfl, fun v => hi v.2⟩⟩
    · dsimp only at e e2 ⊢
      subst e e2
      rw [if_pos rfl]
      exact Ec_some ⟨hb, fq1, C1, .inr ⟨rfl, fun v => w ⟨v.1, by decide⟩⟩⟩
  · have e := sn hL
    subst e
    rw [hr, sel_f hL, if_pos rfl]
    exact Ec_some ⟨hb, Fw.rf, C1, .inr ⟨rfl, fun v => hL v.1.1⟩⟩
theorem q_hills (hW : Nw μ b) (hC : Ca μ b vb) (hvb : 0 ≤ vb) (n k i j : Int) : Ec (fX10_hills 100 n k i j μ) (Bd μ) (QP μ b vb (fun r => r = zzHills b n k i j)) := by
  unfold fX10_hills zzHills
  simp (disch := omega) only [w32_eq, w64_eq, chk_T, chk_t, lt, lm, ob, Int.add_zero, Int.zero_add, true_and, and_true, if_true, if_false, K100, K101, K102, K103, K104, K200, K201, K230, K231, K232, K233, K234, K235, K236, K237, K250, K251, K252, K253, K254, K300, K301, K302, K303, K304, N101, N102, N103, N104, N201, N232, N233, N234, N235, N236, N237, N251, N252, N253, N254, N301, N302, N303, N304, ]
  refine Ec_bind (c_marksHills hW hC hvb n k i) ?_
  rintro ⟨r, μ1⟩ b1 ⟨hb, fq, C1, h⟩ cc nn
  refine ⟨_, rfl, ?_⟩
  dsimp only at hb fq C1 h ⊢
  have N1 := hW.q fq
  rcases h with ⟨e, w, hP⟩ | ⟨e, w⟩
  · subst e
    rw [if_neg (by decide), N1.1.f9, c_tell (.inl rfl) hP, sel_t w]
    simp only [ob]
    exact Ec_some ⟨hb, fq, C1, rfl⟩
  · subst e
    rw [if_pos rfl, sel_f w]; exact Ec_some ⟨hb, fq, C1, rfl⟩
theorem q_sure (hW : Nw μ b) (hC : Ca μ b vb) (hvb : 0 ≤ vb) (n k i : Int) : Ec (fX10_sure 100 n k i μ) (Bd μ) (QP μ b vb (fun r => r = zzSure b n k i)) := by
  unfold fX10_sure zzSure
  simp (disch := omega) only [w32_eq, w64_eq, chk_T, chk_t, lt, lm, ob, Int.add_zero, Int.zero_add, true_and, and_true, if_true, if_false, K100, K101, K102, K103, K104, K200, K201, K230, K231, K232, K233, K234, K235, K236, K237, K250, K251, K252, K253, K254, K300, K301, K302, K303, K304, N101, N102, N103, N104, N201, N232, N233, N234, N235, N236, N237, N251, N252, N253, N254, N301, N302, N303, N304, ]
  refine Ec_bind (c_marksHills hW hC hvb n k i) ?_
  rintro ⟨r, μ1⟩ b1 ⟨hb, fq, C1, h⟩ cc nn
  refine ⟨_, rfl, ?_⟩
  dsimp only at hb fq C1 h ⊢
  have N1 := hW.q fq
  rcases h with ⟨e, w, hP⟩ | ⟨e, w⟩
  · subst e
    rw [if_neg (by decide), N1.1.f9, c_tell (.inl rfl) hP, ob]
    unfold tellS
    rw [if_pos rfl]
    refine Ec_ite (fun q => Ec_some ⟨hb, fq, C1, (bi_t ⟨w, q⟩).symm⟩) (fun q => Ec_some ⟨hb, fq, C1, (bi_f (fun v => q v.2)).symm⟩)
  · subst e
    rw [if_pos rfl]; exact Ec_some ⟨hb, fq, C1, (bi_f (fun v => w v.1)).symm⟩
end
