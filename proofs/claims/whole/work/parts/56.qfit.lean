/-! ===== the class answers: where a sketch fits ===== -/
def f5R (x : Int) : Prop := 250 ≤ x ∧ x ≤ 254
section
variable {μ μ' : Mm} {b : Int → Int} {vb n kk yr m lo hi p k : Int} {s : Int → Int}
theorem Ca.ft (h : Ca μ b vb) (f : Fw f5R μ μ') (F : FtF μ') : Ca μ' b vb := by
  obtain ⟨⟨a, c, d, e, g, i⟩, hs⟩ := h
  refine ⟨⟨a.fw f (fun x x0 x1 => by unfold f5R; omega), c.fw f (by unfold f5R; omega), F, ?_, ?_, i.e (f 101 (by unfold f5R; omega)) (fun x a b => by rw [f 0 (by unfold f5R; omega)])⟩, fun n h0 h1 => (hs n h0 h1).fw f (by rw [f 102 (by unfold f5R; omega)]) (fun x a b => by unfold f5R; omega) (fun x a b => by rw [f 0 (by unfold f5R; omega)])⟩
  · unfold WkF; rw [f 300 (by unfold f5R; omega)]; exact e
  · unfold SkF; rw [f 290 (by unfold f5R; omega)]; exact g
theorem Nw.ft (h : Nw μ b) (f : Fw f5R μ μ') : Nw μ' b := h.fw f (by unfold f5R; omega) (fun x a b => by unfold f5R; omega)
theorem Bd_ft (f : Fw f5R μ μ') : Bd μ' = Bd μ := Bd_e (f 101 (by unfold f5R; omega)) (f 102 (by unfold f5R; omega)) (f 10002 (by unfold f5R; omega)) (f 12002 (by unfold f5R; omega))
theorem Rq_ft {x : Int} (h : f5R x) : Rq x := by unfold f5R at h; unfold Rq; omega
/-- the fitter holds the sketch kk against land n -/
def Fz (μ : Mm) (b : Int → Int) (vb n kk : Int) (s : Int → Int) (yr m lo hi : Int) : Prop := Nw μ b ∧ Ca μ b vb ∧ isL b n ∧ (μ 250 0 = 1010 + 10 * n ∧ μ 250 1 = kk) ∧ (Sk μ kk s ∧ SkOk s ∧ (kk = 290 ∨ 1040 ≤ kk ∧ kk < 1090)) ∧ Spn μ (lg b n) s yr m (lg b n 5) ∧ μ 250 5 = lo ∧ μ 250 6 = hi
theorem Spn.e {g : Int → Int} {q : Int} (h : Spn μ g s yr m q) (e : ∀ i, i ≠ 2 → i ≠ 5 → i ≠ 6 → μ' 250 i = μ 250 i) (e1 : μ' 251 = μ 251) : Spn μ' g s yr m q := by
  unfold Spn Srt; rw [e 3 (by decide) (by decide) (by decide), e 7 (by decide) (by decide) (by decide), e 8 (by decide) (by decide) (by decide), e1]; exact h
theorem Fz.sp (h : Fz μ b vb n kk s yr m lo hi) (f : Fw sp2 μ μ') : Fz μ' b vb n kk s yr m lo hi := by
  obtain ⟨h1, h2, h3, h4, h5, h6, h7⟩ := h
  have f' : Fw f5R μ μ' := f.mo (fun x hx => by unfold sp2 at hx; unfold f5R; omega)
  have r : μ' 250 = μ 250 := f 250 (by unfold sp2; omega)
  refine ⟨h1.ft f', h2.ft f' (by unfold FtF; rw [r]; exact h2.1.2.2.1), h3, by rw [r]; exact h4, ⟨h5.1.fw f (fun x a b => by unfold sp2; have := h5.2.2; omega), h5.2⟩, h6.e (fun i _ _ _ => by rw [r]) (f 251 (by unfold sp2; omega)), by rw [r]; exact h7⟩
theorem c_takesUp (hW : Nw μ b) (hC : Ca μ b vb) (n k yr : Int) : Ev (fX10_takesUp 100 n k yr μ) (fun r => (r.1 = 1 ∧ ((isL b n ∧ isS b k) ∧ -1 ≤ yr ∧ yr ≤ 99) ∧ Fw aR μ r.2 ∧ ∃ m, Fz r.2 b vb n (1040 + 10 * k) (ls b k) yr m 0 (m - 1)) ∨ (r.1 = 0 ∧ ¬((isL b n ∧ isS b k) ∧ -1 ≤ yr ∧ yr ≤ 99) ∧ r.2 = μ)) := by
  have n0 := hW.n0; have n1 := hW.n1
  unfold fX10_takesUp
  simp (disch := omega) only [w32_eq, w64_eq, chk_T, chk_t, lt, lm, ob, Int.add_zero, Int.zero_add, true_and, and_true, if_true, if_false, K100, K101, K102, K103, K104, K200, K201, K230, K231, K232, K233, K234, K235, K236, K237, K250, K251, K252, K253, K254, K300, K301, K302, K303, K304, N101, N102, N103, N104, N201, N232, N233, N234, N235, N236, N237, N251, N252, N253, N254, N301, N302, N303, N304, c_landAt hW, c_sketchAt hW]
  by_cases hn : isL b n
  · have hn1 := hn.1; have hn2 := hn.2
    rw [sel_t hn, if_neg (by omega)]
    by_cases hk : isS b k
    · have hk1 := hk.1; have hk2 := hk.2
      rw [sel_t hk, if_neg (by omega)]
      by_cases hy : -1 ≤ yr ∧ yr ≤ 99
      · rw [if_neg (by omega), if_pos (by omega)]
        simp (disch := omega) only [w32_eq, w64_eq, chk_T, chk_t, lt, lm, ob, Int.add_zero, Int.zero_add, true_and, and_true, if_true, if_false, K100, K101, K102, K103, K104, K200, K201, K230, K231, K232, K233, K234, K235, K236, K237, K250, K251, K252, K253, K254, K300, K301, K302, K303, K304, N101, N102, N103, N104, N201, N232, N233, N234, N235, N236, N237, N251, N252, N253, N254, N301, N302, N303, N304, X10F.f0 hW.1, X10F.f1 hW.1, X10F.f2 hW.1, X10F.f3 hW.1, X10F.f4 hW.1, X10F.f5 hW.1, X10F.f6 hW.1, X10F.f7 hW.1, X10F.f8 hW.1, X10F.f9 hW.1, X10F.f10 hW.1]
        refine Ev_bind (c_hold hC.1.2.2.1 (hW.la hn1 hn2) (hW.sk hk1 hk2) (hW.ld hn1 hn2) (hW.so hk1 hk2) hy (by unfold far5; omega) (by unfold far5; omega)) ?_
        rintro μ1 ⟨f1, m, ⟨F1, e1, S1, e5, e6⟩⟩
        have f1' : Fw f5R μ μ1 := f1.mo (fun x hx => by unfold aR at hx; unfold f5R; omega)
        exact Ev_some (.inl ⟨rfl, ⟨⟨hn, hk⟩, hy⟩, f1, m, hW.ft f1', hC.ft f1' F1, hn, e1, ⟨(hW.sk hk1 hk2).fw f1 (fun x a b => by unfold aR; omega), hW.so hk1 hk2, by omega⟩, S1, e5, e6⟩)
      · refine Ev_ite (fun _ => Ev_some (.inr ⟨rfl, fun w => hy w.2, rfl⟩)) (fun _ => ?_)
        rw [if_neg (by omega)]; exact Ev_some (.inr ⟨rfl, fun w => hy w.2, rfl⟩)
    · rw [sel_f hk, if_pos rfl]; exact Ev_some (.inr ⟨rfl, fun w => hk w.1.2, rfl⟩)
  · rw [sel_f hn, if_pos rfl]; exact Ev_some (.inr ⟨rfl, fun w => hn w.1.1, rfl⟩)
/-- the fitter faces a line -/
theorem Fz.face {L : Int} (h : Fz μ b vb n kk s yr m lo hi) (hp : Pl (lg b n) p) (hL : Li μ L (lg b n) p) (hr : L = 240 ∨ 10000 ≤ L) : Fz (mst μ 250 2 L) b vb n kk s yr m lo hi ∧ Ft (mst μ 250 2 L) (1010 + 10 * n) kk L (lg b n) s p ∧ Bd (mst μ 250 2 L) = Bd μ ∧ Fw f5R μ (mst μ 250 2 L) := by
  obtain ⟨h1, h2, h3, h4, h5, h6, h7⟩ := h
  have n0 := h1.n0; have hn1 := h3.1; have hn2 := h3.2
  have f : Fw f5R μ (mst μ 250 2 L) := Fw.s0 (by unfold f5R; omega)
  have F : FtF (mst μ 250 2 L) := by
    obtain ⟨q1, q2, q3, q4⟩ := h2.1.2.2.1
    unfold FtF; simp (disch := omega) only [mst_n, mst_s, mst_j, ]; exact ⟨q1, q2, q3, q4⟩
  have e4 : mst μ 250 2 L 250 0 = 1010 + 10 * n ∧ mst μ 250 2 L 250 1 = kk := by simp (disch := omega) only [mst_n, mst_s, mst_j, ]; exact h4
  have S5 : Sk (mst μ 250 2 L) kk s := h5.1.fw f (fun x a b => by unfold f5R; have := h5.2.2; omega)
  have N1 := h1.ft f
  refine ⟨⟨N1, h2.ft f F, h3, e4, ⟨S5, h5.2⟩, h6.e (fun i w _ _ => by rw [mst_j w]) (mst_n (by decide)), by simp (disch := omega) only [mst_n, mst_s, mst_j, ]; exact h7⟩, ⟨⟨F, e4.1, e4.2, mst_s⟩, N1.la hn1 hn2, S5, hL.fw f (fun x a b => by unfold f5R; omega), ⟨N1.ld hn1 hn2, h5.2.1, hp⟩, by unfold far5; omega, by unfold far5; have := h5.2.2; omega, by unfold far5; omega⟩, Bd_ft f, f⟩
theorem Fz.ln (h : Fz μ b vb n kk s yr m lo hi) (f : Fw (lnR (10000 + 2000 * n) p) μ μ') (hp : Pl (lg b n) p) (hN : Nw μ' b) (hC : Ca μ' b vb) : Fz μ' b vb n kk s yr m lo hi := by
  obtain ⟨h1, h2, h3, h4, h5, h6, h7⟩ := h
  have n0 := h1.n0; have hn1 := h3.1; have hn2 := h3.2; have bp := Pl.i (h1.ld hn1 hn2) hp
  have r : μ' 250 = μ 250 := f 250 (by unfold lnR sR0; omega)
  refine ⟨hN, hC, h3, by rw [r]; exact h4, ⟨h5.1.fw f (fun x a b => by unfold lnR sR0; have := h5.2.2; omega), h5.2⟩, h6.e (fun i _ _ _ => by rw [r]) (f 251 (by unfold lnR sR0; omega)), by rw [r]; exact h7⟩
/-- one line after the other, each faced -/
theorem c_lnF {μ0 : Mm} (h : Fz μ b vb n kk s yr m lo hi) (f0 : Fw Rq μ0 μ) (hs : μ 102 n ≠ 0) (hp : Pl (lg b n) p) : Ec (fX4_lineOf (10000 + 2000 * n) p μ) (Bd μ) (fun r b' => b' = Bd (mst r.2 250 2 r.1) ∧ r.1 = 10100 + 2000 * n + 10 * p ∧ Fw Rq μ0 (mst r.2 250 2 r.1) ∧ r.2 100 = μ 100 ∧ r.2 102 n ≠ 0 ∧ Fz (mst r.2 250 2 r.1) b vb n kk s yr m lo hi ∧ Ft (mst r.2 250 2 r.1) (1010 + 10 * n) kk r.1 (lg b n) s p ∧ Fw (fun x => Rq x ∧ ¬(x = 103 ∨ x = 104 ∨ x = 251)) μ (mst r.2 250 2 r.1) ∧ ∀ pp, 0 ≤ pp → pp < 144 → Li μ (10100 + 2000 * n + 10 * pp) (lg b n) pp → Li (mst r.2 250 2 r.1) (10100 + 2000 * n + 10 * pp) (lg b n) pp) := by
  have hW := h.1; have hC := h.2.1; have hL := h.2.2.1
  have n0 := hW.n0
  have hn2 : 0 ≤ n ∧ n < 2 := by have := hL.1; have := hL.2; omega
  have b1 := Pl.i (hW.ld hL.1 hL.2) hp
  refine Ec_mono (c_lineOf hW hC hL hs hp) ?_
  rintro ⟨r, μ1⟩ b' ⟨h1, h2, h3, h4, h5⟩
  dsimp only at h1 h2 h3 h4 h5 ⊢
  have fq : Fw Rq μ μ1 := h3.mo (fun x hx => lnR_q hn2 b1 hx)
  have F1 := h.ln h3 hp (hW.q fq) h4
  subst h2
  obtain ⟨A, B, C, D⟩ := F1.face hp h5 (.inr (by omega))
  refine ⟨by rw [C]; exact h1, rfl, (f0.tr fq).tr (D.mo (fun x hx => Rq_ft hx)), h3 100 (by unfold lnR sR0; omega), ?_, A, B, (h3.mo (fun x hx => ⟨lnR_q hn2 b1 hx, by unfold lnR sR0 at hx; omega⟩)).st ⟨by unfold Rq; omega, by omega⟩, fun pp p0 p1 hl => ?_⟩
  · rw [h3 102 (by unfold lnR sR0; omega)]; exact hs
  · have hl1 : Li μ1 (10100 + 2000 * n + 10 * pp) (lg b n) pp := by
      by_cases e : pp = p
      · subst e; exact h5
      · exact hl.fw h3 (fun x a b => by unfold lnR sR0; omega)
    exact hl1.fw D (fun x a b => by unfold f5R; omega)
theorem c_faces (hW : Nw μ b) (hC : Ca μ b vb) (hvb : 0 ≤ vb) (n k p yr : Int) : Ec (fX10_facesPlace 100 n k p yr μ) (Bd μ) (fun r b' => b' = Bd r.2 ∧ Fw Rq μ r.2 ∧ ((r.1 = 1 ∧ ((-1 ≤ yr ∧ yr ≤ 99) ∧ (isL b n ∧ isS b k) ∧ Pl (lg b n) p) ∧ ∃ m, Fz r.2 b vb n (1040 + 10 * k) (ls b k) yr m 0 (m - 1) ∧ Ft r.2 (1010 + 10 * n) (1040 + 10 * k) (10100 + 2000 * n + 10 * p) (lg b n) (ls b k) p) ∨ (r.1 = 0 ∧ ¬((-1 ≤ yr ∧ yr ≤ 99) ∧ (isL b n ∧ isS b k) ∧ Pl (lg b n) p) ∧ Ca r.2 b vb))) := by
  unfold fX10_facesPlace
  simp (disch := omega) only [w32_eq, w64_eq, chk_T, chk_t, lt, lm, ob, Int.add_zero, Int.zero_add, true_and, and_true, if_true, if_false, K100, K101, K102, K103, K104, K200, K201, K230, K231, K232, K233, K234, K235, K236, K237, K250, K251, K252, K253, K254, K300, K301, K302, K303, K304, N101, N102, N103, N104, N201, N232, N233, N234, N235, N236, N237, N251, N252, N253, N254, N301, N302, N303, N304, ]
  refine Ec_bind (c_lineAt hW hC hvb) ?_
  rintro ⟨r, μ1⟩ b1 ⟨hb, hr, f1, C1, L1⟩ cc nn
  refine ⟨_, rfl, ?_⟩
  dsimp only at hb hr f1 C1 L1 ⊢
  have fq : Fw Rq μ μ1 := f1.mo (fun x hx => Rq_l hx)
  have N1 := hW.q fq
  by_cases hP : isP b n p
  · have L := L1 hP
    have hp1 := hP.1.1; have hp2 := hP.2.1
    rw [hr, sel_t hP] at L
    rw [hr, sel_t hP, if_neg (by omega)]
    refine Ec_bindE (c_takesUp N1 C1 n k yr) ?_
    rintro ⟨t, μ2⟩ (⟨e, w, f2, m, hz⟩ | ⟨e, w, e2⟩)
    · dsimp only at e f2 hz ⊢
      subst e
      rw [if_neg (by decide)]
      have f2' : Fw f5R μ1 μ2 := f2.mo (fun x hx => by unfold aR at hx; unfold f5R; omega)
      have L2 : Li μ2 (10100 + 2000 * n + 10 * p) (lg b n) p := L.fw f2 (fun x a b => by unfold aR; omega)
      obtain ⟨A, B, C, D⟩ := hz.face hP.2 L2 (.inr (by omega))
      simp (disch := omega) only [w32_eq, w64_eq, chk_T, chk_t, lt, lm, ob, Int.add_zero, Int.zero_add, true_and, and_true, if_true, if_false, K100, K101, K102, K103, K104, K200, K201, K230, K231, K232, K233, K234, K235, K236, K237, K250, K251, K252, K253, K254, K300, K301, K302, K303, K304, N101, N102, N103, N104, N201, N232, N233, N234, N235, N236, N237, N251, N252, N253, N254, N301, N302, N303, N304, X10F.f0 hz.1.1, X10F.f1 hz.1.1, X10F.f2 hz.1.1, X10F.f3 hz.1.1, X10F.f4 hz.1.1, X10F.f5 hz.1.1, X10F.f6 hz.1.1, X10F.f7 hz.1.1, X10F.f8 hz.1.1, X10F.f9 hz.1.1, X10F.f10 hz.1.1]
      refine Ec_some ⟨?_, ?_, .inl ⟨rfl, ⟨w.2, w.1, hP.2⟩, m, A, B⟩⟩
      · dsimp only; rw [C, Bd_ft f2']; exact hb
      · exact (fq.tr (f2'.mo (fun x hx => Rq_ft hx))).tr (D.mo (fun x hx => Rq_ft hx))
    · dsimp only at e e2 ⊢
      subst e e2
      rw [if_pos rfl]
      exact Ec_some ⟨hb, fq, .inr ⟨rfl, fun v => w ⟨v.2.1, v.1⟩, C1⟩⟩
  · rw [hr, sel_f hP, if_pos rfl]
    exact Ec_some ⟨hb, fq, .inr ⟨rfl, fun v => hP ⟨v.2.1.1, v.2.2⟩, C1⟩⟩
theorem Fz.rch {c k L : Int} (h : Fz μ b vb n kk s yr m 0 (m - 1)) (hf : Ft μ c k L (lg b n) s p) (hyr : -1 ≤ yr ∧ yr ≤ 99) : Rch μ (lg b n) p (fun st => fO (lg b n) s p st yr) := c_rch hf hyr h.2.2.2.2.2.1 h.2.2.2.2.2.2.1 h.2.2.2.2.2.2.2
theorem Rq_sp {x : Int} (h : sp2 x) : Rq x := by unfold sp2 at h; unfold Rq; omega
theorem q_first (hW : Nw μ b) (hC : Ca μ b vb) (hvb : 0 ≤ vb) (n k p st yr : Int) : Ec (fX10_first 100 n k p st yr μ) (Bd μ) (QP μ b vb (fun r => r = zzFirst b n k p st yr)) := by
  unfold fX10_first zzFirst
  simp (disch := omega) only [w32_eq, w64_eq, chk_T, chk_t, lt, lm, ob, Int.add_zero, Int.zero_add, true_and, and_true, if_true, if_false, K100, K101, K102, K103, K104, K200, K201, K230, K231, K232, K233, K234, K235, K236, K237, K250, K251, K252, K253, K254, K300, K301, K302, K303, K304, N101, N102, N103, N104, N201, N232, N233, N234, N235, N236, N237, N251, N252, N253, N254, N301, N302, N303, N304, ]
  refine Ec_bind (c_faces hW hC hvb n k p yr) ?_
  rintro ⟨r, μ1⟩ b1 ⟨hb, fq, h⟩ cc nn
  refine ⟨_, rfl, ?_⟩
  dsimp only at hb fq h ⊢
  rcases h with ⟨e, w, m, hz, hf⟩ | ⟨e, w, C1⟩
  · subst e
    rw [if_neg (by decide)]
    have e2 := hf.1.2.2.2; have hL := hf.2.2.2.1
    simp (disch := omega) only [w32_eq, w64_eq, chk_T, chk_t, lt, lm, ob, Int.add_zero, Int.zero_add, true_and, and_true, if_true, if_false, K100, K101, K102, K103, K104, K200, K201, K230, K231, K232, K233, K234, K235, K236, K237, K250, K251, K252, K253, K254, K300, K301, K302, K303, K304, N101, N102, N103, N104, N201, N232, N233, N234, N235, N236, N237, N251, N252, N253, N254, N301, N302, N303, N304, X10F.f0 hz.1.1, X10F.f1 hz.1.1, X10F.f2 hz.1.1, X10F.f3 hz.1.1, X10F.f4 hz.1.1, X10F.f5 hz.1.1, X10F.f6 hz.1.1, X10F.f7 hz.1.1, X10F.f8 hz.1.1, X10F.f9 hz.1.1, X10F.f10 hz.1.1, e2, hL.1.k, c_hasHump hL hf.2.2.2.2.1.1 hf.2.2.2.2.1.2.2, bi_if]
    by_cases v : 0 ≤ st ∧ st < hN (lg b n) p
    · rw [sel_t v, sel_t ⟨w.1, w.2.1, w.2.2, v⟩]
      refine Ec_bindE (hz.rch hf w.1 μ1 Fw.rf st v.1 v.2) ?_
      rintro ⟨r, μ2⟩ ⟨f2, e⟩
      have f2' : Fw f5R μ1 μ2 := f2.mo (fun x hx => by unfold sp2 at hx; unfold f5R; omega)
      exact Ec_some ⟨by rw [Bd_ft f2']; exact hb, fq.tr (f2.mo (fun x hx => Rq_sp hx)), (hz.sp f2).2.1, e⟩
    · rw [sel_f v, sel_f (fun u => v u.2.2.2)]; exact Ec_some ⟨hb, fq, hz.2.1, rfl⟩
  · subst e
    rw [if_pos rfl, sel_f (fun u => w ⟨u.1, u.2.1, u.2.2.1⟩)]
    exact Ec_some ⟨hb, fq, C1, rfl⟩
theorem q_fits (hW : Nw μ b) (hC : Ca μ b vb) (hvb : 0 ≤ vb) (n k p yr : Int) : Ec (fX10_fits 100 n k p yr μ) (Bd μ) (QP μ b vb (ZFits b n k p yr)) := by
  unfold fX10_fits
  simp (disch := omega) only [w32_eq, w64_eq, chk_T, chk_t, lt, lm, ob, Int.add_zero, Int.zero_add, true_and, and_true, if_true, if_false, K100, K101, K102, K103, K104, K200, K201, K230, K231, K232, K233, K234, K235, K236, K237, K250, K251, K252, K253, K254, K300, K301, K302, K303, K304, N101, N102, N103, N104, N201, N232, N233, N234, N235, N236, N237, N251, N252, N253, N254, N301, N302, N303, N304, ]
  refine Ec_bind (c_faces hW hC hvb n k p yr) ?_
  rintro ⟨r, μ1⟩ b1 ⟨hb, fq, h⟩ cc nn
  refine ⟨_, rfl, ?_⟩
  dsimp only at hb fq h ⊢
  rcases h with ⟨e, w, m, hz, hf⟩ | ⟨e, w, C1⟩
  · subst e
    rw [if_neg (by decide)]
    simp (disch := omega) only [w32_eq, w64_eq, chk_T, chk_t, lt, lm, ob, Int.add_zero, Int.zero_add, true_and, and_true, if_true, if_false, K100, K101, K102, K103, K104, K200, K201, K230, K231, K232, K233, K234, K235, K236, K237, K250, K251, K252, K253, K254, K300, K301, K302, K303, K304, N101, N102, N103, N104, N201, N232, N233, N234, N235, N236, N237, N251, N252, N253, N254, N301, N302, N303, N304, X10F.f0 hz.1.1, X10F.f1 hz.1.1, X10F.f2 hz.1.1, X10F.f3 hz.1.1, X10F.f4 hz.1.1, X10F.f5 hz.1.1, X10F.f6 hz.1.1, X10F.f7 hz.1.1, X10F.f8 hz.1.1, X10F.f9 hz.1.1, X10F.f10 hz.1.1]
    refine Ec_bindE (c_leastStart hf (hz.rch hf w.1)) ?_
    rintro ⟨r, μ2⟩ ⟨f2, e⟩
    have f2' : Fw f5R μ1 μ2 := f2.mo (fun x hx => by unfold sp2 at hx; unfold f5R; omega)
    exact Ec_some ⟨by rw [Bd_ft f2']; exact hb, fq.tr (f2.mo (fun x hx => Rq_sp hx)), (hz.sp f2).2.1, .inl ⟨w, e⟩⟩
  · subst e
    rw [if_pos rfl]
    exact Ec_some ⟨hb, fq, C1, .inr ⟨w, rfl⟩⟩
end
