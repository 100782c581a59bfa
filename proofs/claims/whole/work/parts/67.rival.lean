/-! ===== rivals, known: the class ===== -/
section
variable {μ μ' : Mm} {b : Int → Int} {vb n m lo hi p st : Int} {s : Int → Int}
theorem Ca.dr (h : Ca μ b vb) (f : Fw dR μ μ') (F : SkF μ' 290) : Ca μ' b vb := by
  obtain ⟨⟨a, c, d, e, g, i⟩, hs⟩ := h
  refine ⟨⟨a.fw f (fun x x0 x1 => by unfold dR; omega), c.fw f (by unfold dR; omega), ?_, ?_, F, i.e (f 101 (by unfold dR; omega)) (fun x a b => by rw [f 0 (by unfold dR; omega)])⟩, fun n h0 h1 => (hs n h0 h1).fw f (by rw [f 102 (by unfold dR; omega)]) (fun x a b => by unfold dR; omega) (fun x a b => by rw [f 0 (by unfold dR; omega)])⟩
  · unfold FtF; rw [f 250 (by unfold dR; omega)]; exact d
  · unfold WkF; rw [f 300 (by unfold dR; omega)]; exact e
theorem Nw.dr (h : Nw μ b) (f : Fw dR μ μ') : Nw μ' b := h.fw f (by unfold dR; omega) (fun x a b => by unfold dR; omega)
theorem Bd_dr (f : Fw dR μ μ') : Bd μ' = Bd μ := Bd_e (f 101 (by unfold dR; omega)) (f 102 (by unfold dR; omega)) (f 10002 (by unfold dR; omega)) (f 12002 (by unfold dR; omega))
theorem Rq_dr {x : Int} (h : dR x) : Rq x := by unfold dR at h; unfold Rq; omega
theorem c_holdD (hW : Nw μ b) (hC : Ca μ b vb) (hL : isL b n) (hS : Sk μ 290 s) (hO : SkOk s) : Ev (fX1_hold 250 (1010 + 10 * n) 290 (-1) μ) (fun μ1 => Fw aR μ μ1 ∧ ∃ m, Fz μ1 b vb n 290 s (-1) m 0 (m - 1)) := by
  have n0 := hW.n0; have hn1 := hL.1; have hn2 := hL.2
  refine Ev_mono (c_hold hC.1.2.2.1 (hW.la hn1 hn2) hS (hW.ld hn1 hn2) hO (by decide) (by unfold far5; omega) (by unfold far5; omega)) ?_
  rintro μ1 ⟨f1, m, ⟨F1, e1, S1, e5, e6⟩⟩
  have f1' := aR_f5 f1
  exact ⟨f1, m, hW.ft f1', hC.ft f1' F1, hL, e1, ⟨hS.fw f1 (fun x a b => by unfold aR; omega), hO, .inl rfl⟩, S1, e5, e6⟩
theorem c_canDraw {r most : Int} (hD : isP b n p → LdOk (lg b n)) (hr : r = sel (isP b n p) (10100 + 2000 * n + 10 * p) 0) (hL : isP b n p → Li μ r (lg b n) p) (mm : Int) : fX10_canDraw r st mm most μ = some (bi (cD b n p st mm most)) := by
  unfold fX10_canDraw
  by_cases z : isP b n p
  · have L := hL z
    have z1 := z.1.1; have z2 := z.2.1
    rw [hr, sel_t z] at L ⊢
    have e2 := L.2.2.1.2.1
    rw [if_neg (by omega)]
    simp (disch := omega) only [w32_eq, w64_eq, chk_T, chk_t, lt, lm, ob, Int.add_zero, Int.zero_add, true_and, and_true, if_true, if_false, L.1.k, c_hasHump L (hD z) z.2, e2, bi_if]
    by_cases y : 0 ≤ st ∧ st < hN (lg b n) p
    · rw [sel_t y]
      by_cases w1 : mm < 1
      · rw [if_pos w1, bi_f (fun v => by have := v.2.2.1; omega)]
      · rw [if_neg w1]
        by_cases w2 : hN (lg b n) p < mm
        · rw [if_pos w2, bi_f (fun v => by have := v.2.2.2.1; omega)]
        · rw [if_neg w2]
          by_cases w3 : most < mm
          · rw [if_pos w3, bi_f (fun v => by have := v.2.2.2.2; omega)]
          · rw [if_neg w3, bi_t (c := cD b n p st mm most) ⟨z, y, by omega, by omega, by omega⟩]
    · rw [sel_f y, bi_f (fun v => y v.2.1)]
  · rw [hr, sel_f z, if_pos rfl, bi_f (fun v => z v.1)]
theorem cf_rv {g : Int → Int} {mm : Int} (hL : LdOk g) : ct (cfP g (dw g p st mm) (fun q st' => fO g (dw g p st mm) q st' (-1)) p) (np g).toNat = rv g p st mm := by
  have nb := np_b hL
  unfold rv
  have fl := (ct_flat (c := fun q => ftp g (dw g p st mm) (-1) q ∧ q ≠ p) (v := fun k => k) (a := (np g).toNat) 144 (by omega) (fun i i0 i1 w => by have := w.1.1.2; omega)).1
  rw [fl]
  apply ct_c
  intro i i0 i1
  exact ⟨fun w => ⟨w.2, w.1⟩, fun w => ⟨w.2, w.1⟩⟩
theorem q_rivals (hW : Nw μ b) (hC : Ca μ b vb) (hvb : 0 ≤ vb) (n p st mm : Int) : Ec (fX10_rivals 100 n p st mm μ) (Bd μ) (QP μ b vb (fun r => r = zzRivals b n p st mm)) := by
  have n0 := hW.n0
  unfold fX10_rivals zzRivals
  simp (disch := omega) only [w32_eq, w64_eq, chk_T, chk_t, lt, lm, ob, Int.add_zero, Int.zero_add, true_and, and_true, if_true, if_false, K100, K101, K102, K103, K104, K200, K201, K230, K231, K232, K233, K234, K235, K236, K237, K250, K251, K252, K253, K254, K300, K301, K302, K303, K304, N101, N102, N103, N104, N201, N232, N233, N234, N235, N236, N237, N251, N252, N253, N254, N301, N302, N303, N304, ]
  refine Ec_bind (c_sceneAt hW hC hvb) ?_
  rintro ⟨r2, μ2⟩ b2 ⟨hb2, hr2, f2, C2, s2, sn2⟩ cc nn
  refine ⟨_, rfl, ?_⟩
  dsimp only at hb2 hr2 f2 C2 s2 sn2 ⊢
  have fq2 : Fw Rq μ μ2 := by
    by_cases hL : isL b n
    · have hn1 := hL.1; have hn2 := hL.2
      exact f2.mo (fun x hx => Rq_sc (by omega) hx)
    · rw [sn2 hL]; exact Fw.rf
  have N2 := hW.q fq2
  rw [hb2]
  refine Ec_bind (c_lineAt2 N2 C2 hvb) ?_
  rintro ⟨r4, μ4⟩ b4 ⟨hb4, hr4, f4, C4, L4, s4⟩ cc nn
  refine ⟨_, rfl, ?_⟩
  dsimp only at hb4 hr4 f4 C4 L4 s4 ⊢
  have fq4 : Fw Rq μ μ4 := fq2.tr (f4.mo (fun x hx => Rq_l hx))
  have N4 := hW.q fq4
  by_cases hL : isL b n
  · have hn1 := hL.1; have hn2 := hL.2
    have hD := N4.ld hn1 hn2
    have nb := np_b hD
    rw [hr2, sel_t hL, if_neg (by omega), c_canDraw (b := b) (n := n) (p := p) (st := st) (most := 12) (fun _ => hD) hr4 L4 mm]
    simp only [ob, bi_if]
    by_cases c : cD b n p st mm 12
    · have L := L4 c.1
      have hp := c.1.2
      have bp := Pl.i hD hp
      rw [hr4, sel_t c.1] at L
      rw [sel_t c, sel_t c, hr4, sel_t c.1]
      simp (disch := omega) only [w32_eq, w64_eq, chk_T, chk_t, lt, lm, ob, Int.add_zero, Int.zero_add, true_and, and_true, if_true, if_false, K100, K101, K102, K103, K104, K200, K201, K230, K231, K232, K233, K234, K235, K236, K237, K250, K251, K252, K253, K254, K300, K301, K302, K303, K304, N101, N102, N103, N104, N201, N232, N233, N234, N235, N236, N237, N251, N252, N253, N254, N301, N302, N303, N304, X10F.f0 N4.1, X10F.f1 N4.1, X10F.f2 N4.1, X10F.f3 N4.1, X10F.f4 N4.1, X10F.f5 N4.1, X10F.f6 N4.1, X10F.f7 N4.1, X10F.f8 N4.1, X10F.f9 N4.1, X10F.f10 N4.1, K290]
      refine Ec_bindE (c_drawFrom C4.1.2.2.2.2.1 L hD hp c.2.1 ⟨c.2.2.1, c.2.2.2.2, c.2.2.2.1⟩ (by omega)) (fun μ5 ⟨f5, S5, _⟩ => ?_)
      have N5 := N4.dr f5
      have C5 := C4.dr f5 S5.2.1
      have s5 : μ5 102 n ≠ 0 := by rw [f5 102 (by unfold dR; omega)]; exact s4 hL
      obtain ⟨k1, k2, k3, k4⟩ := sc_k N5 C5 hL s5
      simp (disch := omega) only [w32_eq, w64_eq, chk_T, chk_t, lt, lm, ob, Int.add_zero, Int.zero_add, true_and, and_true, if_true, if_false, K100, K101, K102, K103, K104, K200, K201, K230, K231, K232, K233, K234, K235, K236, K237, K250, K251, K252, K253, K254, K300, K301, K302, K303, K304, N101, N102, N103, N104, N201, N232, N233, N234, N235, N236, N237, N251, N252, N253, N254, N301, N302, N303, N304, X10F.f0 N5.1, X10F.f1 N5.1, X10F.f2 N5.1, X10F.f3 N5.1, X10F.f4 N5.1, X10F.f5 N5.1, X10F.f6 N5.1, X10F.f7 N5.1, X10F.f8 N5.1, X10F.f9 N5.1, X10F.f10 N5.1, k1, k2]
      refine Ec_bindE (c_holdD N5 C5 hL S5 (dw_ok ⟨c.2.2.1, c.2.2.2.2⟩)) (fun μ6 ⟨f6, m, hz⟩ => ?_)
      have f6' := aR_f5 f6
      have fq6 : Fw Rq μ μ6 := (fq4.tr (f5.mo (fun x hx => Rq_dr hx))).tr (f6'.mo (fun x hx => Rq_ft hx))
      have s6 : μ6 102 n ≠ 0 := by rw [f6 102 (by unfold aR; omega)]; exact s5
      have bb : b4 = Bd μ6 := by rw [Bd_ft f6', Bd_dr f5]; exact hb4
      rw [bb]
      refine Ec_bind (c_count (F := fun q st' => fO (lg b n) (dw (lg b n) p st mm) q st' (-1)) (but := p) (most := 144) hz rfl (fun μ1 q L a1 _ a3 => a1.rch a3 (by decide)) (by decide) fq6 s6) ?_
      rintro ⟨r7, μ7⟩ b7 ⟨hb7, fq7, z7, _, _, e7, _⟩ cc nn
      refine ⟨_, rfl, Ec_some ⟨hb7, fq7, z7.2.1, ?_⟩⟩
      dsimp only at e7 ⊢
      have cb1 := ct_b (cfP (lg b n) (dw (lg b n) p st mm) (fun q st' => fO (lg b n) (dw (lg b n) p st mm) q st' (-1)) p) (np (lg b n)).toNat
      rw [e7, if_pos (by omega), cf_rv hD]
    · rw [sel_f c, sel_f c]; exact Ec_some ⟨hb4, fq4, C4, rfl⟩
  · rw [hr2, sel_f hL, if_pos rfl, sel_f (fun c => hL c.1.1)]
    exact Ec_some ⟨hb4, fq4, C4, rfl⟩
end
