/-! ===== scrawl of the class; draw, scrawl of the reference ===== -/
section
variable {μ μ' : Mm} {b b' : Int → Int} {vb : Int}
theorem dw_99 {g : Int → Int} {p st m i : Int} (hm : 1 ≤ m ∧ m ≤ 12) (i0 : 0 ≤ i) (i1 : i < dw g p st m 0) : dw g p st m (7 + i) ≤ 99 := by
  rw [dw_0] at i1
  rw [dw_7 i0 i1]; have := dwT_b (g := g) (p := p) (st := st) (n := m) (i := i) (by omega); omega
theorem q_scrawl (hW : Nw μ b) (hC : Ca μ b vb) (hvb : 0 ≤ vb) (n p st m seed e a : Int) : Ec (fX10_scrawl 100 n p st m seed e a μ) (Bd μ) (DP μ b vb (slt (b 1) a ≠ -2 ∧ cD b n p st m 9 ∧ 0 ≤ e ∧ e ≤ 20) a (sw (dw (lg b n) p st m) seed e)) := by
  have n0 := hW.n0; have n1 := hW.n1
  unfold fX10_scrawl
  simp (disch := omega) only [w32_eq, w64_eq, chk_T, chk_t, lt, lm, ob, Int.add_zero, Int.zero_add, true_and, and_true, if_true, if_false, K100, K101, K102, K103, K104, K200, K201, K230, K231, K232, K233, K234, K235, K236, K237, K250, K251, K252, K253, K254, K300, K301, K302, K303, K304, N101, N102, N103, N104, N201, N232, N233, N234, N235, N236, N237, N251, N252, N253, N254, N301, N302, N303, N304, ]
  refine Ec_bind (c_lineAt hW hC hvb) ?_
  rintro ⟨r2, μ2⟩ b2 ⟨hb, hr, f2, C2, L2⟩ cc nn
  refine ⟨_, rfl, ?_⟩
  dsimp only at hb hr f2 C2 L2 ⊢
  have fq : Fw Rq μ μ2 := f2.mo (fun x hx => Rq_l hx)
  have N2 := hW.q fq
  rw [c_slotFor N2]
  simp only [ob]
  have no : ¬(slt (b 1) a ≠ -2 ∧ cD b n p st m 9 ∧ 0 ≤ e ∧ e ≤ 20) → Ec (some (((-1 : Int), μ2), 0, 0)) b2 (DP μ b vb (slt (b 1) a ≠ -2 ∧ cD b n p st m 9 ∧ 0 ≤ e ∧ e ≤ 20) a (sw (dw (lg b n) p st m) seed e)) := fun h => Ec_some ⟨hb, fq.mo (fun x hx => .inl hx), .inl ⟨h, rfl, fq, C2⟩⟩
  refine Ec_ite (fun z => no (fun u => u.1 z)) (fun z => ?_)
  have sb := slt_b (by omega) z
  rw [c_canDraw (b := b) (n := n) (p := p) (st := st) (most := 9) (fun q => N2.ld q.1.1 q.1.2) hr L2 m]
  simp only [ob, bi_if]
  by_cases c : cD b n p st m 9
  · rw [sel_t c]
    refine Ec_ite (fun z1 => no (fun u => by omega)) (fun z1 => ?_)
    refine Ec_ite (fun z2 => ?_) (fun z2 => no (fun u => by omega))
    have hD := N2.ld c.1.1.1 c.1.1.2
    have L := L2 c.1
    have hp := c.1.2
    have bp := Pl.i hD hp
    have c1 := c.1.1.1; have c2 := c.1.1.2
    have m1 := c.2.2.1; have m2 := c.2.2.2.1; have m3 := c.2.2.2.2
    rw [hr, sel_t c.1] at L
    rw [hr, sel_t c.1]
    simp (disch := omega) only [w32_eq, w64_eq, chk_T, chk_t, lt, lm, ob, Int.add_zero, Int.zero_add, true_and, and_true, if_true, if_false, K100, K101, K102, K103, K104, K200, K201, K230, K231, K232, K233, K234, K235, K236, K237, K250, K251, K252, K253, K254, K300, K301, K302, K303, K304, N101, N102, N103, N104, N201, N232, N233, N234, N235, N236, N237, N251, N252, N253, N254, N301, N302, N303, N304, X10F.f0 N2.1, X10F.f1 N2.1, X10F.f2 N2.1, X10F.f3 N2.1, X10F.f4 N2.1, X10F.f5 N2.1, X10F.f6 N2.1, X10F.f7 N2.1, X10F.f8 N2.1, X10F.f9 N2.1, X10F.f10 N2.1, K290]
    refine Ec_bindE (c_drawFrom C2.1.2.2.2.2.1 L hD hp c.2.1 (by omega) (by omega)) (fun μ5 ⟨f5, S5, B5⟩ => ?_)
    have N5 := N2.dr f5
    have hO : SkOk (dw (lg b n) p st m) := dw_ok (by omega)
    simp (disch := omega) only [w32_eq, w64_eq, chk_T, chk_t, lt, lm, ob, Int.add_zero, Int.zero_add, true_and, and_true, if_true, if_false, K100, K101, K102, K103, K104, K200, K201, K230, K231, K232, K233, K234, K235, K236, K237, K250, K251, K252, K253, K254, K300, K301, K302, K303, K304, N101, N102, N103, N104, N201, N232, N233, N234, N235, N236, N237, N251, N252, N253, N254, N301, N302, N303, N304, X10F.f0 N5.1, X10F.f1 N5.1, X10F.f2 N5.1, X10F.f3 N5.1, X10F.f4 N5.1, X10F.f5 N5.1, X10F.f6 N5.1, X10F.f7 N5.1, X10F.f8 N5.1, X10F.f9 N5.1, X10F.f10 N5.1, K290]
    refine Ec_bindE (c_scrawlOver S5 B5 hO (fun i i0 i1 => dw_99 (by omega) i0 i1) (by omega)) (fun μ7 ⟨f7, S7, B7⟩ => ?_)
    have N7 := N5.dr f7
    have f57 := f5.tr f7
    have C7 := C2.dr f57 S7.2.1
    rw [N7.1.f7]
    refine Ec_bindE (c_keepSketch N7 sb.1 sb.2 S7 B7 (sw_ok hO (by omega))) (fun μ6 ⟨f6, h6⟩ => ?_)
    have f6' : Fw nR0 μ7 μ6 := f6
    refine Ec_some ⟨?_, ?_, .inr ⟨⟨z, c, by omega, by omega⟩, rfl, fun b' hU => ⟨h6 b' hU, ?_⟩⟩⟩
    · dsimp only; rw [Bd_n0 f6', Bd_dr f57]; exact hb
    · exact ((fq.mo (fun x hx => .inl hx)).tr (f57.mo (fun x hx => .inl (Rq_dr hx)))).tr (f6'.mo (fun x hx => .inr hx))
    · exact Ca_c (fun k k0 k1 => Us_lg hU sb.1 ⟨k0, k1⟩) (hU.1 0 (by omega) (by omega) (by omega) (by omega)) (C7.n0 f6')
  · rw [sel_f c]; exact no (fun u => c u.2.1)
end
