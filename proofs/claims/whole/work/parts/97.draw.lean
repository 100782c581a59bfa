/-! ===== draw, scrawl of the class ===== -/
def slt (m at' : Int) : Int := if at' = -1 then (if 4 ≤ m then -2 else m) else if at' < 0 then -2 else if m ≤ at' then -2 else at'
def nR0 (x : Int) : Prop := 1000 ≤ x ∧ x < 1100
section
variable {μ μ' : Mm} {b b' : Int → Int} {vb n p st m : Int}
theorem slt_b {k a : Int} (hb : 0 ≤ k ∧ k ≤ 4) (h : slt k a ≠ -2) : (0 ≤ slt k a ∧ slt k a < 4) ∧ slt k a ≤ k := by
  unfold slt at *
  split at h
  · split at h
    · exact absurd rfl h
    · rw [if_pos (by assumption), if_neg (by assumption)]; omega
  · split at h
    · exact absurd rfl h
    · split at h
      · exact absurd rfl h
      · rw [if_neg (by assumption), if_neg (by assumption), if_neg (by assumption)]; omega
theorem c_slotFor (hW : Nw μ b) (a : Int) : fX10_slotFor 100 1 a μ = some (slt (b 1) a) := by
  have t5 : μ 1000 5 = b 1 := hW.2.2.2.1.2.2.2.2
  unfold fX10_slotFor jX10_slotFor_12 jX10_slotFor_33 jX10_slotFor_43 slt
  rw [if_neg (by decide), if_pos rfl, if_neg (by decide)]
  simp (disch := omega) only [w32_eq, w64_eq, chk_T, chk_t, lt, lm, ob, Int.add_zero, Int.zero_add, true_and, and_true, if_true, if_false, K100, K101, K102, K103, K104, K200, K201, K230, K231, K232, K233, K234, K235, K236, K237, K250, K251, K252, K253, K254, K300, K301, K302, K303, K304, N101, N102, N103, N104, N201, N232, N233, N234, N235, N236, N237, N251, N252, N253, N254, N301, N302, N303, N304, X10F.f0 hW.1, X10F.f1 hW.1, X10F.f2 hW.1, X10F.f3 hW.1, X10F.f4 hW.1, X10F.f5 hW.1, X10F.f6 hW.1, X10F.f7 hW.1, X10F.f8 hW.1, X10F.f9 hW.1, X10F.f10 hW.1, K1000, t5]
  rw [if_neg (by decide)]
  by_cases h1 : a = -1
  · rw [if_pos h1, if_pos h1]; split <;> rfl
  · rw [if_neg h1, if_neg h1]; split
    · rfl
    · split <;> rfl
theorem Ca.n0 (h : Ca μ b vb) (f : Fw nR0 μ μ') : Ca μ' b vb := ⟨h.1.fw f (by unfold nR0; omega) (by unfold nR0; omega) (by unfold nR0; omega) (by unfold nR0; omega) (by unfold nR0; omega) (f 101 (by unfold nR0; omega)) (fun x a b => by rw [f 0 (by unfold nR0; omega)]), fun n h0 h1 => (h.2 n h0 h1).fw f (by rw [f 102 (by unfold nR0; omega)]) (fun x a b => by unfold nR0; omega) (fun x a b => by rw [f 0 (by unfold nR0; omega)])⟩
theorem Bd_n0 (f : Fw nR0 μ μ') : Bd μ' = Bd μ := Bd_e (f 101 (by unfold nR0; omega)) (f 102 (by unfold nR0; omega)) (f 10002 (by unfold nR0; omega)) (f 12002 (by unfold nR0; omega))
/-- a sketch s is kept under a number, or nothing happens -/
def DP (μ : Mm) (b : Int → Int) (vb : Int) (ok : Prop) (a : Int) (s : Int → Int) (r : Int × Mm) (b0 : Int) : Prop := b0 = Bd r.2 ∧ Fw (fun x => Rq x ∨ nR0 x) μ r.2 ∧ ((¬ok ∧ r.1 = -1 ∧ Fw Rq μ r.2 ∧ Ca r.2 b vb) ∨ (ok ∧ r.1 = slt (b 1) a ∧ ∀ b', Us b b' r.1 s → Nw r.2 b' ∧ Ca r.2 b' vb))
theorem q_draw (hW : Nw μ b) (hC : Ca μ b vb) (hvb : 0 ≤ vb) (n p st m a : Int) : Ec (fX10_draw 100 n p st m a μ) (Bd μ) (DP μ b vb (slt (b 1) a ≠ -2 ∧ cD b n p st m 12) a (dw (lg b n) p st m)) := by
  have n0 := hW.n0; have n1 := hW.n1
  unfold fX10_draw
  simp (disch := omega) only [w32_eq, w64_eq, chk_T, chk_t, lt, lm, ob, Int.add_zero, Int.zero_add, true_and, and_true, if_true, if_false, K100, K101, K102, K103, K104, K200, K201, K230, K231, K232, K233, K234, K235, K236, K237, K250, K251, K252, K253, K254, K300, K301, K302, K303, K304, N101, N102, N103, N104, N201, N232, N233, N234, N235, N236, N237, N251, N252, N253, N254, N301, N302, N303, N304, ]
  refine Ec_bind (c_lineAt hW hC hvb) ?_
  rintro ⟨r2, μ2⟩ b2 ⟨hb, hr, f2, C2, L2⟩ cc nn
  refine ⟨_, rfl, ?_⟩
  dsimp only at hb hr f2 C2 L2 ⊢
  have fq : Fw Rq μ μ2 := f2.mo (fun x hx => Rq_l hx)
  have N2 := hW.q fq
  rw [c_slotFor N2]
  simp only [ob]
  have no : ¬(slt (b 1) a ≠ -2 ∧ cD b n p st m 12) → Ec (some (((-1 : Int), μ2), 0, 0)) b2 (DP μ b vb (slt (b 1) a ≠ -2 ∧ cD b n p st m 12) a (dw (lg b n) p st m)) := fun h => Ec_some ⟨hb, fq.mo (fun x hx => .inl hx), .inl ⟨h, rfl, fq, C2⟩⟩
  refine Ec_ite (fun z => no (fun u => u.1 z)) (fun z => ?_)
  have sb := slt_b (by omega) z
  rw [c_canDraw (b := b) (n := n) (p := p) (st := st) (most := 12) (fun q => N2.ld q.1.1 q.1.2) hr L2 m]
  simp only [ob, bi_if]
  by_cases c : cD b n p st m 12
  · have hD := N2.ld c.1.1.1 c.1.1.2
    have L := L2 c.1
    have hp := c.1.2
    have bp := Pl.i hD hp
    have c1 := c.1.1.1; have c2 := c.1.1.2
    rw [hr, sel_t c.1] at L
    rw [sel_t c, hr, sel_t c.1]
    simp (disch := omega) only [w32_eq, w64_eq, chk_T, chk_t, lt, lm, ob, Int.add_zero, Int.zero_add, true_and, and_true, if_true, if_false, K100, K101, K102, K103, K104, K200, K201, K230, K231, K232, K233, K234, K235, K236, K237, K250, K251, K252, K253, K254, K300, K301, K302, K303, K304, N101, N102, N103, N104, N201, N232, N233, N234, N235, N236, N237, N251, N252, N253, N254, N301, N302, N303, N304, X10F.f0 N2.1, X10F.f1 N2.1, X10F.f2 N2.1, X10F.f3 N2.1, X10F.f4 N2.1, X10F.f5 N2.1, X10F.f6 N2.1, X10F.f7 N2.1, X10F.f8 N2.1, X10F.f9 N2.1, X10F.f10 N2.1, K290]
    refine Ec_bindE (c_drawFrom C2.1.2.2.2.2.1 L hD hp c.2.1 ⟨c.2.2.1, c.2.2.2.2, c.2.2.2.1⟩ (by omega)) (fun μ5 ⟨f5, S5, B5⟩ => ?_)
    have N5 := N2.dr f5
    have C5 := C2.dr f5 S5.2.1
    have hO : SkOk (dw (lg b n) p st m) := dw_ok ⟨c.2.2.1, c.2.2.2.2⟩
    rw [N5.1.f7]
    refine Ec_bindE (c_keepSketch N5 sb.1 sb.2 S5 B5 hO) (fun μ6 ⟨f6, h6⟩ => ?_)
    have f6' : Fw nR0 μ5 μ6 := f6
    refine Ec_some ⟨?_, ?_, .inr ⟨⟨z, c⟩, rfl, fun b' hU => ⟨h6 b' hU, ?_⟩⟩⟩
    · dsimp only; rw [Bd_n0 f6', Bd_dr f5]; exact hb
    · exact ((fq.mo (fun x hx => .inl hx)).tr (f5.mo (fun x hx => .inl (Rq_dr hx)))).tr (f6'.mo (fun x hx => .inr hx))
    · exact Ca_c (fun k k0 k1 => Us_lg hU sb.1 ⟨k0, k1⟩) (hU.1 0 (by omega) (by omega) (by omega) (by omega)) (C5.n0 f6')
  · rw [sel_f c]; exact no (fun u => c u.2)
end
