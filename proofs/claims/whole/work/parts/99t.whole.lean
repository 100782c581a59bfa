/-! ===== both read a text ===== -/
def refRead (v1 v2 : Int) (ρ : Mm) : Option Mm := (fX11_begins 20000 v1 ρ).bind fun μ34 => (fX11_advance 20000 μ34).bind fun μ35 => (lop (sX11_text_71 20000 v1 v2) FU μ35).bind fun μ37 => if μ37 20001 3 = 0 then fX11_last 20000 v1 μ37 else some μ37
def PR (ν0 : Mm) (b : Int → Int) (C : Mm → Mm → Prop) (ν ρ : Mm) : Prop := (Fw rdR ν0 ν ∧ RdI ν) ∧ (Md ρ ∧ ∀ x, x ≠ 3 → x ≠ 4 → ρ 20001 x = b x) ∧ (ρ 20001 3 = ν 200 2 ∧ ρ 20001 4 = ν 200 3) ∧ (0 ≤ ν 200 2 ∧ ν 200 2 ≤ 4 ∧ -1 ≤ ν 200 3 ∧ ν 200 3 ≤ 700 ∧ (ν 200 2 = 0 → ν 200 3 = -1)) ∧ (ν 200 2 = 0 → C ν ρ)
section
variable {μ0 ν ν' ν0 ν1 ν2 ρ ρ' ρ0 ρ1 ρ2 : Mm} {b t g : Int → Int} {n A B A' B' p a q k c v : Int} {s : Prop}
theorem QT_PR {C : Mm → Mm → Prop} (h : QT ν0 b t n A s ν ρ) (hC : ν 200 2 = 0 → C ν ρ) : PR ν0 b C ν ρ := ⟨⟨h.1.1, h.1.2.1⟩, ⟨h.2.1.1.1, h.2.1.2⟩, ⟨h.2.2.2.2.1.1, h.2.2.2.2.1.2.1⟩, h.2.2.2.2.2.1, hC⟩
theorem c_clear2 (h : RdI ν) : Ev (fX2_clear 210 ν) (fun ν' => Fw (fun x => x = 210 ∨ x = 211) ν ν' ∧ (ν' 210 0 = 4 ∧ ν' 210 1 = 4 ∧ ν' 210 2 = 0 ∧ ν' 210 3 = 0 ∧ ν' 210 4 = 999 ∧ ν' 210 5 = 0) ∧ (∀ j, 6 ≤ j → ν' 210 j = ν 210 j) ∧ ∀ i, 0 ≤ i → i < 144 → ν' 211 i = 0) := by
  have a6 : ν 210 6 = 211 := h.2.1.1.1
  unfold fX2_clear
  simp (disch := omega) only [w32_eq, w64_eq, chk_T, chk_t, lt, lm, ob, Int.add_zero, Int.zero_add, true_and, and_true, if_true, if_false, K210, mst_j, a6]
  refine Ev_bind (c_fill K211 (by rw [N211]; decide)) (fun ν1 ⟨f1, z1, _⟩ => ?_)
  rw [N211] at z1
  have r : ν1 210 = mst (mst (mst (mst (mst (mst ν 210 0 4) 210 1 4) 210 2 0) 210 3 0) 210 4 999) 210 5 0 210 := f1 210 (by decide)
  refine Ev_some ⟨?_, ?_, fun j hj => ?_, z1⟩
  · exact (Fw.st (Fw.st (Fw.st (Fw.st (Fw.st (Fw.st Fw.rf (.inl rfl)) (.inl rfl)) (.inl rfl)) (.inl rfl)) (.inl rfl)) (.inl rfl)).tr (f1.mo (fun x hx => .inr hx))
  · rw [r]; simp (disch := decide) only [mst_j, mst_s, and_true]
  · rw [r]; simp (disch := omega) only [mst_j]
theorem c_clear6 (h : RdI ν) : Ev (fX6_clear 220 ν) (fun ν' => Fw (fun x => x = 220 ∨ x = 222) ν ν' ∧ (ν' 220 0 = 0 ∧ ν' 220 1 = 0 ∧ ν' 220 2 = 0 ∧ ν' 220 3 = 0 ∧ ν' 220 4 = 0 ∧ ν' 220 5 = 0 ∧ ν' 220 6 = 99) ∧ (∀ j, 7 ≤ j → ν' 220 j = ν 220 j)) := by
  have a8 : ν 220 8 = 222 := h.2.2.1.2
  unfold fX6_clear
  simp (disch := omega) only [w32_eq, w64_eq, chk_T, chk_t, lt, lm, ob, Int.add_zero, Int.zero_add, true_and, and_true, if_true, if_false, K220, mst_j, a8]
  refine Ev_bind (c_fill K222 (by rw [N222]; decide)) (fun ν1 ⟨f1, z1, _⟩ => ?_)
  have r : ν1 220 = mst (mst (mst (mst (mst (mst (mst ν 220 0 0) 220 1 0) 220 2 0) 220 3 0) 220 4 0) 220 5 0) 220 6 99 220 := f1 220 (by decide)
  refine Ev_some ⟨?_, ?_, fun j hj => ?_⟩
  · exact (Fw.st (Fw.st (Fw.st (Fw.st (Fw.st (Fw.st (Fw.st Fw.rf (.inl rfl)) (.inl rfl)) (.inl rfl)) (.inl rfl)) (.inl rfl)) (.inl rfl)) (.inl rfl)).tr (f1.mo (fun x hx => .inr hx))
  · rw [r]; simp (disch := decide) only [mst_j, mst_s, and_true]
  · rw [r]; simp (disch := omega) only [mst_j]
/-- the end: what is not whole -/
theorem endN {C : Mm → Mm → Prop} (h : QT ν0 b t n A True ν ρ) (hF : ν 200 2 = 0) (h7 : ν 200 7 = 0) : E2 ((fX3_note 200 4 (ν 200 5) ν).bind fun μ16 => some μ16) ((fX11_also 20000 4 (ρ 20000 7) ρ).bind fun μ10 => some μ10) (fun ν' ρ' => PR ν0 b C ν' ρ') := by
  have hF1 : ν 200 2 ≠ 1 := by omega
  obtain ⟨p0, hp0, hk⟩ := h.tk
  have tb := TK_b hk
  have r7 := (h.tr hF1).2.1
  have e5 : ν 200 5 = ν 200 8 := by rw [h.ct.2.1]; have := tb.2.2.2.2.1 h7; omega
  rw [e5, r7]
  refine E2_bind (note2 h hF1 (by decide)) ?_
  rintro ν1 ρ1 ⟨u1, u2, u3, u4, u5⟩
  exact E2_some (QT_PR u1 (fun z => absurd z u4))
theorem loopL (h : QL ν0 b t n A A ν ρ) (v2 : Int) : E2 (lop (sX3_readLand_20 200) FU (0, ν)) (lop (sX11_text_71 20000 0 v2) FU ρ) (fun ν' ρ' => (∃ A', QL ν0 b t n A' A' ν' ρ') ∧ (ν' 200 2 = 1 ∨ ν' 200 7 = 0)) := by
  refine E2_lop (fun (x : Int × Mm) (y : Mm) => 0 ≤ x.1 ∧ ∃ A', QL ν0 b t n A' A' x.2 y ∧ (x.2 200 2 ≠ 1 → x.1 ≤ A')) (fun x _ => (1000 - x.1).toNat) ⟨Int.le_refl _, A, h, fun _ => h.1.2.2.1.1⟩ (by unfold FU; dsimp only; omega) ?_
  rintro ⟨v3, ν1⟩ ρ1 ⟨q0, A', q1, q2⟩
  dsimp only at q0 q1 q2 ⊢
  have bd := q1.1.bd
  have A0 := q1.1.2.2.1
  unfold sX3_readLand_20 sX11_text_71
  dsimp only
  rw [chk_t K200, chk_t K20000]
  by_cases hF : ν1 200 2 = 1
  · have w1 := q1.1.w1 hF
    rw [w1, if_neg (show ¬((1 : Int) = 0) by decide), if_pos hF, ite_self, ite_self]
    exact E2_some ⟨⟨A', q1⟩, .inl hF⟩
  · have w0 := q1.1.w0 hF
    rw [w0, if_pos rfl, if_neg hF]
    by_cases h7 : ν1 200 7 = 0
    · have r8 := (tk_k0 q1.1 hF).mp h7
      rw [if_pos h7, if_pos r8, ite_self]
      exact E2_some ⟨⟨A', q1⟩, .inr h7⟩
    · have r8 : ρ1 20000 8 ≠ 0 := fun z => h7 ((tk_k0 q1.1 hF).mpr z)
      have lt := bd.2.1 h7
      have q2' := q2 hF
      rw [if_neg h7, if_neg r8, if_neg (by omega), if_pos rfl]
      refine E2_bind (line2 q1 hF h7) ?_
      rintro ν2 ρ2 ⟨A'', u1, u2, u3⟩
      simp (disch := omega) only [w32_eq, w64_eq, chk_T, chk_t, lt, lm, ob, Int.add_zero, Int.zero_add, true_and, and_true, if_true, if_false, ]
      exact E2_some ⟨⟨by dsimp only; omega, A'', u2, fun z => by have := u3 z; dsimp only; omega⟩, by dsimp only; omega⟩
theorem rdL (hR : RdI ν0) (hT : ∀ i, 0 ≤ i → i < 700 → ν0 1001 i = t i ∧ 0 ≤ t i ∧ t i ≤ 255) (hn : 0 ≤ n ∧ n ≤ 700) (h : RB ρ0 b t n) (v2 : Int) : E2 (fX3_readLand 200 1001 n ν0) (refRead 0 v2 ρ0) (PR ν0 b (fun ν ρ => La ν 210 (ρ 20005) ∧ LdOk (ρ 20005))) := by
  unfold fX3_readLand refRead
  rw [chk_t K200]
  refine E2_r (r_begins0 h 0 (.inl rfl)) (fun ρ1 ⟨h1, z12, zL, _⟩ => ?_)
  obtain ⟨y0, y1, y4, yz⟩ := zL rfl
  refine E2_bind (start2 (l := 0) hR hT hn h1) ?_
  rintro ν1 ρ2 ⟨q1, q2, q3, q4, q5⟩
  have a0 : ν1 200 0 = 210 := q1.rd.1.1
  rw [a0, chk_t K210]
  refine E2_l (c_clear2 q1.rd) (fun ν2 ⟨f2, c2, k2, z2⟩ => ?_)
  have rd := q1.rd
  have Q : QL ν0 b t n 0 0 (mst ν2 200 9 0) ρ2 := by
    have r200 : ∀ j, j ≠ 9 → mst ν2 200 9 0 200 j = ν1 200 j := fun j hj => by rw [mst_j hj, f2 200 (by decide)]
    refine ⟨QT_c q1 ((f2.mo (fun x hx => by unfold rdR; omega)).tr (Fw.s0 (.inl rfl))) r200 ?_ Fr.rf, ?_, fun _ => ⟨⟨LaK_c (by omega), ?_, ?_, fun p p0 p1 => ?_, fun i i0 i1 => ?_⟩, ?_, ?_⟩⟩
    · unfold RdI LaF SkF SkB at rd ⊢
      rw [r200 0 (by decide), r200 1 (by decide)]
      simp (disch := decide) only [mst_n]
      rw [k2 6 (by decide), k2 7 (by decide), k2 8 (by decide), k2 9 (by decide), k2 10 (by decide), f2 213 (by decide), f2 220 (by decide)]; exact rd
    · unfold SL; rw [mst_n (by decide), mst_s, c2.2.2.2.2.2, q4, q5, z12, yz 5 (by decide) (by decide) (by decide) (by decide) (by decide)]; omega
    · unfold LaF; rw [mst_n (by decide), k2 6 (by decide), k2 7 (by decide), k2 8 (by decide), k2 9 (by decide), k2 10 (by decide)]; exact rd.2.1.1
    · rw [mst_n (by decide), q4, c2.1, c2.2.1, c2.2.2.1, c2.2.2.2.1, c2.2.2.2.2.1, c2.2.2.2.2.2, y0, y1, y4, yz 2 (by decide) (by decide) (by decide) (by decide) (by decide), yz 3 (by decide) (by decide) (by decide) (by decide) (by decide), yz 5 (by decide) (by decide) (by decide) (by decide) (by decide)]
      exact ⟨rfl, rfl, rfl, rfl, rfl, rfl⟩
    · rw [mst_n (by decide), q4, yz _ (by omega) (by omega) (by omega) (by omega) (by omega)]; exact z2 p p0 p1
    · rw [q4, yz 5 (by decide) (by decide) (by decide) (by decide) (by decide)] at i1; omega
    · rw [q4]
      refine ⟨by rw [y0]; decide, by rw [y1]; decide, by rw [yz 2 (by decide) (by decide) (by decide) (by decide) (by decide)]; decide, by rw [yz 3 (by decide) (by decide) (by decide) (by decide) (by decide)]; decide, by rw [y4]; decide, by rw [yz 5 (by decide) (by decide) (by decide) (by decide) (by decide)]; decide, fun p p0 p1 => by rw [yz _ (by omega) (by omega) (by omega) (by omega) (by omega)]; decide, fun i i0 i1 => ?_⟩
      rw [yz 5 (by decide) (by decide) (by decide) (by decide) (by decide)] at i1; omega
    · rw [mst_s, q5, z12]
  simp (disch := omega) only [w32_eq, w64_eq, chk_T, chk_t, lt, lm, ob, Int.add_zero, Int.zero_add, true_and, and_true, if_true, if_false, ]
  refine E2_bind (loopL Q v2) ?_
  rintro ν3 ρ3 ⟨⟨A', u1⟩, u2⟩
  have eF := u1.1.2.2.2.2.1.1
  by_cases z : ν3 200 2 = 0
  · rw [if_pos z, if_pos (eF.trans z)]
    have h7 : ν3 200 7 = 0 := by rcases u2 with w | w; omega; exact w
    obtain ⟨l1, l2, l3⟩ := u1.2.2 z
    rw [c_isWhole u1.1.rd l1 l2, r_last0 u1.1.md l2 l3.symm]
    simp only [ob, bi_if]
    by_cases w : wholeL ν3 (ρ3 20005)
    · rw [sel_t w, sel_t w]
      refine E2_some (QT_PR u1.1 (fun _ => ⟨l1, ?_⟩))
      obtain ⟨b0, b1, b2, b3, b4, b5, b6, b7⟩ := l2
      exact ⟨b0, b1, b2, b3, b4, b5, b6, fun k k0 k1 => ⟨(b7 k k0 k1).1, ⟨(b7 k k0 k1).2.1.1, w.2 k k0 k1⟩, (b7 k k0 k1).2.2⟩⟩
    · rw [sel_f w, sel_f w]
      exact endN u1.1 z h7
  · rw [if_neg z, if_neg (fun y => z (eF.symm.trans y))]
    exact E2_some (QT_PR u1.1 (fun y => absurd y z))
/-! ===== the same of a sketch ===== -/
theorem loopS (h : QO ν0 b t n A A ν ρ) (v2 : Int) : E2 (lop (sX3_readSketch_15 200) FU (0, ν)) (lop (sX11_text_71 20000 1 v2) FU ρ) (fun ν' ρ' => (∃ A', QO ν0 b t n A' A' ν' ρ') ∧ (ν' 200 2 = 1 ∨ ν' 200 7 = 0)) := by
  refine E2_lop (fun (x : Int × Mm) (y : Mm) => 0 ≤ x.1 ∧ ∃ A', QO ν0 b t n A' A' x.2 y ∧ (x.2 200 2 ≠ 1 → x.1 ≤ A')) (fun x _ => (1000 - x.1).toNat) ⟨Int.le_refl _, A, h, fun _ => h.1.1.2.2.1.1⟩ (by unfold FU; dsimp only; omega) ?_
  rintro ⟨v3, ν1⟩ ρ1 ⟨q0, A', q1, q2⟩
  dsimp only at q0 q1 q2 ⊢
  have bd := q1.1.1.bd
  have A0 := q1.1.1.2.2.1
  unfold sX3_readSketch_15 sX11_text_71
  dsimp only
  rw [chk_t K200, chk_t K20000]
  by_cases hF : ν1 200 2 = 1
  · have w1 := q1.1.1.w1 hF
    rw [w1, if_neg (show ¬((1 : Int) = 0) by decide), if_pos hF, ite_self, ite_self]
    exact E2_some ⟨⟨A', q1⟩, .inl hF⟩
  · have w0 := q1.1.1.w0 hF
    rw [w0, if_pos rfl, if_neg hF]
    by_cases h7 : ν1 200 7 = 0
    · have r8 := (tk_k0 q1.1.1 hF).mp h7
      rw [if_pos h7, if_pos r8, ite_self]
      exact E2_some ⟨⟨A', q1⟩, .inr h7⟩
    · have r8 : ρ1 20000 8 ≠ 0 := fun z => h7 ((tk_k0 q1.1.1 hF).mpr z)
      have lt := bd.2.1 h7
      have q2' := q2 hF
      rw [if_neg h7, if_neg r8, if_neg (by omega), if_neg (by decide)]
      refine E2_bind (sline2 q1 hF h7) ?_
      rintro ν2 ρ2 ⟨A'', u1, u2, u3⟩
      simp (disch := omega) only [w32_eq, w64_eq, chk_T, chk_t, lt, lm, ob, Int.add_zero, Int.zero_add, true_and, and_true, if_true, if_false, ]
      exact E2_some ⟨⟨by dsimp only; omega, A'', u2, fun z => by have := u3 z; dsimp only; omega⟩, by dsimp only; omega⟩
theorem r_last1 (hM : Md ρ) : fX11_last 20000 1 ρ = if ρ 20005 0 = 0 then (fX11_also 20000 4 (ρ 20000 7) ρ).bind fun μ10 => some μ10 else some ρ := by
  unfold fX11_last jX11_last_18 jX11_last_19 jX11_last_108
  rw [if_pos rfl]
  simp (disch := omega) only [w32_eq, w64_eq, chk_T, chk_t, lt, lm, ob, Int.add_zero, Int.zero_add, true_and, and_true, if_true, if_false, K20000, K20001, K20002, K20003, K20004, K20005, K20006, K20007, K20008, K20009, K20010, K20011, K20012, K20013, K20014, K20015, K20016, K20017, K20018, K20019, N20001, N20002, N20003, N20004, N20005, N20006, N20007, N20008, N20009, N20010, N20011, N20012, N20013, N20014, N20015, N20016, N20017, N20018, N20019, Md_13 hM]
  by_cases z : ρ 20005 0 = 0
  · rw [if_pos z, if_pos z, if_neg (by decide), if_neg (by decide)]
  · rw [if_neg z, if_neg z, if_neg (by decide)]
theorem rdS (hR : RdI ν0) (hT : ∀ i, 0 ≤ i → i < 700 → ν0 1001 i = t i ∧ 0 ≤ t i ∧ t i ≤ 255) (hn : 0 ≤ n ∧ n ≤ 700) (h : RB ρ0 b t n) (v2 : Int) : E2 (fX3_readSketch 200 1001 n ν0) (refRead 1 v2 ρ0) (PR ν0 b (fun ν ρ => Sk ν 220 (ρ 20005) ∧ SkOk (ρ 20005))) := by
  unfold fX3_readSketch refRead
  rw [chk_t K200]
  refine E2_r (r_begins0 h 1 (.inr rfl)) (fun ρ1 ⟨h1, z12, _, zS⟩ => ?_)
  obtain ⟨y6, yz⟩ := zS rfl
  refine E2_bind (start2 (l := 0) hR hT hn h1) ?_
  rintro ν1 ρ2 ⟨q1, q2, q3, q4, q5⟩
  have a1 : ν1 200 1 = 220 := q1.rd.1.2
  rw [a1, chk_t K220]
  refine E2_l (c_clear6 q1.rd) (fun ν2 ⟨f2, c2, k2⟩ => ?_)
  have rd := q1.rd
  obtain ⟨x0, x1, x2, x3, x4, x5, x6⟩ := c2
  have g : ∀ x, 0 ≤ x → x < 200 → x ≠ 6 → ρ2 20005 x = 0 := fun x e0 e1 e6 => by rw [q4]; exact yz x e0 e1 e6
  have g6 : ρ2 20005 6 = 99 := by rw [q4]; exact y6
  have Q : QO ν0 b t n 0 0 ν2 ρ2 := by
    refine ⟨⟨QT_c q1 (f2.mo (fun x hx => by unfold rdR; omega)) (fun j _ => by rw [f2 200 (by decide)]) ?_ Fr.rf, ?_, fun _ => ⟨⟨?_, ?_, ?_, fun i i0 i1 => ?_⟩, ?_⟩⟩, fun _ => ?_⟩
    · unfold RdI LaF SkF SkB at rd ⊢
      rw [f2 200 (by decide), f2 210 (by decide), f2 213 (by decide), k2 7 (by decide), k2 8 (by decide), x2, x3, x4]
      exact ⟨rd.1, rd.2.1, rd.2.2.1, .inl rfl, .inl rfl, .inl rfl⟩
    · unfold SS; rw [x0, g 0 (by decide) (by decide) (by decide)]; omega
    · exact ⟨by decide, ⟨by decide, by decide⟩, by decide, by decide⟩
    · unfold SkF; rw [k2 7 (by decide), k2 8 (by decide)]; exact rd.2.2.1
    · rw [x0, x1, x2, x3, x4, x5, x6, g 0 (by decide) (by decide) (by decide), g 1 (by decide) (by decide) (by decide), g 2 (by decide) (by decide) (by decide), g 3 (by decide) (by decide) (by decide), g 4 (by decide) (by decide) (by decide), g 5 (by decide) (by decide) (by decide), g6]
      exact ⟨rfl, rfl, rfl, rfl, rfl, rfl, rfl⟩
    · rw [g 0 (by decide) (by decide) (by decide)] at i1; omega
    · unfold SB
      rw [g 0 (by decide) (by decide) (by decide), g 1 (by decide) (by decide) (by decide), g 2 (by decide) (by decide) (by decide), g 3 (by decide) (by decide) (by decide), g 4 (by decide) (by decide) (by decide), g 5 (by decide) (by decide) (by decide), g6]
      exact ⟨by decide, by decide, .inl rfl, .inl rfl, .inl rfl, by decide, by decide, fun i i0 i1 => by omega⟩
    · rw [g 5 (by decide) (by decide) (by decide), g6]; decide
  refine E2_bind (loopS Q v2) ?_
  rintro ν3 ρ3 ⟨⟨A', u1⟩, u2⟩
  have eF := u1.1.1.2.2.2.2.1.1
  by_cases z : ν3 200 2 = 0
  · rw [if_pos z, if_pos (eF.trans z)]
    have h7 : ν3 200 7 = 0 := by rcases u2 with w | w; omega; exact w
    obtain ⟨l1, l2⟩ := u1.1.2.2 z
    have b1 : ν3 200 1 = 220 := u1.1.1.rd.1.2
    have e0 : ν3 220 0 = ρ3 20005 0 := l1.2.2.1.1
    rw [r_last1 u1.1.1.md, b1, chk_t K220, e0]
    by_cases w : ρ3 20005 0 = 0
    · rw [if_pos w, if_pos w]
      exact endN u1.1.1 z h7
    · rw [if_neg w, if_neg w]
      refine E2_some (QT_PR u1.1.1 (fun _ => ⟨l1, ?_⟩))
      obtain ⟨b0, b1, b2, b3, b4, b5, b6, b7⟩ := l2
      exact ⟨by omega, b1, b2, b3, b4, ⟨b5.1, u1.2 z, b6.2⟩, b7⟩
  · rw [if_neg z, if_neg (fun y => z (eF.symm.trans y))]
    exact E2_some (QT_PR u1.1.1 (fun y => absurd y z))
end
