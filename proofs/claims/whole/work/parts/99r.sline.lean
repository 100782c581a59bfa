/-! ===== a line of a sketch's text ===== -/
def QO (μ0 : Mm) (b t : Int → Int) (n A B : Int) (ν ρ : Mm) : Prop := QS μ0 b t n A B ν ρ ∧ (ν 200 2 = 0 → ρ 20005 5 ≤ ρ 20005 6)
section
variable {μ0 ν ν' ν1 ν2 ρ ρ' ρ1 ρ2 : Mm} {b t g : Int → Int} {n A B A' B' p a q k c v : Int} {s : Prop}
theorem QO_kp (h : QO μ0 b t n A B ν ρ) (hq : QT μ0 b t n A' True ν' ρ') (k : Kp ν ν' ρ ρ') : QO μ0 b t n A' B ν' ρ' := ⟨QS_kp h.1 hq k, fun z => by rw [k.2.1.1]; exact h.2 (k.2.2.1 z)⟩
theorem QO_B (h : QO μ0 b t n A B ν ρ) (hB : B ≤ B') : QO μ0 b t n A B' ν ρ := ⟨QS_B h.1 hB, h.2⟩
theorem Sk_us {j : Int} (h : Sk ν 220 g) (hj : 1 ≤ j ∧ j ≤ 6) : Sk (mst ν 220 j v) 220 (us g j v) := by
  obtain ⟨h1, h2, ⟨z0, z1, z2, z3, z4, z5, z6⟩, h4⟩ := h
  have key : ∀ i, ν 220 i = g i → mst ν 220 j v 220 i = us g j v i := fun i e => by
    by_cases y : i = j
    · rw [y, mst_s, us_s]
    · rw [mst_j y, us_n y]; exact e
  refine ⟨h1, ?_, ⟨key 0 z0, key 1 z1, key 2 z2, key 3 z3, key 4 z4, key 5 z5, key 6 z6⟩, fun i i0 i1 => ?_⟩
  · unfold SkF at h2 ⊢
    rw [mst_j (by omega), mst_j (by omega)]; exact h2
  · rw [us_n (by omega)] at i1
    rw [mst_n (by decide), mst_n (by decide), us_n (by omega), us_n (by omega)]; exact h4 i i0 i1
theorem SB_us {j : Int} (h : SB g) (hj : (j = 1 ∧ 0 ≤ v ∧ v ≤ 99) ∨ ((j = 2 ∨ j = 3 ∨ j = 4) ∧ (v = 0 ∨ v = 1)) ∨ ((j = 5 ∨ j = 6) ∧ 0 ≤ v ∧ v ≤ 99)) : SB (us g j v) := by
  obtain ⟨b0, b1, b2, b3, b4, b5, b6, b7⟩ := h
  have e0 : us g j v 0 = g 0 := us_n (by omega)
  refine ⟨by rw [e0]; exact b0, ?_, ?_, ?_, ?_, ?_, ?_, fun i i0 i1 => ?_⟩
  · by_cases e : 1 = j
    · subst e; rw [us_s]; omega
    · rw [us_n e]; exact b1
  · by_cases e : 2 = j
    · subst e; rw [us_s]; omega
    · rw [us_n e]; exact b2
  · by_cases e : 3 = j
    · subst e; rw [us_s]; omega
    · rw [us_n e]; exact b3
  · by_cases e : 4 = j
    · subst e; rw [us_s]; omega
    · rw [us_n e]; exact b4
  · by_cases e : 5 = j
    · subst e; rw [us_s]; omega
    · rw [us_n e]; exact b5
  · by_cases e : 6 = j
    · subst e; rw [us_s]; omega
    · rw [us_n e]; exact b6
  · rw [e0] at i1
    rw [us_n (by omega), us_n (by omega)]; exact b7 i i0 i1
theorem RdI_us {j : Int} (rd : RdI ν) (hj : 1 ≤ j ∧ j ≤ 6) (hf : (j = 2 ∨ j = 3 ∨ j = 4) → v = 0 ∨ v = 1) : RdI (mst ν 220 j v) := by
  unfold RdI LaF SkF SkB at rd ⊢
  obtain ⟨r1, r2, r3, r4, r5, r6⟩ := rd
  simp (disch := decide) only [mst_n]
  refine ⟨r1, r2, ?_, ?_, ?_, ?_⟩
  · rw [mst_j (by omega), mst_j (by omega)]; exact r3
  · by_cases e : 2 = j
    · subst e; rw [mst_s]; exact hf (.inl rfl)
    · rw [mst_j e]; exact r4
  · by_cases e : 3 = j
    · subst e; rw [mst_s]; exact hf (.inr (.inl rfl))
    · rw [mst_j e]; exact r5
  · by_cases e : 4 = j
    · subst e; rw [mst_s]; exact hf (.inr (.inr rfl))
    · rw [mst_j e]; exact r6
theorem setS {j v' : Int} (h : QS μ0 b t n A B ν ρ) (hj : 1 ≤ j ∧ j ≤ 6) (hf : (j = 2 ∨ j = 3 ∨ j = 4) → v = 0 ∨ v = 1) (hv : ν 200 2 = 0 → v = v' ∧ ((j = 1 ∧ 0 ≤ v ∧ v ≤ 99) ∨ ((j = 2 ∨ j = 3 ∨ j = 4) ∧ (v = 0 ∨ v = 1)) ∨ ((j = 5 ∨ j = 6) ∧ 0 ≤ v ∧ v ≤ 99))) : QS μ0 b t n A B (mst ν 220 j v) (mst ρ 20005 j v') := by
  obtain ⟨hq, S, R⟩ := h
  have rd := hq.rd
  refine ⟨QT_c hq (Fw.s0 (by unfold rdR; omega)) (fun i _ => by rw [mst_n (by decide)]) (RdI_us rd hj hf) (Fr.row rfl rfl (by decide) (by decide)), ?_, fun z => ?_⟩
  · unfold SS at S ⊢
    rw [mst_j (by omega), mst_j (by omega)]; exact S
  · rw [mst_n (by decide)] at z
    obtain ⟨y1, y2⟩ := R z
    obtain ⟨w1, w2⟩ := hv z
    unfold SR
    rw [mst_r, ← w1]
    exact ⟨Sk_us y1 hj, SB_us y2 w2⟩
theorem advS (h : QO μ0 b t n A B ν ρ) (hF : ν 200 2 ≠ 1) (h7 : ν 200 7 ≠ 0) : E2 (fX3_advance 200 ν) (fX11_advance 20000 ρ) (fun ν' ρ' => QO μ0 b t n (A + 1) B ν' ρ' ∧ ν' 200 2 ≠ 1) := by
  refine E2_mono (adv2 h.1.1 hF h7) ?_
  rintro ν1 ρ1 ⟨u1, u2, u3⟩
  exact ⟨QO_kp h u1 u2, by rw [u3]; exact hF⟩
theorem stopS (h : QO μ0 b t n A B ν ρ) : E2 (jX3_sketchClause_200 200 ν) (jX11_sketchLine_150 20000 ρ) (fun ν' ρ' => QO μ0 b t n A B ν' ρ') := by
  unfold jX3_sketchClause_200 jX11_sketchLine_150
  rw [chk_t K200, chk_t K20000]
  refine E2_bind (stop2 h.1.1) ?_
  rintro ν1 ρ1 ⟨u1, u2⟩
  exact E2_some (QO_kp h u1 u2)
/-- a flag: the class sets it ahead of going on, the reference behind -/
theorem flagS {j : Int} (h : QO μ0 b t n A A ν ρ) (hF : ν 200 2 ≠ 1) (h7 : ν 200 7 ≠ 0) (hj : j = 2 ∨ j = 3 ∨ j = 4) (hv : v = 0 ∨ v = 1) : E2 (fX3_advance 200 (mst ν 220 j v)) (fX11_advance 20000 ρ) (fun ν' ρ' => QO μ0 b t n (A + 1) A ν' (mst ρ' 20005 j v) ∧ Md ρ') := by
  obtain ⟨⟨hq, S, R⟩, hO⟩ := h
  have q1 : QT μ0 b t n A True (mst ν 220 j v) ρ := QT_c hq (Fw.s0 (by unfold rdR; omega)) (fun i _ => by rw [mst_n (by decide)]) (RdI_us hq.rd (by omega) (fun _ => hv)) Fr.rf
  have e200 : mst ν 220 j v 200 = ν 200 := mst_n (by decide)
  refine E2_mono (adv2 q1 (by rw [e200]; exact hF) (by rw [e200]; exact h7)) ?_
  rintro ν2 ρ2 ⟨u1, u2, u3⟩
  have e220 : ν2 220 = mst ν 220 j v 220 := u2.1.1 220 (by decide)
  have r5 : ρ2 20005 = ρ 20005 := u2.2.1.1
  rw [e200] at u3
  refine ⟨⟨⟨QT_c u1 Fw.rf (fun _ _ => rfl) u1.rd (Fr.row rfl rfl (by decide) (by decide)), ?_, fun z => ?_⟩, fun z => ?_⟩, u1.md⟩
  · unfold SS at S ⊢
    rw [e220, mst_j (by omega), mst_j (by omega), r5]; exact S
  · obtain ⟨y1, y2⟩ := R (u3.symm.trans z)
    refine ⟨?_, ?_⟩
    · rw [mst_r, r5]
      exact (Sk_us y1 (by omega)).fw u2.1.1 (fun x a b => by omega)
    · rw [mst_r, r5]
      exact SB_us y2 (.inr (.inl ⟨hj, hv⟩))
  · rw [mst_j (by omega), mst_j (by omega), r5]; exact hO (u3.symm.trans z)
theorem takesS_y (w0 : ρ 20000 11 = 0) (h8 : ρ 20000 8 = 3) (hw : 11 ≤ ρ 20000 10) : fX11_takes 20000 0 ρ = (fX11_advance 20000 ρ).bind fun μ6 => some (ρ 20000 10, μ6) := by
  unfold fX11_takes jX11_takes_33 jX11_takes_38
  simp (disch := omega) only [w32_eq, w64_eq, chk_T, chk_t, lt, lm, ob, Int.add_zero, Int.zero_add, true_and, and_true, if_true, if_false, K20000, K20001, K20002, K20003, K20004, K20005, K20006, K20007, K20008, K20009, K20010, K20011, K20012, K20013, K20014, K20015, K20016, K20017, K20018, K20019, N20001, N20002, N20003, N20004, N20005, N20006, N20007, N20008, N20009, N20010, N20011, N20012, N20013, N20014, N20015, N20016, N20017, N20018, N20019, h8, w0]
  rw [if_neg (by omega), if_neg (by decide)]
theorem takesS_n (w0 : ρ 20000 11 = 0) (h : ¬(ρ 20000 8 = 3 ∧ 11 ≤ ρ 20000 10)) : fX11_takes 20000 0 ρ = (fX11_ends 20000 ρ).bind fun μ2 => some (0, μ2) := by
  unfold fX11_takes jX11_takes_37 jX11_takes_38 jX11_takes_50
  simp (disch := omega) only [w32_eq, w64_eq, chk_T, chk_t, lt, lm, ob, Int.add_zero, Int.zero_add, true_and, and_true, if_true, if_false, K20000, K20001, K20002, K20003, K20004, K20005, K20006, K20007, K20008, K20009, K20010, K20011, K20012, K20013, K20014, K20015, K20016, K20017, K20018, K20019, N20001, N20002, N20003, N20004, N20005, N20006, N20007, N20008, N20009, N20010, N20011, N20012, N20013, N20014, N20015, N20016, N20017, N20018, N20019, w0]
  by_cases h8 : ρ 20000 8 = 3
  · rw [if_pos h8, if_pos (by omega)]
  · rw [if_neg h8]
theorem ne_i {a b : Int} (h : a ≠ b) : ¬(a = b) := h
theorem sline2 (h : QO μ0 b t n A A ν ρ) (hF : ν 200 2 ≠ 1) (h7 : ν 200 7 ≠ 0) : E2 (fX3_sketchClause 200 ν) (fX11_sketchLine 20000 ρ) (fun ν' ρ' => ∃ A', A ≤ A' ∧ QO μ0 b t n A' A' ν' ρ' ∧ (ν' 200 2 ≠ 1 → A + 1 ≤ A')) := by
  have bd := h.1.1.bd
  have A0 := h.1.1.2.2.1
  have w0 := h.1.1.w0 hF
  have r7 := (h.1.1.tr hF).2.1
  have e1 : ν 200 1 = 220 := h.1.1.rd.1.2
  have W : ∀ c, 1 ≤ c → c ≤ 16 → fX3_isWord 200 c ν = some (bi (ρ 20000 8 = 3 ∧ ρ 20000 10 = wc c)) := fun c c0 c1 => isW h.1.1 hF ⟨c0, c1⟩
  unfold fX3_sketchClause fX11_sketchLine jX3_sketchClause_64 jX3_sketchClause_102
  rw [chk_t K200, chk_t K20000, W 8 (by decide) (by decide), W 10 (by decide) (by decide), W 11 (by decide) (by decide), W 12 (by decide) (by decide), W 13 (by decide) (by decide), W 14 (by decide) (by decide), W 15 (by decide) (by decide), W 16 (by decide) (by decide)]
  rw [show wc 8 = 11 by decide, show wc 10 = 12 by decide, show wc 11 = 13 by decide, show wc 12 = 14 by decide, show wc 13 = 15 by decide, show wc 14 = 16 by decide, show wc 15 = 17 by decide, show wc 16 = 18 by decide, r7]
  simp only [ob, bi_if, e1]
  have fin : ∀ ν' ρ', QO μ0 b t n (A + 1) A ν' ρ' → ∃ A', A ≤ A' ∧ QO μ0 b t n A' A' ν' ρ' ∧ (ν' 200 2 ≠ 1 → A + 1 ≤ A') := fun ν' ρ' q => ⟨A + 1, by omega, QO_B q (by omega), fun _ => Int.le_refl _⟩
  by_cases h8 : ρ 20000 8 = 3 ∧ 11 ≤ ρ 20000 10
  · obtain ⟨k1, cc, c1, c2⟩ := tk_k1 h.1.1 hF h8.1
    have w1 := wc_99 c1
    rw [takesS_y w0 h8.1 h8.2, oa]
    simp only [ob]
    have h10 := h8.2
    have w8 := h8.1
    generalize hw : ρ 20000 10 = w at *
    have : w = 11 ∨ w = 12 ∨ w = 13 ∨ w = 14 ∨ w = 15 ∨ w = 16 ∨ w = 17 ∨ w = 18 := by omega
    rcases this with e | e | e | e | e | e | e | e
    · subst e
      rw [sel_t ⟨w8, rfl⟩]
      simp only [if_true]
      have k := hump2 h.1 hF h7
      unfold jX11_sketchLine_22 jX11_sketchLine_41 jX11_sketchLine_70 jX11_sketchLine_99 jX11_sketchLine_112
      simp only [if_neg (show ¬((11 : Int) = 12) by decide), if_neg (show ¬((11 : Int) = 13) by decide), if_neg (show ¬((11 : Int) = 14) by decide), if_neg (show ¬((11 : Int) = 15) by decide), if_neg (show ¬((11 : Int) = 16) by decide), if_neg (show ¬((11 : Int) = 17) by decide), if_neg (show ¬((11 : Int) = 18) by decide)]
      rw [← oa]
      refine E2_bind (Q := fun ν' ρ' => QO μ0 b t n (A + 1) (A + 1) ν' ρ') ?_ ?_
      · refine E2_mono k ?_
        rintro ν1 ρ1 ⟨x1, x2⟩
        exact ⟨x1, fun z => by have := x2 z; rw [this.2.1, this.2.2]; exact h.2 this.1⟩
      · rintro ν1 ρ1 q
        refine E2_mono (stopS q) ?_
        intro ν' ρ' hq
        exact ⟨A + 1, by omega, hq, fun _ => Int.le_refl _⟩
    · subst e
      rw [sel_f (by omega), sel_t ⟨w8, rfl⟩]
      refine E2_bind (advS h hF h7) ?_
      rintro ν1 ρ1 ⟨u1, u2⟩
      rw [if_neg (by decide)]
      unfold jX11_sketchLine_22
      rw [if_pos rfl, chk_t K20000]
      refine E2_bind (num2 u1.1.1 (fun _ => rfl)) ?_
      rintro ⟨r, ν2⟩ ⟨r', ρ2⟩ ⟨y1, y2, y3, y4⟩
      dsimp only at y1 y2 y3 y4 ⊢
      have q2 := QO_kp u1 y1 y2
      have a0 : ν1 200 1 = 220 := u1.1.1.rd.1.2
      simp (disch := omega) only [w32_eq, w64_eq, chk_T, chk_t, lt, lm, ob, Int.add_zero, Int.zero_add, true_and, and_true, if_true, if_false, K100, K101, K102, K103, K104, K200, K201, K230, K231, K232, K233, K234, K235, K236, K237, K250, K251, K252, K253, K254, K300, K301, K302, K303, K304, N101, N102, N103, N104, N201, N232, N233, N234, N235, N236, N237, N251, N252, N253, N254, N301, N302, N303, N304, K20000, K20001, K20002, K20003, K20004, K20005, K20006, K20007, K20008, K20009, K20010, K20011, K20012, K20013, K20014, K20015, K20016, K20017, K20018, K20019, N20001, N20002, N20003, N20004, N20005, N20006, N20007, N20008, N20009, N20010, N20011, N20012, N20013, N20014, N20015, N20016, N20017, N20018, N20019, a0, K220, Md_13 u1.1.1.md]
      unfold jX11_sketchLine_41 jX11_sketchLine_70 jX11_sketchLine_99 jX11_sketchLine_112
      rw [if_neg (by decide), if_neg (by decide), if_neg (by decide), if_neg (by decide), if_neg (by decide), if_neg (by decide)]
      refine E2_mono (stopS (A := A + 1) (B := A) ⟨setS (j := 1) (v := r) (v' := r') q2.1 (by omega) (by omega) (fun z => ⟨(y3 z).1, .inl ⟨rfl, (y3 z).2⟩⟩), fun z => ?_⟩) fin
      rw [mst_n (by decide)] at z
      rw [mst_j (by decide), mst_j (by decide)]; exact q2.2 z
    · subst e
      rw [sel_f (by omega), sel_f (by omega), sel_t ⟨w8, rfl⟩]
      rw [chk_t K200, bi_f (show ¬(ρ 20000 8 = 3 ∧ (13 : Int) = 14) by omega), chk_t (show KD 220 = 6 ∧ ((0 : Int) = 0 ∨ (0 : Int) = 1) from ⟨K220, .inl rfl⟩)]
      try simp (disch := omega) only [w32_eq, w64_eq, chk_T, chk_t, lt, lm, ob, Int.add_zero, Int.zero_add, true_and, and_true, if_true, if_false, K100, K101, K102, K103, K104, K200, K201, K230, K231, K232, K233, K234, K235, K236, K237, K250, K251, K252, K253, K254, K300, K301, K302, K303, K304, N101, N102, N103, N104, N201, N232, N233, N234, N235, N236, N237, N251, N252, N253, N254, N301, N302, N303, N304, K20000, K20001, K20002, K20003, K20004, K20005, K20006, K20007, K20008, K20009, K20010, K20011, K20012, K20013, K20014, K20015, K20016, K20017, K20018, K20019, N20001, N20002, N20003, N20004, N20005, N20006, N20007, N20008, N20009, N20010, N20011, N20012, N20013, N20014, N20015, N20016, N20017, N20018, N20019, ]
      refine E2_bind (flagS (j := 2) (v := 0) h hF h7 (by omega) (by omega)) ?_
      rintro ν1 ρ1 ⟨u1, u2⟩
      rw [if_neg (by decide)]
      unfold jX11_sketchLine_22
      rw [if_neg (show ¬((13 : Int) = 12) by decide)]
      unfold jX11_sketchLine_41
      rw [if_pos rfl]
      unfold jX11_sketchLine_53
      rw [chk_t K20000, if_neg (show ¬((13 : Int) = 14) by decide)]
      unfold jX11_sketchLine_69
      simp (disch := omega) only [w32_eq, w64_eq, chk_T, chk_t, lt, lm, ob, Int.add_zero, Int.zero_add, true_and, and_true, if_true, if_false, K20000, K20001, K20002, K20003, K20004, K20005, K20006, K20007, K20008, K20009, K20010, K20011, K20012, K20013, K20014, K20015, K20016, K20017, K20018, K20019, N20001, N20002, N20003, N20004, N20005, N20006, N20007, N20008, N20009, N20010, N20011, N20012, N20013, N20014, N20015, N20016, N20017, N20018, N20019, Md_13 u2]
      unfold jX11_sketchLine_70
      rw [if_neg (show ¬((13 : Int) = 15) by decide), if_neg (show ¬((13 : Int) = 16) by decide)]
      unfold jX11_sketchLine_99
      rw [if_neg (show ¬((13 : Int) = 17) by decide)]
      unfold jX11_sketchLine_112
      rw [if_neg (show ¬((13 : Int) = 18) by decide)]
      exact E2_mono (stopS u1) fin
    · subst e
      rw [sel_f (by omega), sel_f (by omega), sel_f (by omega), sel_t ⟨w8, rfl⟩]
      rw [chk_t K200, bi_t (show ρ 20000 8 = 3 ∧ (14 : Int) = 14 from ⟨w8, rfl⟩), chk_t (show KD 220 = 6 ∧ ((1 : Int) = 0 ∨ (1 : Int) = 1) from ⟨K220, .inr rfl⟩)]
      try simp (disch := omega) only [w32_eq, w64_eq, chk_T, chk_t, lt, lm, ob, Int.add_zero, Int.zero_add, true_and, and_true, if_true, if_false, K100, K101, K102, K103, K104, K200, K201, K230, K231, K232, K233, K234, K235, K236, K237, K250, K251, K252, K253, K254, K300, K301, K302, K303, K304, N101, N102, N103, N104, N201, N232, N233, N234, N235, N236, N237, N251, N252, N253, N254, N301, N302, N303, N304, K20000, K20001, K20002, K20003, K20004, K20005, K20006, K20007, K20008, K20009, K20010, K20011, K20012, K20013, K20014, K20015, K20016, K20017, K20018, K20019, N20001, N20002, N20003, N20004, N20005, N20006, N20007, N20008, N20009, N20010, N20011, N20012, N20013, N20014, N20015, N20016, N20017, N20018, N20019, ]
      refine E2_bind (flagS (j := 2) (v := 1) h hF h7 (by omega) (by omega)) ?_
      rintro ν1 ρ1 ⟨u1, u2⟩
      rw [if_neg (by decide)]
      unfold jX11_sketchLine_22
      rw [if_neg (show ¬((14 : Int) = 12) by decide)]
      unfold jX11_sketchLine_41
      rw [if_neg (show ¬((14 : Int) = 13) by decide), if_pos rfl]
      unfold jX11_sketchLine_53
      rw [chk_t K20000, if_pos rfl]
      unfold jX11_sketchLine_69
      simp (disch := omega) only [w32_eq, w64_eq, chk_T, chk_t, lt, lm, ob, Int.add_zero, Int.zero_add, true_and, and_true, if_true, if_false, K20000, K20001, K20002, K20003, K20004, K20005, K20006, K20007, K20008, K20009, K20010, K20011, K20012, K20013, K20014, K20015, K20016, K20017, K20018, K20019, N20001, N20002, N20003, N20004, N20005, N20006, N20007, N20008, N20009, N20010, N20011, N20012, N20013, N20014, N20015, N20016, N20017, N20018, N20019, Md_13 u2]
      unfold jX11_sketchLine_70
      rw [if_neg (show ¬((14 : Int) = 15) by decide), if_neg (show ¬((14 : Int) = 16) by decide)]
      unfold jX11_sketchLine_99
      rw [if_neg (show ¬((14 : Int) = 17) by decide)]
      unfold jX11_sketchLine_112
      rw [if_neg (show ¬((14 : Int) = 18) by decide)]
      exact E2_mono (stopS u1) fin
    · subst e
      rw [sel_f (by omega), sel_f (by omega), sel_f (by omega), sel_f (by omega), sel_t ⟨w8, rfl⟩]
      rw [chk_t K200, bi_f (show ¬(ρ 20000 8 = 3 ∧ (15 : Int) = 16) by omega), chk_t (show KD 220 = 6 ∧ ((0 : Int) = 0 ∨ (0 : Int) = 1) from ⟨K220, .inl rfl⟩)]
      try simp (disch := omega) only [w32_eq, w64_eq, chk_T, chk_t, lt, lm, ob, Int.add_zero, Int.zero_add, true_and, and_true, if_true, if_false, K100, K101, K102, K103, K104, K200, K201, K230, K231, K232, K233, K234, K235, K236, K237, K250, K251, K252, K253, K254, K300, K301, K302, K303, K304, N101, N102, N103, N104, N201, N232, N233, N234, N235, N236, N237, N251, N252, N253, N254, N301, N302, N303, N304, K20000, K20001, K20002, K20003, K20004, K20005, K20006, K20007, K20008, K20009, K20010, K20011, K20012, K20013, K20014, K20015, K20016, K20017, K20018, K20019, N20001, N20002, N20003, N20004, N20005, N20006, N20007, N20008, N20009, N20010, N20011, N20012, N20013, N20014, N20015, N20016, N20017, N20018, N20019, ]
      refine E2_bind (flagS (j := 3) (v := 0) h hF h7 (by omega) (by omega)) ?_
      rintro ν1 ρ1 ⟨u1, u2⟩
      rw [if_neg (by decide)]
      unfold jX11_sketchLine_22
      rw [if_neg (show ¬((15 : Int) = 12) by decide)]
      unfold jX11_sketchLine_41
      rw [if_neg (show ¬((15 : Int) = 13) by decide), if_neg (show ¬((15 : Int) = 14) by decide)]
      unfold jX11_sketchLine_70
      rw [if_pos rfl]
      unfold jX11_sketchLine_82
      rw [chk_t K20000, if_neg (show ¬((15 : Int) = 16) by decide)]
      unfold jX11_sketchLine_98
      simp (disch := omega) only [w32_eq, w64_eq, chk_T, chk_t, lt, lm, ob, Int.add_zero, Int.zero_add, true_and, and_true, if_true, if_false, K20000, K20001, K20002, K20003, K20004, K20005, K20006, K20007, K20008, K20009, K20010, K20011, K20012, K20013, K20014, K20015, K20016, K20017, K20018, K20019, N20001, N20002, N20003, N20004, N20005, N20006, N20007, N20008, N20009, N20010, N20011, N20012, N20013, N20014, N20015, N20016, N20017, N20018, N20019, Md_13 u2]
      unfold jX11_sketchLine_99
      rw [if_neg (show ¬((15 : Int) = 17) by decide)]
      unfold jX11_sketchLine_112
      rw [if_neg (show ¬((15 : Int) = 18) by decide)]
      exact E2_mono (stopS u1) fin
    · subst e
      rw [sel_f (by omega), sel_f (by omega), sel_f (by omega), sel_f (by omega), sel_f (by omega), sel_t ⟨w8, rfl⟩]
      rw [chk_t K200, bi_t (show ρ 20000 8 = 3 ∧ (16 : Int) = 16 from ⟨w8, rfl⟩), chk_t (show KD 220 = 6 ∧ ((1 : Int) = 0 ∨ (1 : Int) = 1) from ⟨K220, .inr rfl⟩)]
      try simp (disch := omega) only [w32_eq, w64_eq, chk_T, chk_t, lt, lm, ob, Int.add_zero, Int.zero_add, true_and, and_true, if_true, if_false, K100, K101, K102, K103, K104, K200, K201, K230, K231, K232, K233, K234, K235, K236, K237, K250, K251, K252, K253, K254, K300, K301, K302, K303, K304, N101, N102, N103, N104, N201, N232, N233, N234, N235, N236, N237, N251, N252, N253, N254, N301, N302, N303, N304, K20000, K20001, K20002, K20003, K20004, K20005, K20006, K20007, K20008, K20009, K20010, K20011, K20012, K20013, K20014, K20015, K20016, K20017, K20018, K20019, N20001, N20002, N20003, N20004, N20005, N20006, N20007, N20008, N20009, N20010, N20011, N20012, N20013, N20014, N20015, N20016, N20017, N20018, N20019, ]
      refine E2_bind (flagS (j := 3) (v := 1) h hF h7 (by omega) (by omega)) ?_
      rintro ν1 ρ1 ⟨u1, u2⟩
      rw [if_neg (by decide)]
      unfold jX11_sketchLine_22
      rw [if_neg (show ¬((16 : Int) = 12) by decide)]
      unfold jX11_sketchLine_41
      rw [if_neg (show ¬((16 : Int) = 13) by decide), if_neg (show ¬((16 : Int) = 14) by decide)]
      unfold jX11_sketchLine_70
      rw [if_neg (show ¬((16 : Int) = 15) by decide), if_pos rfl]
      unfold jX11_sketchLine_82
      rw [chk_t K20000, if_pos rfl]
      unfold jX11_sketchLine_98
      simp (disch := omega) only [w32_eq, w64_eq, chk_T, chk_t, lt, lm, ob, Int.add_zero, Int.zero_add, true_and, and_true, if_true, if_false, K20000, K20001, K20002, K20003, K20004, K20005, K20006, K20007, K20008, K20009, K20010, K20011, K20012, K20013, K20014, K20015, K20016, K20017, K20018, K20019, N20001, N20002, N20003, N20004, N20005, N20006, N20007, N20008, N20009, N20010, N20011, N20012, N20013, N20014, N20015, N20016, N20017, N20018, N20019, Md_13 u2]
      unfold jX11_sketchLine_99
      rw [if_neg (show ¬((16 : Int) = 17) by decide)]
      unfold jX11_sketchLine_112
      rw [if_neg (show ¬((16 : Int) = 18) by decide)]
      exact E2_mono (stopS u1) fin
    · subst e
      rw [sel_f (by omega), sel_f (by omega), sel_f (by omega), sel_f (by omega), sel_f (by omega), sel_f (by omega), sel_t ⟨w8, rfl⟩]
      rw [chk_t K220]
      try simp (disch := omega) only [w32_eq, w64_eq, chk_T, chk_t, lt, lm, ob, Int.add_zero, Int.zero_add, true_and, and_true, if_true, if_false, K100, K101, K102, K103, K104, K200, K201, K230, K231, K232, K233, K234, K235, K236, K237, K250, K251, K252, K253, K254, K300, K301, K302, K303, K304, N101, N102, N103, N104, N201, N232, N233, N234, N235, N236, N237, N251, N252, N253, N254, N301, N302, N303, N304, K20000, K20001, K20002, K20003, K20004, K20005, K20006, K20007, K20008, K20009, K20010, K20011, K20012, K20013, K20014, K20015, K20016, K20017, K20018, K20019, N20001, N20002, N20003, N20004, N20005, N20006, N20007, N20008, N20009, N20010, N20011, N20012, N20013, N20014, N20015, N20016, N20017, N20018, N20019, ]
      refine E2_bind (flagS (j := 4) (v := 1) h hF h7 (by omega) (by omega)) ?_
      rintro ν1 ρ1 ⟨u1, u2⟩
      rw [if_neg (by decide)]
      unfold jX11_sketchLine_22
      rw [if_neg (show ¬((17 : Int) = 12) by decide)]
      unfold jX11_sketchLine_41
      rw [if_neg (show ¬((17 : Int) = 13) by decide), if_neg (show ¬((17 : Int) = 14) by decide)]
      unfold jX11_sketchLine_70
      rw [if_neg (show ¬((17 : Int) = 15) by decide), if_neg (show ¬((17 : Int) = 16) by decide)]
      unfold jX11_sketchLine_99
      rw [if_pos rfl]
      simp (disch := omega) only [w32_eq, w64_eq, chk_T, chk_t, lt, lm, ob, Int.add_zero, Int.zero_add, true_and, and_true, if_true, if_false, K20000, K20001, K20002, K20003, K20004, K20005, K20006, K20007, K20008, K20009, K20010, K20011, K20012, K20013, K20014, K20015, K20016, K20017, K20018, K20019, N20001, N20002, N20003, N20004, N20005, N20006, N20007, N20008, N20009, N20010, N20011, N20012, N20013, N20014, N20015, N20016, N20017, N20018, N20019, Md_13 u2]
      unfold jX11_sketchLine_112
      rw [if_neg (show ¬((17 : Int) = 18) by decide)]
      exact E2_mono (stopS u1) fin
    · subst e
      rw [sel_f (by omega), sel_f (by omega), sel_f (by omega), sel_f (by omega), sel_f (by omega), sel_f (by omega), sel_f (by omega), sel_t ⟨w8, rfl⟩]
      refine E2_bind (advS h hF h7) ?_
      rintro ν1 ρ1 ⟨u1, u2⟩
      rw [if_neg (by decide)]
      unfold jX11_sketchLine_22 jX11_sketchLine_41 jX11_sketchLine_70 jX11_sketchLine_99 jX11_sketchLine_112
      rw [if_neg (by decide), if_neg (by decide), if_neg (by decide), if_neg (by decide), if_neg (by decide), if_neg (by decide), if_pos rfl, chk_t K20000]
      refine E2_bind (num2 u1.1.1 (fun _ => rfl)) ?_
      rintro ⟨r, ν2⟩ ⟨r', ρ2⟩ ⟨y1, y2, y3, y4⟩
      dsimp only at y1 y2 y3 y4 ⊢
      have q2 := QO_kp u1 y1 y2
      have a0 : ν1 200 1 = 220 := u1.1.1.rd.1.2
      have q3 := setS (j := 5) (v := r) (v' := r') q2.1 (by omega) (by omega) (fun z => ⟨(y3 z).1, .inr (.inr ⟨.inl rfl, (y3 z).2⟩)⟩)
      have a1 := q3.1.rd.1.2
      simp (disch := omega) only [w32_eq, w64_eq, chk_T, chk_t, lt, lm, ob, Int.add_zero, Int.zero_add, true_and, and_true, if_true, if_false, K100, K101, K102, K103, K104, K200, K201, K230, K231, K232, K233, K234, K235, K236, K237, K250, K251, K252, K253, K254, K300, K301, K302, K303, K304, N101, N102, N103, N104, N201, N232, N233, N234, N235, N236, N237, N251, N252, N253, N254, N301, N302, N303, N304, K20000, K20001, K20002, K20003, K20004, K20005, K20006, K20007, K20008, K20009, K20010, K20011, K20012, K20013, K20014, K20015, K20016, K20017, K20018, K20019, N20001, N20002, N20003, N20004, N20005, N20006, N20007, N20008, N20009, N20010, N20011, N20012, N20013, N20014, N20015, N20016, N20017, N20018, N20019, a0, a1, K220, Md_13 u1.1.1.md, Md_13 q3.1.md]
      refine E2_bind (num2 q3.1 (fun z => (q3.2.2 z).1.2.2.1.2.2.2.2.2.1)) ?_
      rintro ⟨r4, ν4⟩ ⟨r4', ρ4⟩ ⟨x1, x2, x3, x4⟩
      dsimp only at x1 x2 x3 x4 ⊢
      have q4 := QS_kp q3 x1 x2
      try simp (disch := omega) only [w32_eq, w64_eq, chk_T, chk_t, lt, lm, ob, Int.add_zero, Int.zero_add, true_and, and_true, if_true, if_false, K100, K101, K102, K103, K104, K200, K201, K230, K231, K232, K233, K234, K235, K236, K237, K250, K251, K252, K253, K254, K300, K301, K302, K303, K304, N101, N102, N103, N104, N201, N232, N233, N234, N235, N236, N237, N251, N252, N253, N254, N301, N302, N303, N304, K20000, K20001, K20002, K20003, K20004, K20005, K20006, K20007, K20008, K20009, K20010, K20011, K20012, K20013, K20014, K20015, K20016, K20017, K20018, K20019, N20001, N20002, N20003, N20004, N20005, N20006, N20007, N20008, N20009, N20010, N20011, N20012, N20013, N20014, N20015, N20016, N20017, N20018, N20019, ]
      have z5 : ∀ z : ν4 200 2 = 0, mst ν2 220 5 r 220 5 = mst ρ2 20005 5 r' 20005 5 := fun z => (q3.2.2 (x2.2.2.1 z)).1.2.2.1.2.2.2.2.2.1
      rw [mst_s, mst_s] at z5
      rw [mst_s] at x3
      have r0 : ∀ z : ν4 200 2 = 0, 0 ≤ r := fun z => by
        have z2 := x2.2.2.1 z
        rw [mst_n (by decide)] at z2
        exact (y3 z2).2.1
      refine E2_mono (stopS (A := A + 1) (B := A) ⟨setS (j := 6) (v := r4) (v' := r4') q4 (by omega) (by omega) (fun z => ⟨(x3 z).1, .inr (.inr ⟨.inr rfl, by have := x3 z; have := r0 z; omega⟩)⟩), fun z => ?_⟩) fin
      rw [mst_n (by decide)] at z
      rw [mst_j (by decide), mst_s, x2.2.1.1, mst_s]
      have := x3 z; have := z5 z; omega
  · rw [takesS_n w0 h8, oa]
    simp only [ob]
    rw [sel_f (by omega), sel_f (by omega), sel_f (by omega), sel_f (by omega), sel_f (by omega), sel_f (by omega), sel_f (by omega), sel_f (by omega)]
    refine E2_bind (brk2 h.1.1) ?_
    rintro ν1 ρ1 ⟨u1, u2, u3, u4⟩
    rw [if_neg (by decide)]
    unfold jX11_sketchLine_22 jX11_sketchLine_41 jX11_sketchLine_70 jX11_sketchLine_99 jX11_sketchLine_112
    rw [if_neg (by decide), if_neg (by decide), if_neg (by decide), if_neg (by decide), if_neg (by decide), if_neg (by decide), if_neg (by decide)]
    unfold jX3_sketchClause_200 jX11_sketchLine_150
    rw [chk_t K200, chk_t K20000]
    refine E2_bind (stop2 u1) ?_
    rintro ν2 ρ2 ⟨y1, y2⟩
    have e1 := y2.2.2.2 u3
    exact E2_some ⟨A, Int.le_refl _, QO_kp (QO_kp h u1 u2) y1 y2, fun z => absurd e1 z⟩
end
