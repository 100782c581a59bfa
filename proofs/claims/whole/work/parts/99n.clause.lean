/-! ===== a line of a land's text ===== -/
section
variable {μ0 ν ν' ν1 ρ ρ' ρ1 : Mm} {b t g : Int → Int} {n A B A' B' p a q k c v : Int} {s : Prop}
theorem FUs : FU = 9999999 + 1 := rfl
theorem hgts2 (h : QL μ0 b t n A B ν ρ) (hF : ν 200 2 ≠ 1) (hB : B + 1 ≤ A) : E2 (fX3_readHeights 200 ν) (fX11_readHeights 20000 ρ) (fun ν' ρ' => ∃ A', A ≤ A' ∧ QL μ0 b t n A' A' ν' ρ') := by
  have bd := h.1.bd
  have A0 := h.1.2.2.1
  have w0 := h.1.w0 hF
  unfold fX3_readHeights fX11_readHeights
  rw [chk_t K200]
  obtain ⟨ν1, u, e1, e2, ρ1, eu, hQ⟩ := hgt2 h hF (by omega)
  subst eu
  have es : sX11_readHeights_2 20000 (1, ρ) = some (.inl (0, ρ1)) := by
    unfold sX11_readHeights_2
    dsimp only
    simp (disch := omega) only [w32_eq, w64_eq, chk_T, chk_t, lt, lm, ob, Int.add_zero, Int.zero_add, true_and, and_true, if_true, if_false, K20000, K20001, K20002, K20003, K20004, K20005, K20006, K20007, K20008, K20009, K20010, K20011, K20012, K20013, K20014, K20015, K20016, K20017, K20018, K20019, N20001, N20002, N20003, N20004, N20005, N20006, N20007, N20008, N20009, N20010, N20011, N20012, N20013, N20014, N20015, N20016, N20017, N20018, N20019, w0]
    rw [if_neg (by decide)]; exact e2
  rw [e1]
  simp only [ob]
  rw [FUs, lop_in es]
  refine E2_bind (Q := fun ν' ρ' => ∃ A', A ≤ A' ∧ QL μ0 b t n A' A' ν' ρ') (E2_lopG (fun (x : Int × Mm) (y : Int × Mm) => y.1 = 0 ∧ 0 ≤ x.1 ∧ ∃ A' B', A ≤ A' ∧ QL μ0 b t n A' B' x.2 y.2 ∧ ((x.2 200 2 ≠ 1 ∧ B' + 1 ≤ A' ∧ x.1 ≤ A') ∨ (x.2 200 2 = 1 ∧ x.2 200 7 ≠ 2 ∧ B' ≤ A'))) (fun x _ => (1000 - x.1).toNat) ?_ _ _ (0, ν1) (0, ρ1) ⟨rfl, Int.le_refl _, ?_⟩ (by dsimp only; omega) (by dsimp only; omega)) (fun ν' ρ' hh => E2_some hh)
  · rintro ⟨v1, ν2⟩ ⟨fl, ρ2⟩ ⟨q0, q1, A', B', q2, q3, q4⟩
    dsimp only at q0 q1 q3 q4 ⊢
    subst q0
    have bd2 := q3.1.bd
    have A2 := q3.1.2.2.1
    unfold sX3_readHeights_6 sX11_readHeights_2
    dsimp only
    rw [chk_t K200, chk_t K20000]
    rcases q4 with ⟨f1, f2, f3⟩ | ⟨f1, f2, f3⟩
    · have w2 := q3.1.w0 f1
      rw [w2, if_pos rfl, if_pos rfl]
      by_cases k2 : ν2 200 7 = 2
      · have r8 := (tk_k2 q3.1 f1).mp k2
        rw [if_neg (by omega), if_pos k2, if_pos r8]
        obtain ⟨ν3, u, e1, e2, ρ3, eu, hQ⟩ := hgt2 q3 f1 (by omega)
        subst eu
        rw [e1, e2]
        simp only [ob]
        simp (disch := omega) only [w32_eq, w64_eq, chk_T, chk_t, lt, lm, ob, Int.add_zero, Int.zero_add, true_and, and_true, if_true, if_false, ]
        refine E2_some ⟨⟨rfl, by dsimp only; omega, ?_⟩, by dsimp only; omega⟩
        rcases hQ with ⟨g1, g2⟩ | ⟨g1, g2, g3⟩
        · exact ⟨A' + 1, B' + 1, by omega, g2, .inl ⟨g1, by omega, by omega⟩⟩
        · exact ⟨A', B' + 1, q2, g3, .inr ⟨g1, g2, by omega⟩⟩
      · have r8 : ρ2 20000 8 ≠ 1 := fun z => k2 ((tk_k2 q3.1 f1).mpr z)
        rw [if_neg k2, if_neg r8]
        have out : E2 (some (Sum.inr ν2 : (Int × Mm) ⊕ Mm)) (some (Sum.inr ρ2 : (Int × Mm) ⊕ Mm)) (N2 (fun (x : Int × Mm) (y : Int × Mm) => y.1 = 0 ∧ 0 ≤ x.1 ∧ ∃ A' B', A ≤ A' ∧ QL μ0 b t n A' B' x.2 y.2 ∧ ((x.2 200 2 ≠ 1 ∧ B' + 1 ≤ A' ∧ x.1 ≤ A') ∨ (x.2 200 2 = 1 ∧ x.2 200 7 ≠ 2 ∧ B' ≤ A'))) (fun x _ => (1000 - x.1).toNat) (fun ν' ρ' => ∃ A', A ≤ A' ∧ QL μ0 b t n A' A' ν' ρ') (1000 - v1).toNat) := E2_some ⟨A', q2, QL_B q3 (by omega)⟩
        split <;> exact out
    · have w2 := q3.1.w1 f1
      rw [w2, if_neg (show ¬((1 : Int) = 0) by decide), if_neg f2]
      have out : E2 (some (Sum.inr ν2 : (Int × Mm) ⊕ Mm)) (some (Sum.inr ρ2 : (Int × Mm) ⊕ Mm)) (N2 (fun (x : Int × Mm) (y : Int × Mm) => y.1 = 0 ∧ 0 ≤ x.1 ∧ ∃ A' B', A ≤ A' ∧ QL μ0 b t n A' B' x.2 y.2 ∧ ((x.2 200 2 ≠ 1 ∧ B' + 1 ≤ A' ∧ x.1 ≤ A') ∨ (x.2 200 2 = 1 ∧ x.2 200 7 ≠ 2 ∧ B' ≤ A'))) (fun x _ => (1000 - x.1).toNat) (fun ν' ρ' => ∃ A', A ≤ A' ∧ QL μ0 b t n A' A' ν' ρ') (1000 - v1).toNat) := E2_some ⟨A', q2, QL_B q3 (by omega)⟩
      split <;> exact out
  · rcases hQ with ⟨g1, g2⟩ | ⟨g1, g2, g3⟩
    · exact ⟨A + 1, B + 1, by omega, g2, .inl ⟨g1, by omega, by dsimp only; omega⟩⟩
    · exact ⟨A, B + 1, Int.le_refl _, g3, .inr ⟨g1, g2, hB⟩⟩
/-! things -/
theorem c_addThing {tw p f l : Int} (hL : LaF ν 210) (hB : ∀ k, 0 ≤ k → k < 12 → ν 213 k = 0 ∨ ν 213 k = 1) (h5 : 0 ≤ ν 210 5 ∧ ν 210 5 ≤ 12) (ht : tw = 0 ∨ tw = 1) : Ev (fX2_addThing 210 p tw f l ν) (fun ν' => Fw (fun x => x = 210 ∨ 212 ≤ x ∧ x ≤ 215) ν ν' ∧ (∀ j, j ≠ 5 → ν' 210 j = ν 210 j) ∧ (0 ≤ ν' 210 5 ∧ ν' 210 5 ≤ 12) ∧ (∀ k, 0 ≤ k → k < 12 → ν' 213 k = 0 ∨ ν' 213 k = 1) ∧ (ν 210 5 < 12 → ν' 210 5 = ν 210 5 + 1 ∧ ν' 212 = us (ν 212) (ν 210 5) p ∧ ν' 213 = us (ν 213) (ν 210 5) tw ∧ ν' 214 = us (ν 214) (ν 210 5) f ∧ ν' 215 = us (ν 215) (ν 210 5) l)) := by
  have f7 : ν 210 7 = 212 := hL.2.1
  have f8 : ν 210 8 = 213 := hL.2.2.1
  have f9 : ν 210 9 = 214 := hL.2.2.2.1
  have f10 : ν 210 10 = 215 := hL.2.2.2.2
  unfold fX2_addThing
  by_cases z : 12 ≤ ν 210 5
  · rw [chk_t K210, if_pos z]
    exact Ev_some ⟨Fw.rf, fun _ _ => rfl, h5, hB, fun y => by omega⟩
  · simp (disch := omega) only [w32_eq, w64_eq, chk_T, chk_t, lt, lm, ob, Int.add_zero, Int.zero_add, true_and, and_true, if_true, if_false, K210, f7, f8, f9, f10, mst_n, K212, N212, K213, N213, K214, N214, K215, N215]
    rw [if_neg z]
    refine Ev_some ⟨?_, fun j hj => ?_, ?_, fun k k0 k1 => ?_, fun _ => ⟨?_, ?_, ?_, ?_, ?_⟩⟩
    · exact Fw.st (Fw.st (Fw.st (Fw.st (Fw.st Fw.rf (by omega)) (by omega)) (by omega)) (by omega)) (by omega)
    · rw [mst_j hj]; simp (disch := omega) only [mst_n]
    · rw [mst_s]; omega
    · simp (disch := omega) only [mst_n]
      by_cases e : k = ν 210 5
      · rw [e, mst_s]; exact ht
      · rw [mst_j e]; simp (disch := omega) only [mst_n]; exact hB k k0 k1
    · rw [mst_s]
    · simp (disch := omega) only [mst_n]; rw [mst_r]
    · simp (disch := omega) only [mst_n]; rw [mst_r]; simp (disch := omega) only [mst_n]
    · simp (disch := omega) only [mst_n]; rw [mst_r]; simp (disch := omega) only [mst_n]
    · simp (disch := omega) only [mst_n]; rw [mst_r]; simp (disch := omega) only [mst_n]
theorem r_thing60 {tw p f l : Int} (hM : Md ρ) (h5 : 0 ≤ ρ 20005 5 ∧ ρ 20005 5 ≤ 1000) (ht : tw = 0 ∨ tw = 1) : Ev (jX11_thing_60 20000 tw p f l ρ) (fun ρ' => Fr [20005] [12] ρ ρ' ∧ ρ' 20000 12 = ρ 20000 12 ∧ ρ' 20005 5 = ρ 20005 5 + 1 ∧ (ρ 20005 5 < 12 → ρ' 20005 = us (us (us (us (us (ρ 20005) (150 + 4 * ρ 20005 5) tw) (151 + 4 * ρ 20005 5) p) (152 + 4 * ρ 20005 5) f) (153 + 4 * ρ 20005 5) l) 5 (ρ 20005 5 + 1))) := by
  unfold jX11_thing_60
  generalize hk : ρ 20005 5 = k at *
  simp (disch := omega) only [w32_eq, w64_eq, chk_T, chk_t, lt, lm, ob, Int.add_zero, Int.zero_add, true_and, and_true, if_true, if_false, K20000, K20001, K20002, K20003, K20004, K20005, K20006, K20007, K20008, K20009, K20010, K20011, K20012, K20013, K20014, K20015, K20016, K20017, K20018, K20019, N20001, N20002, N20003, N20004, N20005, N20006, N20007, N20008, N20009, N20010, N20011, N20012, N20013, N20014, N20015, N20016, N20017, N20018, N20019, Md_13 hM, hk]
  by_cases z : 12 ≤ k
  · rw [if_pos z]
    exact Ev_some ⟨Fr.row rfl rfl (by decide) (by decide), by rw [mst_n (by decide)], by rw [mst_s], fun y => by omega⟩
  · rw [if_neg z]
    have fin : ∀ w, w = tw → Ev (jX11_thing_102 20000 p f l (150 + 4 * k) w (150 + 4 * k) 20005 ρ) (fun ρ' => Fr [20005] [12] ρ ρ' ∧ ρ' 20000 12 = ρ 20000 12 ∧ ρ' 20005 5 = k + 1 ∧ (k < 12 → ρ' 20005 = us (us (us (us (us (ρ 20005) (150 + 4 * k) tw) (151 + 4 * k) p) (152 + 4 * k) f) (153 + 4 * k) l) 5 (k + 1))) := by
      intro w hw
      subst hw
      unfold jX11_thing_102
      have e13 : ∀ (μ : Mm) i v, mst μ 20005 i v 20000 = μ 20000 := fun μ i v => mst_n (by decide)
      simp (disch := omega) only [w32_eq, w64_eq, chk_T, chk_t, lt, lm, ob, Int.add_zero, Int.zero_add, true_and, and_true, if_true, if_false, K20000, K20001, K20002, K20003, K20004, K20005, K20006, K20007, K20008, K20009, K20010, K20011, K20012, K20013, K20014, K20015, K20016, K20017, K20018, K20019, N20001, N20002, N20003, N20004, N20005, N20006, N20007, N20008, N20009, N20010, N20011, N20012, N20013, N20014, N20015, N20016, N20017, N20018, N20019, e13, Md_13 hM, mst_j, hk]
      refine Ev_some ⟨?_, ?_, ?_, fun _ => ?_⟩
      · exact (((((Fr.row rfl rfl (by decide) (by decide)).tr (Fr.row rfl rfl (by decide) (by decide))).tr (Fr.row rfl rfl (by decide) (by decide))).tr (Fr.row rfl rfl (by decide) (by decide))).tr (Fr.row rfl rfl (by decide) (by decide)))
      · simp only [e13]
      · rw [mst_s]
      · rw [mst_r, mst_r, mst_r, mst_r, mst_r, show 150 + 4 * k + 1 = 151 + 4 * k by omega, show 150 + 4 * k + 2 = 152 + 4 * k by omega, show 150 + 4 * k + 3 = 153 + 4 * k by omega]
    rcases ht with e | e
    · subst e; rw [if_pos rfl]; exact fin 0 rfl
    · subst e; rw [if_neg (by decide)]; exact fin 1 rfl
theorem addT {tw p f l p' f' l' : Int} (h : QL μ0 b t n A B ν ρ) (hB : B ≤ 900) (hf : ν 200 2 = 0 → ν 210 5 < 12) (ht : tw = 0 ∨ tw = 1) (hv : ν 200 2 = 0 → p = p' ∧ (0 ≤ p ∧ p ≤ 143) ∧ f = f' ∧ l = l' ∧ (0 ≤ f ∧ f ≤ l ∧ l ≤ 99)) : E2 (fX2_addThing 210 p tw f l ν) (jX11_thing_60 20000 tw p' f' l' ρ) (fun ν' ρ' => QL μ0 b t n A (B + 1) ν' ρ') := by
  obtain ⟨hq, S, R⟩ := h
  have rd := hq.rd
  unfold SL at S
  refine E2_of (c_addThing rd.2.1.1 rd.2.1.2 S.1 ht) (r_thing60 hq.md (by omega) ht) ?_
  rintro ν' ρ' ⟨x1, x2, x3, x4, x5⟩ ⟨y1, y2, y3, y4⟩
  have r200 : ν' 200 = ν 200 := x1 200 (by decide)
  refine ⟨QT_c hq (x1.mo (fun x hx => by unfold rdR; omega)) (fun j _ => by rw [r200]) ?_ y1, ?_, fun z => ?_⟩
  · unfold RdI LaF SkF SkB at rd ⊢
    rw [r200, x2 6 (by decide), x2 7 (by decide), x2 8 (by decide), x2 9 (by decide), x2 10 (by decide), x1 220 (by decide)]
    exact ⟨rd.1, ⟨rd.2.1.1, x4⟩, rd.2.2⟩
  · unfold SL; rw [r200, y2, y3]; omega
  · rw [r200] at z
    obtain ⟨⟨a1, a2, ⟨z0, z1, z2, z3, z4, z5⟩, a4, a5⟩, yb, yt⟩ := R z
    have f0 := hf z
    obtain ⟨v1, v2, v3, v4, v5⟩ := hv z
    subst v1; subst v3; subst v4
    obtain ⟨c1, c2, c3, c4, c5⟩ := x5 f0
    have rr := y4 (by omega)
    have g5 : ρ 20005 5 = ν 210 5 := z5.symm
    rw [g5] at rr
    generalize hk : ν 210 5 = k at *
    have lo : ∀ x, x ≠ 5 → x < 150 + 4 * k ∨ 154 + 4 * k ≤ x → ρ' 20005 x = ρ 20005 x := fun x e5 e6 => by
      rw [rr, us_n e5, us_n (by omega), us_n (by omega), us_n (by omega), us_n (by omega)]
    have e5 : ρ' 20005 5 = k + 1 := by rw [rr, us_s]
    have n0 : ρ' 20005 (150 + 4 * k) = tw := by rw [rr, us_n (by omega), us_n (by omega), us_n (by omega), us_n (by omega), us_s]
    have n1 : ρ' 20005 (151 + 4 * k) = p := by rw [rr, us_n (by omega), us_n (by omega), us_n (by omega), us_s]
    have n2 : ρ' 20005 (152 + 4 * k) = f := by rw [rr, us_n (by omega), us_n (by omega), us_s]
    have n3 : ρ' 20005 (153 + 4 * k) = l := by rw [rr, us_n (by omega), us_s]
    refine ⟨⟨a1, ?_, ⟨?_, ?_, ?_, ?_, ?_, ?_⟩, fun q q0 q1 => ?_, fun i i0 i1 => ?_⟩, ?_, by rw [r200, y2]; exact yt⟩
    · unfold LaF at a2 ⊢
      rw [x2 6 (by decide), x2 7 (by decide), x2 8 (by decide), x2 9 (by decide), x2 10 (by decide)]; exact a2
    · rw [x2 0 (by decide), lo 0 (by decide) (by omega)]; exact z0
    · rw [x2 1 (by decide), lo 1 (by decide) (by omega)]; exact z1
    · rw [x2 2 (by decide), lo 2 (by decide) (by omega)]; exact z2
    · rw [x2 3 (by decide), lo 3 (by decide) (by omega)]; exact z3
    · rw [x2 4 (by decide), lo 4 (by decide) (by omega)]; exact z4
    · rw [c1, e5]
    · rw [x1 (210 + 1) (by decide), lo _ (by omega) (by omega)]; exact a4 q q0 q1
    · rw [e5] at i1
      rw [show (210 : Int) + 2 = 212 by decide, show (210 : Int) + 3 = 213 by decide, show (210 : Int) + 4 = 214 by decide, show (210 : Int) + 5 = 215 by decide, c2, c3, c4, c5]
      by_cases e : i = k
      · subst e; rw [us_s, us_s, us_s, us_s, n0, n1, n2, n3]; exact ⟨rfl, rfl, rfl, rfl⟩
      · rw [us_n e, us_n e, us_n e, us_n e, lo _ (by omega) (by omega), lo _ (by omega) (by omega), lo _ (by omega) (by omega), lo _ (by omega) (by omega)]
        exact a5 i i0 (by omega)
    · obtain ⟨b0, b1, b2, b3, b4, b5, b6, b7⟩ := yb
      refine ⟨by rw [lo 0 (by decide) (by omega)]; exact b0, by rw [lo 1 (by decide) (by omega)]; exact b1, by rw [lo 2 (by decide) (by omega)]; exact b2, by rw [lo 3 (by decide) (by omega)]; exact b3, by rw [lo 4 (by decide) (by omega)]; exact b4, by rw [e5]; omega, fun q q0 q1 => by rw [lo _ (by omega) (by omega)]; exact b6 q q0 q1, fun i i0 i1 => ?_⟩
      rw [e5] at i1
      by_cases e : i = k
      · subst e; rw [n0, n1, n2, n3]; exact ⟨ht, v2, v5⟩
      · rw [lo _ (by omega) (by omega), lo _ (by omega) (by omega), lo _ (by omega) (by omega), lo _ (by omega) (by omega)]
        exact b7 i i0 (by omega)
/-- what stands behind the word of a thing -/
theorem bodyT {tw : Int} (h : QL μ0 b t n A B ν ρ) (hB : B ≤ 900) (hf : ν 200 2 = 0 → ν 210 5 < 12) (ht : tw = 0 ∨ tw = 1) : E2 ((fX3_readNumber 200 0 143 ν).bind fun x => if tw = 0 then jX3_readThing_49 200 tw x.1 0 x.2 else (fX3_readNumber 200 0 99 x.2).bind fun y => jX3_readThing_49 200 tw x.1 y.1 y.2) (jX11_thing_17 20000 tw ρ) (fun ν' ρ' => QL μ0 b t n A (B + 1) ν' ρ') := by
  unfold jX11_thing_17
  rw [chk_t K20000]
  refine E2_bind (num2 h.1 (fun _ => rfl)) ?_
  rintro ⟨p, ν1⟩ ⟨p', ρ1⟩ ⟨q1, q2, q3, q4⟩
  dsimp only at q1 q2 q3 q4 ⊢
  have h1 := QL_kp h q1 q2
  have e210 : ν1 210 = ν 210 := q2.1.1 210 (by decide)
  rcases ht with e | e
  · subst e
    rw [if_pos rfl, if_pos rfl]
    unfold jX3_readThing_49 jX11_thing_41 jX3_readThing_66
    rw [if_pos rfl, if_pos rfl]
    rw [chk_t K200, q1.rd.1.1, chk_t K210]
    have k := addT (p := p) (p' := p') (f := 0) (f' := 0) (l := 99) (l' := 99) h1 hB (fun z => by rw [e210]; exact hf (q2.2.2.1 z)) (.inl rfl) (fun z => ⟨(q3 z).1, (q3 z).2, rfl, rfl, by decide⟩)
    obtain ⟨u, w, e1, e2, hk⟩ := k
    exact ⟨u, w, by rw [e1]; rfl, e2, hk⟩
  · subst e
    rw [if_neg (by decide), if_neg (by decide)]
    refine E2_bind (num2 h1.1 (fun _ => rfl)) ?_
    rintro ⟨f, ν2⟩ ⟨f', ρ2⟩ ⟨u1, u2, u3, u4⟩
    dsimp only at u1 u2 u3 u4 ⊢
    have h2 := QL_kp h1 u1 u2
    unfold jX3_readThing_49 jX11_thing_41 jX3_readThing_66
    rw [if_neg (by decide), if_neg (by decide), chk_t K200, chk_t K20000]
    refine E2_bind (num2 h2.1 (fun z => (u3 z).1)) ?_
    rintro ⟨l, ν3⟩ ⟨l', ρ3⟩ ⟨y1, y2, y3, y4⟩
    dsimp only at y1 y2 y3 y4 ⊢
    have h3 := QL_kp h2 y1 y2
    have e210' : ν3 210 = ν 210 := (y2.1.1 210 (by decide)).trans ((u2.1.1 210 (by decide)).trans e210)
    rw [chk_t K200, y1.rd.1.1, chk_t K210]
    have k := addT (p := p) (p' := p') (f := f) (f' := f') (l := l) (l' := l') h3 hB (fun z => by rw [e210']; exact hf (q2.2.2.1 (u2.2.2.1 (y2.2.2.1 z)))) (.inr rfl) (fun z => by
      have z2 := y2.2.2.1 z
      have z1 := u2.2.2.1 z2
      have a1 := q3 z1; have a2 := u3 z2; have a3 := y3 z
      exact ⟨a1.1, a1.2, a2.1, a3.1, by omega⟩)
    obtain ⟨u, w, e1, e2, hk⟩ := k
    exact ⟨u, w, by rw [e1]; rfl, e2, hk⟩
end
