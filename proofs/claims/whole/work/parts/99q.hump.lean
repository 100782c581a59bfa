/-! ===== a hump of a sketch's text ===== -/
theorem lop_out {σ ρ : Type} {st : σ → Option (σ ⊕ ρ)} {f : Nat} {s : σ} {r : ρ} (h : st s = some (.inr r)) : lop st (f + 1) s = some r := by
  show (match st s with | none => none | some (.inl s') => lop st f s' | some (.inr r) => some r) = some r
  rw [h]
section
variable {μ0 ν ν' ν1 ν2 ρ ρ' ρ1 ρ2 : Mm} {b t g : Int → Int} {n A B A' B' p a q k c v : Int} {s : Prop}
theorem marksQ (h : QT μ0 b t n A True ν ρ) (r16 : Int) : E2 (fX3_readMarks 200 ν) (lop (sX11_hump0_27 20000 r16) FU (0, ρ)) (fun x y => QT μ0 b t n A True x.2 y.2 ∧ Kp ν x.2 ρ y.2 ∧ (x.2 200 2 = 0 → x.1 = y.1 ∧ 0 ≤ x.1 ∧ x.1 ≤ 5)) := by
  by_cases hF : ν 200 2 = 1
  · have w1 := h.w1 hF
    have es : sX11_hump0_27 20000 r16 (0, ρ) = some (.inr (0, ρ)) := by
      unfold sX11_hump0_27
      dsimp only
      simp (disch := omega) only [w32_eq, w64_eq, chk_T, chk_t, lt, lm, ob, Int.add_zero, Int.zero_add, true_and, and_true, if_true, if_false, K20000, K20001, K20002, K20003, K20004, K20005, K20006, K20007, K20008, K20009, K20010, K20011, K20012, K20013, K20014, K20015, K20016, K20017, K20018, K20019, N20001, N20002, N20003, N20004, N20005, N20006, N20007, N20008, N20009, N20010, N20011, N20012, N20013, N20014, N20015, N20016, N20017, N20018, N20019, w1]
      rw [if_neg (by decide)]
    obtain ⟨x, e1, h1, h2⟩ := marks1 h hF
    have e2 := lop_out (f := 9999999) es
    rw [← FUs] at e2
    refine ⟨x, (0, ρ), e1, e2, h1, h2, fun z => ?_⟩
    have := h2.2.2.2 hF; omega
  · exact marks2 h hF r16
theorem tailH {v1 r r' m m' : Int} (h : QT μ0 b t n A True ν ρ) (S : SS B ν ρ) (hB : B ≤ 900) (R : ν 200 2 = 0 → SR ν ρ) (hv : v1 = 0 ∨ v1 = 1 ∧ ν 220 0 < 12) (hf : ν 200 2 = 0 → v1 = 1) (hr : ν 200 2 = 0 → r = r' ∧ 1 ≤ r ∧ r ≤ 99) (hm : ν 200 2 = 0 → m = m' ∧ 0 ≤ m ∧ m ≤ 5) : E2 (if v1 = 0 then some ν else chk (KD (ν 200 1) = 6) (chk (KD (ν (ν 200 1) 7) = 12 ∧ 0 ≤ ν (ν 200 1) 0 ∧ ν (ν 200 1) 0 < LN (ν (ν 200 1) 7)) (lm (mst ν (ν (ν 200 1) 7) (ν (ν 200 1) 0) r) fun μ8 => chk (KD (μ8 200 1) = 6) (chk (KD (μ8 (μ8 200 1) 8) = 12 ∧ 0 ≤ μ8 (μ8 200 1) 0 ∧ μ8 (μ8 200 1) 0 < LN (μ8 (μ8 200 1) 8)) (lm (mst μ8 (μ8 (μ8 200 1) 8) (μ8 (μ8 200 1) 0) m) fun μ11 => chk (KD (μ11 200 1) = 6) (lm (mst μ11 (μ11 200 1) 0 (w32 ((μ11 (μ11 200 1) 0) + 1))) fun μ13 => some μ13)))))) (chk (KD (ρ 20000 13) = 12 ∧ 0 < LN (ρ 20000 13)) (if 12 ≤ ρ (ρ 20000 13) 0 then lm (mst ρ (ρ 20000 13) 0 (w32 ((ρ (ρ 20000 13) 0) + 1))) fun μ21 => some μ21 else chk (0 ≤ w32 (7 + (ρ (ρ 20000 13) 0)) ∧ w32 (7 + (ρ (ρ 20000 13) 0)) < LN (ρ 20000 13)) (lm (mst ρ (ρ 20000 13) (w32 (7 + (ρ (ρ 20000 13) 0))) r') fun μ23 => chk (KD (μ23 20000 13) = 12 ∧ 0 < LN (μ23 20000 13)) (chk (0 ≤ w32 (19 + (μ23 (μ23 20000 13) 0)) ∧ w32 (19 + (μ23 (μ23 20000 13) 0)) < LN (μ23 20000 13)) (lm (mst μ23 (μ23 20000 13) (w32 (19 + (μ23 (μ23 20000 13) 0))) m') fun μ26 => chk (KD (μ26 20000 13) = 12 ∧ 0 < LN (μ26 20000 13)) (lm (mst μ26 (μ26 20000 13) 0 (w32 ((μ26 (μ26 20000 13) 0) + 1))) fun μ28 => some μ28)))))) (fun ν' ρ' => QS μ0 b t n A (B + 1) ν' ρ' ∧ ν' 200 2 = ν 200 2 ∧ (ν 200 2 = 0 → ρ' 20005 5 = ρ 20005 5 ∧ ρ' 20005 6 = ρ 20005 6)) := by
  have rd := h.rd
  have hM := h.md
  have e1 : ν 200 1 = 220 := rd.1.2
  have f7 : ν 220 7 = 221 := rd.2.2.1.1
  have f8 : ν 220 8 = 222 := rd.2.2.1.2
  unfold SS at S
  have e13 : ∀ (μ : Mm) i v, mst μ 20005 i v 20000 = μ 20000 := fun μ i v => mst_n (by decide)
  -- the reference
  have c2 : ∃ ρ', (chk (KD (ρ 20000 13) = 12 ∧ 0 < LN (ρ 20000 13)) (if 12 ≤ ρ (ρ 20000 13) 0 then lm (mst ρ (ρ 20000 13) 0 (w32 ((ρ (ρ 20000 13) 0) + 1))) fun μ21 => some μ21 else chk (0 ≤ w32 (7 + (ρ (ρ 20000 13) 0)) ∧ w32 (7 + (ρ (ρ 20000 13) 0)) < LN (ρ 20000 13)) (lm (mst ρ (ρ 20000 13) (w32 (7 + (ρ (ρ 20000 13) 0))) r') fun μ23 => chk (KD (μ23 20000 13) = 12 ∧ 0 < LN (μ23 20000 13)) (chk (0 ≤ w32 (19 + (μ23 (μ23 20000 13) 0)) ∧ w32 (19 + (μ23 (μ23 20000 13) 0)) < LN (μ23 20000 13)) (lm (mst μ23 (μ23 20000 13) (w32 (19 + (μ23 (μ23 20000 13) 0))) m') fun μ26 => chk (KD (μ26 20000 13) = 12 ∧ 0 < LN (μ26 20000 13)) (lm (mst μ26 (μ26 20000 13) 0 (w32 ((μ26 (μ26 20000 13) 0) + 1))) fun μ28 => some μ28)))))) = some ρ' ∧ Fr [20005] [12] ρ ρ' ∧ ρ' 20005 0 = ρ 20005 0 + 1 ∧ (ρ 20005 0 < 12 → ρ' 20005 = us (us (us (ρ 20005) (7 + ρ 20005 0) r') (19 + ρ 20005 0) m') 0 (ρ 20005 0 + 1)) := by
    by_cases z : 12 ≤ ρ 20005 0
    · refine ⟨mst ρ 20005 0 (ρ 20005 0 + 1), ?_, Fr.row rfl rfl (by decide) (by decide), mst_s, fun y => by omega⟩
      simp (disch := omega) only [w32_eq, w64_eq, chk_T, chk_t, lt, lm, ob, Int.add_zero, Int.zero_add, true_and, and_true, if_true, if_false, K20000, K20001, K20002, K20003, K20004, K20005, K20006, K20007, K20008, K20009, K20010, K20011, K20012, K20013, K20014, K20015, K20016, K20017, K20018, K20019, N20001, N20002, N20003, N20004, N20005, N20006, N20007, N20008, N20009, N20010, N20011, N20012, N20013, N20014, N20015, N20016, N20017, N20018, N20019, Md_13 hM]
      rw [if_pos z]
    · refine ⟨mst (mst (mst ρ 20005 (7 + ρ 20005 0) r') 20005 (19 + ρ 20005 0) m') 20005 0 (ρ 20005 0 + 1), ?_, ((Fr.row rfl rfl (by decide) (by decide)).tr (Fr.row rfl rfl (by decide) (by decide))).tr (Fr.row rfl rfl (by decide) (by decide)), mst_s, fun _ => by rw [mst_r, mst_r, mst_r]⟩
      simp (disch := omega) only [w32_eq, w64_eq, chk_T, chk_t, lt, lm, ob, Int.add_zero, Int.zero_add, true_and, and_true, if_true, if_false, K20000, K20001, K20002, K20003, K20004, K20005, K20006, K20007, K20008, K20009, K20010, K20011, K20012, K20013, K20014, K20015, K20016, K20017, K20018, K20019, N20001, N20002, N20003, N20004, N20005, N20006, N20007, N20008, N20009, N20010, N20011, N20012, N20013, N20014, N20015, N20016, N20017, N20018, N20019, Md_13 hM, e13, mst_j]
      rw [if_neg z]
  obtain ⟨ρ', y0, y1, y2, y3⟩ := c2
  rw [y0]
  rcases hv with e | ⟨e, lt⟩
  · rw [if_pos e]
    refine E2_some ⟨⟨QT_c h Fw.rf (fun _ _ => rfl) rd y1, ?_, fun z => ?_⟩, rfl, fun z => ?_⟩
    · unfold SS; rw [y2]; omega
    · have := hf z; omega
    · have := hf z; omega
  · rw [if_neg (by omega)]
    simp (disch := omega) only [w32_eq, w64_eq, chk_T, chk_t, lt, lm, ob, Int.add_zero, Int.zero_add, true_and, and_true, if_true, if_false, e1, f7, f8, mst_n, K220, K221, N221, K222, N222]
    have f : Fw (fun x => 220 ≤ x ∧ x ≤ 222) ν (mst (mst (mst ν 221 (ν 220 0) r) 222 (ν 220 0) m) 220 0 (ν 220 0 + 1)) := Fw.st (Fw.st (Fw.st Fw.rf (by omega)) (by omega)) (by omega)
    have o : ∀ j, j ≠ 0 → mst (mst (mst ν 221 (ν 220 0) r) 222 (ν 220 0) m) 220 0 (ν 220 0 + 1) 220 j = ν 220 j := fun j hj => by rw [mst_j hj, mst_n (by decide), mst_n (by decide)]
    have n0 : mst (mst (mst ν 221 (ν 220 0) r) 222 (ν 220 0) m) 220 0 (ν 220 0 + 1) 220 0 = ν 220 0 + 1 := mst_s
    have n1 : mst (mst (mst ν 221 (ν 220 0) r) 222 (ν 220 0) m) 220 0 (ν 220 0 + 1) 221 = us (ν 221) (ν 220 0) r := by rw [mst_n (by decide), mst_n (by decide), mst_r]
    have n2 : mst (mst (mst ν 221 (ν 220 0) r) 222 (ν 220 0) m) 220 0 (ν 220 0 + 1) 222 = us (ν 222) (ν 220 0) m := by rw [mst_n (by decide), mst_r, mst_n (by decide)]
    generalize mst (mst (mst ν 221 (ν 220 0) r) 222 (ν 220 0) m) 220 0 (ν 220 0 + 1) = ν' at *
    have r200 : ν' 200 = ν 200 := f 200 (by decide)
    refine E2_some ⟨⟨QT_c h (f.mo (fun x hx => by unfold rdR; omega)) (fun j _ => by rw [r200]) ?_ y1, ?_, fun z => ?_⟩, by rw [r200], fun z => ?_⟩
    · unfold RdI LaF SkF SkB at rd ⊢
      rw [r200, f 210 (by decide), f 213 (by decide), o 7 (by decide), o 8 (by decide), o 2 (by decide), o 3 (by decide), o 4 (by decide)]; exact rd
    · unfold SS; rw [n0, y2]; omega
    · rw [r200] at z
      obtain ⟨⟨s1, s2, ⟨z0, z1, z2, z3, z4, z5, z6⟩, s4⟩, sb⟩ := R z
      obtain ⟨v1', v2', v3'⟩ := hr z
      obtain ⟨w1', w2', w3'⟩ := hm z
      subst v1'; subst w1'
      have rr := y3 (by omega)
      rw [← z0] at rr y2
      generalize hk : ν 220 0 = k at *
      have lo : ∀ x, x ≠ 0 → x ≠ 7 + k → x ≠ 19 + k → ρ' 20005 x = ρ 20005 x := fun x e0 e1 e2 => by rw [rr, us_n e0, us_n e2, us_n e1]
      have e7 : ρ' 20005 (7 + k) = r := by rw [rr, us_n (by omega), us_n (by omega), us_s]
      have e19 : ρ' 20005 (19 + k) = m := by rw [rr, us_n (by omega), us_s]
      refine ⟨⟨s1, ?_, ⟨?_, ?_, ?_, ?_, ?_, ?_, ?_⟩, fun i i0 i1 => ?_⟩, ?_⟩
      · unfold SkF at s2 ⊢; rw [o 7 (by decide), o 8 (by decide)]; exact s2
      · rw [n0, y2]
      · rw [o 1 (by decide), lo 1 (by decide) (by omega) (by omega)]; exact z1
      · rw [o 2 (by decide), lo 2 (by decide) (by omega) (by omega)]; exact z2
      · rw [o 3 (by decide), lo 3 (by decide) (by omega) (by omega)]; exact z3
      · rw [o 4 (by decide), lo 4 (by decide) (by omega) (by omega)]; exact z4
      · rw [o 5 (by decide), lo 5 (by decide) (by omega) (by omega)]; exact z5
      · rw [o 6 (by decide), lo 6 (by decide) (by omega) (by omega)]; exact z6
      · rw [y2] at i1
        rw [show (220 : Int) + 1 = 221 by decide, show (220 : Int) + 2 = 222 by decide, n1, n2]
        by_cases e : i = k
        · subst e; rw [us_s, us_s, e7, e19]; exact ⟨rfl, rfl⟩
        · rw [us_n e, us_n e, lo _ (by omega) (by omega) (by omega), lo _ (by omega) (by omega) (by omega)]; exact s4 i i0 (by omega)
      · obtain ⟨b0, b1, b2, b3, b4, b5, b6, b7⟩ := sb
        refine ⟨by rw [y2]; omega, by rw [lo 1 (by decide) (by omega) (by omega)]; exact b1, by rw [lo 2 (by decide) (by omega) (by omega)]; exact b2, by rw [lo 3 (by decide) (by omega) (by omega)]; exact b3, by rw [lo 4 (by decide) (by omega) (by omega)]; exact b4, by rw [lo 5 (by decide) (by omega) (by omega)]; exact b5, by rw [lo 6 (by decide) (by omega) (by omega)]; exact b6, fun i i0 i1 => ?_⟩
        rw [y2] at i1
        by_cases e : i = k
        · subst e; rw [e7, e19]; omega
        · rw [lo _ (by omega) (by omega) (by omega), lo _ (by omega) (by omega) (by omega)]; exact b7 i i0 (by omega)
    · have z0 : ν 220 0 = ρ 20005 0 := (R z).1.2.2.1.1
      have rr := y3 (by omega)
      rw [rr, us_n (by decide), us_n (by omega), us_n (by omega), us_n (by decide), us_n (by omega), us_n (by omega)]; exact ⟨rfl, rfl⟩
theorem hump2 (h : QS μ0 b t n A A ν ρ) (hF : ν 200 2 ≠ 1) (h7 : ν 200 7 ≠ 0) : E2 (fX3_readHump 200 ν) ((fX11_advance 20000 ρ).bind fun ρ1 => fX11_hump0 20000 (ν 200 8) ρ1) (fun ν' ρ' => QS μ0 b t n (A + 1) (A + 1) ν' ρ' ∧ (ν' 200 2 = 0 → ν 200 2 = 0 ∧ ρ' 20005 5 = ρ 20005 5 ∧ ρ' 20005 6 = ρ 20005 6)) := by
  have bd := h.1.bd
  have A0 := h.1.2.2.1
  have rd := h.1.rd
  have e1 : ν 200 1 = 220 := rd.1.2
  have S := h.2.1
  unfold SS at S
  have body : ∀ (v1 : Int) (ν2 ρ2 : Mm), QT μ0 b t n (A + 1) True ν2 ρ2 → Kp ν ν2 ρ ρ2 → (v1 = 0 ∨ v1 = 1 ∧ ν 220 0 < 12) → (ν2 200 2 = 0 → v1 = 1) → E2 ((fX3_readNumber 200 1 99 ν2).bind fun x => (fX3_readMarks 200 x.2).bind fun y => if v1 = 0 then some y.2 else chk (KD (y.2 200 1) = 6) (chk (KD (y.2 (y.2 200 1) 7) = 12 ∧ 0 ≤ y.2 (y.2 200 1) 0 ∧ y.2 (y.2 200 1) 0 < LN (y.2 (y.2 200 1) 7)) (lm (mst y.2 (y.2 (y.2 200 1) 7) (y.2 (y.2 200 1) 0) x.1) fun μ8 => chk (KD (μ8 200 1) = 6) (chk (KD (μ8 (μ8 200 1) 8) = 12 ∧ 0 ≤ μ8 (μ8 200 1) 0 ∧ μ8 (μ8 200 1) 0 < LN (μ8 (μ8 200 1) 8)) (lm (mst μ8 (μ8 (μ8 200 1) 8) (μ8 (μ8 200 1) 0) y.1) fun μ11 => chk (KD (μ11 200 1) = 6) (lm (mst μ11 (μ11 200 1) 0 (w32 ((μ11 (μ11 200 1) 0) + 1))) fun μ13 => some μ13)))))) (jX11_hump0_17 20000 ρ2) (fun ν' ρ' => QS μ0 b t n (A + 1) (A + 1) ν' ρ' ∧ (ν' 200 2 = 0 → ν 200 2 = 0 ∧ ρ' 20005 5 = ρ 20005 5 ∧ ρ' 20005 6 = ρ 20005 6)) := by
    intro v1 ν2 ρ2 q1 q2 q3 q4
    unfold jX11_hump0_17
    rw [chk_t K20000]
    refine E2_bind (num2 q1 (fun _ => rfl)) ?_
    rintro ⟨r, ν3⟩ ⟨r', ρ3⟩ ⟨u1, u2, u3, u4⟩
    dsimp only at u1 u2 u3 u4 ⊢
    refine E2_bind (marksQ u1 r') ?_
    rintro ⟨m, ν4⟩ ⟨m', ρ4⟩ ⟨y1, y2, y3⟩
    dsimp only at y1 y2 y3 ⊢
    have K := (q2.tr u2).tr y2
    have e220 : ν4 220 = ν 220 := K.1.1 220 (by decide)
    refine E2_mono (tailH y1 (SS_kp h.2.1 K) (by omega) (SR_kp h.2.2 K) (by rw [e220]; exact q3) (fun z => q4 (u2.2.2.1 (y2.2.2.1 z))) (fun z => u3 (y2.2.2.1 z)) y3) ?_
    rintro ν5 ρ5 ⟨x1, x2, x3⟩
    refine ⟨x1, fun z => ?_⟩
    have z4 := x2.symm.trans z
    have x4 := x3 z4
    rw [K.2.1.1] at x4
    exact ⟨K.2.2.1 z4, x4⟩
  unfold fX3_readHump
  rw [chk_t K200, e1, chk_t K220]
  unfold jX3_readHump_17
  rw [if_pos rfl, if_neg (show ¬((1 : Int) = 0) by decide), chk_t K200]
  by_cases z : ν 200 2 = 0
  · have e0 : ν 220 0 = ρ 20005 0 := (h.2.2 z).1.2.2.1.1
    by_cases y : 12 ≤ ν 220 0
    · rw [if_pos y, c_note, if_pos z]
      simp only [ob]
      unfold jX3_readHump_31
      rw [chk_t K200]
      refine E2_bind (kwN h.1 z h7) ?_
      rintro ν2 ρ1 ⟨ρ2, ea, u1, u2, u3, u4, u5⟩
      unfold fX11_hump0
      simp (disch := omega) only [w32_eq, w64_eq, chk_T, chk_t, lt, lm, ob, Int.add_zero, Int.zero_add, true_and, and_true, if_true, if_false, K20000, K20001, K20002, K20003, K20004, K20005, K20006, K20007, K20008, K20009, K20010, K20011, K20012, K20013, K20014, K20015, K20016, K20017, K20018, K20019, N20001, N20002, N20003, N20004, N20005, N20006, N20007, N20008, N20009, N20010, N20011, N20012, N20013, N20014, N20015, N20016, N20017, N20018, N20019, Md_13 u5, u4]
      rw [if_neg (by omega), ea]
      simp only [ob]
      exact body 0 ν2 ρ2 u1 u2 (.inl rfl) (fun w => by omega)
    · rw [if_neg y]
      unfold jX3_readHump_31
      rw [chk_t K200]
      refine E2_bind (adv2 h.1 hF h7) ?_
      rintro ν2 ρ2 ⟨u1, u2, u3⟩
      unfold fX11_hump0
      simp (disch := omega) only [w32_eq, w64_eq, chk_T, chk_t, lt, lm, ob, Int.add_zero, Int.zero_add, true_and, and_true, if_true, if_false, K20000, K20001, K20002, K20003, K20004, K20005, K20006, K20007, K20008, K20009, K20010, K20011, K20012, K20013, K20014, K20015, K20016, K20017, K20018, K20019, N20001, N20002, N20003, N20004, N20005, N20006, N20007, N20008, N20009, N20010, N20011, N20012, N20013, N20014, N20015, N20016, N20017, N20018, N20019, Md_13 u1.md, u2.2.1.1]
      rw [if_pos (by omega)]
      exact body 1 ν2 ρ2 u1 u2 (.inr ⟨rfl, by omega⟩) (fun _ => rfl)
  · have en : fX3_note 200 3 (ν 200 8) ν = some ν := by rw [c_note, if_neg z]
    rw [en]
    simp only [ob]
    have go : ∀ v1, (v1 = 0 ∨ v1 = 1 ∧ ν 220 0 < 12) → E2 (jX3_readHump_31 200 v1 ν) ((fX11_advance 20000 ρ).bind fun ρ1 => fX11_hump0 20000 (ν 200 8) ρ1) (fun ν' ρ' => QS μ0 b t n (A + 1) (A + 1) ν' ρ' ∧ (ν' 200 2 = 0 → ν 200 2 = 0 ∧ ρ' 20005 5 = ρ 20005 5 ∧ ρ' 20005 6 = ρ 20005 6)) := by
      intro v1 hv
      unfold jX3_readHump_31
      rw [chk_t K200]
      refine E2_bind (kwO h.1 hF z h7) ?_
      rintro ν2 ρ2 ⟨ea, u1, u2, u3⟩
      unfold fX11_hump0
      simp (disch := omega) only [w32_eq, w64_eq, chk_T, chk_t, lt, lm, ob, Int.add_zero, Int.zero_add, true_and, and_true, if_true, if_false, K20000, K20001, K20002, K20003, K20004, K20005, K20006, K20007, K20008, K20009, K20010, K20011, K20012, K20013, K20014, K20015, K20016, K20017, K20018, K20019, N20001, N20002, N20003, N20004, N20005, N20006, N20007, N20008, N20009, N20010, N20011, N20012, N20013, N20014, N20015, N20016, N20017, N20018, N20019, Md_13 u1.md, ea]
      simp only [ite_self]
      exact body v1 ν2 ρ2 u1 u2 hv (fun w => absurd (u3.symm.trans w) z)
    by_cases y : 12 ≤ ν 220 0
    · rw [if_pos y]; exact go 0 (.inl rfl)
    · rw [if_neg y]; exact go 1 (.inr ⟨rfl, by omega⟩)
end
