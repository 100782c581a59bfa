/-! ===== a land's line, whole ===== -/
section
variable {μ0 ν ν' ν1 ν2 ρ ρ' ρ1 ρ2 : Mm} {b t g : Int → Int} {n A B A' B' p a q k c v : Int} {s : Prop}
theorem advL (h : QL μ0 b t n A B ν ρ) (hF : ν 200 2 ≠ 1) (h7 : ν 200 7 ≠ 0) : E2 (fX3_advance 200 ν) (fX11_advance 20000 ρ) (fun ν' ρ' => QL μ0 b t n (A + 1) B ν' ρ' ∧ ν' 200 2 ≠ 1) := by
  refine E2_mono (adv2 h.1 hF h7) ?_
  rintro ν1 ρ1 ⟨u1, u2, u3⟩
  exact ⟨QL_kp h u1 u2, by rw [u3]; exact hF⟩
theorem stopL (h : QL μ0 b t n A B ν ρ) : E2 (jX3_landClause_193 200 ν) (jX11_landLine_134 20000 ρ) (fun ν' ρ' => QL μ0 b t n A B ν' ρ') := by
  unfold jX3_landClause_193 jX11_landLine_134
  rw [chk_t K200, chk_t K20000]
  refine E2_bind (stop2 h.1) ?_
  rintro ν1 ρ1 ⟨u1, u2⟩
  exact E2_some (QL_kp h u1 u2)
theorem takes_y (w0 : ρ 20000 11 = 0) (h8 : ρ 20000 8 = 3) (hw : ρ 20000 10 ≤ 7) : fX11_takes 20000 1 ρ = (fX11_advance 20000 ρ).bind fun μ6 => some (ρ 20000 10, μ6) := by
  unfold fX11_takes jX11_takes_33 jX11_takes_38
  simp (disch := omega) only [w32_eq, w64_eq, chk_T, chk_t, lt, lm, ob, Int.add_zero, Int.zero_add, true_and, and_true, if_true, if_false, K20000, K20001, K20002, K20003, K20004, K20005, K20006, K20007, K20008, K20009, K20010, K20011, K20012, K20013, K20014, K20015, K20016, K20017, K20018, K20019, N20001, N20002, N20003, N20004, N20005, N20006, N20007, N20008, N20009, N20010, N20011, N20012, N20013, N20014, N20015, N20016, N20017, N20018, N20019, h8, w0]
  rw [if_neg (by decide), if_neg (by omega), if_neg (by decide)]
theorem takes_n (w0 : ρ 20000 11 = 0) (h : ¬(ρ 20000 8 = 3 ∧ ρ 20000 10 ≤ 7)) : fX11_takes 20000 1 ρ = (fX11_ends 20000 ρ).bind fun μ2 => some (0, μ2) := by
  unfold fX11_takes jX11_takes_37 jX11_takes_38 jX11_takes_50
  simp (disch := omega) only [w32_eq, w64_eq, chk_T, chk_t, lt, lm, ob, Int.add_zero, Int.zero_add, true_and, and_true, if_true, if_false, K20000, K20001, K20002, K20003, K20004, K20005, K20006, K20007, K20008, K20009, K20010, K20011, K20012, K20013, K20014, K20015, K20016, K20017, K20018, K20019, N20001, N20002, N20003, N20004, N20005, N20006, N20007, N20008, N20009, N20010, N20011, N20012, N20013, N20014, N20015, N20016, N20017, N20018, N20019, w0]
  by_cases h8 : ρ 20000 8 = 3
  · rw [if_pos h8, if_neg (by decide), if_pos (by omega)]
  · rw [if_neg h8]
/-- the word of a thing, the land being full: the class notes it ahead of going on, the reference behind -/
theorem kwN (h : QT μ0 b t n A True ν ρ) (h0 : ν 200 2 = 0) (h7 : ν 200 7 ≠ 0) : E2 (fX3_advance 200 (mst (mst ν 200 2 3) 200 3 (ν 200 8))) (fX11_advance 20000 ρ) (fun ν' ρ1 => ∃ ρ', fX11_also 20000 3 (ν 200 8) ρ1 = some ρ' ∧ QT μ0 b t n (A + 1) True ν' ρ' ∧ Kp ν ν' ρ ρ' ∧ ν' 200 2 = 3 ∧ ρ1 20005 = ρ 20005 ∧ Md ρ1) := by
  have hF : ν 200 2 ≠ 1 := by omega
  obtain ⟨p0, hp0, hk⟩ := h.tk
  have tb := TK_b hk
  have w0 := h.w0 hF
  have r6 := (h.tr hF).1
  obtain ⟨⟨x1, x2, x3⟩, ⟨x4, x4'⟩, ⟨x5, x6⟩, x7, ⟨x8, x9, x10⟩, x11, x12⟩ := h
  have n3 := x3.2.2.1
  have fN : Fw (fun x => x = 200) ν (mst (mst ν 200 2 3) 200 3 (ν 200 8)) := Fw.st (Fw.st Fw.rf rfl) rfl
  have oN : ∀ j, j ≠ 2 → j ≠ 3 → mst (mst ν 200 2 3) 200 3 (ν 200 8) 200 j = ν 200 j := fun j h2 h3 => by rw [mst_j h3, mst_j h2]
  have eN2 : mst (mst ν 200 2 3) 200 3 (ν 200 8) 200 2 = 3 := by rw [mst_j (by decide), mst_s]
  have eN3 : mst (mst ν 200 2 3) 200 3 (ν 200 8) 200 3 = ν 200 8 := mst_s
  generalize mst (mst ν 200 2 3) 200 3 (ν 200 8) = νN at *
  have CN : CT νN t n := x3.e fN (oN 4 (by decide) (by decide)) (oN 5 (by decide) (by decide))
  refine E2_of (c_advance CN (p := ν 200 6) (oN 6 (by decide) (by decide)) (by omega)) (r_advance x4 r6 (by omega)) ?_
  rintro ν' ρ1 ⟨f, o, T⟩ ⟨f', k', T', R'⟩
  have tb' := TK_b T
  have u := TK_u T' T
  rw [u.1, u.2.1, u.2.2] at R'
  have fr1 : ρ1 20001 = ρ 20001 := f'.1 20001 (by decide) (by decide)
  have M1 : Md ρ1 := f'.md x4.1 (by decide)
  have w1 : ρ1 20000 11 = 0 := (f'.2 11 (by decide)).trans w0
  have F0 : ρ1 20001 3 = 0 := by rw [fr1]; exact x8.trans h0
  have o' : ∀ j, j ≠ 2 → j ≠ 3 → j ≠ 6 → j ≠ 7 → j ≠ 8 → ν' 200 j = ν 200 j := fun j h2 h3 h6 h7 h8 => (o j h6 h7 h8).trans (oN j h2 h3)
  have ff : Fw (fun x => x = 200) ν ν' := fN.tr f
  have e2 : ν' 200 2 = 3 := (o 2 (by decide) (by decide) (by decide)).trans eN2
  have e3 : ν' 200 3 = ν 200 8 := (o 3 (by decide) (by decide) (by decide)).trans eN3
  refine ⟨mst (mst ρ1 20001 3 3) 20001 4 (ν 200 8), by rw [r_also M1 w1 3 (ν 200 8) (fun z => absurd F0 z), if_pos F0], ?_⟩
  have fr : Fr [20001] [6, 7, 8, 9, 10] ρ (mst (mst ρ1 20001 3 3) 20001 4 (ν 200 8)) := ((f'.mo (by decide) (by decide)).tr (Fr.row rfl rfl (by decide) (by decide))).tr (Fr.row rfl rfl (by decide) (by decide))
  have rx : ∀ x, x ≠ 3 → x ≠ 4 → mst (mst ρ1 20001 3 3) 20001 4 (ν 200 8) 20001 x = ρ 20001 x := fun x h3 h4 => by rw [mst_j h4, mst_j h3, fr1]
  have r0 : mst (mst ρ1 20001 3 3) 20001 4 (ν 200 8) 20000 = ρ1 20000 := by rw [mst_n (by decide), mst_n (by decide)]
  obtain ⟨y1, y2, y3, y4⟩ := x4
  refine ⟨⟨⟨x1.tr (ff.mo (fun x hx => .inl hx)), x2.r2 ff (o' 0 (by decide) (by decide) (by decide) (by decide) (by decide)) (o' 1 (by decide) (by decide) (by decide) (by decide) (by decide)), x3.e ff (o' 4 (by decide) (by decide) (by decide) (by decide) (by decide)) (o' 5 (by decide) (by decide) (by decide) (by decide) (by decide))⟩, ⟨⟨fr.md y1 (by decide), (fr.2 5 (by decide)).trans y2, y3, fun i i0 i1 => by rw [rx _ (by omega) (by omega)]; exact y4 i i0 i1⟩, fun x h3 h4 => by rw [rx x h3 h4]; exact x4' x h3 h4⟩, ⟨by omega, by omega⟩, ⟨ν 200 6, by omega, T⟩, ⟨by rw [e2, mst_j (by decide), mst_s], by rw [e3, mst_s], by rw [e2, if_neg (by decide), r0]; exact w1⟩, by rw [e2, e3]; omega, fun _ => ⟨⟨by rw [r0]; exact u.2.1, by rw [r0]; exact u.1, ?_⟩, fun _ => by rw [e3]; exact ⟨by omega, fun _ => by omega⟩⟩⟩, ⟨⟨ff, o' 9 (by decide) (by decide) (by decide) (by decide) (by decide)⟩, ⟨fr.1 20005 (by decide) (by decide), fr.2 12 (by decide)⟩, fun _ => h0, fun z => absurd z hF⟩, e2, f'.1 20005 (by decide) (by decide), M1⟩
  unfold TR at R' ⊢
  rw [r0]; exact R'
/-- a note behind going on, with a fault that stands already -/
theorem kwO (h : QT μ0 b t n A True ν ρ) (hF : ν 200 2 ≠ 1) (h0 : ν 200 2 ≠ 0) (h7 : ν 200 7 ≠ 0) : E2 (fX3_advance 200 ν) (fX11_advance 20000 ρ) (fun ν' ρ' => fX11_also 20000 3 (ν 200 8) ρ' = some ρ' ∧ QT μ0 b t n (A + 1) True ν' ρ' ∧ Kp ν ν' ρ ρ' ∧ ν' 200 2 = ν 200 2) := by
  have w := ((h.2.2.2.2.2.2 hF).2 h0).2 trivial
  have e3 := h.2.2.2.2.1
  have fa : Ev (fX11_advance 20000 ρ) (fun ρ' => ρ' 20001 = ρ 20001) := by
    have bd := h.bd
    refine Ev_mono (r_advance h.rt (h.tr hF).1 (by omega)) ?_
    rintro ρ' ⟨f', _⟩
    exact f'.1 20001 (by decide) (by decide)
  obtain ⟨ν1, ρ1, e1, e2, u1, u2, u3⟩ := adv2 h hF h7
  obtain ⟨ρ1', e2', er⟩ := fa
  rw [e2] at e2'
  cases e2'
  refine ⟨ν1, ρ1, e1, e2, ?_, u1, u2, u3⟩
  have hF1 : ν1 200 2 ≠ 1 := by rw [u3]; exact hF
  have z' : ρ1 20001 3 ≠ 0 := by rw [er, e3.1]; exact h0
  rw [r_also u1.md (u1.w0 hF1) 3 (ν 200 8) (fun _ => by rw [er, e3.2.1]; exact w), if_neg z']
theorem thing2 {tw : Int} (h : QL μ0 b t n A A ν ρ) (hF : ν 200 2 ≠ 1) (h7 : ν 200 7 ≠ 0) (ht : tw = 0 ∨ tw = 1) : E2 (fX3_readThing 200 tw ν) ((fX11_advance 20000 ρ).bind fun ρ1 => fX11_thing 20000 tw (ν 200 8) ρ1) (fun ν' ρ' => QL μ0 b t n (A + 1) (A + 1) ν' ρ') := by
  have bd := h.1.bd
  have A0 := h.1.2.2.1
  have rd := h.1.rd
  have e0 : ν 200 0 = 210 := rd.1.1
  have body : ∀ ν2 ρ2, QT μ0 b t n (A + 1) True ν2 ρ2 → Kp ν ν2 ρ ρ2 → (ν2 200 2 = 0 → ν 210 5 < 12) → E2 ((fX3_readNumber 200 0 143 ν2).bind fun x => if tw = 0 then jX3_readThing_49 200 tw x.1 0 x.2 else (fX3_readNumber 200 0 99 x.2).bind fun y => jX3_readThing_49 200 tw x.1 y.1 y.2) (jX11_thing_17 20000 tw ρ2) (fun ν' ρ' => QL μ0 b t n (A + 1) (A + 1) ν' ρ') := by
    intro ν2 ρ2 q1 q2 q3
    have e210 : ν2 210 = ν 210 := q2.1.1 210 (by decide)
    exact bodyT (QL_kp h q1 q2) (by omega) (fun z => by rw [e210]; exact q3 z) ht
  unfold fX3_readThing
  rw [chk_t K200, e0, chk_t K210]
  have S := h.2.1
  unfold SL at S
  by_cases z : ν 200 2 = 0
  · have e5 : ν 210 5 = ρ 20005 5 := (h.2.2 z).1.2.2.1.2.2.2.2.2
    by_cases y : ν 210 5 < 12
    · rw [if_pos y]
      unfold jX3_readThing_21
      rw [chk_t K200]
      refine E2_bind (adv2 h.1 hF h7) ?_
      rintro ν2 ρ2 ⟨u1, u2, u3⟩
      unfold fX11_thing
      simp (disch := omega) only [w32_eq, w64_eq, chk_T, chk_t, lt, lm, ob, Int.add_zero, Int.zero_add, true_and, and_true, if_true, if_false, K20000, K20001, K20002, K20003, K20004, K20005, K20006, K20007, K20008, K20009, K20010, K20011, K20012, K20013, K20014, K20015, K20016, K20017, K20018, K20019, N20001, N20002, N20003, N20004, N20005, N20006, N20007, N20008, N20009, N20010, N20011, N20012, N20013, N20014, N20015, N20016, N20017, N20018, N20019, Md_13 u1.md, u2.2.1.1]
      rw [if_pos (by omega)]
      exact body ν2 ρ2 u1 u2 (fun _ => y)
    · rw [if_neg y, c_note, if_pos z]
      simp only [ob]
      unfold jX3_readThing_21
      rw [chk_t K200]
      refine E2_bind (kwN h.1 z h7) ?_
      rintro ν2 ρ1 ⟨ρ2, ea, u1, u2, u3, u4, u5⟩
      unfold fX11_thing
      simp (disch := omega) only [w32_eq, w64_eq, chk_T, chk_t, lt, lm, ob, Int.add_zero, Int.zero_add, true_and, and_true, if_true, if_false, K20000, K20001, K20002, K20003, K20004, K20005, K20006, K20007, K20008, K20009, K20010, K20011, K20012, K20013, K20014, K20015, K20016, K20017, K20018, K20019, N20001, N20002, N20003, N20004, N20005, N20006, N20007, N20008, N20009, N20010, N20011, N20012, N20013, N20014, N20015, N20016, N20017, N20018, N20019, Md_13 u5, u4]
      rw [if_neg (by omega), ea]
      simp only [ob]
      exact body ν2 ρ2 u1 u2 (fun w => by omega)
  · have en : fX3_note 200 3 (ν 200 8) ν = some ν := by rw [c_note, if_neg z]
    rw [en]
    simp only [ob, ite_self]
    unfold jX3_readThing_21
    rw [chk_t K200]
    refine E2_bind (kwO h.1 hF z h7) ?_
    rintro ν2 ρ2 ⟨ea, u1, u2, u3⟩
    unfold fX11_thing
    simp (disch := omega) only [w32_eq, w64_eq, chk_T, chk_t, lt, lm, ob, Int.add_zero, Int.zero_add, true_and, and_true, if_true, if_false, K20000, K20001, K20002, K20003, K20004, K20005, K20006, K20007, K20008, K20009, K20010, K20011, K20012, K20013, K20014, K20015, K20016, K20017, K20018, K20019, N20001, N20002, N20003, N20004, N20005, N20006, N20007, N20008, N20009, N20010, N20011, N20012, N20013, N20014, N20015, N20016, N20017, N20018, N20019, Md_13 u1.md, ea]
    simp only [ite_self]
    exact body ν2 ρ2 u1 u2 (fun w => absurd (u3.symm.trans w) z)
theorem line2 (h : QL μ0 b t n A A ν ρ) (hF : ν 200 2 ≠ 1) (h7 : ν 200 7 ≠ 0) : E2 (fX3_landClause 200 ν) (fX11_landLine 20000 ρ) (fun ν' ρ' => ∃ A', A ≤ A' ∧ QL μ0 b t n A' A' ν' ρ' ∧ (ν' 200 2 ≠ 1 → A + 1 ≤ A')) := by
  have bd := h.1.bd
  have A0 := h.1.2.2.1
  have w0 := h.1.w0 hF
  have r7 := (h.1.tr hF).2.1
  have W : ∀ c, 1 ≤ c → c ≤ 16 → fX3_isWord 200 c ν = some (bi (ρ 20000 8 = 3 ∧ ρ 20000 10 = wc c)) := fun c c0 c1 => isW h.1 hF ⟨c0, c1⟩
  unfold fX3_landClause fX11_landLine
  rw [chk_t K200, chk_t K20000, W 1 (by decide) (by decide), W 2 (by decide) (by decide), W 3 (by decide) (by decide), W 4 (by decide) (by decide), W 5 (by decide) (by decide), W 6 (by decide) (by decide), W 7 (by decide) (by decide)]
  rw [show wc 1 = 1 by decide, show wc 2 = 2 by decide, show wc 3 = 3 by decide, show wc 4 = 4 by decide, show wc 5 = 5 by decide, show wc 6 = 6 by decide, show wc 7 = 7 by decide, r7]
  simp only [ob, bi_if]
  have fin : ∀ ν' ρ', QL μ0 b t n (A + 1) A ν' ρ' → ∃ A', A ≤ A' ∧ QL μ0 b t n A' A' ν' ρ' ∧ (ν' 200 2 ≠ 1 → A + 1 ≤ A') := fun ν' ρ' q => ⟨A + 1, by omega, QL_B q (by omega), fun _ => Int.le_refl _⟩
  by_cases h8 : ρ 20000 8 = 3 ∧ ρ 20000 10 ≤ 7
  · obtain ⟨k1, cc, c1, c2⟩ := tk_k1 h.1 hF h8.1
    have w1 := wc_99 c1
    rw [takes_y w0 h8.1 h8.2, oa]
    simp only [ob]
    have h10 := h8.2
    have w8 := h8.1
    generalize hw : ρ 20000 10 = w at *
    have : w = 1 ∨ w = 2 ∨ w = 3 ∨ w = 4 ∨ w = 5 ∨ w = 6 ∨ w = 7 := by omega
    rcases this with e | e | e | e | e | e | e
    · subst e
      rw [sel_t ⟨w8, rfl⟩]
      refine E2_bind (advL h hF h7) ?_
      rintro ν1 ρ1 ⟨u1, u2⟩
      rw [if_pos rfl]
      refine E2_bind (numF (j := 0) u1 (by omega)) ?_
      rintro ⟨r, ν2⟩ ⟨r', ρ2⟩ q
      dsimp only at q ⊢
      have a0 : ν1 200 0 = 210 := u1.1.rd.1.1
      simp (disch := omega) only [w32_eq, w64_eq, chk_T, chk_t, lt, lm, ob, Int.add_zero, Int.zero_add, true_and, and_true, if_true, if_false, K100, K101, K102, K103, K104, K200, K201, K230, K231, K232, K233, K234, K235, K236, K237, K250, K251, K252, K253, K254, K300, K301, K302, K303, K304, N101, N102, N103, N104, N201, N232, N233, N234, N235, N236, N237, N251, N252, N253, N254, N301, N302, N303, N304, K20000, K20001, K20002, K20003, K20004, K20005, K20006, K20007, K20008, K20009, K20010, K20011, K20012, K20013, K20014, K20015, K20016, K20017, K20018, K20019, N20001, N20002, N20003, N20004, N20005, N20006, N20007, N20008, N20009, N20010, N20011, N20012, N20013, N20014, N20015, N20016, N20017, N20018, N20019, a0, K210, Md_13 u1.1.md]
      refine E2_bind (numF (j := 1) q (by omega)) ?_
      rintro ⟨r3, ν3⟩ ⟨r3', ρ3⟩ q3
      dsimp only at q3 ⊢
      have a1 := q.1.rd.1.1
      simp (disch := omega) only [w32_eq, w64_eq, chk_T, chk_t, lt, lm, ob, Int.add_zero, Int.zero_add, true_and, and_true, if_true, if_false, K100, K101, K102, K103, K104, K200, K201, K230, K231, K232, K233, K234, K235, K236, K237, K250, K251, K252, K253, K254, K300, K301, K302, K303, K304, N101, N102, N103, N104, N201, N232, N233, N234, N235, N236, N237, N251, N252, N253, N254, N301, N302, N303, N304, K20000, K20001, K20002, K20003, K20004, K20005, K20006, K20007, K20008, K20009, K20010, K20011, K20012, K20013, K20014, K20015, K20016, K20017, K20018, K20019, N20001, N20002, N20003, N20004, N20005, N20006, N20007, N20008, N20009, N20010, N20011, N20012, N20013, N20014, N20015, N20016, N20017, N20018, N20019, a1, K210, Md_13 q.1.md]
      unfold jX11_landLine_42 jX11_landLine_51 jX11_landLine_69 jX11_landLine_87 jX11_landLine_106
      rw [if_neg (by decide), if_neg (by decide), if_neg (by decide), if_neg (by decide), if_neg (by decide), if_neg (by decide)]
      exact E2_mono (stopL q3) fin
    · subst e
      rw [sel_f (by omega), sel_t ⟨w8, rfl⟩]
      refine E2_bind (advL h hF h7) ?_
      rintro ν1 ρ1 ⟨u1, u2⟩
      rw [if_neg (by decide)]
      unfold jX11_landLine_42
      rw [if_pos rfl, chk_t K20000]
      refine E2_bind (hgts2 u1 u2 (by omega)) ?_
      rintro ν2 ρ2 ⟨A', hA, q⟩
      unfold jX11_landLine_51 jX11_landLine_69 jX11_landLine_87 jX11_landLine_106
      rw [if_neg (by decide), if_neg (by decide), if_neg (by decide), if_neg (by decide), if_neg (by decide)]
      refine E2_mono (stopL q) ?_
      intro ν' ρ' hq
      exact ⟨A', by omega, hq, fun _ => hA⟩
    · subst e
      rw [sel_f (by omega), sel_f (by omega), sel_t ⟨w8, rfl⟩]
      refine E2_bind (advL h hF h7) ?_
      rintro ν1 ρ1 ⟨u1, u2⟩
      rw [if_neg (by decide)]
      unfold jX11_landLine_42 jX11_landLine_51
      rw [if_neg (by decide), if_pos rfl, chk_t K20000]
      refine E2_bind (numF (j := 2) u1 (by omega)) ?_
      rintro ⟨r, ν2⟩ ⟨r', ρ2⟩ q
      dsimp only at q ⊢
      have a0 : ν1 200 0 = 210 := u1.1.rd.1.1
      simp (disch := omega) only [w32_eq, w64_eq, chk_T, chk_t, lt, lm, ob, Int.add_zero, Int.zero_add, true_and, and_true, if_true, if_false, K100, K101, K102, K103, K104, K200, K201, K230, K231, K232, K233, K234, K235, K236, K237, K250, K251, K252, K253, K254, K300, K301, K302, K303, K304, N101, N102, N103, N104, N201, N232, N233, N234, N235, N236, N237, N251, N252, N253, N254, N301, N302, N303, N304, K20000, K20001, K20002, K20003, K20004, K20005, K20006, K20007, K20008, K20009, K20010, K20011, K20012, K20013, K20014, K20015, K20016, K20017, K20018, K20019, N20001, N20002, N20003, N20004, N20005, N20006, N20007, N20008, N20009, N20010, N20011, N20012, N20013, N20014, N20015, N20016, N20017, N20018, N20019, a0, K210, Md_13 u1.1.md]
      unfold jX11_landLine_69 jX11_landLine_87 jX11_landLine_106
      rw [if_neg (by decide), if_neg (by decide), if_neg (by decide), if_neg (by decide)]
      exact E2_mono (stopL q) fin
    · subst e
      rw [sel_f (by omega), sel_f (by omega), sel_f (by omega), sel_t ⟨w8, rfl⟩]
      refine E2_bind (advL h hF h7) ?_
      rintro ν1 ρ1 ⟨u1, u2⟩
      rw [if_neg (by decide)]
      unfold jX11_landLine_42 jX11_landLine_51 jX11_landLine_69
      rw [if_neg (by decide), if_neg (by decide), if_pos rfl, chk_t K20000]
      refine E2_bind (numF (j := 3) u1 (by omega)) ?_
      rintro ⟨r, ν2⟩ ⟨r', ρ2⟩ q
      dsimp only at q ⊢
      have a0 : ν1 200 0 = 210 := u1.1.rd.1.1
      simp (disch := omega) only [w32_eq, w64_eq, chk_T, chk_t, lt, lm, ob, Int.add_zero, Int.zero_add, true_and, and_true, if_true, if_false, K100, K101, K102, K103, K104, K200, K201, K230, K231, K232, K233, K234, K235, K236, K237, K250, K251, K252, K253, K254, K300, K301, K302, K303, K304, N101, N102, N103, N104, N201, N232, N233, N234, N235, N236, N237, N251, N252, N253, N254, N301, N302, N303, N304, K20000, K20001, K20002, K20003, K20004, K20005, K20006, K20007, K20008, K20009, K20010, K20011, K20012, K20013, K20014, K20015, K20016, K20017, K20018, K20019, N20001, N20002, N20003, N20004, N20005, N20006, N20007, N20008, N20009, N20010, N20011, N20012, N20013, N20014, N20015, N20016, N20017, N20018, N20019, a0, K210, Md_13 u1.1.md]
      unfold jX11_landLine_87 jX11_landLine_106
      rw [if_neg (by decide), if_neg (by decide), if_neg (by decide)]
      exact E2_mono (stopL q) fin
    · subst e
      rw [sel_f (by omega), sel_f (by omega), sel_f (by omega), sel_f (by omega), sel_t ⟨w8, rfl⟩]
      refine E2_bind (advL h hF h7) ?_
      rintro ν1 ρ1 ⟨u1, u2⟩
      rw [if_neg (by decide)]
      unfold jX11_landLine_42 jX11_landLine_51 jX11_landLine_69 jX11_landLine_87
      rw [if_neg (by decide), if_neg (by decide), if_neg (by decide), if_pos rfl, chk_t K20000]
      refine E2_bind (numF (j := 4) u1 (by omega)) ?_
      rintro ⟨r, ν2⟩ ⟨r', ρ2⟩ q
      dsimp only at q ⊢
      have a0 : ν1 200 0 = 210 := u1.1.rd.1.1
      simp (disch := omega) only [w32_eq, w64_eq, chk_T, chk_t, lt, lm, ob, Int.add_zero, Int.zero_add, true_and, and_true, if_true, if_false, K100, K101, K102, K103, K104, K200, K201, K230, K231, K232, K233, K234, K235, K236, K237, K250, K251, K252, K253, K254, K300, K301, K302, K303, K304, N101, N102, N103, N104, N201, N232, N233, N234, N235, N236, N237, N251, N252, N253, N254, N301, N302, N303, N304, K20000, K20001, K20002, K20003, K20004, K20005, K20006, K20007, K20008, K20009, K20010, K20011, K20012, K20013, K20014, K20015, K20016, K20017, K20018, K20019, N20001, N20002, N20003, N20004, N20005, N20006, N20007, N20008, N20009, N20010, N20011, N20012, N20013, N20014, N20015, N20016, N20017, N20018, N20019, a0, K210, Md_13 u1.1.md]
      unfold jX11_landLine_106
      rw [if_neg (by decide), if_neg (by decide)]
      exact E2_mono (stopL q) fin
    · subst e
      rw [sel_f (by omega), sel_f (by omega), sel_f (by omega), sel_f (by omega), sel_f (by omega), sel_t ⟨w8, rfl⟩]
      have k := thing2 h hF h7 (.inl rfl)
      unfold jX11_landLine_42 jX11_landLine_51 jX11_landLine_69 jX11_landLine_87 jX11_landLine_106 jX11_landLine_118 jX11_landLine_130
      simp only [if_neg (show ¬((6 : Int) = 1) by decide), if_neg (show ¬((6 : Int) = 2) by decide), if_neg (show ¬((6 : Int) = 3) by decide), if_neg (show ¬((6 : Int) = 4) by decide), if_neg (show ¬((6 : Int) = 5) by decide), if_neg (show ¬((6 : Int) = 7) by decide), if_true, chk_t K20000]
      rw [← oa]
      refine E2_bind k ?_
      rintro ν1 ρ1 q
      refine E2_mono (stopL q) ?_
      intro ν' ρ' hq
      exact ⟨A + 1, by omega, hq, fun _ => Int.le_refl _⟩
    · subst e
      rw [sel_f (by omega), sel_f (by omega), sel_f (by omega), sel_f (by omega), sel_f (by omega), sel_f (by omega), sel_t ⟨w8, rfl⟩]
      have k := thing2 h hF h7 (.inr rfl)
      unfold jX11_landLine_42 jX11_landLine_51 jX11_landLine_69 jX11_landLine_87 jX11_landLine_106 jX11_landLine_118 jX11_landLine_130
      simp only [if_neg (show ¬((7 : Int) = 1) by decide), if_neg (show ¬((7 : Int) = 2) by decide), if_neg (show ¬((7 : Int) = 3) by decide), if_neg (show ¬((7 : Int) = 4) by decide), if_neg (show ¬((7 : Int) = 5) by decide), if_neg (show ¬((7 : Int) = 6) by decide), if_true, chk_t K20000]
      rw [← oa]
      refine E2_bind k ?_
      rintro ν1 ρ1 q
      refine E2_mono (stopL q) ?_
      intro ν' ρ' hq
      exact ⟨A + 1, by omega, hq, fun _ => Int.le_refl _⟩
  · rw [takes_n w0 h8, oa]
    simp only [ob]
    rw [sel_f (by omega), sel_f (by omega), sel_f (by omega), sel_f (by omega), sel_f (by omega), sel_f (by omega), sel_f (by omega)]
    refine E2_bind (brk2 h.1) ?_
    rintro ν1 ρ1 ⟨u1, u2, u3, u4⟩
    rw [if_neg (by decide)]
    unfold jX11_landLine_42 jX11_landLine_51 jX11_landLine_69 jX11_landLine_87 jX11_landLine_106
    rw [if_neg (by decide), if_neg (by decide), if_neg (by decide), if_neg (by decide), if_neg (by decide), if_neg (by decide)]
    unfold jX3_landClause_193 jX11_landLine_134
    rw [chk_t K200, chk_t K20000]
    refine E2_bind (stop2 u1) ?_
    rintro ν2 ρ2 ⟨y1, y2⟩
    have e1 := y2.2.2.2 u3
    exact E2_some ⟨A, Int.le_refl _, QL_kp (QL_kp h u1 u2) y1 y2, fun z => absurd e1 z⟩
end
