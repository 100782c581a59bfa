/-! ===== a text is read, from its begin to its end ===== -/
section
variable {μ0 ν ν' ν0 ν1 ν2 ρ ρ' ρ0 ρ1 ρ2 : Mm} {b t g : Int → Int} {n A B A' B' p a q k c v : Int} {s : Prop}
/-- what the reference has made ready -/
def RB (ρ : Mm) (b t : Int → Int) (n : Int) : Prop := RT ρ t n ∧ ρ 20000 6 = 0 ∧ ρ 20000 11 = 0 ∧ ρ 20001 3 = 0 ∧ ρ 20001 4 = -1 ∧ ∀ x, ρ 20001 x = b x
theorem r_begins0 (h : RB ρ b t n) (v1 : Int) (hv : v1 = 0 ∨ v1 = 1) : Ev (fX11_begins 20000 v1 ρ) (fun ρ' => RB ρ' b t n ∧ ρ' 20000 12 = 0 ∧ (v1 = 0 → ρ' 20005 0 = 4 ∧ ρ' 20005 1 = 4 ∧ ρ' 20005 4 = 999 ∧ ∀ x, 0 ≤ x → x < 200 → x ≠ 0 → x ≠ 1 → x ≠ 4 → ρ' 20005 x = 0) ∧ (v1 = 1 → ρ' 20005 6 = 99 ∧ ∀ x, 0 ≤ x → x < 200 → x ≠ 6 → ρ' 20005 x = 0)) := by
  obtain ⟨hR, h6, h11, h3, h4, hb⟩ := h
  have keep : ∀ ρ1, Fr [20005] [12] ρ ρ1 → RB ρ1 b t n := fun ρ1 f => by
    have r1 : ρ1 20001 = ρ 20001 := f.1 20001 (by decide) (by decide)
    refine ⟨⟨f.md hR.1 (by decide), (f.2 5 (by decide)).trans hR.2.1, hR.2.2.1, by rw [r1]; exact hR.2.2.2⟩, (f.2 6 (by decide)).trans h6, (f.2 11 (by decide)).trans h11, by rw [r1]; exact h3, by rw [r1]; exact h4, by rw [r1]; exact hb⟩
  unfold fX11_begins
  refine Ev_bind (Ev_lopF (pj := pjX11_begins_2) (P := fun μ' => Fr [20005] [] ρ μ' ∧ ∀ i, 0 ≤ i → i < 200 → μ' 20005 i = 0) (fun s t h hM => frsX11_begins_2 h hM) (by decide) hR.1 (fun x => (0 ≤ x.1 ∧ x.1 ≤ 200) ∧ ∀ i, 0 ≤ i → i < x.1 → x.2 20005 i = 0) (fun x => (200 - x.1).toNat) ⟨(by first | omega | (dsimp only; omega) | (dsimp only)), fun i i0 i1 => by dsimp only at i1; omega⟩ (by unfold FU; dsimp only; omega) ?_) ?_
  · rintro ⟨v2, μ1⟩ M1 F1 ⟨q1, q2⟩
    replace M1 : Md μ1 := M1
    dsimp only at q1 q2 ⊢
    unfold sX11_begins_2
    dsimp only
    refine Ev_ite (fun w => Ev_out (fun f => ⟨f, fun i i0 i1 => q2 i i0 (by omega)⟩)) (fun w => ?_)
    simp (disch := omega) only [w32_eq, w64_eq, chk_T, chk_t, lt, lm, ob, Int.add_zero, Int.zero_add, true_and, and_true, if_true, if_false, K20000, K20001, K20002, K20003, K20004, K20005, K20006, K20007, K20008, K20009, K20010, K20011, K20012, K20013, K20014, K20015, K20016, K20017, K20018, K20019, N20001, N20002, N20003, N20004, N20005, N20006, N20007, N20008, N20009, N20010, N20011, N20012, N20013, N20014, N20015, N20016, N20017, N20018, N20019, Md_13 M1]
    refine Ev_in ⟨(by first | omega | (dsimp only; omega) | (dsimp only)), fun i i0 i1 => ?_⟩ (by first | omega | (dsimp only; omega) | (dsimp only))
    dsimp only at i1 ⊢
    by_cases e : i = v2
    · subst e; rw [mst_s]
    · rw [mst_j e]; exact q2 i i0 (by omega)
  · rintro μ1 ⟨f1, z1⟩
    have M1 := f1.md hR.1 (by decide)
    have f1' : Fr [20005] [12] ρ μ1 := f1.mo (by decide) (by decide)
    have m13 : ∀ v, mst μ1 20000 12 v 20000 13 = 20005 := fun v => by rw [mst_j (by decide)]; exact Md_13 M1
    have e13 : ∀ (μ : Mm) i v, mst μ 20005 i v 20000 = μ 20000 := fun μ i v => mst_n (by decide)
    have f2 : Fr [20005] [12] ρ (mst μ1 20000 12 0) := f1'.tr (Fr.fld rfl (by decide))
    have z2 : ∀ i, 0 ≤ i → i < 200 → mst μ1 20000 12 0 20005 i = 0 := fun i i0 i1 => by rw [mst_n (by decide)]; exact z1 i i0 i1
    have e12 : mst μ1 20000 12 0 20000 12 = 0 := mst_s
    rw [chk_t K20000]
    show Ev (if v1 = 0 then _ else _) _
    generalize hm : mst μ1 20000 12 0 = μ2 at *
    simp only [lm, hm]
    have M2 := f2.md hR.1 (by decide)
    rcases hv with e | e
    · subst e
      rw [if_pos rfl]
      simp (disch := omega) only [w32_eq, w64_eq, chk_T, chk_t, lt, lm, ob, Int.add_zero, Int.zero_add, true_and, and_true, if_true, if_false, K20000, K20001, K20002, K20003, K20004, K20005, K20006, K20007, K20008, K20009, K20010, K20011, K20012, K20013, K20014, K20015, K20016, K20017, K20018, K20019, N20001, N20002, N20003, N20004, N20005, N20006, N20007, N20008, N20009, N20010, N20011, N20012, N20013, N20014, N20015, N20016, N20017, N20018, N20019, Md_13 M2, e13]
      refine Ev_some ⟨keep _ (((f2.tr (Fr.row rfl rfl (by decide) (by decide))).tr (Fr.row rfl rfl (by decide) (by decide))).tr (Fr.row rfl rfl (by decide) (by decide))), by rw [e13, e13, e13]; exact e12, fun _ => ⟨by rw [mst_j (by decide), mst_j (by decide), mst_s], by rw [mst_j (by decide), mst_s], by rw [mst_s], fun x x0 x1 h0 h1 h4 => by rw [mst_j h4, mst_j h1, mst_j h0]; exact z2 x x0 x1⟩, fun z => by omega⟩
    · subst e
      rw [if_neg (by decide)]
      simp (disch := omega) only [w32_eq, w64_eq, chk_T, chk_t, lt, lm, ob, Int.add_zero, Int.zero_add, true_and, and_true, if_true, if_false, K20000, K20001, K20002, K20003, K20004, K20005, K20006, K20007, K20008, K20009, K20010, K20011, K20012, K20013, K20014, K20015, K20016, K20017, K20018, K20019, N20001, N20002, N20003, N20004, N20005, N20006, N20007, N20008, N20009, N20010, N20011, N20012, N20013, N20014, N20015, N20016, N20017, N20018, N20019, Md_13 M2, e13]
      refine Ev_some ⟨keep _ (f2.tr (Fr.row rfl rfl (by decide) (by decide))), by rw [e13]; exact e12, fun z => by omega, fun _ => ⟨by rw [mst_s], fun x x0 x1 h6 => by rw [mst_j h6]; exact z2 x x0 x1⟩⟩
/-- the first token -/
theorem start2 {l : Int} (hR : RdI ν0) (hT : ∀ i, 0 ≤ i → i < 700 → ν0 1001 i = t i ∧ 0 ≤ t i ∧ t i ≤ 255) (hn : 0 ≤ n ∧ n ≤ 700) (h : RB ρ b t n) : E2 (fX3_open 200 1001 n ν0) (fX11_advance 20000 ρ) (fun ν' ρ' => QT ν0 b t n 0 True ν' ρ' ∧ Fw (fun x => x = 200) ν0 ν' ∧ ν' 200 2 = 0 ∧ ρ' 20005 = ρ 20005 ∧ ρ' 20000 12 = ρ 20000 12) := by
  obtain ⟨hRT, h6, h11, h3, h4, hb⟩ := h
  unfold fX3_open
  have ln : imax 0 (imin n (LN 1001)) = n := by rw [N1001]; unfold imax imin; split <;> split <;> omega
  simp (disch := omega) only [w32_eq, w64_eq, chk_T, chk_t, lt, lm, ob, Int.add_zero, Int.zero_add, true_and, and_true, if_true, if_false, K100, K101, K102, K103, K104, K200, K201, K230, K231, K232, K233, K234, K235, K236, K237, K250, K251, K252, K253, K254, K300, K301, K302, K303, K304, N101, N102, N103, N104, N201, N232, N233, N234, N235, N236, N237, N251, N252, N253, N254, N301, N302, N303, N304, K1001, N1001]
  rw [N1001] at ln
  rw [ln]
  have f1 : Fw (fun x => x = 200) ν0 (mst (mst (mst (mst (mst ν0 200 4 1001) 200 5 n) 200 6 0) 200 2 0) 200 3 (-1)) := Fw.st (Fw.st (Fw.st (Fw.st (Fw.st Fw.rf rfl) rfl) rfl) rfl) rfl
  have a4 : mst (mst (mst (mst (mst ν0 200 4 1001) 200 5 n) 200 6 0) 200 2 0) 200 3 (-1) 200 4 = 1001 := by simp (disch := decide) only [mst_j, mst_s]
  have a5 : mst (mst (mst (mst (mst ν0 200 4 1001) 200 5 n) 200 6 0) 200 2 0) 200 3 (-1) 200 5 = n := by simp (disch := decide) only [mst_j, mst_s]
  have a6 : mst (mst (mst (mst (mst ν0 200 4 1001) 200 5 n) 200 6 0) 200 2 0) 200 3 (-1) 200 6 = 0 := by simp (disch := decide) only [mst_j, mst_s]
  have a2 : mst (mst (mst (mst (mst ν0 200 4 1001) 200 5 n) 200 6 0) 200 2 0) 200 3 (-1) 200 2 = 0 := by simp (disch := decide) only [mst_j, mst_s]
  have a3 : mst (mst (mst (mst (mst ν0 200 4 1001) 200 5 n) 200 6 0) 200 2 0) 200 3 (-1) 200 3 = -1 := by simp (disch := decide) only [mst_j, mst_s]
  have a0 : mst (mst (mst (mst (mst ν0 200 4 1001) 200 5 n) 200 6 0) 200 2 0) 200 3 (-1) 200 0 = ν0 200 0 := by simp (disch := decide) only [mst_j]
  have a1 : mst (mst (mst (mst (mst ν0 200 4 1001) 200 5 n) 200 6 0) 200 2 0) 200 3 (-1) 200 1 = ν0 200 1 := by simp (disch := decide) only [mst_j]
  generalize mst (mst (mst (mst (mst ν0 200 4 1001) 200 5 n) 200 6 0) 200 2 0) 200 3 (-1) = ν1 at *
  have C1 : CT ν1 t n := ⟨a4, a5, hn, by rw [f1 1001 (by decide)]; exact hT⟩
  have key : E2 (fX3_advance 200 ν1) (fX11_advance 20000 ρ) (fun ν' ρ' => QT ν0 b t n 0 True ν' ρ' ∧ Fw (fun x => x = 200) ν0 ν' ∧ ν' 200 2 = 0 ∧ ρ' 20005 = ρ 20005 ∧ ρ' 20000 12 = ρ 20000 12) := by
    refine E2_of (c_advance C1 (p := 0) a6 (by omega)) (r_advance hRT h6 (by omega)) ?_
    rintro ν' ρ' ⟨f, o, T⟩ ⟨f', k', T', R'⟩
    have tb' := TK_b T
    have u := TK_u T' T
    rw [u.1, u.2.1, u.2.2] at R'
    have e2 := (o 2 (by decide) (by decide) (by decide)).trans a2
    have e3 := (o 3 (by decide) (by decide) (by decide)).trans a3
    have r1 : ρ' 20001 = ρ 20001 := f'.1 20001 (by decide) (by decide)
    have ff := f1.tr f
    refine ⟨⟨⟨ff.mo (fun x hx => .inl hx), hR.r2 ff ((o 0 (by decide) (by decide) (by decide)).trans a0) ((o 1 (by decide) (by decide) (by decide)).trans a1), C1.e f (o 4 (by decide) (by decide) (by decide)) (o 5 (by decide) (by decide) (by decide))⟩, ⟨hRT.fr f' (by decide) (by decide), fun x _ _ => by rw [r1]; exact hb x⟩, ⟨Int.le_refl _, by omega⟩, ⟨0, Int.le_refl _, T⟩, ⟨by rw [r1, e2]; exact h3, by rw [r1, e3]; exact h4, by rw [e2, if_neg (by decide), f'.2 11 (by decide)]; exact h11⟩, by rw [e2, e3]; omega, fun _ => ⟨⟨u.2.1, u.1, R'⟩, fun z => absurd e2 z⟩⟩, ff, e2, f'.1 20005 (by decide) (by decide), f'.2 12 (by decide)⟩
  obtain ⟨x, y, e1, e2, hk⟩ := key
  exact ⟨x, y, by rw [e1]; rfl, e2, hk⟩
/-! ===== the end of a land's text ===== -/
def wholeL (ν : Mm) (g : Int → Int) : Prop := ν 200 9 ≤ g 0 * g 1 ∧ ∀ k, 0 ≤ k → k < g 5 → g (151 + 4 * k) < g 0 * g 1
theorem pl_b (h : LB g) : 4 ≤ g 0 * g 1 ∧ g 0 * g 1 ≤ 144 := by
  have h1 := h.1; have h2 := h.2.1
  have := mul_le_of (show 0 ≤ g 0 by omega) h1.2 (show 0 ≤ g 1 by omega) h2.2
  have := mul_le_of (show (0 : Int) ≤ 2 by omega) h1.1 (show (0 : Int) ≤ 2 by omega) h2.1
  omega
theorem c_places' (h : La ν 210 g) (hB : LB g) : fX2_places 210 ν = some (g 0 * g 1) := by
  have b := pl_b hB
  unfold fX2_places
  simp (disch := omega) only [w32_eq, w64_eq, chk_T, chk_t, lt, lm, ob, Int.add_zero, Int.zero_add, true_and, and_true, if_true, if_false, La_k h, La_k1 h, La_n1 h, La_k2 h, La_n2 h, La_k3 h, La_n3 h, La_k4 h, La_n4 h, La_k5 h, La_n5 h, La_f6 h, La_f7 h, La_f8 h, La_f9 h, La_f10 h, La_0 h, La_1 h, La_2 h, La_3 h, La_4 h, La_5 h, La_h h, La_a h, La_t h, La_fr h, La_to h]
  split
  · have : g 0 * g 1 = 144 := by omega
    rw [this]
  · rfl
theorem c_has' (h : La ν 210 g) (hB : LB g) (p : Int) : fX2_has 210 p ν = some (bi (0 ≤ p ∧ p < g 0 * g 1)) := by
  unfold fX2_has
  simp (disch := omega) only [w32_eq, w64_eq, chk_T, chk_t, lt, lm, ob, Int.add_zero, Int.zero_add, true_and, and_true, if_true, if_false, La_k h, La_k1 h, La_n1 h, La_k2 h, La_n2 h, La_k3 h, La_n3 h, La_k4 h, La_n4 h, La_k5 h, La_n5 h, La_f6 h, La_f7 h, La_f8 h, La_f9 h, La_f10 h, La_0 h, La_1 h, La_2 h, La_3 h, La_4 h, La_5 h, La_h h, La_a h, La_t h, La_fr h, La_to h, c_places' h hB]
  by_cases q : p < 0
  · rw [if_pos q, bi_f (by omega)]
  · rw [if_neg q]
    by_cases q2 : g 0 * g 1 ≤ p
    · rw [if_pos q2, bi_f (by omega)]
    · rw [if_neg q2, bi_t (by omega)]
theorem c_isWhole (hr : RdI ν) (h : La ν 210 g) (hB : LB g) : fX3_landIsWhole 200 ν = some (bi (wholeL ν g)) := by
  have a0 : ν 200 0 = 210 := hr.1.1
  have a7 : ν 210 7 = 212 := hr.2.1.1.2.1
  have h5 := hB.2.2.2.2.2.1
  unfold fX3_landIsWhole
  simp (disch := omega) only [w32_eq, w64_eq, chk_T, chk_t, lt, lm, ob, Int.add_zero, Int.zero_add, true_and, and_true, if_true, if_false, K100, K101, K102, K103, K104, K200, K201, K230, K231, K232, K233, K234, K235, K236, K237, K250, K251, K252, K253, K254, K300, K301, K302, K303, K304, N101, N102, N103, N104, N201, N232, N233, N234, N235, N236, N237, N251, N252, N253, N254, N301, N302, N303, N304, a0, K210, c_places' h hB]
  by_cases z : ν 200 9 ≤ g 0 * g 1
  · rw [if_pos z]
    have key : Ev (lop (sX3_landIsWhole_18 200 ν) FU 0) (fun r : Unit ⊕ Unit => (r = .inl () ∧ wholeL ν g) ∨ (r = .inr () ∧ ¬wholeL ν g)) := by
      refine Ev_lop (P := fun r : Unit ⊕ Unit => (r = .inl () ∧ wholeL ν g) ∨ (r = .inr () ∧ ¬wholeL ν g)) (fun s => (0 ≤ s ∧ s ≤ g 5) ∧ ∀ i, 0 ≤ i → i < s → g (151 + 4 * i) < g 0 * g 1) (fun s => (g 5 - s).toNat) ⟨by omega, fun i i0 i1 => by omega⟩ (by unfold FU; omega) ?_
      intro i ⟨q1, q2⟩
      unfold sX3_landIsWhole_18
      simp (disch := omega) only [w32_eq, w64_eq, chk_T, chk_t, lt, lm, ob, Int.add_zero, Int.zero_add, true_and, and_true, if_true, if_false, K100, K101, K102, K103, K104, K200, K201, K230, K231, K232, K233, K234, K235, K236, K237, K250, K251, K252, K253, K254, K300, K301, K302, K303, K304, N101, N102, N103, N104, N201, N232, N233, N234, N235, N236, N237, N251, N252, N253, N254, N301, N302, N303, N304, a0, K210, La_5 h, a7, K212, N212]
      refine Ev_ite (fun w => Ev_out (.inl ⟨rfl, z, fun j j0 j1 => q2 j j0 (by omega)⟩)) (fun w => ?_)
      rw [if_neg (by omega)]
      have la := La_a h (k := i) (by omega) (by omega)
      have lb := (hB.2.2.2.2.2.2.2 i (by omega) (by omega)).2.1
      rw [show (210 : Int) + 2 = 212 by decide] at la
      simp (disch := omega) only [w32_eq, w64_eq, chk_T, chk_t, lt, lm, ob, Int.add_zero, Int.zero_add, true_and, and_true, if_true, if_false, c_has' h hB, la]
      by_cases y : g (151 + 4 * i) < g 0 * g 1
      · rw [bi_t ⟨lb.1, y⟩, if_neg (by decide)]
        try simp (disch := omega) only [w32_eq, w64_eq, chk_T, chk_t, lt, lm, ob, Int.add_zero, Int.zero_add, true_and, and_true, if_true, if_false, ]
        refine Ev_in ⟨by omega, fun j j0 j1 => ?_⟩ (by omega)
        by_cases e : j = i
        · rw [e]; exact y
        · exact q2 j j0 (by omega)
      · rw [bi_f (fun u => y u.2), if_pos rfl]
        exact Ev_out (.inr ⟨rfl, fun u => y (u.2 i (by omega) (by omega))⟩)
    obtain ⟨r, e, hr⟩ := key
    rw [e]
    simp only [ob]
    rcases hr with ⟨e1, e2⟩ | ⟨e1, e2⟩
    · subst e1; rw [bi_t e2]
    · subst e1; rw [bi_f e2]
  · rw [if_neg z, bi_f (fun u => z u.1)]
theorem r_last0 (hM : Md ρ) (hB : LB (ρ 20005)) (h12 : ρ 20000 12 = ν 200 9) : fX11_last 20000 0 ρ = sel (wholeL ν (ρ 20005)) (some ρ) ((fX11_also 20000 4 (ρ 20000 7) ρ).bind fun μ10 => some μ10) := by
  have pb := pl_b hB
  have h5 := hB.2.2.2.2.2.1
  unfold fX11_last jX11_last_18 jX11_last_19
  rw [if_neg (by decide), if_pos rfl]
  simp (disch := omega) only [w32_eq, w64_eq, chk_T, chk_t, lt, lm, ob, Int.add_zero, Int.zero_add, true_and, and_true, if_true, if_false, K20000, K20001, K20002, K20003, K20004, K20005, K20006, K20007, K20008, K20009, K20010, K20011, K20012, K20013, K20014, K20015, K20016, K20017, K20018, K20019, N20001, N20002, N20003, N20004, N20005, N20006, N20007, N20008, N20009, N20010, N20011, N20012, N20013, N20014, N20015, N20016, N20017, N20018, N20019, Md_13 hM, h12]
  have key : ∀ v, (v = 0 ∨ v = 1) → lop (sX11_last_55 20000 (ρ 20005 0 * ρ 20005 1) ρ) FU (v, 0) = some (bi (v = 1 ∨ ∃ k, 0 ≤ k ∧ k < ρ 20005 5 ∧ ρ 20005 0 * ρ 20005 1 ≤ ρ 20005 (151 + 4 * k))) := by
    intro v hv
    refine Ev.eq (Ev_lop (P := fun r => r = bi (v = 1 ∨ ∃ k, 0 ≤ k ∧ k < ρ 20005 5 ∧ ρ 20005 0 * ρ 20005 1 ≤ ρ 20005 (151 + 4 * k))) (fun x => (0 ≤ x.2 ∧ x.2 ≤ ρ 20005 5) ∧ x.1 = bi (v = 1 ∨ ∃ k, 0 ≤ k ∧ k < x.2 ∧ ρ 20005 0 * ρ 20005 1 ≤ ρ 20005 (151 + 4 * k))) (fun x => (ρ 20005 5 - x.2).toNat) ⟨by dsimp only; omega, ?_⟩ (by unfold FU; dsimp only; omega) ?_)
    · dsimp only
      rcases hv with e | e
      · subst e; rw [bi_f]; rintro (u | ⟨k, k0, k1, _⟩); exact absurd u (by decide); omega
      · subst e; rw [bi_t (.inl rfl)]
    · rintro ⟨w, i⟩ ⟨q1, q2⟩
      dsimp only at q1 q2 ⊢
      unfold sX11_last_55
      dsimp only
      simp (disch := omega) only [w32_eq, w64_eq, chk_T, chk_t, lt, lm, ob, Int.add_zero, Int.zero_add, true_and, and_true, if_true, if_false, K20000, K20001, K20002, K20003, K20004, K20005, K20006, K20007, K20008, K20009, K20010, K20011, K20012, K20013, K20014, K20015, K20016, K20017, K20018, K20019, N20001, N20002, N20003, N20004, N20005, N20006, N20007, N20008, N20009, N20010, N20011, N20012, N20013, N20014, N20015, N20016, N20017, N20018, N20019, Md_13 hM]
      refine Ev_ite (fun z => Ev_out (by rw [q2, show i = ρ 20005 5 by omega])) (fun z => ?_)
      rw [if_neg (by omega), show 150 + 4 * i + 1 = 151 + 4 * i by omega]
      have nx : ∀ w', w' = bi (v = 1 ∨ ∃ k, 0 ≤ k ∧ k < i + 1 ∧ ρ 20005 0 * ρ 20005 1 ≤ ρ 20005 (151 + 4 * k)) → Ev (some (Sum.inl (w', i + 1) : (Int × Int) ⊕ Int)) (Nx (fun x => (0 ≤ x.2 ∧ x.2 ≤ ρ 20005 5) ∧ x.1 = bi (v = 1 ∨ ∃ k, 0 ≤ k ∧ k < x.2 ∧ ρ 20005 0 * ρ 20005 1 ≤ ρ 20005 (151 + 4 * k))) (fun x => (ρ 20005 5 - x.2).toNat) (fun r => r = bi (v = 1 ∨ ∃ k, 0 ≤ k ∧ k < ρ 20005 5 ∧ ρ 20005 0 * ρ 20005 1 ≤ ρ 20005 (151 + 4 * k))) (ρ 20005 5 - i).toNat) := fun w' hw => Ev_in ⟨by dsimp only; omega, hw⟩ (by dsimp only; omega)
      have up : (v = 1 ∨ ∃ k, 0 ≤ k ∧ k < i ∧ ρ 20005 0 * ρ 20005 1 ≤ ρ 20005 (151 + 4 * k)) → (v = 1 ∨ ∃ k, 0 ≤ k ∧ k < i + 1 ∧ ρ 20005 0 * ρ 20005 1 ≤ ρ 20005 (151 + 4 * k)) := by
        rintro (u | ⟨k, k0, k1, k2⟩)
        · exact .inl u
        · exact .inr ⟨k, k0, by omega, k2⟩
      by_cases y : (v = 1 ∨ ∃ k, 0 ≤ k ∧ k < i ∧ ρ 20005 0 * ρ 20005 1 ≤ ρ 20005 (151 + 4 * k))
      · rw [bi_t y] at q2
        subst q2
        rw [if_neg (by decide)]
        exact nx 1 (by rw [bi_t (up y)])
      · rw [bi_f y] at q2
        subst q2
        rw [if_pos rfl]
        try simp (disch := omega) only [w32_eq, w64_eq, chk_T, chk_t, lt, lm, ob, Int.add_zero, Int.zero_add, true_and, and_true, if_true, if_false, K20000, K20001, K20002, K20003, K20004, K20005, K20006, K20007, K20008, K20009, K20010, K20011, K20012, K20013, K20014, K20015, K20016, K20017, K20018, K20019, N20001, N20002, N20003, N20004, N20005, N20006, N20007, N20008, N20009, N20010, N20011, N20012, N20013, N20014, N20015, N20016, N20017, N20018, N20019, ]
        refine Ev_ite (fun x => nx 0 ?_) (fun x => nx 1 ?_)
        · rw [bi_f]
          rintro (u | ⟨k, k0, k1, k2⟩)
          · exact y (.inl u)
          · by_cases e : k = i
            · rw [e] at k2; omega
            · exact y (.inr ⟨k, k0, by omega, k2⟩)
        · rw [bi_t (.inr ⟨i, by omega, by omega, by omega⟩)]
  unfold jX11_last_51
  rw [key 0 (.inl rfl), key 1 (.inr rfl)]
  simp only [ob]
  have j108 : ∀ c : Prop, jX11_last_108 20000 (bi c) ρ = sel c ((fX11_also 20000 4 (ρ 20000 7) ρ).bind fun μ10 => some μ10) (some ρ) := by
    intro c
    unfold jX11_last_108
    rw [chk_t K20000]
    exact bi_if
  rw [j108, j108]
  by_cases z : ν 200 9 ≤ ρ 20005 0 * ρ 20005 1
  · rw [if_pos z]
    by_cases y : ∃ k, 0 ≤ k ∧ k < ρ 20005 5 ∧ ρ 20005 0 * ρ 20005 1 ≤ ρ 20005 (151 + 4 * k)
    · rw [sel_t (.inr y), sel_f]
      intro u
      obtain ⟨k, k0, k1, k2⟩ := y
      have := u.2 k k0 k1; omega
    · rw [sel_f, sel_t]
      · exact ⟨z, fun k k0 k1 => Int.not_le.mp (fun w => y ⟨k, k0, k1, w⟩)⟩
      · rintro (u | u)
        · exact absurd u (by decide)
        · exact y u
  · rw [if_neg z, sel_t (.inl trivial), sel_f (fun u => z u.1)]
end
