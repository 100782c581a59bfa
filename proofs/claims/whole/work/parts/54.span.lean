/-! ===== the fitter: spans of years ===== -/
def Srt (μ : Mm) (m : Int) : Prop := ∀ i j, 0 ≤ i → i < j → j < m → μ 251 i < μ 251 j
def aR (x : Int) : Prop := x = 250 ∨ x = 251
def AddS (μ μ' : Mm) (m l0 year m' : Int) : Prop := μ' 250 3 = m' ∧ (m ≤ m' ∧ m' ≤ m + 1) ∧ Srt μ' m' ∧ (∀ j, 0 ≤ j → j < m → ∃ i, 0 ≤ i ∧ i < m' ∧ μ' 251 i = μ 251 j) ∧ (∀ i, 0 ≤ i → i < m' → (μ' 251 i = year ∧ (m = 0 ∨ μ 251 0 < year ∧ year ≤ l0)) ∨ ∃ j, 0 ≤ j ∧ j < m ∧ μ' 251 i = μ 251 j) ∧ (m = 0 → m' = 1 ∧ μ' 251 0 = year) ∧ (0 < m → μ' 251 0 = μ 251 0) ∧ (0 < m → μ 251 0 < year → year ≤ l0 → ∃ i, 0 ≤ i ∧ i < m' ∧ μ' 251 i = year)
theorem c_add35 {μ : Mm} {m l0 year : Int} (hF : FtF μ) (hm : μ 250 3 = m) (h0 : 0 ≤ m ∧ m < 25) (hS : Srt μ m) (hy : -1000 ≤ year ∧ year ≤ 1000) (hok : m = 0 ∨ μ 251 0 < year ∧ year ≤ l0) : Ev (jX1_addSpan_35 250 year μ) (fun μ' => Fw aR μ μ' ∧ (∀ i, i ≠ 3 → μ' 250 i = μ 250 i) ∧ ∃ m', AddS μ μ' m l0 year m') := by
  obtain ⟨f4, f9, f10, f11⟩ := hF
  unfold jX1_addSpan_35
  simp (disch := omega) only [w32_eq, w64_eq, chk_T, chk_t, lt, lm, ob, Int.add_zero, Int.zero_add, true_and, and_true, if_true, if_false, K100, K101, K102, K103, K104, K200, K201, K230, K231, K232, K233, K234, K235, K236, K237, K250, K251, K252, K253, K254, K300, K301, K302, K303, K304, N101, N102, N103, N104, N201, N232, N233, N234, N235, N236, N237, N251, N252, N253, N254, N301, N302, N303, N304, hm]
  refine Ev_bind (Ev_lop (P := fun x => (∃ a, x = .inl a ∧ (0 ≤ a ∧ a ≤ m) ∧ (∀ j, a ≤ j → j < m → year < μ 251 j) ∧ ∀ j, 0 ≤ j → j < a → μ 251 j < year) ∨ (x = .inr () ∧ ∃ j, 0 ≤ j ∧ j < m ∧ μ 251 j = year)) (fun t => (-1 ≤ t.2 ∧ t.2 < m) ∧ t.1 = t.2 + 1 ∧ ∀ j, t.1 ≤ j → j < m → year < μ 251 j) (fun t => (t.2 + 1).toNat) ⟨(by first | omega | (dsimp only; omega) | (dsimp only)), (by first | omega | (dsimp only; omega) | (dsimp only)), fun j a b => by dsimp only at a; omega⟩ (by unfold FU; dsimp only; omega) ?_) ?_
  · rintro ⟨v2, v3⟩ ⟨h1, h2, h3⟩
    dsimp only at h1 h2 h3 ⊢
    unfold sX1_addSpan_47
    dsimp only
    refine Ev_ite (fun z => Ev_out (.inl ⟨v2, rfl, by omega, h3, fun j a b => by omega⟩)) (fun z => ?_)
    simp (disch := omega) only [w32_eq, w64_eq, chk_T, chk_t, lt, lm, ob, Int.add_zero, Int.zero_add, true_and, and_true, if_true, if_false, K100, K101, K102, K103, K104, K200, K201, K230, K231, K232, K233, K234, K235, K236, K237, K250, K251, K252, K253, K254, K300, K301, K302, K303, K304, N101, N102, N103, N104, N201, N232, N233, N234, N235, N236, N237, N251, N252, N253, N254, N301, N302, N303, N304, f4]
    refine Ev_ite (fun q => Ev_out (.inl ⟨v2, rfl, by omega, h3, fun j a b => ?_⟩)) (fun q => Ev_ite (fun q2 => Ev_out (.inr ⟨rfl, v3, by omega, by omega, q2⟩)) (fun q2 => ?_))
    · by_cases e : j = v3
      · subst e; exact q
      · have := hS j v3 a (by omega) (by omega); omega
    · refine Ev_in ⟨(by first | omega | (dsimp only; omega) | (dsimp only)), (by first | omega | (dsimp only; omega) | (dsimp only)), fun j a b => ?_⟩ (by first | omega | (dsimp only; omega) | (dsimp only))
      dsimp only at a
      by_cases e : j = v3
      · subst e; omega
      · exact h3 j (by omega) b
  · rintro x (⟨a, e, ha, h1, h2⟩ | ⟨e, j, j0, j1, ej⟩)
    · subst e
      dsimp only
      refine Ev_bind (Ev_lop (P := fun μ' => Fw (fun x => x = 251) μ μ' ∧ (∀ j, 0 ≤ j → j < a → μ' 251 j = μ 251 j) ∧ ∀ j, a < j → j ≤ m → μ' 251 j = μ 251 (j - 1)) (fun t => (a ≤ t.1 ∧ t.1 ≤ m) ∧ Fw (fun x => x = 251) μ t.2 ∧ (∀ j, 0 ≤ j → j ≤ t.1 → j < m → t.2 251 j = μ 251 j) ∧ ∀ j, t.1 < j → j ≤ m → t.2 251 j = μ 251 (j - 1)) (fun t => (t.1 - a).toNat) ⟨(by first | omega | (dsimp only; omega) | (dsimp only)), Fw.rf, fun j _ _ _ => rfl, fun j x y => by dsimp only at x; omega⟩ (by unfold FU; dsimp only; omega) ?_) ?_
      · rintro ⟨v3, μ1⟩ ⟨k1, k2, k3, k4⟩
        dsimp only at k1 k2 k3 k4 ⊢
        have r250 : μ1 250 = μ 250 := k2 250 (by omega)
        unfold sX1_addSpan_85
        dsimp only
        refine Ev_ite (fun z => Ev_out ⟨k2, fun j x y => k3 j x (by omega) (by omega), fun j x y => k4 j (by omega) y⟩) (fun z => ?_)
        simp (disch := omega) only [w32_eq, w64_eq, chk_T, chk_t, lt, lm, ob, Int.add_zero, Int.zero_add, true_and, and_true, if_true, if_false, K100, K101, K102, K103, K104, K200, K201, K230, K231, K232, K233, K234, K235, K236, K237, K250, K251, K252, K253, K254, K300, K301, K302, K303, K304, N101, N102, N103, N104, N201, N232, N233, N234, N235, N236, N237, N251, N252, N253, N254, N301, N302, N303, N304, r250, f4]
        refine Ev_in ⟨(by first | omega | (dsimp only; omega) | (dsimp only)), k2.st rfl, fun j x y w => ?_, fun j x y => ?_⟩ (by first | omega | (dsimp only; omega) | (dsimp only))
        · dsimp only at y ⊢; rw [mst_j (by omega)]; exact k3 j x (by omega) w
        · dsimp only at x ⊢
          by_cases e : j = v3
          · subst e; rw [mst_s]; exact k3 (j - 1) (by omega) (by omega) (by omega)
          · rw [mst_j e]; exact k4 j (by omega) y
      · rintro μ1 ⟨k2, k3, k4⟩
        have r250 : μ1 250 = μ 250 := k2 250 (by omega)
        simp (disch := omega) only [w32_eq, w64_eq, chk_T, chk_t, lt, lm, ob, Int.add_zero, Int.zero_add, true_and, and_true, if_true, if_false, K100, K101, K102, K103, K104, K200, K201, K230, K231, K232, K233, K234, K235, K236, K237, K250, K251, K252, K253, K254, K300, K301, K302, K303, K304, N101, N102, N103, N104, N201, N232, N233, N234, N235, N236, N237, N251, N252, N253, N254, N301, N302, N303, N304, r250, f4, hm, mst_n]
        refine Ev_some ⟨?_, fun i hi => ?_, m + 1, ?_⟩
        · exact ((k2.mo (fun x hx => .inr hx)).st (.inr rfl)).st (.inl rfl)
        · rw [mst_j hi, mst_n (by decide), r250]
        · have lo : ∀ j, 0 ≤ j → j < a → mst (mst μ1 251 a year) 250 3 (m + 1) 251 j = μ 251 j := by
            intro j x y; rw [mst_n (by decide), mst_j (by omega)]; exact k3 j x y
          have mi : mst (mst μ1 251 a year) 250 3 (m + 1) 251 a = year := by rw [mst_n (by decide), mst_s]
          have hi : ∀ j, a < j → j ≤ m → mst (mst μ1 251 a year) 250 3 (m + 1) 251 j = μ 251 (j - 1) := by
            intro j x y; rw [mst_n (by decide), mst_j (by omega)]; exact k4 j x y
          have e3 : mst (mst μ1 251 a year) 250 3 (m + 1) 250 3 = m + 1 := mst_s
          generalize mst (mst μ1 251 a year) 250 3 (m + 1) = μ2 at *
          refine ⟨e3, by omega, fun i j i0 ij jm => ?_, fun j j0 j1 => ?_, fun i i0 i1 => ?_, fun z => ?_, fun z => ?_, fun _ _ _ => ⟨a, ha.1, by omega, mi⟩⟩
          · rcases Int.lt_trichotomy i a with z | z | z
            · rw [lo i i0 z]
              rcases Int.lt_trichotomy j a with w | w | w
              · rw [lo j (by omega) w]; exact hS i j i0 ij (by omega)
              · rw [w, mi]; exact h2 i i0 z
              · rw [hi j w (by omega)]
                by_cases v : i = j - 1
                · omega
                · exact hS i (j - 1) i0 (by omega) (by omega)
            · rw [z, mi, hi j (by omega) (by omega)]; exact h1 (j - 1) (by omega) (by omega)
            · rw [hi i z (by omega), hi j (by omega) (by omega)]; exact hS (i - 1) (j - 1) (by omega) (by omega) (by omega)
          · by_cases z : j < a
            · exact ⟨j, j0, by omega, lo j j0 z⟩
            · exact ⟨j + 1, by omega, by omega, by rw [hi (j + 1) (by omega) (by omega), Int.add_sub_cancel]⟩
          · rcases Int.lt_trichotomy i a with z | z | z
            · exact .inr ⟨i, i0, by omega, lo i i0 z⟩
            · rw [z]; exact .inl ⟨mi, hok⟩
            · exact .inr ⟨i - 1, by omega, by omega, hi i z (by omega)⟩
          · have : a = 0 := by omega
            rw [this] at mi; exact ⟨by omega, mi⟩
          · have a1 : 0 < a := by
              apply Classical.byContradiction; intro w
              have := h1 0 (by omega) z
              rcases hok with v | v <;> omega
            exact lo 0 (by omega) a1
    · subst e
      refine Ev_some ⟨Fw.rf, fun _ _ => rfl, m, hm, by omega, hS, fun j j0 j1 => ⟨j, j0, j1, rfl⟩, fun i i0 i1 => .inr ⟨i, i0, i1, rfl⟩, fun z => by omega, fun _ => rfl, fun _ _ _ => ⟨j, j0, j1, ej⟩⟩
theorem c_addSpan {μ : Mm} {m l0 year : Int} (hF : FtF μ) (hm : μ 250 3 = m) (hl : μ 250 7 = l0) (h0 : 0 ≤ m ∧ m < 25) (hS : Srt μ m) (hy : -1000 ≤ year ∧ year ≤ 1000) : Ev (fX1_addSpan 250 year μ) (fun μ' => Fw aR μ μ' ∧ (∀ i, i ≠ 3 → μ' 250 i = μ 250 i) ∧ ∃ m', AddS μ μ' m l0 year m') := by
  have k35 := fun hok => c_add35 (l0 := l0) hF hm h0 hS hy hok
  obtain ⟨f4, f9, f10, f11⟩ := hF
  unfold fX1_addSpan
  simp (disch := omega) only [w32_eq, w64_eq, chk_T, chk_t, lt, lm, ob, Int.add_zero, Int.zero_add, true_and, and_true, if_true, if_false, K100, K101, K102, K103, K104, K200, K201, K230, K231, K232, K233, K234, K235, K236, K237, K250, K251, K252, K253, K254, K300, K301, K302, K303, K304, N101, N102, N103, N104, N201, N232, N233, N234, N235, N236, N237, N251, N252, N253, N254, N301, N302, N303, N304, hm, hl, f4]
  rw [if_neg (by omega)]
  refine Ev_ite (fun z => k35 (.inl (by omega))) (fun z => ?_)
  have keep : ¬(μ 251 0 < year ∧ year ≤ l0) → Ev (some μ) (fun μ' => Fw aR μ μ' ∧ (∀ i, i ≠ 3 → μ' 250 i = μ 250 i) ∧ ∃ m', AddS μ μ' m l0 year m') := fun hn => Ev_some ⟨Fw.rf, fun _ _ => rfl, m, hm, by omega, hS, fun j j0 j1 => ⟨j, j0, j1, rfl⟩, fun i i0 i1 => .inr ⟨i, i0, i1, rfl⟩, fun z => by omega, fun _ => rfl, fun _ a b => absurd ⟨a, b⟩ hn⟩
  exact Ev_ite (fun q => keep (by omega)) (fun q => Ev_ite (fun q2 => k35 (.inr ⟨by omega, q2⟩)) (fun q2 => keep (by omega)))
/-- some hump asks for a tower or none -/
def byY (s : Int → Int) : Prop := ∃ i, 0 ≤ i ∧ i < s 0 ∧ iand (s (19 + i)) 6 ≠ 0
noncomputable def y0 (s : Int → Int) (yr : Int) : Int := if yr = -1 then s 5 else yr
noncomputable def y9 (s : Int → Int) (yr : Int) : Int := if yr = -1 then s 6 else yr
/-- the spans, all towers of the first q things told -/
def Spn (μ : Mm) (g s : Int → Int) (yr m q : Int) : Prop := (μ 250 3 = m ∧ μ 250 7 = y9 s yr ∧ μ 250 8 = bi (byY s)) ∧ (1 ≤ m ∧ m ≤ 1 + 2 * q) ∧ Srt μ m ∧ μ 251 0 = y0 s yr ∧ (∀ j, 0 ≤ j → j < m → y0 s yr ≤ μ 251 j ∧ μ 251 j ≤ y9 s yr) ∧ (byY s → yr = -1 → ∀ k, 0 ≤ k → k < q → g (150 + 4 * k) = 1 → (y0 s yr < g (152 + 4 * k) → g (152 + 4 * k) ≤ y9 s yr → ∃ j, 0 ≤ j ∧ j < m ∧ μ 251 j = g (152 + 4 * k)) ∧ (y0 s yr < g (153 + 4 * k) + 1 → g (153 + 4 * k) + 1 ≤ y9 s yr → ∃ j, 0 ≤ j ∧ j < m ∧ μ 251 j = g (153 + 4 * k) + 1))
theorem c_asks {μ : Mm} {k : Int} {s : Int → Int} (hS : Sk μ k s) (hO : SkOk s) : fX6_asksForYears k μ = some (bi (byY s)) := by
  have o := hO.1
  apply Ev.eq
  unfold fX6_asksForYears
  refine Ev_bind (Ev_lop (P := fun x => (x = .inl () ∧ ¬byY s) ∨ (x = .inr () ∧ byY s)) (fun t => (0 ≤ t ∧ t ≤ s 0) ∧ ∀ i, 0 ≤ i → i < t → iand (s (19 + i)) 6 = 0) (fun t => (s 0 - t).toNat) ⟨by omega, fun j x y => by omega⟩ (by unfold FU; omega) ?_) ?_
  · intro v1 ⟨h1, h2⟩
    unfold sX6_asksForYears_2
    simp (disch := omega) only [w32_eq, w64_eq, chk_T, chk_t, lt, lm, ob, Int.add_zero, Int.zero_add, true_and, and_true, if_true, if_false, hS.1.1, hS.2.2.1.1]
    refine Ev_ite (fun z => Ev_out (.inl ⟨rfl, ?_⟩)) (fun z => ?_)
    · rintro ⟨i, i0, i1, w⟩; exact w (h2 i i0 (by omega))
    · unfold fX6_isMarked
      rw [if_neg (by omega)]
      simp (disch := omega) only [w32_eq, w64_eq, chk_T, chk_t, lt, lm, ob, Int.add_zero, Int.zero_add, true_and, and_true, if_true, if_false, hS.1.1, hS.2.2.1.1, hS.2.1.2, hS.1.2.2.1, hS.1.2.2.2, (hS.2.2.2 v1 h1.1 (by omega)).2, if_neg]
      by_cases q : iand (s (19 + v1)) 6 = 0
      · rw [if_pos q, ob, if_pos rfl]
        refine Ev_in ⟨by omega, fun i i0 i1 => ?_⟩ (by omega)
        by_cases e : i = v1
        · subst e; exact q
        · exact h2 i i0 (by omega)
      · rw [if_neg q, ob, if_neg (by decide)]
        exact Ev_out (.inr ⟨rfl, v1, h1.1, by omega, q⟩)
  · rintro r (⟨e, w⟩ | ⟨e, w⟩)
    · subst e; exact Ev_some (bi_f w).symm
    · subst e; exact Ev_some (bi_t w).symm
/-- after hold: the fitter has the land c, the sketch k, and the spans -/
def Hld (μ : Mm) (c k : Int) (g s : Int → Int) (yr m : Int) : Prop := FtF μ ∧ (μ 250 0 = c ∧ μ 250 1 = k) ∧ Spn μ g s yr m (g 5) ∧ μ 250 5 = 0 ∧ μ 250 6 = m - 1
theorem c_hold {μ : Mm} {c k yr : Int} {g s : Int → Int} (hF : FtF μ) (hA : La μ c g) (hS : Sk μ k s) (hD : LdOk g) (hO : SkOk s) (hy : -1 ≤ yr ∧ yr ≤ 99) (dc : far5 c (c + 5)) (dk : far5 k (k + 2)) : Ev (fX1_hold 250 c k yr μ) (fun μ' => Fw aR μ μ' ∧ ∃ m, Hld μ' c k g s yr m) := by
  have o := hO.1; have o6 := hO.2.2.2.2.2.1; have tl := hD.t
  unfold far5 at dc dk
  have bY := bi_b (byY s)
  have S2 : Sk (mst (mst μ 250 0 c) 250 1 k) k s := hS.fw (R := aR) ((Fw.s0 (.inl rfl)).st (.inl rfl)) (fun x a b => by unfold aR; omega)
  unfold fX1_hold
  simp (disch := omega) only [w32_eq, w64_eq, chk_T, chk_t, lt, lm, ob, Int.add_zero, Int.zero_add, true_and, and_true, if_true, if_false, K100, K101, K102, K103, K104, K200, K201, K230, K231, K232, K233, K234, K235, K236, K237, K250, K251, K252, K253, K254, K300, K301, K302, K303, K304, N101, N102, N103, N104, N201, N232, N233, N234, N235, N236, N237, N251, N252, N253, N254, N301, N302, N303, N304, hS.1.1, c_asks S2 hO]
  -- the state before the first span
  have main : ∀ (μ1 : Mm), Fw aR μ μ1 → FtF μ1 → (μ1 250 0 = c ∧ μ1 250 1 = k) → μ1 250 3 = 0 → μ1 250 7 = y9 s yr → μ1 250 8 = bi (byY s) → Ev (jX1_hold_54 250 yr (y0 s yr) 250 μ1) (fun μ' => Fw aR μ μ' ∧ ∃ m, Hld μ' c k g s yr m) := by
    intro μ1 f1 F1 e1 e3 e7 e8
    have yb : -1000 ≤ y0 s yr ∧ y0 s yr ≤ 1000 := by unfold y0; split <;> omega
    have le : y0 s yr ≤ y9 s yr := by unfold y0 y9; split <;> omega
    unfold jX1_hold_54
    simp (disch := omega) only [w32_eq, w64_eq, chk_T, chk_t, lt, lm, ob, Int.add_zero, Int.zero_add, true_and, and_true, if_true, if_false, K100, K101, K102, K103, K104, K200, K201, K230, K231, K232, K233, K234, K235, K236, K237, K250, K251, K252, K253, K254, K300, K301, K302, K303, K304, N101, N102, N103, N104, N201, N232, N233, N234, N235, N236, N237, N251, N252, N253, N254, N301, N302, N303, N304, ]
    refine Ev_bind (c_addSpan (l0 := y9 s yr) F1 e3 e7 (by decide) (fun i j a b c => by omega) yb) ?_
    rintro μ2 ⟨f2, k2, m2, ⟨a1, a2, a3, a4, a5, a6, a7, a8⟩⟩
    have m1 := a6 rfl
    clear a4 a5 a6 a7 a8
    have F2 : FtF μ2 := by unfold FtF; rw [k2 4 (by decide), k2 9 (by decide), k2 10 (by decide), k2 11 (by decide)]; exact F1
    refine Ev_bind (Ev_lop (P := fun μ' => Fw aR μ μ' ∧ FtF μ' ∧ (μ' 250 0 = c ∧ μ' 250 1 = k) ∧ ∃ m, Spn μ' g s yr m (g 5)) (fun t => (0 ≤ t.1 ∧ t.1 ≤ g 5) ∧ Fw aR μ t.2 ∧ FtF t.2 ∧ (t.2 250 0 = c ∧ t.2 250 1 = k) ∧ ∃ m, Spn t.2 g s yr m t.1) (fun t => (g 5 - t.1).toNat) ⟨(by first | omega | (dsimp only; omega) | (dsimp only)), f1.tr f2, F2, by dsimp only; rw [k2 0 (by decide), k2 1 (by decide)]; exact e1, m2, ?_⟩ (by unfold FU; dsimp only; omega) ?_) ?_
    · refine ⟨⟨a1, by dsimp only; rw [k2 7 (by decide)]; exact e7, by dsimp only; rw [k2 8 (by decide)]; exact e8⟩, by dsimp only; omega, a3, m1.2, fun j j0 j1 => ?_, fun _ _ k k0 k1 => by dsimp only at k1; omega⟩
      have : j = 0 := by omega
      rw [this]; dsimp only; rw [m1.2]; omega
    · rintro ⟨v4, μ3⟩ ⟨h1, f3, F3, g3, m, hP⟩
      dsimp only at h1 f3 F3 g3 hP ⊢
      obtain ⟨⟨p3, p7, p8⟩, pm, pS, p0, pb, pc⟩ := hP
      have A3 : La μ3 c g := hA.fw f3 (fun x a b => by unfold aR; omega)
      unfold sX1_hold_60
      dsimp only
      have out : (¬byY s ∨ yr ≠ -1) → Spn μ3 g s yr m (g 5) := fun w => ⟨⟨p3, p7, p8⟩, by omega, pS, p0, pb, fun h1 h2 => by rcases w with w | w <;> contradiction⟩
      simp (disch := omega) only [w32_eq, w64_eq, chk_T, chk_t, lt, lm, ob, Int.add_zero, Int.zero_add, true_and, and_true, if_true, if_false, K100, K101, K102, K103, K104, K200, K201, K230, K231, K232, K233, K234, K235, K236, K237, K250, K251, K252, K253, K254, K300, K301, K302, K303, K304, N101, N102, N103, N104, N201, N232, N233, N234, N235, N236, N237, N251, N252, N253, N254, N301, N302, N303, N304, p8, g3.1, La_k A3, La_k1 A3, La_n1 A3, La_k2 A3, La_n2 A3, La_k3 A3, La_n3 A3, La_k4 A3, La_n4 A3, La_k5 A3, La_n5 A3, La_f6 A3, La_f7 A3, La_f8 A3, La_f9 A3, La_f10 A3, La_0 A3, La_1 A3, La_2 A3, La_3 A3, La_4 A3, La_5 A3, La_h A3, La_a A3, La_t A3, La_fr A3, La_to A3]
      by_cases hb : byY s
      · rw [bi_t hb, if_neg (by decide)]
        refine Ev_ite (fun hyr => ?_) (fun hyr => Ev_out ⟨f3, F3, g3, m, out (.inr hyr)⟩)
        refine Ev_ite (fun z => Ev_out ⟨f3, F3, g3, m, ?_⟩) (fun z => ?_)
        · have e : v4 = g 5 := by omega
          rw [← e]; exact ⟨⟨p3, p7, p8⟩, pm, pS, p0, pb, pc⟩
        · have hv : 0 ≤ v4 ∧ v4 < g 5 := by omega
          have tt := hD.tt hv.1 hv.2
          rw [if_neg (by omega)]
          refine Ev_ite (fun q => Ev_in ⟨(by first | omega | (dsimp only; omega) | (dsimp only)), f3, F3, g3, m, ⟨p3, p7, p8⟩, by dsimp only; omega, pS, p0, pb, fun h1 h2 k k0 k1 kt => ?_⟩ (by first | omega | (dsimp only; omega) | (dsimp only))) (fun q => ?_)
          · dsimp only at k1
            by_cases e : k = v4
            · subst e; omega
            · exact pc h1 h2 k k0 (by omega) kt
          · refine Ev_bind (c_addSpan (l0 := y9 s yr) F3 p3 p7 (by omega) pS (by omega)) ?_
            rintro μ4 ⟨f4, k4, m4, ⟨b1, b2, b3, b4, b5, b6, b7, b8⟩⟩
            have F4 : FtF μ4 := by unfold FtF; rw [k4 4 (by decide), k4 9 (by decide), k4 10 (by decide), k4 11 (by decide)]; exact F3
            have A4 : La μ4 c g := by
              clear b4 b5 b6 b7 b8
              exact A3.fw f4 (fun x a b => by unfold aR; omega)
            have g4 : μ4 250 0 = c ∧ μ4 250 1 = k := by rw [k4 0 (by decide), k4 1 (by decide)]; exact g3
            simp (disch := omega) only [w32_eq, w64_eq, chk_T, chk_t, lt, lm, ob, Int.add_zero, Int.zero_add, true_and, and_true, if_true, if_false, K100, K101, K102, K103, K104, K200, K201, K230, K231, K232, K233, K234, K235, K236, K237, K250, K251, K252, K253, K254, K300, K301, K302, K303, K304, N101, N102, N103, N104, N201, N232, N233, N234, N235, N236, N237, N251, N252, N253, N254, N301, N302, N303, N304, g4.1, La_k A4, La_k1 A4, La_n1 A4, La_k2 A4, La_n2 A4, La_k3 A4, La_n3 A4, La_k4 A4, La_n4 A4, La_k5 A4, La_n5 A4, La_f6 A4, La_f7 A4, La_f8 A4, La_f9 A4, La_f10 A4, La_0 A4, La_1 A4, La_2 A4, La_3 A4, La_4 A4, La_5 A4, La_h A4, La_a A4, La_t A4, La_fr A4, La_to A4]
            refine Ev_bind (c_addSpan (l0 := y9 s yr) F4 b1 ((k4 7 (by decide)).trans p7) (by omega) b3 (by omega)) ?_
            rintro μ5 ⟨f5, k5, m5, ⟨d1, d2, d3, d4, d5, d6, d7, d8⟩⟩
            have F5 : FtF μ5 := by unfold FtF; rw [k5 4 (by decide), k5 9 (by decide), k5 10 (by decide), k5 11 (by decide)]; exact F4
            have z4 : μ4 251 0 = y0 s yr := (b7 (by omega)).trans p0
            have z5 : μ5 251 0 = y0 s yr := (d7 (by omega)).trans z4
            have up : ∀ j, 0 ≤ j → j < m → ∃ i, 0 ≤ i ∧ i < m5 ∧ μ5 251 i = μ3 251 j := by
              intro j j0 j1
              obtain ⟨i, i0, i1, e⟩ := b4 j j0 j1
              obtain ⟨i', x0, x1, e'⟩ := d4 i i0 i1
              exact ⟨i', x0, x1, e'.trans e⟩
            refine Ev_in ⟨(by first | omega | (dsimp only; omega) | (dsimp only)), (f3.tr f4).tr f5, F5, by dsimp only; rw [k5 0 (by decide), k5 1 (by decide)]; exact g4, m5, ⟨d1, by dsimp only; rw [k5 7 (by decide), k4 7 (by decide)]; exact p7, by dsimp only; rw [k5 8 (by decide), k4 8 (by decide)]; exact p8⟩, by dsimp only; omega, d3, z5, fun j j0 j1 => ?_, fun h1 h2 k k0 k1 kt => ?_⟩ (by first | omega | (dsimp only; omega) | (dsimp only))
            · dsimp only
              have old4 : ∀ i, 0 ≤ i → i < m4 → y0 s yr ≤ μ4 251 i ∧ μ4 251 i ≤ y9 s yr := by
                intro i i0 i1
                rcases b5 i i0 i1 with ⟨e, w⟩ | ⟨j, j0, j1, e⟩
                · rcases w with w | w <;> omega
                · rw [e]; exact pb j j0 j1
              rcases d5 j j0 j1 with ⟨e, w⟩ | ⟨i, i0, i1, e⟩
              · rcases w with w | w <;> omega
              · rw [e]; exact old4 i i0 i1
            · dsimp only at k1 ⊢
              by_cases e : k = v4
              · subst e
                refine ⟨fun x y => ?_, fun x y => d8 (by omega) (by omega) y⟩
                obtain ⟨i, i0, i1, e⟩ := b8 (by omega) (by omega) y
                obtain ⟨i', x0, x1, e'⟩ := d4 i i0 i1
                exact ⟨i', x0, x1, e'.trans e⟩
              · have := pc h1 h2 k k0 (by omega) kt
                refine ⟨fun x y => ?_, fun x y => ?_⟩
                · obtain ⟨j, j0, j1, e⟩ := this.1 x y
                  obtain ⟨i, i0, i1, e'⟩ := up j j0 j1
                  exact ⟨i, i0, i1, e'.trans e⟩
                · obtain ⟨j, j0, j1, e⟩ := this.2 x y
                  obtain ⟨i, i0, i1, e'⟩ := up j j0 j1
                  exact ⟨i, i0, i1, e'.trans e⟩
      · rw [bi_f hb, if_pos rfl]
        exact Ev_out ⟨f3, F3, g3, m, out (.inl hb)⟩
    · rintro μ3 ⟨f3, F3, g3, m, ⟨⟨p3, p7, p8⟩, pm, pS, p0, pb, pc⟩⟩
      simp (disch := omega) only [w32_eq, w64_eq, chk_T, chk_t, lt, lm, ob, Int.add_zero, Int.zero_add, true_and, and_true, if_true, if_false, K100, K101, K102, K103, K104, K200, K201, K230, K231, K232, K233, K234, K235, K236, K237, K250, K251, K252, K253, K254, K300, K301, K302, K303, K304, N101, N102, N103, N104, N201, N232, N233, N234, N235, N236, N237, N251, N252, N253, N254, N301, N302, N303, N304, mst_j, p3]
      refine Ev_some ⟨(f3.st (.inl rfl)).st (.inl rfl), m, ?_, ?_, ?_, ?_, ?_⟩
      · obtain ⟨q1, q2, q3, q4⟩ := F3; unfold FtF; simp (disch := omega) only [mst_n, mst_s, mst_j, ]; exact ⟨q1, q2, q3, q4⟩
      · simp (disch := omega) only [mst_n, mst_s, mst_j, ]; exact g3
      · unfold Spn Srt; simp (disch := omega) only [mst_n, mst_s, mst_j, ]; exact ⟨⟨p3, p7, p8⟩, pm, pS, p0, pb, pc⟩
      · simp (disch := omega) only [mst_n, mst_s, mst_j, ]
      · simp (disch := omega) only [mst_n, mst_s, mst_j, ]
  obtain ⟨q4, q9, q10, q11⟩ := hF
  have v5 := hS.2.2.1.2.2.2.2.2.1; have v6 := hS.2.2.1.2.2.2.2.2.2
  unfold jX1_hold_37
  simp (disch := omega) only [w32_eq, w64_eq, chk_T, chk_t, lt, lm, ob, Int.add_zero, Int.zero_add, true_and, and_true, if_true, if_false, K100, K101, K102, K103, K104, K200, K201, K230, K231, K232, K233, K234, K235, K236, K237, K250, K251, K252, K253, K254, K300, K301, K302, K303, K304, N101, N102, N103, N104, N201, N232, N233, N234, N235, N236, N237, N251, N252, N253, N254, N301, N302, N303, N304, mst_n, hS.1.1, v5, v6]
  by_cases hyr : yr = -1
  · rw [if_pos hyr, if_pos hyr]
    have e0 : s 5 = y0 s yr := by unfold y0; rw [if_pos hyr]
    have e9 : s 6 = y9 s yr := by unfold y9; rw [if_pos hyr]
    rw [e0, e9]
    apply main
    · exact ((((Fw.s0 (.inl rfl)).st (.inl rfl)).st (.inl rfl)).st (.inl rfl)).st (.inl rfl)
    · unfold FtF; simp (disch := omega) only [mst_n, mst_s, mst_j, ]; exact ⟨q4, q9, q10, q11⟩
    · simp (disch := omega) only [mst_n, mst_s, mst_j, ]; exact ⟨trivial, trivial⟩
    · simp (disch := omega) only [mst_n, mst_s, mst_j, ]
    · simp (disch := omega) only [mst_n, mst_s, mst_j, ]
    · simp (disch := omega) only [mst_n, mst_s, mst_j, ]
  · rw [if_neg hyr, if_neg hyr]
    have e0 : yr = y0 s yr := by unfold y0; rw [if_neg hyr]
    have e9 : y9 s yr = yr := by unfold y9; rw [if_neg hyr]
    have := main (mst (mst (mst (mst (mst μ 250 0 c) 250 1 k) 250 8 (bi (byY s))) 250 3 0) 250 7 yr) (((((Fw.s0 (.inl rfl)).st (.inl rfl)).st (.inl rfl)).st (.inl rfl)).st (.inl rfl)) (by unfold FtF; simp (disch := omega) only [mst_n, mst_s, mst_j, ]; exact ⟨q4, q9, q10, q11⟩) (by simp (disch := omega) only [mst_n, mst_s, mst_j, ]; exact ⟨trivial, trivial⟩) (by simp (disch := omega) only [mst_n, mst_s, mst_j, ]) (by simp (disch := omega) only [mst_n, mst_s, mst_j, ]; exact e9.symm) (by simp (disch := omega) only [mst_n, mst_s, mst_j, ])
    rw [← e0] at this; exact this
