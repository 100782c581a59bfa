/-! ===== the reference: years, starts, places that fit ===== -/
/-- between y and r no tower comes or goes -/
def NY (g : Int → Int) (y r : Int) : Prop := ∀ k, 0 ≤ k → k < g 5 → g (150 + 4 * k) = 1 → ¬(y < g (152 + 4 * k) ∧ g (152 + 4 * k) < r) ∧ ¬(y < g (153 + 4 * k) + 1 ∧ g (153 + 4 * k) + 1 < r)
theorem NY_tw {g : Int → Int} {y r q y' : Int} (h : NY g y r) (h0 : y ≤ y') (h1 : y' < r) : tw g q y' ↔ tw g q y := by
  constructor
  · rintro ⟨k, k0, k1, e1, e2, e3, e4⟩
    have := h k k0 k1 e1
    exact ⟨k, k0, k1, e1, e2, by omega, by omega⟩
  · rintro ⟨k, k0, k1, e1, e2, e3, e4⟩
    have := h k k0 k1 e1
    exact ⟨k, k0, k1, e1, e2, by omega, by omega⟩
theorem NY_fI {g s : Int → Int} {p st y r y' : Int} (h : NY g y r) (h0 : y ≤ y') (h1 : y' < r) : fI g s p st y' = fI g s p st y := by
  unfold fI
  have : ∀ i, okk g s p st y' i ↔ okk g s p st y i := by
    intro i; unfold okk mk; rw [NY_tw h h0 h1]
  rw [ld_c (fun i _ _ => this i)]
theorem fI_b {g s : Int → Int} {p st y : Int} (hO : SkOk s) : 0 ≤ fI g s p st y ∧ fI g s p st y ≤ s 0 := by
  have o := hO.1
  unfold fI
  by_cases h : cb g s p
  · rw [sel_t h]; have := (ld_ok (okk g s p st y) (s 0).toNat).1; omega
  · rw [sel_f h]; omega
theorem my_u {f : Int → Int} {a r : Int} {n : Nat} (h0 : 0 ≤ r) (h1 : ∀ y, a ≤ y → y < a + n → f y ≤ r) (h2 : r = 0 ∨ ∃ y, a ≤ y ∧ y < a + n ∧ f y = r) : r = my f a n := by
  obtain ⟨k0, k1, k2⟩ := my_ok f a n
  rcases Int.lt_trichotomy r (my f a n) with z | z | z
  · rcases k2 with e | ⟨y, y0, y1, e⟩
    · omega
    · have := h1 y y0 y1; omega
  · exact z
  · rcases h2 with e | ⟨y, y0, y1, e⟩
    · omega
    · have := k1 y y0 y1; omega
theorem fO_b {g s : Int → Int} {p st yr : Int} (hO : SkOk s) : 0 ≤ fO g s p st yr ∧ fO g s p st yr ≤ s 0 := by
  unfold fO
  split
  · obtain ⟨k0, k1, k2⟩ := my_ok (fI g s p st) (s 5) (s 6 - s 5 + 1).toNat
    have o := hO.1
    rcases k2 with e | ⟨y, _, _, e⟩
    · omega
    · have := fI_b (g := g) (p := p) (st := st) (y := y) hO; omega
  · exact fI_b hO
theorem fO_nc {g s : Int → Int} {p st yr : Int} (h : ¬cb g s p) : fO g s p st yr = 0 := by
  have e : ∀ y, fI g s p st y = 0 := fun y => by unfold fI; rw [sel_f h]
  unfold fO
  split
  · exact (my_u (Int.le_refl _) (fun y _ _ => by rw [e y]; exact Int.le_refl _) (.inl rfl)).symm
  · exact e yr
/-- it fits in some year that counts -/
theorem fO_s {g s : Int → Int} {p st yr : Int} (hO : SkOk s) : fO g s p st yr = s 0 ↔ (yr < 0 ∧ ∃ y, s 5 ≤ y ∧ y ≤ s 6 ∧ fI g s p st y = s 0) ∨ (0 ≤ yr ∧ fI g s p st yr = s 0) := by
  have o := hO.1; have o6 := hO.2.2.2.2.2.1
  unfold fO
  by_cases h : yr < 0
  · rw [if_pos h]
    obtain ⟨k0, k1, k2⟩ := my_ok (fI g s p st) (s 5) (s 6 - s 5 + 1).toNat
    constructor
    · intro e
      rcases k2 with z | ⟨y, y0, y1, z⟩
      · omega
      · exact .inl ⟨h, y, y0, by omega, by omega⟩
    · rintro (⟨_, y, y0, y1, e⟩ | ⟨w, _⟩)
      · have a := k1 y y0 (by omega)
        rcases k2 with z | ⟨y2, _, _, z⟩
        · omega
        · have := (fI_b (g := g) (p := p) (st := st) (y := y2) hO).2; omega
      · omega
  · rw [if_neg h]
    constructor
    · intro e; exact .inr ⟨by omega, e⟩
    · rintro (⟨w, _⟩ | ⟨_, e⟩)
      · omega
      · exact e
noncomputable def tellS (P : Int → Prop) (n : Nat) (k : Int) : Int := if k = -1 then ct P n else sel (0 ≤ k ∧ k < ct P n) ((fa P (fun i => i) n).2 k) (-1)
def ftp (g s : Int → Int) (yr p : Int) : Prop := Pl g p ∧ cb g s p ∧ ∃ st, 0 ≤ st ∧ st < hN g p ∧ fO g s p st yr = s 0
theorem FtA_p {g s : Int → Int} {p yr r : Int} (hp : Pl g p) (h : FtA g s p yr r) : 0 ≤ r ↔ ftp g s yr p := by
  rcases h with ⟨c, h | h⟩ | ⟨c, h⟩
  · exact ⟨fun _ => ⟨hp, c, r, h.1, h.2.1, h.2.2.1⟩, fun _ => h.1⟩
  · exact ⟨fun z => by omega, fun ⟨_, _, st, a, b, e⟩ => absurd e (h.2 st a b)⟩
  · exact ⟨fun z => by omega, fun z => absurd z.2.1 c⟩
section
variable {μ : Mm} {l z p st i k y : Int} {g s : Int → Int}
theorem r_nextYear (hM : Md μ) (hG : G μ l g) (hL : LdOk g) (hy : 0 ≤ y ∧ y ≤ 99) : Ev (fX11_nextYear 20000 l y μ) (fun r => y < r ∧ r ≤ 100 ∧ NY g y r) := by
  have hl := hG.1; have t := hL.t
  unfold fX11_nextYear
  refine Ev_bind (Ev_lop (P := fun r => y < r ∧ r ≤ 100 ∧ NY g y r) (fun s => (0 ≤ s.2 ∧ s.2 ≤ g 5) ∧ (y < s.1 ∧ s.1 ≤ 100) ∧ ∀ k, 0 ≤ k → k < s.2 → g (150 + 4 * k) = 1 → ¬(y < g (152 + 4 * k) ∧ g (152 + 4 * k) < s.1) ∧ ¬(y < g (153 + 4 * k) + 1 ∧ g (153 + 4 * k) + 1 < s.1)) (fun s => (g 5 - s.2).toNat) ⟨(by first | omega | (dsimp only; omega) | (dsimp only)), (by first | omega | (dsimp only; omega) | (dsimp only)), fun k a b => by dsimp only at b; omega⟩ (by unfold FU; dsimp only; omega) ?_) (fun r h => Ev_some h)
  rintro ⟨v3, v4⟩ ⟨h1, h2, h3⟩
  dsimp only at h1 h2 h3 ⊢
  unfold sX11_nextYear_6
  dsimp only
  simp (disch := omega) only [w32_eq, w64_eq, chk_T, chk_t, lt, lm, ob, Int.add_zero, Int.zero_add, true_and, and_true, if_true, if_false, K20000, K20001, K20002, K20003, K20004, K20005, K20006, K20007, K20008, K20009, K20010, K20011, K20012, K20013, K20014, K20015, K20016, K20017, K20018, K20019, N20001, N20002, N20003, N20004, N20005, N20006, N20007, N20008, N20009, N20010, N20011, N20012, N20013, N20014, N20015, N20016, N20017, N20018, N20019, Md_0 hM, hG.rd]
  refine Ev_ite (fun w => Ev_out ⟨h2.1, h2.2, fun k a b => h3 k a (by omega)⟩) (fun w => ?_)
  have tt := hL.tt h1.1 (show v4 < g 5 by omega)
  have e0 := hG.rd (i := 150 + 4 * v4) (by omega) (by omega); have e2 := hG.rd (i := 152 + 4 * v4) (by omega) (by omega); have e3 := hG.rd (i := 153 + 4 * v4) (by omega) (by omega)
  rw [show l + (150 + 4 * v4) = l + 150 + 4 * v4 by omega] at e0; rw [show l + (152 + 4 * v4) = l + 150 + 4 * v4 + 2 by omega] at e2; rw [show l + (153 + 4 * v4) = l + 150 + 4 * v4 + 3 by omega] at e3
  have key : ∀ v : Int, (y < v ∧ v ≤ v3) → (g (150 + 4 * v4) = 1 → ¬(y < g (152 + 4 * v4) ∧ g (152 + 4 * v4) < v)) → Ev (jX11_nextYear_78 20000 l y v v4 (l + 150 + 4 * v4) μ) (Nx (fun s => (0 ≤ s.2 ∧ s.2 ≤ g 5) ∧ (y < s.1 ∧ s.1 ≤ 100) ∧ ∀ k, 0 ≤ k → k < s.2 → g (150 + 4 * k) = 1 → ¬(y < g (152 + 4 * k) ∧ g (152 + 4 * k) < s.1) ∧ ¬(y < g (153 + 4 * k) + 1 ∧ g (153 + 4 * k) + 1 < s.1)) (fun s => (g 5 - s.2).toNat) (fun r => y < r ∧ r ≤ 100 ∧ NY g y r) (g 5 - v4).toNat) := by
    intro v hv hn
    have go : ∀ u : Int, (y < u ∧ u ≤ v) → (g (150 + 4 * v4) = 1 → ¬(y < g (153 + 4 * v4) + 1 ∧ g (153 + 4 * v4) + 1 < u)) → Ev (some (Sum.inl (u, v4 + 1)) : Option ((Int × Int) ⊕ Int)) (Nx (fun s => (0 ≤ s.2 ∧ s.2 ≤ g 5) ∧ (y < s.1 ∧ s.1 ≤ 100) ∧ ∀ k, 0 ≤ k → k < s.2 → g (150 + 4 * k) = 1 → ¬(y < g (152 + 4 * k) ∧ g (152 + 4 * k) < s.1) ∧ ¬(y < g (153 + 4 * k) + 1 ∧ g (153 + 4 * k) + 1 < s.1)) (fun s => (g 5 - s.2).toNat) (fun r => y < r ∧ r ≤ 100 ∧ NY g y r) (g 5 - v4).toNat) := by
      intro u hu hm
      refine Ev_in ⟨(by first | omega | (dsimp only; omega) | (dsimp only)), (by first | omega | (dsimp only; omega) | (dsimp only)), fun k a b ht => ?_⟩ (by first | omega | (dsimp only; omega) | (dsimp only))
      dsimp only at b ⊢
      by_cases e : k = v4
      · subst e; have := hn ht; have := hm ht; omega
      · have := h3 k a (by omega) ht; omega
    unfold jX11_nextYear_78
    simp (disch := omega) only [w32_eq, w64_eq, chk_T, chk_t, lt, lm, ob, Int.add_zero, Int.zero_add, true_and, and_true, if_true, if_false, K20000, K20001, K20002, K20003, K20004, K20005, K20006, K20007, K20008, K20009, K20010, K20011, K20012, K20013, K20014, K20015, K20016, K20017, K20018, K20019, N20001, N20002, N20003, N20004, N20005, N20006, N20007, N20008, N20009, N20010, N20011, N20012, N20013, N20014, N20015, N20016, N20017, N20018, N20019, Md_0 hM, e0, e3]
    refine Ev_ite (fun q1 => Ev_ite (fun q2 => go v (by omega) (fun _ => by omega)) (fun q2 => Ev_ite (fun q3 => go v (by omega) (fun _ => by omega)) (fun q3 => go _ (by omega) (fun _ => by omega)))) (fun q1 => go v (by omega) (fun h => absurd h q1))
  simp (disch := omega) only [w32_eq, w64_eq, chk_T, chk_t, lt, lm, ob, Int.add_zero, Int.zero_add, true_and, and_true, if_true, if_false, K20000, K20001, K20002, K20003, K20004, K20005, K20006, K20007, K20008, K20009, K20010, K20011, K20012, K20013, K20014, K20015, K20016, K20017, K20018, K20019, N20001, N20002, N20003, N20004, N20005, N20006, N20007, N20008, N20009, N20010, N20011, N20012, N20013, N20014, N20015, N20016, N20017, N20018, N20019, Md_0 hM, e0, e2]
  refine Ev_ite (fun q1 => Ev_ite (fun q2 => key v3 (by omega) (fun _ => by omega)) (fun q2 => Ev_ite (fun q3 => key v3 (by omega) (fun _ => by omega)) (fun q3 => key _ (by omega) (fun _ => by omega)))) (fun q1 => key v3 (by omega) (fun h => absurd h q1))
theorem r_firstOf {yr : Int} (hM : Md μ) (hG : G μ l g) (hS : Gs μ z s) (hO : SkOk s) (hL : LdOk g) (hp : Pl g p) (hH : Hp μ g p) (hs : 0 ≤ st ∧ st < hN g p) : fX11_firstOf 20000 l z p st yr μ = some (fO g s p st yr) := by
  have hz := hS.1; have o0 := hO.1; have o6 := hO.2.2.2.2.2.1
  apply Ev.eq
  unfold fX11_firstOf fO
  simp (disch := omega) only [w32_eq, w64_eq, chk_T, chk_t, lt, lm, ob, Int.add_zero, Int.zero_add, true_and, and_true, if_true, if_false, K20000, K20001, K20002, K20003, K20004, K20005, K20006, K20007, K20008, K20009, K20010, K20011, K20012, K20013, K20014, K20015, K20016, K20017, K20018, K20019, N20001, N20002, N20003, N20004, N20005, N20006, N20007, N20008, N20009, N20010, N20011, N20012, N20013, N20014, N20015, N20016, N20017, N20018, N20019, Md_0 hM, hS.rd]
  refine Ev_ite (fun h => ?_) (fun h => ?_)
  · rw [if_pos h]
    refine Ev_bind (Ev_lopI (P := fun r => r = my (fI g s p st) (s 5) (s 6 - s 5 + 1).toNat) (fun m t => (m = (100 - t.2).toNat ∧ s 5 ≤ t.2 ∧ t.2 ≤ 100) ∧ 0 ≤ t.1 ∧ (∀ y, s 5 ≤ y → y < t.2 → y ≤ s 6 → fI g s p st y ≤ t.1) ∧ (t.1 = 0 ∨ ∃ y, s 5 ≤ y ∧ y ≤ s 6 ∧ fI g s p st y = t.1)) (100 - s 5).toNat ⟨(by first | omega | (dsimp only; omega) | (dsimp only)), (by first | omega | (dsimp only; omega) | (dsimp only)), fun y a b => by dsimp only at b; omega, .inl rfl⟩ (by unfold FU; omega) ?_) (fun r h => Ev_some h)
    rintro m ⟨v6, v7⟩ ⟨h1, h2, h3, h4⟩
    dsimp only at h1 h2 h3 h4
    unfold sX11_firstOf_30
    dsimp only
    simp (disch := omega) only [w32_eq, w64_eq, chk_T, chk_t, lt, lm, ob, Int.add_zero, Int.zero_add, true_and, and_true, if_true, if_false, K20000, K20001, K20002, K20003, K20004, K20005, K20006, K20007, K20008, K20009, K20010, K20011, K20012, K20013, K20014, K20015, K20016, K20017, K20018, K20019, N20001, N20002, N20003, N20004, N20005, N20006, N20007, N20008, N20009, N20010, N20011, N20012, N20013, N20014, N20015, N20016, N20017, N20018, N20019, Md_0 hM, hS.rd]
    refine Ev_ite (fun w => Ev_outi ?_) (fun w => ?_)
    · refine my_u h2 (fun y a b => h3 y a (by omega) (by omega)) ?_
      rcases h4 with e | ⟨y, a, b, e⟩
      · exact .inl e
      · exact .inr ⟨y, a, by omega, e⟩
    · rw [r_firstIn hM hG hS hO hL hp hH hs]
      simp only [ob]
      have fb := fI_b (g := g) (p := p) (st := st) (y := v7) hO
      have go : ∀ v : Int, v6 ≤ v → fI g s p st v7 ≤ v → (v = v6 ∨ v = fI g s p st v7) → Ev (jX11_firstOf_71 20000 l z p st v7 v μ) (Nxi (fun m t => (m = (100 - t.2).toNat ∧ s 5 ≤ t.2 ∧ t.2 ≤ 100) ∧ 0 ≤ t.1 ∧ (∀ y, s 5 ≤ y → y < t.2 → y ≤ s 6 → fI g s p st y ≤ t.1) ∧ (t.1 = 0 ∨ ∃ y, s 5 ≤ y ∧ y ≤ s 6 ∧ fI g s p st y = t.1)) (fun r => r = my (fI g s p st) (s 5) (s 6 - s 5 + 1).toNat) m) := by
        intro v hv1 hv2 hv3
        unfold jX11_firstOf_71
        simp (disch := omega) only [w32_eq, w64_eq, chk_T, chk_t, lt, lm, ob, Int.add_zero, Int.zero_add, true_and, and_true, if_true, if_false, K20000, K20001, K20002, K20003, K20004, K20005, K20006, K20007, K20008, K20009, K20010, K20011, K20012, K20013, K20014, K20015, K20016, K20017, K20018, K20019, N20001, N20002, N20003, N20004, N20005, N20006, N20007, N20008, N20009, N20010, N20011, N20012, N20013, N20014, N20015, N20016, N20017, N20018, N20019, ]
        refine Ev_bind (r_nextYear hM hG hL (y := v7) (by omega)) (fun r ⟨n1, n2, n3⟩ => ?_)
        refine Ev_ini (100 - r).toNat ⟨⟨rfl, by clear h4; dsimp only; omega, n2⟩, by clear h4; dsimp only; omega, fun y a b c => ?_, ?_⟩ (by clear h4; omega)
        · dsimp only at b ⊢
          by_cases e : y < v7
          · have := h3 y a e c; omega
          · rw [NY_fI n3 (by omega) b]; exact hv2
        · dsimp only
          rcases hv3 with e | e
          · rw [e]; exact h4
          · exact .inr ⟨v7, h1.2.1, by omega, e.symm⟩
      exact Ev_ite (fun q => go _ (by omega) q (.inl rfl)) (fun q => go _ (by omega) (by omega) (.inr rfl))
  · rw [if_neg h, r_firstIn hM hG hS hO hL hp hH hs]
    simp only [ob]
    exact Ev_some rfl
theorem r_fitsAt {yr : Int} (hM : Md μ) (hG : G μ l g) (hS : Gs μ z s) (hO : SkOk s) (hL : LdOk g) (hp : Pl g p) (hH : Hp μ g p) : Ev (fX11_fitsAt 20000 l z p yr μ) (FtA g s p yr) := by
  have hz := hS.1; have bp := Pl.i hL hp; have hb := hN_b hL hp
  unfold fX11_fitsAt
  simp (disch := omega) only [w32_eq, w64_eq, chk_T, chk_t, lt, lm, ob, Int.add_zero, Int.zero_add, true_and, and_true, if_true, if_false, K20000, K20001, K20002, K20003, K20004, K20005, K20006, K20007, K20008, K20009, K20010, K20011, K20012, K20013, K20014, K20015, K20016, K20017, K20018, K20019, N20001, N20002, N20003, N20004, N20005, N20006, N20007, N20008, N20009, N20010, N20011, N20012, N20013, N20014, N20015, N20016, N20017, N20018, N20019, r_canBe hM hS hO hL hp hH, bi_if]
  by_cases hc : cb g s p
  · rw [sel_t hc]
    refine Ev_bind (Ev_lop (P := fun x => (x = .inl () ∧ ∀ st, 0 ≤ st → st < hN g p → fO g s p st yr ≠ s 0) ∨ ∃ r, x = .inr r ∧ (0 ≤ r ∧ r < hN g p) ∧ fO g s p r yr = s 0 ∧ ∀ st, 0 ≤ st → st < r → fO g s p st yr ≠ s 0) (fun t => (0 ≤ t ∧ t ≤ hN g p) ∧ ∀ st, 0 ≤ st → st < t → fO g s p st yr ≠ s 0) (fun t => (hN g p - t).toNat) ⟨by omega, fun i a b => by omega⟩ (by unfold FU; omega) ?_) ?_
    · intro v5 ⟨h1, h2⟩
      unfold sX11_fitsAt_14
      simp (disch := omega) only [w32_eq, w64_eq, chk_T, chk_t, lt, lm, ob, Int.add_zero, Int.zero_add, true_and, and_true, if_true, if_false, K20000, K20001, K20002, K20003, K20004, K20005, K20006, K20007, K20008, K20009, K20010, K20011, K20012, K20013, K20014, K20015, K20016, K20017, K20018, K20019, N20001, N20002, N20003, N20004, N20005, N20006, N20007, N20008, N20009, N20010, N20011, N20012, N20013, N20014, N20015, N20016, N20017, N20018, N20019, Md_0 hM, Md_16 hM, hH.1, hS.r0]
      refine Ev_ite (fun w => Ev_out (.inl ⟨rfl, fun i a b => h2 i a (by omega)⟩)) (fun w => ?_)
      rw [r_firstOf hM hG hS hO hL hp hH (st := v5) (by omega)]
      simp only [ob]
      refine Ev_ite (fun e => Ev_out (.inr ⟨v5, rfl, by omega, e, h2⟩)) (fun e => Ev_in ⟨by omega, fun i a b => ?_⟩ (by omega))
      by_cases q : i = v5
      · subst q; exact e
      · exact h2 i a (by omega)
    · rintro x (⟨e, h⟩ | ⟨r, e, h1, h2, h3⟩)
      · subst e; exact Ev_some (.inl ⟨hc, .inr ⟨rfl, h⟩⟩)
      · subst e; exact Ev_some (.inl ⟨hc, .inl ⟨h1.1, h1.2, h2, h3⟩⟩)
  · rw [sel_f hc]; exact Ev_some (.inr ⟨hc, rfl⟩)
theorem Hp.fr {μ μ' : Mm} {R L : List Int} (h : Hp μ g p) (f : Fr R L μ μ') (h1 : 20007 ∉ R) (h2 : 20008 ∉ R) : Hp μ' g p := by
  unfold Hp; rw [f.1 20007 (by decide) h1, f.1 20008 (by decide) h2]; exact h
theorem Gs.fr {μ μ' : Mm} {R L : List Int} (h : Gs μ z s) (f : Fr R L μ μ') (h1 : 20001 ∉ R) : Gs μ' z s := by
  unfold Gs; rw [f.1 20001 (by decide) h1]; exact h
/-- the reference has found the places P -/
def FdP (μ : Mm) (P : Int → Prop) : Prop := μ 20000 18 = ct P 144 ∧ ∀ j, 0 ≤ j → j < ct P 144 → μ 20009 j = (fa P (fun i => i) 144).2 j
theorem r_finds {yr : Int} (hM : Md μ) (hG : G μ l g) (hS : Gs μ z s) (hO : SkOk s) (hL : LdOk g) (hH : ∀ p, Pl g p → Hp μ g p) : Ev (fX11_finds 20000 l z yr μ) (fun μ' => Fr [20009] [18] μ μ' ∧ FdP μ' (ftp g s yr)) := by
  have nb := np_b hL
  suffices h : Ev (fX11_finds 20000 l z yr μ) (fun μ' => FdP μ' (ftp g s yr)) by
    obtain ⟨r, e, h1⟩ := h
    exact ⟨r, e, frfX11_finds e hM, h1⟩
  unfold fX11_finds
  simp (disch := omega) only [w32_eq, w64_eq, chk_T, chk_t, lt, lm, ob, Int.add_zero, Int.zero_add, true_and, and_true, if_true, if_false, K20000, K20001, K20002, K20003, K20004, K20005, K20006, K20007, K20008, K20009, K20010, K20011, K20012, K20013, K20014, K20015, K20016, K20017, K20018, K20019, N20001, N20002, N20003, N20004, N20005, N20006, N20007, N20008, N20009, N20010, N20011, N20012, N20013, N20014, N20015, N20016, N20017, N20018, N20019, ]
  have f0 : Fr [20009] [18] μ (mst μ 20000 18 0) := Fr.fld rfl (by decide)
  have M0 : Md (mst μ 20000 18 0) := f0.md hM (by decide)
  refine Ev_bind (Ev_lopF (pj := pjX11_finds_8) (P := fun μ' => FdP μ' (ftp g s yr)) (fun s t h hM => frsX11_finds_8 h hM) (by decide) M0 (fun t => (0 ≤ t.1 ∧ t.1 ≤ np g) ∧ t.2 20000 18 = ct (ftp g s yr) t.1.toNat ∧ ∀ j, 0 ≤ j → j < ct (ftp g s yr) t.1.toNat → t.2 20009 j = (fa (ftp g s yr) (fun i => i) t.1.toNat).2 j) (fun t => (np g - t.1).toNat) ⟨(by first | omega | (dsimp only; omega) | (dsimp only)), (by dsimp only; rw [mst_s]; rfl), fun j h0 h1 => ?_⟩ (by unfold FU; dsimp only; omega) ?_) (fun r h => Ev_some h)
  · have : ct (ftp g s yr) 0 = 0 := rfl
    simp only [Int.toNat_zero] at h1; omega
  · rintro ⟨v4, μ1⟩ M1 F1 ⟨h1, h2, h3⟩
    replace M1 : Md μ1 := M1
    replace F1 : Fr [20009] [18] μ μ1 := f0.tr F1
    have G1 := hG.fr F1 (by decide)
    have S1 := hS.fr F1 (by decide)
    dsimp only at h1 h2 h3 ⊢
    have cb1 := ct_b (ftp g s yr) v4.toNat
    unfold sX11_finds_8
    dsimp only
    simp (disch := omega) only [w32_eq, w64_eq, chk_T, chk_t, lt, lm, ob, Int.add_zero, Int.zero_add, true_and, and_true, if_true, if_false, K20000, K20001, K20002, K20003, K20004, K20005, K20006, K20007, K20008, K20009, K20010, K20011, K20012, K20013, K20014, K20015, K20016, K20017, K20018, K20019, N20001, N20002, N20003, N20004, N20005, N20006, N20007, N20008, N20009, N20010, N20011, N20012, N20013, N20014, N20015, N20016, N20017, N20018, N20019, r_placesOf M1 G1 hL]
    refine Ev_ite (fun q => Ev_out (fun _ => ?_)) (fun q => ?_)
    · have e : v4.toNat = (np g).toNat := by omega
      have fl := ct_flat (c := ftp g s yr) (v := fun i => i) (a := (np g).toNat) 144 (by omega) (fun i i0 i1 w => by have := w.1.2; omega)
      rw [e] at h2 h3
      unfold FdP; rw [fl.1, fl.2]; exact ⟨h2, h3⟩
    · have hp : Pl g v4 := ⟨by omega, by omega⟩
      refine Ev_bind (r_fitsAt M1 G1 S1 hO hL hp ((hH v4 hp).fr F1 (by decide) (by decide))) (fun r hr => ?_)
      have hf := FtA_p hp hr
      have es := ct_s (P := ftp g s yr) h1.1
      refine Ev_ite (fun q2 => ?_) (fun q2 => ?_)
      · have hc := hf.mp q2
        rw [bi_t hc] at es
        simp (disch := omega) only [w32_eq, w64_eq, chk_T, chk_t, lt, lm, ob, Int.add_zero, Int.zero_add, true_and, and_true, if_true, if_false, K20000, K20001, K20002, K20003, K20004, K20005, K20006, K20007, K20008, K20009, K20010, K20011, K20012, K20013, K20014, K20015, K20016, K20017, K20018, K20019, N20001, N20002, N20003, N20004, N20005, N20006, N20007, N20008, N20009, N20010, N20011, N20012, N20013, N20014, N20015, N20016, N20017, N20018, N20019, Md_19 M1, h2, mst_n, mst_s, mst_j]
        refine Ev_in ⟨(by first | omega | (dsimp only; omega) | (dsimp only)), ?_, ?_⟩ (by first | omega | (dsimp only; omega) | (dsimp only))
        · dsimp only; rw [mst_s, es]
        · dsimp only
          intro j j0 j1
          rw [fa_s h1.1, sel_t hc]
          unfold psh; dsimp only
          rw [fa_n, mst_n (by decide)]
          by_cases z : j = ct (ftp g s yr) v4.toNat
          · rw [if_pos z, z, mst_s]
          · rw [if_neg z, mst_j z]; exact h3 j j0 (by omega)
      · have hc : ¬ftp g s yr v4 := fun w => q2 (hf.mpr w)
        rw [bi_f hc] at es
        refine Ev_in ⟨(by first | omega | (dsimp only; omega) | (dsimp only)), ?_, ?_⟩ (by first | omega | (dsimp only; omega) | (dsimp only))
        · dsimp only; omega
        · dsimp only
          intro j j0 j1
          rw [fa_s h1.1, sel_f hc]; exact h3 j j0 (by omega)
theorem r_told {P : Int → Prop} (hM : Md μ) (hF : FdP μ P) (k : Int) : fX11_told 20000 k μ = some (tellS P 144 k) := by
  have cb1 := ct_b P 144
  unfold fX11_told tellS
  simp (disch := omega) only [w32_eq, w64_eq, chk_T, chk_t, lt, lm, ob, Int.add_zero, Int.zero_add, true_and, and_true, if_true, if_false, K20000, K20001, K20002, K20003, K20004, K20005, K20006, K20007, K20008, K20009, K20010, K20011, K20012, K20013, K20014, K20015, K20016, K20017, K20018, K20019, N20001, N20002, N20003, N20004, N20005, N20006, N20007, N20008, N20009, N20010, N20011, N20012, N20013, N20014, N20015, N20016, N20017, N20018, N20019, hF.1, Md_19 hM, isIn_0]
  by_cases h : k = -1
  · rw [if_pos h, if_pos h]
  · rw [if_neg h, if_neg h]
    by_cases y : 0 ≤ k ∧ k < ct P 144
    · rw [if_neg (by omega), sel_t y]
      try simp (disch := omega) only [w32_eq, w64_eq, chk_T, chk_t, lt, lm, ob, Int.add_zero, Int.zero_add, true_and, and_true, if_true, if_false, ]
      rw [hF.2 k y.1 y.2]
    · rw [if_pos (by omega), sel_f y]
end
section
variable {μ : Mm} {b : Int → Int}
theorem r_areBoth (hM : Md μ) (hb : μ 20001 = b) (hA : AOk b) (n k : Int) : fX11_areBoth 20000 n k μ = some (bi (isL b n ∧ isS b k)) := by
  unfold fX11_areBoth
  simp (disch := omega) only [w32_eq, w64_eq, chk_T, chk_t, lt, lm, ob, Int.add_zero, Int.zero_add, true_and, and_true, if_true, if_false, K20000, K20001, K20002, K20003, K20004, K20005, K20006, K20007, K20008, K20009, K20010, K20011, K20012, K20013, K20014, K20015, K20016, K20017, K20018, K20019, N20001, N20002, N20003, N20004, N20005, N20006, N20007, N20008, N20009, N20010, N20011, N20012, N20013, N20014, N20015, N20016, N20017, N20018, N20019, r_isL hM hb hA, r_isS hM hb hA, bi_if]
  by_cases h1 : isL b n
  · rw [sel_t h1]
    by_cases h2 : isS b k
    · rw [sel_t h2, bi_t ⟨h1, h2⟩]
    · rw [sel_f h2, bi_f (fun w => h2 w.2)]
  · rw [sel_f h1, bi_f (fun w => h1 w.1)]
/-- what a land and a sketch that are there give -/
theorem r_two (hb : μ 20001 = b) (hA : AOk b) {n k : Int} (h : isL b n ∧ isS b k) : (n = 0 ∨ n = 1) ∧ (0 ≤ k ∧ k < 4) ∧ LdOk (lg b n) ∧ SkOk (ls b k) ∧ G μ (710 + 200 * n) (lg b n) ∧ Gs μ (1110 + 32 * k) (ls b k) := by
  have a0 := hA.1; have a1 := hA.2.1
  have nn : n = 0 ∨ n = 1 := by have := h.1.1; have := h.1.2; omega
  have kk : 0 ≤ k ∧ k < 4 := by have := h.2.1; have := h.2.2; omega
  exact ⟨nn, kk, hA.2.2.2.2.1 n h.1.1 h.1.2, hA.2.2.2.2.2.1 k h.2.1 h.2.2, G_lg hb nn, Gs_ls hb kk⟩
noncomputable def zzFirst (b : Int → Int) (n k p st yr : Int) : Int := sel ((-1 ≤ yr ∧ yr ≤ 99) ∧ (isL b n ∧ isS b k) ∧ Pl (lg b n) p ∧ 0 ≤ st ∧ st < hN (lg b n) p) (fO (lg b n) (ls b k) p st yr) (-1)
theorem r_isStart (hM : Md μ) (hDt : Dt μ) (hb : μ 20001 = b) (hA : AOk b) (n k p st : Int) : Ev (fX11_isStart 20000 n k p st μ) (fun r => Fr [20006, 20007, 20008] [14] μ r.2 ∧ r.1 = bi ((isL b n ∧ isS b k) ∧ Pl (lg b n) p ∧ 0 ≤ st ∧ st < hN (lg b n) p) ∧ ((isL b n ∧ isS b k) → Pl (lg b n) p → Hp r.2 (lg b n) p)) := by
  unfold fX11_isStart
  simp (disch := omega) only [w32_eq, w64_eq, chk_T, chk_t, lt, lm, ob, Int.add_zero, Int.zero_add, true_and, and_true, if_true, if_false, K20000, K20001, K20002, K20003, K20004, K20005, K20006, K20007, K20008, K20009, K20010, K20011, K20012, K20013, K20014, K20015, K20016, K20017, K20018, K20019, N20001, N20002, N20003, N20004, N20005, N20006, N20007, N20008, N20009, N20010, N20011, N20012, N20013, N20014, N20015, N20016, N20017, N20018, N20019, r_areBoth hM hb hA, r_isPlace hM hb hA, bi_if]
  by_cases h : isL b n ∧ isS b k
  · obtain ⟨nn, kk, hD, hO, hG, hS⟩ := r_two hb hA h
    rw [sel_t h]
    by_cases hp : Pl (lg b n) p
    · have bp := Pl.i hD hp; have hbb := hN_b hD hp
      rw [sel_t (c := isP b n p) ⟨h.1, hp⟩, r_placeOf nn]
      simp only [ob]
      refine Ev_bind (r_surveyAt hM hG hDt hD hp) (fun μ1 ⟨f1, h1, _⟩ => ?_)
      have M1 := f1.md hM (by decide)
      simp (disch := omega) only [w32_eq, w64_eq, chk_T, chk_t, lt, lm, ob, Int.add_zero, Int.zero_add, true_and, and_true, if_true, if_false, K20000, K20001, K20002, K20003, K20004, K20005, K20006, K20007, K20008, K20009, K20010, K20011, K20012, K20013, K20014, K20015, K20016, K20017, K20018, K20019, N20001, N20002, N20003, N20004, N20005, N20006, N20007, N20008, N20009, N20010, N20011, N20012, N20013, N20014, N20015, N20016, N20017, N20018, N20019, Md_16 M1, h1.1]
      refine Ev_some ⟨f1, ?_, fun _ _ => h1⟩
      dsimp only
      by_cases w : 0 ≤ st ∧ st < hN (lg b n) p
      · rw [isIn_t w.1 (by omega), bi_t ⟨h, hp, w⟩]
      · rw [isIn_f (by omega), bi_f (fun v => w v.2.2)]
    · rw [sel_f (c := isP b n p) (fun w => hp w.2)]
      exact Ev_some ⟨Fr.rf, by dsimp only; rw [bi_f (fun w => hp w.2.1)], fun _ w => absurd w hp⟩
  · rw [sel_f h]
    exact Ev_some ⟨Fr.rf, by dsimp only; rw [bi_f (fun w => h w.1)], fun w _ => absurd w h⟩
theorem rr_first (hM : Md μ) (hDt : Dt μ) (hb : μ 20001 = b) (hA : AOk b) (n k p st yr : Int) : Ev (fX11_first 20000 n k p st yr μ) (fun r => r.1 = zzFirst b n k p st yr) := by
  unfold fX11_first zzFirst
  simp (disch := omega) only [w32_eq, w64_eq, chk_T, chk_t, lt, lm, ob, Int.add_zero, Int.zero_add, true_and, and_true, if_true, if_false, K20000, K20001, K20002, K20003, K20004, K20005, K20006, K20007, K20008, K20009, K20010, K20011, K20012, K20013, K20014, K20015, K20016, K20017, K20018, K20019, N20001, N20002, N20003, N20004, N20005, N20006, N20007, N20008, N20009, N20010, N20011, N20012, N20013, N20014, N20015, N20016, N20017, N20018, N20019, ]
  by_cases hy : -1 ≤ yr ∧ yr ≤ 99
  · rw [isIn_t hy.1 hy.2, if_neg (by decide)]
    refine Ev_bind (r_isStart hM hDt hb hA n k p st) ?_
    rintro ⟨r, μ1⟩ ⟨f1, e1, h1⟩
    dsimp only at f1 e1 h1 ⊢
    subst e1
    rw [bi_if]
    by_cases w : (isL b n ∧ isS b k) ∧ Pl (lg b n) p ∧ 0 ≤ st ∧ st < hN (lg b n) p
    · obtain ⟨nn, kk, hD, hO, hG, hS⟩ := r_two hb hA w.1
      have M1 := f1.md hM (by decide)
      rw [sel_t w, sel_t ⟨hy, w⟩, r_placeOf nn, r_placeOf1 kk]
      simp only [ob]
      rw [r_firstOf M1 (hG.fr f1 (by decide)) (hS.fr f1 (by decide)) hO hD w.2.1 (h1 w.1 w.2.1) w.2.2]
      simp only [ob]
      exact Ev_some rfl
    · rw [sel_f w, sel_f (fun v => w v.2)]; exact Ev_some rfl
  · rw [isIn_f hy, if_pos rfl, sel_f (fun w => hy w.1)]; exact Ev_some rfl
def ZFits (b : Int → Int) (n k p yr r : Int) : Prop := (((-1 ≤ yr ∧ yr ≤ 99) ∧ (isL b n ∧ isS b k) ∧ Pl (lg b n) p) ∧ FtA (lg b n) (ls b k) p yr r) ∨ (¬((-1 ≤ yr ∧ yr ≤ 99) ∧ (isL b n ∧ isS b k) ∧ Pl (lg b n) p) ∧ r = -1)
theorem rr_fits (hM : Md μ) (hDt : Dt μ) (hb : μ 20001 = b) (hA : AOk b) (n k p yr : Int) : Ev (fX11_fits 20000 n k p yr μ) (fun r => ZFits b n k p yr r.1) := by
  unfold fX11_fits
  simp (disch := omega) only [w32_eq, w64_eq, chk_T, chk_t, lt, lm, ob, Int.add_zero, Int.zero_add, true_and, and_true, if_true, if_false, K20000, K20001, K20002, K20003, K20004, K20005, K20006, K20007, K20008, K20009, K20010, K20011, K20012, K20013, K20014, K20015, K20016, K20017, K20018, K20019, N20001, N20002, N20003, N20004, N20005, N20006, N20007, N20008, N20009, N20010, N20011, N20012, N20013, N20014, N20015, N20016, N20017, N20018, N20019, r_areBoth hM hb hA, r_isPlace hM hb hA, bi_if]
  by_cases h : isL b n ∧ isS b k
  · obtain ⟨nn, kk, hD, hO, hG, hS⟩ := r_two hb hA h
    rw [sel_t h]
    by_cases hp : Pl (lg b n) p
    · rw [sel_t (c := isP b n p) ⟨h.1, hp⟩]
      by_cases hy : -1 ≤ yr ∧ yr ≤ 99
      · rw [isIn_t hy.1 hy.2, if_neg (by decide), r_placeOf nn]
        simp only [ob]
        refine Ev_bind (r_surveyAt hM hG hDt hD hp) (fun μ1 ⟨f1, h1, _⟩ => ?_)
        have M1 := f1.md hM (by decide)
        rw [r_placeOf1 kk]
        simp only [ob]
        refine Ev_bind (r_fitsAt M1 (hG.fr f1 (by decide)) (hS.fr f1 (by decide)) hO hD hp h1) (fun r hr => ?_)
        exact Ev_some (.inl ⟨⟨hy, h, hp⟩, hr⟩)
      · rw [isIn_f hy, if_pos rfl]; exact Ev_some (.inr ⟨fun w => hy w.1, rfl⟩)
    · rw [sel_f (c := isP b n p) (fun w => hp w.2)]; exact Ev_some (.inr ⟨fun w => hp w.2.2, rfl⟩)
  · rw [sel_f h]; exact Ev_some (.inr ⟨fun w => h w.2.1, rfl⟩)
noncomputable def zzWhere (b : Int → Int) (n k yr j : Int) : Int := sel ((isL b n ∧ isS b k) ∧ -1 ≤ yr ∧ yr ≤ 99) (tellS (ftp (lg b n) (ls b k) yr) 144 j) (-1)
theorem rr_where (hM : Md μ) (hDt : Dt μ) (hb : μ 20001 = b) (hA : AOk b) (n k yr j : Int) : Ev (fX11_where 20000 n k yr j μ) (fun r => r.1 = zzWhere b n k yr j) := by
  unfold fX11_where zzWhere
  simp (disch := omega) only [w32_eq, w64_eq, chk_T, chk_t, lt, lm, ob, Int.add_zero, Int.zero_add, true_and, and_true, if_true, if_false, K20000, K20001, K20002, K20003, K20004, K20005, K20006, K20007, K20008, K20009, K20010, K20011, K20012, K20013, K20014, K20015, K20016, K20017, K20018, K20019, N20001, N20002, N20003, N20004, N20005, N20006, N20007, N20008, N20009, N20010, N20011, N20012, N20013, N20014, N20015, N20016, N20017, N20018, N20019, r_areBoth hM hb hA, bi_if]
  by_cases h : isL b n ∧ isS b k
  · obtain ⟨nn, kk, hD, hO, hG, hS⟩ := r_two hb hA h
    rw [sel_t h]
    by_cases hy : -1 ≤ yr ∧ yr ≤ 99
    · rw [isIn_t hy.1 hy.2, if_neg (by decide), r_placeOf nn, sel_t ⟨h, hy⟩]
      simp only [ob]
      refine Ev_bind (r_survey hM hG hDt hD) (fun μ1 ⟨f1, h1⟩ => ?_)
      have M1 := f1.md hM (by decide)
      rw [r_placeOf1 kk]
      simp only [ob]
      refine Ev_bind (r_finds M1 (hG.fr f1 (by decide)) (hS.fr f1 (by decide)) hO hD h1) (fun μ2 ⟨f2, h2⟩ => ?_)
      rw [r_told (f2.md M1 (by decide)) h2]
      simp only [ob]
      exact Ev_some rfl
    · rw [isIn_f hy, if_pos rfl, sel_f (fun w => hy w.2)]; exact Ev_some rfl
  · rw [sel_f h, sel_f (fun w => h w.1)]; exact Ev_some rfl
end
