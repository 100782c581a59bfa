/-! ===== the text of a land, side by side ===== -/
theorem oa {α β γ : Type} {x : Option α} {f : α → Option β} {g : β → Option γ} : (x.bind f).bind g = x.bind (fun a => (f a).bind g) := by cases x <;> rfl
theorem lop_in {σ ρ : Type} {st : σ → Option (σ ⊕ ρ)} {f : Nat} {s s' : σ} (h : st s = some (.inl s')) : lop st (f + 1) s = lop st f s' := by
  show (match st s with | none => none | some (.inl s') => lop st f s' | some (.inr r) => some r) = lop st f s'
  rw [h]
def us (g : Int → Int) (j v : Int) : Int → Int := fun x => if x = j then v else g x
theorem us_n {g : Int → Int} {j v i : Int} (h : i ≠ j) : us g j v i = g i := by unfold us; rw [if_neg h]
theorem us_s {g : Int → Int} {j v : Int} : us g j v j = v := by unfold us; rw [if_pos rfl]
theorem mst_r {μ : Mm} {a i v : Int} : mst μ a i v a = us (μ a) i v := by unfold mst us; rw [if_pos rfl]
/-- a land as it is read -/
def LB (g : Int → Int) : Prop := (2 ≤ g 0 ∧ g 0 ≤ 12) ∧ (2 ≤ g 1 ∧ g 1 ≤ 12) ∧ (0 ≤ g 2 ∧ g 2 ≤ 9) ∧ (0 ≤ g 3 ∧ g 3 ≤ 99) ∧ (1 ≤ g 4 ∧ g 4 ≤ 999) ∧ (0 ≤ g 5 ∧ g 5 ≤ 12) ∧ (∀ p, 0 ≤ p → p < 144 → 0 ≤ g (6 + p) ∧ g (6 + p) ≤ 999) ∧ (∀ k, 0 ≤ k → k < g 5 → (g (150 + 4 * k) = 0 ∨ g (150 + 4 * k) = 1) ∧ (0 ≤ g (151 + 4 * k) ∧ g (151 + 4 * k) ≤ 143) ∧ (0 ≤ g (152 + 4 * k) ∧ g (152 + 4 * k) ≤ g (153 + 4 * k) ∧ g (153 + 4 * k) ≤ 99))
theorem LB_j {g : Int → Int} {j l m v : Int} (hj : (j = 0 ∧ l = 2 ∧ m = 12) ∨ (j = 1 ∧ l = 2 ∧ m = 12) ∨ (j = 2 ∧ l = 0 ∧ m = 9) ∨ (j = 3 ∧ l = 0 ∧ m = 99) ∨ (j = 4 ∧ l = 1 ∧ m = 999)) (h : LB g) (h0 : l ≤ v) (h1 : v ≤ m) : LB (us g j v) := by
  obtain ⟨a0, a1, a2, a3, a4, a5, a6, a7⟩ := h
  have e6 : ∀ p, 0 ≤ p → p < 144 → 0 ≤ us g j v (6 + p) ∧ us g j v (6 + p) ≤ 999 := fun p p0 p1 => by rw [us_n (by omega)]; exact a6 p p0 p1
  have e5 : us g j v 5 = g 5 := us_n (by omega)
  have e7 : ∀ k, 0 ≤ k → k < us g j v 5 → (us g j v (150 + 4 * k) = 0 ∨ us g j v (150 + 4 * k) = 1) ∧ (0 ≤ us g j v (151 + 4 * k) ∧ us g j v (151 + 4 * k) ≤ 143) ∧ (0 ≤ us g j v (152 + 4 * k) ∧ us g j v (152 + 4 * k) ≤ us g j v (153 + 4 * k) ∧ us g j v (153 + 4 * k) ≤ 99) := fun k k0 k1 => by
    rw [e5] at k1
    rw [us_n (by omega), us_n (by omega), us_n (by omega), us_n (by omega)]; exact a7 k k0 k1
  rcases hj with ⟨z, y, x⟩ | ⟨z, y, x⟩ | ⟨z, y, x⟩ | ⟨z, y, x⟩ | ⟨z, y, x⟩ <;> subst z <;> subst y <;> subst x
  · exact ⟨by rw [us_s]; omega, by rw [us_n (by decide)]; exact a1, by rw [us_n (by decide)]; exact a2, by rw [us_n (by decide)]; exact a3, by rw [us_n (by decide)]; exact a4, by rw [e5]; exact a5, e6, e7⟩
  · exact ⟨by rw [us_n (by decide)]; exact a0, by rw [us_s]; omega, by rw [us_n (by decide)]; exact a2, by rw [us_n (by decide)]; exact a3, by rw [us_n (by decide)]; exact a4, by rw [e5]; exact a5, e6, e7⟩
  · exact ⟨by rw [us_n (by decide)]; exact a0, by rw [us_n (by decide)]; exact a1, by rw [us_s]; omega, by rw [us_n (by decide)]; exact a3, by rw [us_n (by decide)]; exact a4, by rw [e5]; exact a5, e6, e7⟩
  · exact ⟨by rw [us_n (by decide)]; exact a0, by rw [us_n (by decide)]; exact a1, by rw [us_n (by decide)]; exact a2, by rw [us_s]; omega, by rw [us_n (by decide)]; exact a4, by rw [e5]; exact a5, e6, e7⟩
  · exact ⟨by rw [us_n (by decide)]; exact a0, by rw [us_n (by decide)]; exact a1, by rw [us_n (by decide)]; exact a2, by rw [us_n (by decide)]; exact a3, by rw [us_s]; omega, by rw [e5]; exact a5, e6, e7⟩
def SL (B : Int) (ν ρ : Mm) : Prop := (0 ≤ ν 210 5 ∧ ν 210 5 ≤ 12) ∧ (0 ≤ ν 200 9 ∧ ν 200 9 ≤ B) ∧ (0 ≤ ρ 20005 5 ∧ ρ 20005 5 ≤ B) ∧ (0 ≤ ρ 20000 12 ∧ ρ 20000 12 ≤ B)
def LR (ν ρ : Mm) : Prop := La ν 210 (ρ 20005) ∧ LB (ρ 20005) ∧ ν 200 9 = ρ 20000 12
def QL (μ0 : Mm) (b t : Int → Int) (n A B : Int) (ν ρ : Mm) : Prop := QT μ0 b t n A True ν ρ ∧ SL B ν ρ ∧ (ν 200 2 = 0 → LR ν ρ)
theorem K210 : KD 210 = 2 := by decide
theorem K211 : KD 211 = 12 := by decide
theorem N211 : LN 211 = 144 := by decide
theorem K212 : KD 212 = 12 := by decide
theorem N212 : LN 212 = 12 := by decide
theorem K213 : KD 213 = 14 := by decide
theorem N213 : LN 213 = 12 := by decide
theorem K214 : KD 214 = 12 := by decide
theorem N214 : LN 214 = 12 := by decide
theorem K215 : KD 215 = 12 := by decide
theorem N215 : LN 215 = 12 := by decide
section
variable {μ0 ν ν' ν1 ρ ρ' ρ1 : Mm} {b t g : Int → Int} {n A B A' B' p a q k c v : Int} {s : Prop}
theorem SL_kp (h : SL B ν ρ) (k : Kp ν ν' ρ ρ') : SL B ν' ρ' := by
  unfold SL; rw [k.1.1 210 (by decide), k.1.2, k.2.1.1, k.2.1.2]; exact h
theorem SL_B (h : SL B ν ρ) (hB : B ≤ B') : SL B' ν ρ := by unfold SL at h ⊢; omega
theorem LR_kp (h : ν 200 2 = 0 → LR ν ρ) (k : Kp ν ν' ρ ρ') : ν' 200 2 = 0 → LR ν' ρ' := fun z => by
  obtain ⟨x, y, w⟩ := h (k.2.2.1 z)
  refine ⟨?_, by rw [k.2.1.1]; exact y, by rw [k.1.2, k.2.1.2]; exact w⟩
  rw [k.2.1.1]; exact x.fw k.1.1 (fun x a b => by omega)
theorem QL_kp (h : QL μ0 b t n A B ν ρ) (hq : QT μ0 b t n A' True ν' ρ') (k : Kp ν ν' ρ ρ') : QL μ0 b t n A' B ν' ρ' := ⟨hq, SL_kp h.2.1 k, LR_kp h.2.2 k⟩
theorem QL_B (h : QL μ0 b t n A B ν ρ) (hB : B ≤ B') : QL μ0 b t n A B' ν ρ := ⟨h.1, SL_B h.2.1 hB, h.2.2⟩
theorem QT_c (h : QT μ0 b t n A s ν ρ) (f : Fw rdR ν ν') (hj : ∀ j, j ≠ 9 → ν' 200 j = ν 200 j) (hR : RdI ν') (gg : Fr [20005] [12] ρ ρ') : QT μ0 b t n A s ν' ρ' := by
  obtain ⟨⟨x1, x2, ⟨c1, c2, c3, c4⟩⟩, ⟨⟨y1, y2, y3, y4⟩, x4'⟩, ⟨x5, x6⟩, x7, ⟨x8, x9, x10⟩, x11, x12⟩ := h
  have r1 : ρ' 20001 = ρ 20001 := gg.1 20001 (by decide) (by decide)
  refine ⟨⟨x1.tr f, hR, ⟨by rw [hj 4 (by decide)]; exact c1, by rw [hj 5 (by decide)]; exact c2, c3, by rw [f 1001 (by unfold rdR; omega)]; exact c4⟩⟩, ⟨⟨gg.md y1 (by decide), by rw [gg.2 5 (by decide)]; exact y2, y3, by rw [r1]; exact y4⟩, by rw [r1]; exact x4'⟩, ⟨x5, by rw [hj 8 (by decide)]; exact x6⟩, ?_, ⟨?_, ?_, ?_⟩, ?_, ?_⟩
  · rw [hj 8 (by decide), hj 6 (by decide), hj 7 (by decide)]; exact x7
  · rw [r1, hj 2 (by decide)]; exact x8
  · rw [r1, hj 3 (by decide)]; exact x9
  · rw [gg.2 11 (by decide), hj 2 (by decide)]; exact x10
  · rw [hj 2 (by decide), hj 3 (by decide)]; exact x11
  · rw [hj 2 (by decide), hj 3 (by decide), hj 6 (by decide), hj 7 (by decide), hj 8 (by decide)]
    unfold TR; rw [gg.2 6 (by decide), gg.2 7 (by decide), gg.2 8 (by decide), gg.2 9 (by decide), gg.2 10 (by decide)]; exact x12
theorem La_us {j : Int} (h : La ν 210 g) (hj : 0 ≤ j ∧ j ≤ 4) : La (mst ν 210 j v) 210 (us g j v) := by
  obtain ⟨h1, h2, ⟨z0, z1, z2, z3, z4, z5⟩, h4, h5⟩ := h
  have key : ∀ i, ν 210 i = g i → mst ν 210 j v 210 i = us g j v i := fun i e => by
    by_cases y : i = j
    · rw [y, mst_s, us_s]
    · rw [mst_j y, us_n y]; exact e
  refine ⟨h1, ?_, ⟨key 0 z0, key 1 z1, key 2 z2, key 3 z3, key 4 z4, key 5 z5⟩, fun p p0 p1 => ?_, fun i i0 i1 => ?_⟩
  · unfold LaF at h2 ⊢
    rw [mst_j (by omega), mst_j (by omega), mst_j (by omega), mst_j (by omega), mst_j (by omega)]; exact h2
  · rw [mst_n (by decide), us_n (by omega)]; exact h4 p p0 p1
  · rw [us_n (by omega)] at i1
    rw [mst_n (by decide), mst_n (by decide), mst_n (by decide), mst_n (by decide), us_n (by omega), us_n (by omega), us_n (by omega), us_n (by omega)]; exact h5 i i0 i1
/-- a number is read into a field of the land -/
theorem numF {j l m : Int} (h : QL μ0 b t n A B ν ρ) (hj : (j = 0 ∧ l = 2 ∧ m = 12) ∨ (j = 1 ∧ l = 2 ∧ m = 12) ∨ (j = 2 ∧ l = 0 ∧ m = 9) ∨ (j = 3 ∧ l = 0 ∧ m = 99) ∨ (j = 4 ∧ l = 1 ∧ m = 999)) : E2 (fX3_readNumber 200 l m ν) (fX11_numbered 20000 l m ρ) (fun x y => QL μ0 b t n A B (mst x.2 210 j x.1) (mst y.2 20005 j y.1)) := by
  refine E2_mono (num2 h.1 (fun _ => rfl)) ?_
  rintro ⟨r, ν1⟩ ⟨r', ρ1⟩ ⟨q1, q2, q3, q4⟩
  dsimp only at q1 q2 q3 q4 ⊢
  have S := SL_kp h.2.1 q2
  have R := LR_kp h.2.2 q2
  have rd := q1.rd
  refine ⟨QT_c q1 (Fw.s0 (by unfold rdR; omega)) (fun i _ => by rw [mst_n (by decide)]) ?_ (Fr.row rfl rfl (by decide) (by decide)), ?_, fun z => ?_⟩
  · unfold RdI LaF SkF SkB at rd ⊢
    simp (disch := omega) only [mst_n, mst_j]; exact rd
  · unfold SL at S ⊢
    rw [mst_j (by omega), mst_n (by decide), mst_j (by omega), mst_n (by decide)]; exact S
  · rw [mst_n (by decide)] at z
    obtain ⟨y1, y2, y3⟩ := R z
    obtain ⟨w1, w2, w3⟩ := q3 z
    unfold LR
    rw [mst_r, w1, mst_n (by decide), mst_n (by decide)]
    rw [w1] at w2 w3
    exact ⟨La_us y1 (by omega), LB_j hj y2 w2 w3, y3⟩
/-- the class's word is the reference's -/
theorem isW (h : QT μ0 b t n A s ν ρ) (hF : ν 200 2 ≠ 1) (hc : 1 ≤ c ∧ c ≤ 16) : fX3_isWord 200 c ν = some (bi (ρ 20000 8 = 3 ∧ ρ 20000 10 = wc c)) := by
  have bd := h.bd
  obtain ⟨r6, r7, tr⟩ := h.tr hF
  rw [c_isWord h.ct rfl rfl bd.1.2.2 (by omega) hc]
  refine congrArg some (bi_c ?_)
  have w9 := wc_99 hc
  unfold TR at tr
  rcases tr with ⟨e, e8⟩ | ⟨e, ew, e8⟩ | ⟨e, e8, _⟩ | ⟨e, e8⟩ | ⟨e, e8⟩
  · constructor
    · intro z; omega
    · intro z; omega
  · rw [ew c hc.1 hc.2]
    constructor
    · intro z
      refine ⟨?_, z.2⟩
      rcases e8 with y | y
      · exact y.1
      · have := (ew c hc.1 hc.2).mpr z.2; omega
    · intro z; exact ⟨e, z.2⟩
  · constructor
    · intro z; omega
    · intro z; omega
  · constructor
    · intro z; omega
    · intro z; omega
  · constructor
    · intro z; omega
    · intro z; omega
theorem tk_k1 (h : QT μ0 b t n A s ν ρ) (hF : ν 200 2 ≠ 1) (h8 : ρ 20000 8 = 3) : ν 200 7 = 1 ∧ ∃ c, (1 ≤ c ∧ c ≤ 16) ∧ ρ 20000 10 = wc c := by
  obtain ⟨r6, r7, tr⟩ := h.tr hF
  unfold TR at tr
  rcases tr with ⟨e, e8⟩ | ⟨e, ew, e8⟩ | ⟨e, e8, _⟩ | ⟨e, e8⟩ | ⟨e, e8⟩
  · omega
  · rcases e8 with y | y
    · exact ⟨e, y.2⟩
    · have := y.1; omega
  · omega
  · omega
  · omega
theorem tk_k2 (h : QT μ0 b t n A s ν ρ) (hF : ν 200 2 ≠ 1) : ν 200 7 = 2 ↔ ρ 20000 8 = 1 := by
  obtain ⟨r6, r7, tr⟩ := h.tr hF
  unfold TR at tr
  rcases tr with ⟨e, e8⟩ | ⟨e, ew, e8⟩ | ⟨e, e8, _⟩ | ⟨e, e8⟩ | ⟨e, e8⟩
  · omega
  · rcases e8 with y | y
    · have := y.1; omega
    · have := y.1; omega
  · omega
  · omega
  · omega
theorem tk_k0 (h : QT μ0 b t n A s ν ρ) (hF : ν 200 2 ≠ 1) : ν 200 7 = 0 ↔ ρ 20000 8 = 0 := by
  obtain ⟨r6, r7, tr⟩ := h.tr hF
  unfold TR at tr
  rcases tr with ⟨e, e8⟩ | ⟨e, ew, e8⟩ | ⟨e, e8, _⟩ | ⟨e, e8⟩ | ⟨e, e8⟩
  · omega
  · rcases e8 with y | y
    · have := y.1; omega
    · have := y.1; omega
  · omega
  · omega
  · omega
/-- a number of at most three digits, wherever the fault lies -/
theorem num9 (h : QT μ0 b t n A s ν ρ) (hF : ν 200 2 ≠ 1) (k2 : ν 200 7 = 2) : E2 (fX3_readNumber 200 0 999 ν) (fX11_numbered 20000 0 999 ρ) (fun x y => QT μ0 b t n (A + 1) True x.2 y.2 ∧ Kp ν x.2 ρ y.2 ∧ x.2 200 2 = ν 200 2 ∧ x.1 = y.1 ∧ 0 ≤ x.1 ∧ x.1 ≤ 999) := by
  have bd := h.bd
  have w0 := h.w0 hF
  obtain ⟨p0, hp0, hk⟩ := h.tk
  obtain ⟨r6, r7, tr⟩ := h.tr hF
  have t2 := TK_2 hk k2
  have r8 : ρ 20000 8 = 1 ∧ ρ 20000 9 = nvN t (ν 200 8) (ν 200 6 - ν 200 8).toNat := by
    unfold TR at tr
    rcases tr with ⟨e, _⟩ | ⟨e, _⟩ | ⟨_, e⟩ | ⟨e, _⟩ | ⟨e, _⟩
    · omega
    · omega
    · exact e
    · omega
    · omega
  have vb := nv_9 (t := t) (a := ν 200 8) (ν 200 6 - ν 200 8).toNat (by omega) (fun i i0 i1 => t2.2 _ (by omega) (by omega))
  unfold fX3_readNumber fX11_numbered
  simp (disch := omega) only [w32_eq, w64_eq, chk_T, chk_t, lt, lm, ob, Int.add_zero, Int.zero_add, true_and, and_true, if_true, if_false, K100, K101, K102, K103, K104, K200, K201, K230, K231, K232, K233, K234, K235, K236, K237, K250, K251, K252, K253, K254, K300, K301, K302, K303, K304, N101, N102, N103, N104, N201, N232, N233, N234, N235, N236, N237, N251, N252, N253, N254, N301, N302, N303, N304, K20000, K20001, K20002, K20003, K20004, K20005, K20006, K20007, K20008, K20009, K20010, K20011, K20012, K20013, K20014, K20015, K20016, K20017, K20018, K20019, N20001, N20002, N20003, N20004, N20005, N20006, N20007, N20008, N20009, N20010, N20011, N20012, N20013, N20014, N20015, N20016, N20017, N20018, N20019, w0]
  rw [if_pos k2, if_pos r8.1, c_value h.ct rfl bd.1.2.2 (by omega) t2.1 t2.2, r8.2]
  simp only [ob]
  generalize nvN t (ν 200 8) (ν 200 6 - ν 200 8).toNat = vv at *
  rw [isIn_t vb.1 vb.2, if_neg (by omega), if_pos vb.2, if_neg (by decide)]
  unfold jX3_readNumber_87 jX11_numbered_44
  simp (disch := omega) only [w32_eq, w64_eq, chk_T, chk_t, lt, lm, ob, Int.add_zero, Int.zero_add, true_and, and_true, if_true, if_false, K100, K101, K102, K103, K104, K200, K201, K230, K231, K232, K233, K234, K235, K236, K237, K250, K251, K252, K253, K254, K300, K301, K302, K303, K304, N101, N102, N103, N104, N201, N232, N233, N234, N235, N236, N237, N251, N252, N253, N254, N301, N302, N303, N304, K20000, K20001, K20002, K20003, K20004, K20005, K20006, K20007, K20008, K20009, K20010, K20011, K20012, K20013, K20014, K20015, K20016, K20017, K20018, K20019, N20001, N20002, N20003, N20004, N20005, N20006, N20007, N20008, N20009, N20010, N20011, N20012, N20013, N20014, N20015, N20016, N20017, N20018, N20019, isIn_t vb.1 vb.2]
  refine E2_bind (adv2 h hF (by omega)) ?_
  rintro ν2 ρ2 ⟨u1, u2, u3⟩
  rw [if_neg (by decide)]
  exact E2_some ⟨u1, u2, u3, rfl, vb⟩
/-- no number -/
theorem num0 {l l' m : Int} (h : QT μ0 b t n A s ν ρ) (hF : ν 200 2 ≠ 1) (k2 : ν 200 7 ≠ 2) : E2 (fX3_readNumber 200 l m ν) (fX11_numbered 20000 l' m ρ) (fun x y => QT μ0 b t n A True x.2 y.2 ∧ Kp ν x.2 ρ y.2 ∧ x.2 200 2 = 1 ∧ x.2 200 7 ≠ 2) := by
  have w0 := h.w0 hF
  have r8 : ρ 20000 8 ≠ 1 := fun z => k2 ((tk_k2 h hF).mpr z)
  unfold fX3_readNumber fX11_numbered jX11_numbered_15
  simp (disch := omega) only [w32_eq, w64_eq, chk_T, chk_t, lt, lm, ob, Int.add_zero, Int.zero_add, true_and, and_true, if_true, if_false, K100, K101, K102, K103, K104, K200, K201, K230, K231, K232, K233, K234, K235, K236, K237, K250, K251, K252, K253, K254, K300, K301, K302, K303, K304, N101, N102, N103, N104, N201, N232, N233, N234, N235, N236, N237, N251, N252, N253, N254, N301, N302, N303, N304, K20000, K20001, K20002, K20003, K20004, K20005, K20006, K20007, K20008, K20009, K20010, K20011, K20012, K20013, K20014, K20015, K20016, K20017, K20018, K20019, N20001, N20002, N20003, N20004, N20005, N20006, N20007, N20008, N20009, N20010, N20011, N20012, N20013, N20014, N20015, N20016, N20017, N20018, N20019, w0]
  rw [if_neg k2, if_neg r8]
  refine E2_bind (brk2 h) ?_
  rintro ν1 ρ1 ⟨u1, u2, u3, u4⟩
  exact E2_some ⟨u1, u2, u3, by dsimp only; rw [u4]; exact k2⟩
/-- a note is forgotten where the text breaks off -/
theorem rn_nb {l m w : Int} (hF : ν 200 2 ≠ 1) (hw : w ≠ 1) (k2 : ν 200 7 ≠ 2) : fX3_readNumber 200 l m (if ν 200 2 = 0 then mst (mst ν 200 2 w) 200 3 (ν 200 8) else ν) = fX3_readNumber 200 l m ν := by
  by_cases z : ν 200 2 = 0
  · rw [if_pos z]
    have e7 : mst (mst ν 200 2 w) 200 3 (ν 200 8) 200 7 = ν 200 7 := by rw [mst_j (by decide), mst_j (by decide)]
    have e2 : mst (mst ν 200 2 w) 200 3 (ν 200 8) 200 2 = w := by rw [mst_j (by decide), mst_s]
    have e8 : ∀ x, mst (mst (mst ν 200 2 w) 200 3 (ν 200 8)) 200 2 x 200 8 = ν 200 8 := fun x => by rw [mst_j (by decide), mst_j (by decide), mst_j (by decide)]
    have e8' : ∀ x, mst ν 200 2 x 200 8 = ν 200 8 := fun x => by rw [mst_j (by decide)]
    have em : mst (mst (mst (mst ν 200 2 w) 200 3 (ν 200 8)) 200 2 1) 200 3 (ν 200 8) = mst (mst ν 200 2 1) 200 3 (ν 200 8) := by
      funext x i
      by_cases hx : x = 200
      · subst hx
        by_cases h3 : i = 3
        · subst h3; rw [mst_s, mst_s]
        · rw [mst_j h3, mst_j h3]
          by_cases h2 : i = 2
          · subst h2; rw [mst_s, mst_s]
          · rw [mst_j h2, mst_j h2, mst_j h3, mst_j h2]
      · rw [mst_n hx, mst_n hx, mst_n hx, mst_n hx, mst_n hx, mst_n hx]
    unfold fX3_readNumber fX3_breakOff
    simp (disch := omega) only [w32_eq, w64_eq, chk_T, chk_t, lt, lm, ob, Int.add_zero, Int.zero_add, true_and, and_true, if_true, if_false, K100, K101, K102, K103, K104, K200, K201, K230, K231, K232, K233, K234, K235, K236, K237, K250, K251, K252, K253, K254, K300, K301, K302, K303, K304, N101, N102, N103, N104, N201, N232, N233, N234, N235, N236, N237, N251, N252, N253, N254, N301, N302, N303, N304, e7, e2, e8, e8']
    rw [if_neg k2, if_neg k2, if_neg hw, if_neg hF, em]
  · rw [if_neg z]
/-- a height is kept -/
theorem hst2 {r r' : Int} (h : QT μ0 b t n A True ν ρ) (S : SL B ν ρ) (R : ν 200 2 = 0 → LR ν ρ) (hr : ν 200 2 = 0 → r = r' ∧ 0 ≤ r ∧ r ≤ 999) : QL μ0 b t n A (B + 1) (if 144 ≤ ν 200 9 then mst ν 200 9 (ν 200 9 + 1) else mst (mst ν 211 (ν 200 9) r) 200 9 (ν 200 9 + 1)) (if 144 ≤ ρ 20000 12 then mst ρ 20000 12 (ρ 20000 12 + 1) else mst (mst ρ 20005 (6 + ρ 20000 12) r') 20000 12 (ρ 20000 12 + 1)) := by
  have rd := h.rd
  have c1 : ∃ ν', ν' = (if 144 ≤ ν 200 9 then mst ν 200 9 (ν 200 9 + 1) else mst (mst ν 211 (ν 200 9) r) 200 9 (ν 200 9 + 1)) ∧ Fw (fun x => x = 200 ∨ x = 211) ν ν' ∧ (∀ j, j ≠ 9 → ν' 200 j = ν 200 j) ∧ ν' 200 9 = ν 200 9 + 1 ∧ (144 ≤ ν 200 9 → ν' 211 = ν 211) ∧ (ν 200 9 < 144 → ν' 211 = us (ν 211) (ν 200 9) r) := by
    refine ⟨_, rfl, ?_⟩
    split
    · exact ⟨Fw.s0 (.inl rfl), fun j hj => by rw [mst_j hj], by rw [mst_s], fun _ => by rw [mst_n (by decide)], fun z => by omega⟩
    · exact ⟨Fw.st (Fw.st Fw.rf (.inr rfl)) (.inl rfl), fun j hj => by rw [mst_j hj, mst_n (by decide)], by rw [mst_s], fun z => by omega, fun _ => by rw [mst_n (by decide), mst_r]⟩
  have c2 : ∃ ρ', ρ' = (if 144 ≤ ρ 20000 12 then mst ρ 20000 12 (ρ 20000 12 + 1) else mst (mst ρ 20005 (6 + ρ 20000 12) r') 20000 12 (ρ 20000 12 + 1)) ∧ Fr [20005] [12] ρ ρ' ∧ ρ' 20000 12 = ρ 20000 12 + 1 ∧ (144 ≤ ρ 20000 12 → ρ' 20005 = ρ 20005) ∧ (ρ 20000 12 < 144 → ρ' 20005 = us (ρ 20005) (6 + ρ 20000 12) r') := by
    refine ⟨_, rfl, ?_⟩
    split
    · exact ⟨Fr.fld rfl (by decide), by rw [mst_s], fun _ => by rw [mst_n (by decide)], fun z => by omega⟩
    · exact ⟨(Fr.row rfl rfl (by decide) (by decide)).tr (Fr.fld rfl (by decide)), by rw [mst_s], fun z => by omega, fun _ => by rw [mst_n (by decide), mst_r]⟩
  obtain ⟨ν', e1, f1, o1, n1, k1, k1'⟩ := c1
  obtain ⟨ρ', e2, f2, n2, k2, k2'⟩ := c2
  rw [← e1, ← e2]
  have r210 : ν' 210 = ν 210 := f1 210 (by decide)
  unfold SL at S
  have e5 : ρ' 20005 5 = ρ 20005 5 := by
    by_cases z : 144 ≤ ρ 20000 12
    · rw [k2 z]
    · rw [k2' (by omega), us_n (by omega)]
  refine ⟨QT_c h (f1.mo (fun x hx => by unfold rdR; omega)) o1 ?_ f2, ?_, fun z => ?_⟩
  · unfold RdI LaF SkF SkB at rd ⊢
    rw [o1 0 (by decide), o1 1 (by decide), r210, f1 213 (by decide), f1 220 (by decide)]; exact rd
  · unfold SL; rw [r210, n1, n2, e5]; omega
  · rw [o1 2 (by decide)] at z
    obtain ⟨y1, y2, y3⟩ := R z
    obtain ⟨w1, w2, w3⟩ := hr z
    refine ⟨?_, ?_, by rw [n1, n2, y3]⟩
    · by_cases y : 144 ≤ ν 200 9
      · rw [k2 (by omega)]
        obtain ⟨a1, a2, a3, a4, a5⟩ := y1
        refine ⟨a1, ?_, ?_, ?_, ?_⟩
        · unfold LaF; rw [r210]; exact a2
        · rw [r210]; exact a3
        · rw [show (210 : Int) + 1 = 211 by decide, k1 y]; exact a4
        · rw [f1 (210 + 2) (by decide), f1 (210 + 3) (by decide), f1 (210 + 4) (by decide), f1 (210 + 5) (by decide)]; exact a5
      · rw [k2' (by omega), ← w1, ← y3]
        obtain ⟨a1, a2, a3, a4, a5⟩ := y1
        refine ⟨a1, ?_, ?_, fun p p0 p1 => ?_, fun i i0 i1 => ?_⟩
        · unfold LaF; rw [r210]; exact a2
        · rw [r210, us_n (by omega), us_n (by omega), us_n (by omega), us_n (by omega), us_n (by omega), us_n (by omega)]; exact a3
        · rw [show (210 : Int) + 1 = 211 by decide, k1' (by omega)]
          by_cases e : p = ν 200 9
          · rw [e, us_s, us_s]
          · rw [us_n e, us_n (by omega)]; exact a4 p p0 p1
        · rw [us_n (by omega)] at i1
          have := y2.2.2.2.2.2.1
          rw [f1 (210 + 2) (by decide), f1 (210 + 3) (by decide), f1 (210 + 4) (by decide), f1 (210 + 5) (by decide), us_n (by omega), us_n (by omega), us_n (by omega), us_n (by omega)]; exact a5 i i0 i1
    · by_cases y : 144 ≤ ν 200 9
      · rw [k2 (by omega)]; exact y2
      · rw [k2' (by omega)]
        obtain ⟨a0, a1, a2, a3, a4, a5, a6, a7⟩ := y2
        refine ⟨by rw [us_n (by omega)]; exact a0, by rw [us_n (by omega)]; exact a1, by rw [us_n (by omega)]; exact a2, by rw [us_n (by omega)]; exact a3, by rw [us_n (by omega)]; exact a4, by rw [us_n (by omega)]; exact a5, fun p p0 p1 => ?_, fun i i0 i1 => ?_⟩
        · by_cases e : p = ρ 20000 12
          · rw [e, us_s]; omega
          · rw [us_n (by omega)]; exact a6 p p0 p1
        · rw [us_n (by omega)] at i1
          rw [us_n (by omega), us_n (by omega), us_n (by omega), us_n (by omega)]; exact a7 i i0 i1
/-- one height -/
theorem hgt2 (h : QL μ0 b t n A B ν ρ) (hF : ν 200 2 ≠ 1) (hB : B ≤ 700) : E2 (fX3_readHeight 200 ν) (jX11_readHeights_21 20000 ρ) (fun ν' u => ∃ ρ', u = .inl (0, ρ') ∧ ((ν' 200 2 ≠ 1 ∧ QL μ0 b t n (A + 1) (B + 1) ν' ρ') ∨ (ν' 200 2 = 1 ∧ ν' 200 7 ≠ 2 ∧ QL μ0 b t n A (B + 1) ν' ρ'))) := by
  have bd := h.1.bd
  have hM := h.1.md
  have w0 := h.1.w0 hF
  have r7 := (h.1.tr hF).2.1
  have fin : ∀ (r r' : Int) (ν2 ρ2 : Mm), QT μ0 b t n A True ν2 ρ2 → Kp ν ν2 ρ ρ2 → (ν2 200 2 = 0 → r = r' ∧ 0 ≤ r ∧ r ≤ 999) → (ν2 200 2 ≠ 1 → A + 1 ≤ ν2 200 8) → (ν2 200 2 = 1 → ν2 200 7 ≠ 2) → E2 (if 144 ≤ ν2 200 9 then lm (mst ν2 200 9 (w32 ((ν2 200 9) + 1))) fun μ4 => some μ4 else chk (KD (ν2 200 0) = 2) (chk (KD (ν2 (ν2 200 0) 6) = 12 ∧ 0 ≤ ν2 200 9 ∧ ν2 200 9 < LN (ν2 (ν2 200 0) 6)) (lm (mst ν2 (ν2 (ν2 200 0) 6) (ν2 200 9) r) fun μ7 => lm (mst μ7 200 9 (w32 ((μ7 200 9) + 1))) fun μ8 => some μ8))) (if 144 ≤ ρ2 20000 12 then jX11_readHeights_80 20000 ρ2 else chk (KD (ρ2 20000 13) = 12 ∧ 0 ≤ w32 (6 + (ρ2 20000 12)) ∧ w32 (6 + (ρ2 20000 12)) < LN (ρ2 20000 13)) (lm (mst ρ2 (ρ2 20000 13) (w32 (6 + (ρ2 20000 12))) r') fun μ7 => jX11_readHeights_80 20000 μ7)) (fun ν' u => ∃ ρ', u = .inl (0, ρ') ∧ ((ν' 200 2 ≠ 1 ∧ QL μ0 b t n (A + 1) (B + 1) ν' ρ') ∨ (ν' 200 2 = 1 ∧ ν' 200 7 ≠ 2 ∧ QL μ0 b t n A (B + 1) ν' ρ'))) := by
    intro r r' ν2 ρ2 q1 q2 q3 q4 q5
    have S := SL_kp h.2.1 q2
    have R := LR_kp h.2.2 q2
    have K := hst2 q1 S R q3
    have M2 := q1.md
    have rd := q1.rd
    have e6 : ν2 210 6 = 211 := rd.2.1.1.1
    have e0 : ν2 200 0 = 210 := rd.1.1
    unfold SL at S
    have A0 := q1.2.2.1
    have x1 : (if 144 ≤ ν2 200 9 then lm (mst ν2 200 9 (w32 ((ν2 200 9) + 1))) fun μ4 => some μ4 else chk (KD (ν2 200 0) = 2) (chk (KD (ν2 (ν2 200 0) 6) = 12 ∧ 0 ≤ ν2 200 9 ∧ ν2 200 9 < LN (ν2 (ν2 200 0) 6)) (lm (mst ν2 (ν2 (ν2 200 0) 6) (ν2 200 9) r) fun μ7 => lm (mst μ7 200 9 (w32 ((μ7 200 9) + 1))) fun μ8 => some μ8))) = some (if 144 ≤ ν2 200 9 then mst ν2 200 9 (ν2 200 9 + 1) else mst (mst ν2 211 (ν2 200 9) r) 200 9 (ν2 200 9 + 1)) := by
      by_cases z : 144 ≤ ν2 200 9
      · rw [if_pos z, if_pos z]; simp (disch := omega) only [w32_eq, w64_eq, chk_T, chk_t, lt, lm, ob, Int.add_zero, Int.zero_add, true_and, and_true, if_true, if_false, K100, K101, K102, K103, K104, K200, K201, K230, K231, K232, K233, K234, K235, K236, K237, K250, K251, K252, K253, K254, K300, K301, K302, K303, K304, N101, N102, N103, N104, N201, N232, N233, N234, N235, N236, N237, N251, N252, N253, N254, N301, N302, N303, N304, ]
      · rw [if_neg z, if_neg z]; simp (disch := omega) only [w32_eq, w64_eq, chk_T, chk_t, lt, lm, ob, Int.add_zero, Int.zero_add, true_and, and_true, if_true, if_false, K100, K101, K102, K103, K104, K200, K201, K230, K231, K232, K233, K234, K235, K236, K237, K250, K251, K252, K253, K254, K300, K301, K302, K303, K304, N101, N102, N103, N104, N201, N232, N233, N234, N235, N236, N237, N251, N252, N253, N254, N301, N302, N303, N304, e0, e6, K210, K211, N211, mst_n]
    have x2 : (if 144 ≤ ρ2 20000 12 then jX11_readHeights_80 20000 ρ2 else chk (KD (ρ2 20000 13) = 12 ∧ 0 ≤ w32 (6 + (ρ2 20000 12)) ∧ w32 (6 + (ρ2 20000 12)) < LN (ρ2 20000 13)) (lm (mst ρ2 (ρ2 20000 13) (w32 (6 + (ρ2 20000 12))) r') fun μ7 => jX11_readHeights_80 20000 μ7)) = some (.inl (0, if 144 ≤ ρ2 20000 12 then mst ρ2 20000 12 (ρ2 20000 12 + 1) else mst (mst ρ2 20005 (6 + ρ2 20000 12) r') 20000 12 (ρ2 20000 12 + 1))) := by
      unfold jX11_readHeights_80
      by_cases z : 144 ≤ ρ2 20000 12
      · rw [if_pos z, if_pos z]; simp (disch := omega) only [w32_eq, w64_eq, chk_T, chk_t, lt, lm, ob, Int.add_zero, Int.zero_add, true_and, and_true, if_true, if_false, K20000, K20001, K20002, K20003, K20004, K20005, K20006, K20007, K20008, K20009, K20010, K20011, K20012, K20013, K20014, K20015, K20016, K20017, K20018, K20019, N20001, N20002, N20003, N20004, N20005, N20006, N20007, N20008, N20009, N20010, N20011, N20012, N20013, N20014, N20015, N20016, N20017, N20018, N20019, ]
      · rw [if_neg z, if_neg z]; simp (disch := omega) only [w32_eq, w64_eq, chk_T, chk_t, lt, lm, ob, Int.add_zero, Int.zero_add, true_and, and_true, if_true, if_false, K20000, K20001, K20002, K20003, K20004, K20005, K20006, K20007, K20008, K20009, K20010, K20011, K20012, K20013, K20014, K20015, K20016, K20017, K20018, K20019, N20001, N20002, N20003, N20004, N20005, N20006, N20007, N20008, N20009, N20010, N20011, N20012, N20013, N20014, N20015, N20016, N20017, N20018, N20019, Md_13 M2, mst_n]
    rw [x1, x2]
    have e2 : (if 144 ≤ ν2 200 9 then mst ν2 200 9 (ν2 200 9 + 1) else mst (mst ν2 211 (ν2 200 9) r) 200 9 (ν2 200 9 + 1)) 200 2 = ν2 200 2 := by split <;> simp (disch := decide) only [mst_j, mst_n]
    have e7 : (if 144 ≤ ν2 200 9 then mst ν2 200 9 (ν2 200 9 + 1) else mst (mst ν2 211 (ν2 200 9) r) 200 9 (ν2 200 9 + 1)) 200 7 = ν2 200 7 := by split <;> simp (disch := decide) only [mst_j, mst_n]
    have e8 : (if 144 ≤ ν2 200 9 then mst ν2 200 9 (ν2 200 9 + 1) else mst (mst ν2 211 (ν2 200 9) r) 200 9 (ν2 200 9 + 1)) 200 8 = ν2 200 8 := by split <;> simp (disch := decide) only [mst_j, mst_n]
    refine E2_some ⟨_, rfl, ?_⟩
    rw [e2, e7]
    by_cases z : ν2 200 2 = 1
    · exact .inr ⟨z, q5 z, K⟩
    · exact .inl ⟨z, QT_A K.1 (by omega) (by rw [e8]; exact q4 z), K.2⟩
  have key : ∀ (s : Prop) (ν1 ρ1 : Mm), QT μ0 b t n A s ν1 ρ1 → Kp ν ν1 ρ ρ1 → ν1 200 2 ≠ 1 → ν1 200 7 = 2 → E2 (jX3_readHeight_19 200 ν1) (jX11_readHeights_48 20000 ρ1) (fun ν' u => ∃ ρ', u = .inl (0, ρ') ∧ ((ν' 200 2 ≠ 1 ∧ QL μ0 b t n (A + 1) (B + 1) ν' ρ') ∨ (ν' 200 2 = 1 ∧ ν' 200 7 ≠ 2 ∧ QL μ0 b t n A (B + 1) ν' ρ'))) := by
    intro s ν1 ρ1 q1 q2 q3 q4
    unfold jX3_readHeight_19 jX11_readHeights_48
    rw [chk_t K200, chk_t K20000]
    refine E2_bind (num9 q1 q3 q4) ?_
    rintro ⟨r, ν2⟩ ⟨r', ρ2⟩ ⟨u1, u2, u3, u4, u5⟩
    dsimp only at u1 u2 u3 u4 u5 ⊢
    have A0 := u1.2.2.1
    have A1 := q1.2.2.1
    exact fin r r' ν2 ρ2 (QT_A u1 A1.1 (by omega)) (q2.tr u2) (fun _ => ⟨u4, u5⟩) (fun _ => A0.2) (fun z => absurd (u3.symm.trans z) q3)
  unfold fX3_readHeight jX11_readHeights_21
  rw [chk_t K200, chk_t K20000]
  by_cases k2 : ν 200 7 = 2
  · have r8 := (tk_k2 h.1 hF).mp k2
    rw [if_pos r8, r7]
    by_cases z : ν 200 2 = 0
    · have e := (h.2.2 z).2.2
      by_cases y : ν 200 9 < 144
      · rw [if_pos y, if_pos (by omega)]
        exact key True ν ρ h.1 Kp.rf hF k2
      · rw [if_neg y, if_neg (by omega)]
        refine E2_bind (note2 h.1 hF (by decide)) ?_
        rintro ν1 ρ1 ⟨u1, u2, u3, u4, u5⟩
        exact key False ν1 ρ1 u1 u2 u3 (u5.trans k2)
    · have en : fX3_note 200 3 (ν 200 8) ν = some ν := by rw [c_note, if_neg z]
      have eal : fX11_also 20000 3 (ν 200 8) ρ = some ρ := by
        have e := h.1.2.2.2.2.1
        have z' : ρ 20001 3 ≠ 0 := fun y => z (e.1.symm.trans y)
        rw [r_also hM w0 3 (ν 200 8) (fun _ => by rw [e.2.1]; exact ((h.1.2.2.2.2.2.2 hF).2 z).2 trivial), if_neg z']
      rw [en, eal]
      simp only [ob, ite_self]
      exact key True ν ρ h.1 Kp.rf hF k2
  · have r8 : ρ 20000 8 ≠ 1 := fun z => k2 ((tk_k2 h.1 hF).mpr z)
    rw [if_neg r8, c_note]
    simp only [ob, ite_self]
    have e19 : jX3_readHeight_19 200 (if ν 200 2 = 0 then mst (mst ν 200 2 3) 200 3 (ν 200 8) else ν) = jX3_readHeight_19 200 ν := by
      unfold jX3_readHeight_19
      rw [rn_nb hF (by decide) k2]
    rw [e19]
    simp only [ite_self]
    unfold jX3_readHeight_19 jX11_readHeights_48
    rw [chk_t K200, chk_t K20000]
    refine E2_bind (num0 h.1 hF k2) ?_
    rintro ⟨r, ν2⟩ ⟨r', ρ2⟩ ⟨u1, u2, u3, u4⟩
    dsimp only at u1 u2 u3 u4 ⊢
    exact fin r r' ν2 ρ2 u1 u2 (fun z => by omega) (fun z => absurd u3 z) (fun _ => u4)
end
