/-! ===== tokens: the class ===== -/
/-- the reader reads the first n bytes of t -/
def CT (μ : Mm) (t : Int → Int) (n : Int) : Prop := μ 200 4 = 1001 ∧ μ 200 5 = n ∧ (0 ≤ n ∧ n ≤ 700) ∧ ∀ i, 0 ≤ i → i < 700 → μ 1001 i = t i ∧ 0 ≤ t i ∧ t i ≤ 255
section
variable {μ μ' : Mm} {t : Int → Int} {n p a q k c v : Int}
theorem CT.e (h : CT μ t n) (f : Fw (fun x => x = 200) μ μ') (h4 : μ' 200 4 = μ 200 4) (h5 : μ' 200 5 = μ 200 5) : CT μ' t n := by
  obtain ⟨a, b, c, d⟩ := h
  refine ⟨h4.trans a, h5.trans b, c, ?_⟩
  rw [f 1001 (by decide)]; exact d
theorem c_byteAt (h : CT μ t n) (i : Int) : fX3_byteAt 200 i μ = some (if 0 ≤ i ∧ i < n then t i else -1) := by
  obtain ⟨h1, h2, h3, h4⟩ := h
  unfold fX3_byteAt
  by_cases z : i < 0
  · rw [if_pos z, if_neg (by omega)]
  · rw [if_neg z]
    simp (disch := omega) only [w32_eq, w64_eq, chk_T, chk_t, lt, lm, ob, Int.add_zero, Int.zero_add, true_and, and_true, if_true, if_false, K100, K101, K102, K103, K104, K200, K201, K230, K231, K232, K233, K234, K235, K236, K237, K250, K251, K252, K253, K254, K300, K301, K302, K303, K304, N101, N102, N103, N104, N201, N232, N233, N234, N235, N236, N237, N251, N252, N253, N254, N301, N302, N303, N304, h1, h2, K1001, N1001]
    by_cases y : n ≤ i
    · rw [if_pos y, if_neg (by omega)]
    · rw [if_neg y, if_neg (by omega), if_pos (by omega), (h4 i (by omega) (by omega)).1]
theorem c_byteIn (h : CT μ t n) {i : Int} (h0 : 0 ≤ i) (h1 : i < n) : fX3_byteAt 200 i μ = some (t i) := by rw [c_byteAt h, if_pos ⟨h0, h1⟩]
/-- a run of bytes -/
theorem c_run {P : Int → Prop} {isP : Int → Int} (hP : ∀ c, isP c = 0 ↔ ¬P c) {step : Int × Mm → Option ((Int × Mm) ⊕ Mm)} (hst : ∀ v ν, step (v, ν) = chk (KD 200 = 3) (if ν 200 5 ≤ v then some (.inr ν) else (fX3_byteAt 200 (ν 200 6) ν).bind fun r => if isP r = 0 then some (.inr ν) else lm (mst ν 200 6 (w32 ((ν 200 6) + 1))) fun μ5 => some (.inl (w32 (v + 1), μ5)))) (hC : CT μ t n) (hp : μ 200 6 = p) (h0 : 0 ≤ p ∧ p ≤ n) : Ev (lop step FU (p, μ)) (fun μ' => Fw (fun x => x = 200) μ μ' ∧ (∀ j, j ≠ 6 → μ' 200 j = μ 200 j) ∧ Rn P t n p (μ' 200 6)) := by
  have hn := hC.2.2.1
  refine Ev_lop (P := fun μ' => Fw (fun x => x = 200) μ μ' ∧ (∀ j, j ≠ 6 → μ' 200 j = μ 200 j) ∧ Rn P t n p (μ' 200 6)) (fun s => (p ≤ s.1 ∧ s.1 ≤ n) ∧ s.2 200 6 = s.1 ∧ Fw (fun x => x = 200) μ s.2 ∧ (∀ j, j ≠ 6 → s.2 200 j = μ 200 j) ∧ ∀ i, p ≤ i → i < s.1 → P (t i)) (fun s => (n - s.1).toNat) ⟨(by first | omega | (dsimp only; omega) | (dsimp only)), hp, Fw.rf, fun _ _ => rfl, fun i i0 i1 => by dsimp only at i1; omega⟩ (by unfold FU; dsimp only; omega) ?_
  rintro ⟨v, ν⟩ ⟨q1, q2, q3, q4, q5⟩
  dsimp only at q1 q2 q3 q4 q5 ⊢
  have hC' : CT ν t n := hC.e q3 (q4 4 (by decide)) (q4 5 (by decide))
  rw [hst]
  simp (disch := omega) only [w32_eq, w64_eq, chk_T, chk_t, lt, lm, ob, Int.add_zero, Int.zero_add, true_and, and_true, if_true, if_false, K100, K101, K102, K103, K104, K200, K201, K230, K231, K232, K233, K234, K235, K236, K237, K250, K251, K252, K253, K254, K300, K301, K302, K303, K304, N101, N102, N103, N104, N201, N232, N233, N234, N235, N236, N237, N251, N252, N253, N254, N301, N302, N303, N304, hC'.2.1, q2]
  refine Ev_ite (fun w => Ev_out ⟨q3, q4, by rw [q2]; omega, by rw [q2]; omega, fun i i0 i1 => q5 i i0 (by rw [q2] at i1; omega), .inl (by rw [q2]; omega)⟩) (fun w => ?_)
  rw [c_byteIn hC' (by omega) (by omega)]
  simp only [ob]
  refine Ev_ite (fun z => Ev_out ⟨q3, q4, by rw [q2]; omega, by rw [q2]; omega, fun i i0 i1 => q5 i i0 (by rw [q2] at i1; omega), .inr (by rw [q2]; exact (hP _).mp z)⟩) (fun z => ?_)
  try simp (disch := omega) only [w32_eq, w64_eq, chk_T, chk_t, lt, lm, ob, Int.add_zero, Int.zero_add, true_and, and_true, if_true, if_false, ]
  refine Ev_in ⟨(by first | omega | (dsimp only; omega) | (dsimp only)), by dsimp only; rw [mst_s], q3.st rfl, fun j hj => by dsimp only; rw [mst_j hj]; exact q4 j hj, fun i i0 i1 => ?_⟩ (by first | omega | (dsimp only; omega) | (dsimp only))
  dsimp only at i1
  by_cases e : i = v
  · rw [e]; exact Classical.not_not.mp (fun y => z ((hP _).mpr y))
  · exact q5 i i0 (by omega)
theorem c_advance (hC : CT μ t n) (hp : μ 200 6 = p) (h0 : 0 ≤ p ∧ p ≤ n) : Ev (fX3_advance 200 μ) (fun μ' => Fw (fun x => x = 200) μ μ' ∧ (∀ j, j ≠ 6 → j ≠ 7 → j ≠ 8 → μ' 200 j = μ 200 j) ∧ TK t n p (μ' 200 8) (μ' 200 6) (μ' 200 7)) := by
  have hn := hC.2.2.1
  unfold fX3_advance
  simp (disch := omega) only [w32_eq, w64_eq, chk_T, chk_t, lt, lm, ob, Int.add_zero, Int.zero_add, true_and, and_true, if_true, if_false, K100, K101, K102, K103, K104, K200, K201, K230, K231, K232, K233, K234, K235, K236, K237, K250, K251, K252, K253, K254, K300, K301, K302, K303, K304, N101, N102, N103, N104, N201, N232, N233, N234, N235, N236, N237, N251, N252, N253, N254, N301, N302, N303, N304, hp]
  refine Ev_bind (c_run isBla_0 (fun v ν => rfl) hC hp h0) (fun μ1 ⟨f1, o1, R1⟩ => ?_)
  have C1 := hC.e f1 (o1 4 (by decide)) (o1 5 (by decide))
  generalize ha : μ1 200 6 = a at *
  have ra := R1.1; have rb := R1.2.1
  try simp (disch := omega) only [w32_eq, w64_eq, chk_T, chk_t, lt, lm, ob, Int.add_zero, Int.zero_add, true_and, and_true, if_true, if_false, ]
  have f2 : Fw (fun x => x = 200) μ (mst μ1 200 8 a) := f1.st rfl
  have o2 : ∀ j, j ≠ 6 → j ≠ 8 → mst μ1 200 8 a 200 j = μ 200 j := fun j h6 h8 => by rw [mst_j h8]; exact o1 j h6
  have a2 : mst μ1 200 8 a 200 6 = a := by rw [mst_j (by decide)]; exact ha
  have b2 : mst μ1 200 8 a 200 8 = a := mst_s
  generalize mst μ1 200 8 a = μ2 at *
  have C2 : CT μ2 t n := hC.e f2 (o2 4 (by decide) (by decide)) (o2 5 (by decide) (by decide))
  rw [a2]
  by_cases z : a < n
  · rw [c_byteIn C2 (by omega) z]
    simp only [ob]
    have tb := (hC.2.2.2 a (by omega) (by omega)).2
    rw [if_neg (by omega)]
    refine Ev_ite (fun w1 => ?_) (fun w1 => ?_)
    · have nl := (isLet_0 _).mp w1
      refine Ev_ite (fun w2 => ?_) (fun w2 => ?_)
      · have nd := (isDig_0 _).mp w2
        have e6 : ∀ v, mst μ2 200 7 v 200 6 = a := fun v => by rw [mst_j (by decide)]; exact a2
        simp (disch := omega) only [w32_eq, w64_eq, chk_T, chk_t, lt, lm, ob, Int.add_zero, Int.zero_add, true_and, and_true, if_true, if_false, e6]
        refine Ev_ite (fun w3 => ?_) (fun w3 => ?_)
        · refine Ev_some ⟨(f2.st rfl).st rfl, fun j h6 h7 h8 => by rw [mst_j h6, mst_j h7]; exact o2 j h6 h8, ?_⟩
          rw [mst_j (by decide), mst_j (by decide), mst_s, mst_j (by decide), mst_s, b2]
          exact ⟨R1, .inr (.inr (.inr ⟨z, nl, nd, rfl, .inl ⟨w3, rfl⟩⟩))⟩
        · refine Ev_some ⟨(f2.st rfl).st rfl, fun j h6 h7 h8 => by rw [mst_j h6, mst_j h7]; exact o2 j h6 h8, ?_⟩
          rw [mst_j (by decide), mst_j (by decide), mst_s, mst_j (by decide), mst_s, b2]
          exact ⟨R1, .inr (.inr (.inr ⟨z, nl, nd, rfl, .inr ⟨w3, rfl⟩⟩))⟩
      · have yd : Dig (t a) := Classical.not_not.mp (fun y => w2 ((isDig_0 _).mpr y))
        refine Ev_bind (c_run isDig_0 (fun v ν => rfl) C2 a2 (by omega)) (fun μ3 ⟨f3, o3, R3⟩ => ?_)
        have e8 : μ3 200 8 = a := (o3 8 (by decide)).trans b2
        have r1 := R3.1; have r2 := R3.2.1
        simp (disch := omega) only [w32_eq, w64_eq, chk_T, chk_t, lt, lm, ob, Int.add_zero, Int.zero_add, true_and, and_true, if_true, if_false, e8]
        have f23 := f2.tr f3
        refine Ev_ite (fun w3 => ?_) (fun w3 => ?_)
        · refine Ev_some ⟨f23.st rfl, fun j h6 h7 h8 => by rw [mst_j h7, o3 j h6]; exact o2 j h6 h8, ?_⟩
          rw [mst_j (by decide), mst_j (by decide), mst_s, e8]
          exact ⟨R1, .inr (.inr (.inl ⟨z, yd, R3, .inr ⟨w3, rfl⟩⟩))⟩
        · refine Ev_some ⟨f23.st rfl, fun j h6 h7 h8 => by rw [mst_j h7, o3 j h6]; exact o2 j h6 h8, ?_⟩
          rw [mst_j (by decide), mst_j (by decide), mst_s, e8]
          exact ⟨R1, .inr (.inr (.inl ⟨z, yd, R3, .inl ⟨by omega, rfl⟩⟩))⟩
    · have yl : Let (t a) := Classical.not_not.mp (fun y => w1 ((isLet_0 _).mpr y))
      have f3 : Fw (fun x => x = 200) μ (mst μ2 200 7 1) := f2.st rfl
      have o3 : ∀ j, j ≠ 6 → j ≠ 7 → j ≠ 8 → mst μ2 200 7 1 200 j = μ 200 j := fun j h6 h7 h8 => by rw [mst_j h7]; exact o2 j h6 h8
      have a3 : mst μ2 200 7 1 200 6 = a := by rw [mst_j (by decide)]; exact a2
      have b3 : mst μ2 200 7 1 200 8 = a := by rw [mst_j (by decide)]; exact b2
      have k3 : mst μ2 200 7 1 200 7 = 1 := mst_s
      simp (disch := omega) only [w32_eq, w64_eq, chk_T, chk_t, lt, lm, ob, Int.add_zero, Int.zero_add, true_and, and_true, if_true, if_false, a3]
      generalize mst μ2 200 7 1 = μ3 at *
      have C3 : CT μ3 t n := hC.e f3 (o3 4 (by decide) (by decide) (by decide)) (o3 5 (by decide) (by decide) (by decide))
      refine Ev_bind (c_run isLet_0 (fun v ν => rfl) C3 a3 (by omega)) (fun μ4 ⟨f4, o4, R4⟩ => ?_)
      refine Ev_some ⟨f3.tr f4, fun j h6 h7 h8 => by rw [o4 j h6]; exact o3 j h6 h7 h8, ?_⟩
      rw [o4 8 (by decide), o4 7 (by decide), b3, k3]
      exact ⟨R1, .inr (.inl ⟨z, yl, R4, rfl⟩)⟩
  · rw [c_byteAt C2, if_neg (show ¬(0 ≤ a ∧ a < n) by omega)]
    simp only [ob, if_true]
    refine Ev_some ⟨f2.st rfl, fun j h6 h7 h8 => by rw [mst_j h7]; exact o2 j h6 h8, ?_⟩
    rw [mst_j (by decide), mst_j (by decide), mst_s, a2, b2]
    exact ⟨R1, .inl ⟨by omega, rfl, rfl⟩⟩
/-- the value of a number -/
theorem c_value (hC : CT μ t n) (h6 : μ 200 6 = q) (hq : q ≤ n) (ha : 0 ≤ a ∧ a ≤ q) (h3 : q - a ≤ 3) (hd : ∀ i, a ≤ i → i < q → Dig (t i)) (l m : Int) : lop (sX3_readNumber_22 200 l m μ) FU (0, a) = some (nvN t a (q - a).toNat) := by
  have hn := hC.2.2.1
  refine Ev.eq (Ev_lop (P := fun r => r = nvN t a (q - a).toNat) (fun s => (a ≤ s.2 ∧ s.2 ≤ q) ∧ s.1 = nvN t a (s.2 - a).toNat) (fun s => (q - s.2).toNat) ⟨(by first | omega | (dsimp only; omega) | (dsimp only)), by dsimp only; rw [show (a - a).toNat = 0 by omega]; rfl⟩ (by unfold FU; dsimp only; omega) ?_)
  rintro ⟨v, i⟩ ⟨q1, q2⟩
  dsimp only at q1 q2 ⊢
  unfold sX3_readNumber_22
  dsimp only
  simp (disch := omega) only [w32_eq, w64_eq, chk_T, chk_t, lt, lm, ob, Int.add_zero, Int.zero_add, true_and, and_true, if_true, if_false, K100, K101, K102, K103, K104, K200, K201, K230, K231, K232, K233, K234, K235, K236, K237, K250, K251, K252, K253, K254, K300, K301, K302, K303, K304, N101, N102, N103, N104, N201, N232, N233, N234, N235, N236, N237, N251, N252, N253, N254, N301, N302, N303, N304, h6, hC.1, K1001, N1001]
  refine Ev_ite (fun w => Ev_out (by rw [q2, show i = q by omega])) (fun w => ?_)
  rw [if_neg (by omega), if_neg (by omega)]
  have tv := (hC.2.2.2 i (by omega) (by omega)).1
  have di := hd i (by omega) (by omega)
  unfold Dig at di
  have nb := nv_9 (t := t) (a := a) (i - a).toNat (by omega) (fun j j0 j1 => hd _ (by omega) (by omega))
  rw [← q2] at nb
  simp (disch := omega) only [w32_eq, w64_eq, chk_T, chk_t, lt, lm, ob, Int.add_zero, Int.zero_add, true_and, and_true, if_true, if_false, tv]
  refine Ev_in ⟨(by first | omega | (dsimp only; omega) | (dsimp only)), ?_⟩ (by first | omega | (dsimp only; omega) | (dsimp only))
  dsimp only
  rw [nv_s (by omega), ← q2]; omega
theorem c_isWord (hC : CT μ t n) (h6 : μ 200 6 = q) (h8 : μ 200 8 = a) (hq : q ≤ n) (ha : 0 ≤ a ∧ a ≤ q) (hc : 1 ≤ c ∧ c ≤ 16) : fX3_isWord 200 c μ = some (bi (μ 200 7 = 1 ∧ sp t c a q)) := by
  have hn := hC.2.2.1
  have sb := sc_b hc
  unfold fX3_isWord
  simp (disch := omega) only [w32_eq, w64_eq, chk_T, chk_t, lt, lm, ob, Int.add_zero, Int.zero_add, true_and, and_true, if_true, if_false, K100, K101, K102, K103, K104, K200, K201, K230, K231, K232, K233, K234, K235, K236, K237, K250, K251, K252, K253, K254, K300, K301, K302, K303, K304, N101, N102, N103, N104, N201, N232, N233, N234, N235, N236, N237, N251, N252, N253, N254, N301, N302, N303, N304, h6, h8]
  by_cases z : μ 200 7 = 1
  · rw [if_pos z]
    by_cases y : q - a = slen c
    · rw [if_pos y]
      have key : Ev (lop (sX3_isWord_28 200 c μ) FU 0) (fun r : Unit ⊕ Unit => (r = .inl () ∧ sp t c a q) ∨ (r = .inr () ∧ ¬sp t c a q)) := by
        refine Ev_lop (P := fun r : Unit ⊕ Unit => (r = .inl () ∧ sp t c a q) ∨ (r = .inr () ∧ ¬sp t c a q)) (fun s => (0 ≤ s ∧ s ≤ slen c) ∧ ∀ i, 0 ≤ i → i < s → t (a + i) = schar c i) (fun s => (slen c - s).toNat) ⟨by omega, fun i i0 i1 => by omega⟩ (by unfold FU; omega) ?_
        intro i ⟨q1, q2⟩
        unfold sX3_isWord_28
        simp (disch := omega) only [w32_eq, w64_eq, chk_T, chk_t, lt, lm, ob, Int.add_zero, Int.zero_add, true_and, and_true, if_true, if_false, K100, K101, K102, K103, K104, K200, K201, K230, K231, K232, K233, K234, K235, K236, K237, K250, K251, K252, K253, K254, K300, K301, K302, K303, K304, N101, N102, N103, N104, N201, N232, N233, N234, N235, N236, N237, N251, N252, N253, N254, N301, N302, N303, N304, ]
        refine Ev_ite (fun w => Ev_out (.inl ⟨rfl, y, fun j j0 j1 => q2 j j0 (by omega)⟩)) (fun w => ?_)
        rw [h8]
        try simp (disch := omega) only [w32_eq, w64_eq, chk_T, chk_t, lt, lm, ob, Int.add_zero, Int.zero_add, true_and, and_true, if_true, if_false, ]
        rw [c_byteIn hC (by omega) (by omega)]
        simp (disch := omega) only [w32_eq, w64_eq, chk_T, chk_t, lt, lm, ob, Int.add_zero, Int.zero_add, true_and, and_true, if_true, if_false, ]
        refine Ev_ite (fun w2 => ?_) (fun w2 => Ev_out (.inr ⟨rfl, fun u => w2 (u.2 i (by omega) (by omega))⟩))
        refine Ev_in ⟨by omega, fun j j0 j1 => ?_⟩ (by omega)
        by_cases e : j = i
        · rw [e]; exact w2
        · exact q2 j j0 (by omega)
      obtain ⟨r, e, hr⟩ := key
      rw [e]
      simp only [ob]
      rcases hr with ⟨e1, e2⟩ | ⟨e1, e2⟩
      · subst e1; rw [bi_t ⟨z, e2⟩]
      · subst e1; rw [bi_f (fun u => e2 u.2)]
    · rw [if_neg y, bi_f (fun u => y u.2.1)]
  · rw [if_neg z, bi_f (fun u => z u.1)]
end
