/-! ===== tokens: the reference ===== -/
def RT (μ : Mm) (t : Int → Int) (n : Int) : Prop := Md μ ∧ μ 20000 5 = n ∧ (0 ≤ n ∧ n ≤ 700) ∧ ∀ i, 0 ≤ i → i < 700 → μ 20001 (10 + i) = t i ∧ 0 ≤ t i ∧ t i ≤ 255
/-- what the reference knows of the token from a up to q, of kind k -/
def TR (t : Int → Int) (a q k : Int) (μ : Mm) : Prop := (k = 0 ∧ μ 20000 8 = 0) ∨ (k = 1 ∧ (∀ c, 1 ≤ c → c ≤ 16 → (μ 20000 10 = wc c ↔ sp t c a q)) ∧ ((μ 20000 8 = 3 ∧ ∃ c, (1 ≤ c ∧ c ≤ 16) ∧ μ 20000 10 = wc c) ∨ (μ 20000 8 = 4 ∧ μ 20000 10 = 99))) ∨ (k = 2 ∧ μ 20000 8 = 1 ∧ μ 20000 9 = nvN t a (q - a).toNat) ∨ (k = 3 ∧ μ 20000 8 = 2) ∨ (k = 4 ∧ μ 20000 8 = 4)
section
variable {μ μ' : Mm} {t : Int → Int} {n p a q k c v : Int}
theorem RT.fr (h : RT μ t n) {L : List Int} (f : Fr [] L μ μ') (hL : L.all (fun j => !([0, 1, 3, 4, 13, 15, 16, 17, 19, 21, 22, 23, 25, 27, 28, 30, 31, 32, 33] : List Int).contains j) = true) (h5 : 5 ∉ L) : RT μ' t n := by
  obtain ⟨a, b, c, d⟩ := h
  refine ⟨f.md a hL, (f.2 5 h5).trans b, c, ?_⟩
  rw [f.1 20001 (by decide) (by decide)]; exact d
theorem r_byteAt (h : RT μ t n) {i : Int} (h0 : 0 ≤ i) (h1 : i ≤ n) : fX11_byteAt 20000 i μ = some (if i < n then t i else -1) := by
  obtain ⟨hM, h2, h3, h4⟩ := h
  unfold fX11_byteAt
  simp (disch := omega) only [w32_eq, w64_eq, chk_T, chk_t, lt, lm, ob, Int.add_zero, Int.zero_add, true_and, and_true, if_true, if_false, K20000, K20001, K20002, K20003, K20004, K20005, K20006, K20007, K20008, K20009, K20010, K20011, K20012, K20013, K20014, K20015, K20016, K20017, K20018, K20019, N20001, N20002, N20003, N20004, N20005, N20006, N20007, N20008, N20009, N20010, N20011, N20012, N20013, N20014, N20015, N20016, N20017, N20018, N20019, Md_0 hM, h2]
  by_cases y : n ≤ i
  · rw [if_pos y, if_neg (by omega)]
  · rw [if_neg y, if_pos (by omega)]
    try simp (disch := omega) only [w32_eq, w64_eq, chk_T, chk_t, lt, lm, ob, Int.add_zero, Int.zero_add, true_and, and_true, if_true, if_false, K20000, K20001, K20002, K20003, K20004, K20005, K20006, K20007, K20008, K20009, K20010, K20011, K20012, K20013, K20014, K20015, K20016, K20017, K20018, K20019, N20001, N20002, N20003, N20004, N20005, N20006, N20007, N20008, N20009, N20010, N20011, N20012, N20013, N20014, N20015, N20016, N20017, N20018, N20019, ]
    rw [(h4 i h0 (by omega)).1]
theorem r_blanks (hR : RT μ t n) (hp : μ 20000 6 = p) (h0 : 0 ≤ p ∧ p ≤ n) : Ev (lop (sX11_advance_0 20000) FU μ) (fun μ' => Fr [] [6] μ μ' ∧ Rn Bla t n p (μ' 20000 6)) := by
  have hn := hR.2.2.1
  refine Ev_lopF (pj := pjX11_advance_0) (P := fun μ' => Fr [] [6] μ μ' ∧ Rn Bla t n p (μ' 20000 6)) (fun s t h hM => frsX11_advance_0 h hM) (by decide) hR.1 (fun s => (p ≤ s 20000 6 ∧ s 20000 6 ≤ n) ∧ ∀ i, p ≤ i → i < s 20000 6 → Bla (t i)) (fun s => (n - s 20000 6).toNat) ⟨by omega, fun i i0 i1 => by omega⟩ (by unfold FU; omega) ?_
  intro ν M1 F1 ⟨q1, q2⟩
  replace M1 : Md ν := M1
  have R1 : RT ν t n := hR.fr (show Fr [] [6] μ ν from F1) (by decide) (by decide)
  generalize hj : ν 20000 6 = j at *
  unfold sX11_advance_0
  simp (disch := omega) only [w32_eq, w64_eq, chk_T, chk_t, lt, lm, ob, Int.add_zero, Int.zero_add, true_and, and_true, if_true, if_false, K20000, K20001, K20002, K20003, K20004, K20005, K20006, K20007, K20008, K20009, K20010, K20011, K20012, K20013, K20014, K20015, K20016, K20017, K20018, K20019, N20001, N20002, N20003, N20004, N20005, N20006, N20007, N20008, N20009, N20010, N20011, N20012, N20013, N20014, N20015, N20016, N20017, N20018, N20019, hj]
  rw [r_byteAt R1 (by omega) q1.2]
  simp only [ob]
  have go : j < n → Bla (t j) → Ev (some (Sum.inl (mst ν 20000 6 (j + 1)) : Mm ⊕ Mm)) (Nx (fun s => (p ≤ s 20000 6 ∧ s 20000 6 ≤ n) ∧ ∀ i, p ≤ i → i < s 20000 6 → Bla (t i)) (fun s => (n - s 20000 6).toNat) (fun r => Fr [] [6] (pjX11_advance_0 (.inl μ)) (pjX11_advance_0 (.inr r)) → Fr [] [6] μ r ∧ Rn Bla t n p (r 20000 6)) (n - j).toNat) := by
    intro z y
    refine Ev_in ⟨by rw [mst_s]; omega, fun i i0 i1 => ?_⟩ (by rw [mst_s]; omega)
    rw [mst_s] at i1
    by_cases e : i = j
    · rw [e]; exact y
    · exact q2 i i0 (by omega)
  by_cases z : j < n
  · rw [if_pos z]
    refine Ev_ite (fun w => go z (.inl w)) (fun w => ?_)
    refine Ev_ite (fun w2 => go z (.inr w2)) (fun w2 => Ev_out (fun f => ⟨f, ?_⟩))
    rw [hj]
    exact ⟨q1.1, q1.2, q2, .inr (fun u => by rcases u with u | u; exact w u; exact w2 u)⟩
  · rw [if_neg z, if_neg (by decide), if_neg (by decide)]
    refine Ev_out (fun f => ⟨f, ?_⟩)
    rw [hj]
    exact ⟨q1.1, q1.2, q2, .inl (by omega)⟩
theorem r_digits (hR : RT μ t n) (hp : μ 20000 6 = a) (h7 : μ 20000 7 = a) (h9 : μ 20000 9 = 0) (h0 : 0 ≤ a ∧ a ≤ n) : Ev (lop (sX11_advance_198 20000) FU μ) (fun μ' => Fr [] [6, 9] μ μ' ∧ Rn Dig t n a (μ' 20000 6) ∧ (μ' 20000 6 - a ≤ 3 → μ' 20000 9 = nvN t a (μ' 20000 6 - a).toNat)) := by
  have hn := hR.2.2.1
  refine Ev_lopF (pj := pjX11_advance_198) (P := fun μ' => Fr [] [6, 9] μ μ' ∧ Rn Dig t n a (μ' 20000 6) ∧ (μ' 20000 6 - a ≤ 3 → μ' 20000 9 = nvN t a (μ' 20000 6 - a).toNat)) (fun s t h hM => frsX11_advance_198 h hM) (by decide) hR.1 (fun s => (a ≤ s 20000 6 ∧ s 20000 6 ≤ n) ∧ (∀ i, a ≤ i → i < s 20000 6 → Dig (t i)) ∧ (s 20000 6 - a ≤ 3 → s 20000 9 = nvN t a (s 20000 6 - a).toNat)) (fun s => (n - s 20000 6).toNat) ⟨by omega, fun i i0 i1 => by omega, fun _ => by rw [h9, hp, show (a - a).toNat = 0 by omega]; rfl⟩ (by unfold FU; omega) ?_
  intro ν M1 F1 ⟨q1, q2, q3⟩
  replace M1 : Md ν := M1
  have F1' : Fr [] [6, 9] μ ν := F1
  have R1 : RT ν t n := hR.fr F1' (by decide) (by decide)
  have e7 : ν 20000 7 = a := (F1'.2 7 (by decide)).trans h7
  generalize hj : ν 20000 6 = j at *
  unfold sX11_advance_198
  simp (disch := omega) only [w32_eq, w64_eq, chk_T, chk_t, lt, lm, ob, Int.add_zero, Int.zero_add, true_and, and_true, if_true, if_false, K20000, K20001, K20002, K20003, K20004, K20005, K20006, K20007, K20008, K20009, K20010, K20011, K20012, K20013, K20014, K20015, K20016, K20017, K20018, K20019, N20001, N20002, N20003, N20004, N20005, N20006, N20007, N20008, N20009, N20010, N20011, N20012, N20013, N20014, N20015, N20016, N20017, N20018, N20019, hj, e7]
  rw [r_byteAt R1 (by omega) q1.2]
  simp only [ob]
  by_cases z : j < n
  · rw [if_pos z]
    refine Ev_ite (fun w => Ev_out (fun f => ⟨f, ?_, ?_⟩)) (fun w => ?_)
    · rw [hj]; exact ⟨q1.1, q1.2, q2, .inr ((isDig_0 _).mp w)⟩
    · rw [hj]; exact q3
    · have yd : Dig (t j) := Classical.not_not.mp (fun y => w ((isDig_0 _).mpr y))
      have all : ∀ i, a ≤ i → i < j + 1 → Dig (t i) := fun i i0 i1 => by
        by_cases e : i = j
        · rw [e]; exact yd
        · exact q2 i i0 (by omega)
      refine Ev_ite (fun w3 => ?_) (fun w3 => ?_)
      · refine Ev_in ⟨by rw [mst_s]; omega, fun i i0 i1 => all i i0 (by rw [mst_s] at i1; exact i1), fun u => by rw [mst_s] at u; omega⟩ (by rw [mst_s]; omega)
      · have e9 := q3 (by omega)
        have nb := nv_9 (t := t) (a := a) (j - a).toNat (by omega) (fun i i0 i1 => q2 _ (by omega) (by omega))
        rw [← e9] at nb
        have yd' := yd
        unfold Dig at yd'
        have e6 : ∀ v, mst ν 20000 9 v 20000 6 = j := fun v => by rw [mst_j (by decide)]; exact hj
        simp (disch := omega) only [w32_eq, w64_eq, chk_T, chk_t, lt, lm, ob, Int.add_zero, Int.zero_add, true_and, and_true, if_true, if_false, K20000, K20001, K20002, K20003, K20004, K20005, K20006, K20007, K20008, K20009, K20010, K20011, K20012, K20013, K20014, K20015, K20016, K20017, K20018, K20019, N20001, N20002, N20003, N20004, N20005, N20006, N20007, N20008, N20009, N20010, N20011, N20012, N20013, N20014, N20015, N20016, N20017, N20018, N20019, e6]
        refine Ev_in ⟨by rw [mst_s]; omega, fun i i0 i1 => all i i0 (by rw [mst_s] at i1; exact i1), fun u => ?_⟩ (by rw [mst_s]; omega)
        rw [mst_s, mst_j (by decide), mst_s, nv_s (by omega), ← e9]; omega
  · rw [if_neg z, (isDig_0 (-1)).mpr (by unfold Dig; omega), if_pos rfl]
    refine Ev_out (fun f => ⟨f, ?_, ?_⟩)
    · rw [hj]; exact ⟨q1.1, q1.2, q2, .inl (by omega)⟩
    · rw [hj]; exact q3
theorem r_letters (hR : RT μ t n) (hp : μ 20000 6 = a) (h7 : μ 20000 7 = a) (h0 : 0 ≤ a ∧ a ≤ n) : Ev (lop (sX11_advance_77 20000) FU (0, μ)) (fun r => Fr [] [6] μ r.2 ∧ Rn Let t n a (r.2 20000 6) ∧ (r.2 20000 6 - a ≤ 7 → r.1 = vwN t a (r.2 20000 6 - a).toNat)) := by
  have hn := hR.2.2.1
  refine Ev_lopF (pj := pjX11_advance_77) (P := fun r => Fr [] [6] μ r.2 ∧ Rn Let t n a (r.2 20000 6) ∧ (r.2 20000 6 - a ≤ 7 → r.1 = vwN t a (r.2 20000 6 - a).toNat)) (fun s t h hM => frsX11_advance_77 h hM) (by decide) hR.1 (fun s => (a ≤ s.2 20000 6 ∧ s.2 20000 6 ≤ n) ∧ (∀ i, a ≤ i → i < s.2 20000 6 → Let (t i)) ∧ (s.2 20000 6 - a ≤ 7 → s.1 = vwN t a (s.2 20000 6 - a).toNat)) (fun s => (n - s.2 20000 6).toNat) ⟨by dsimp only; omega, fun i i0 i1 => by dsimp only at i1; omega, fun _ => by dsimp only; rw [hp, show (a - a).toNat = 0 by omega]; rfl⟩ (by unfold FU; dsimp only; omega) ?_
  rintro ⟨v, ν⟩ M1 F1 ⟨q1, q2, q3⟩
  replace M1 : Md ν := M1
  have F1' : Fr [] [6] μ ν := F1
  have R1 : RT ν t n := hR.fr F1' (by decide) (by decide)
  have e7 : ν 20000 7 = a := (F1'.2 7 (by decide)).trans h7
  dsimp only at q1 q2 q3 ⊢
  generalize hj : ν 20000 6 = j at *
  unfold sX11_advance_77
  dsimp only
  simp (disch := omega) only [w32_eq, w64_eq, chk_T, chk_t, lt, lm, ob, Int.add_zero, Int.zero_add, true_and, and_true, if_true, if_false, K20000, K20001, K20002, K20003, K20004, K20005, K20006, K20007, K20008, K20009, K20010, K20011, K20012, K20013, K20014, K20015, K20016, K20017, K20018, K20019, N20001, N20002, N20003, N20004, N20005, N20006, N20007, N20008, N20009, N20010, N20011, N20012, N20013, N20014, N20015, N20016, N20017, N20018, N20019, hj, e7]
  rw [r_byteAt R1 (by omega) q1.2]
  simp only [ob]
  by_cases z : j < n
  · rw [if_pos z]
    refine Ev_ite (fun w => Ev_out (fun f => ⟨f, ?_, ?_⟩)) (fun w => ?_)
    · dsimp only; rw [hj]; exact ⟨q1.1, q1.2, q2, .inr ((isLet_0 _).mp w)⟩
    · dsimp only; rw [hj]; exact q3
    · have yd : Let (t j) := Classical.not_not.mp (fun y => w ((isLet_0 _).mpr y))
      have all : ∀ i, a ≤ i → i < j + 1 → Let (t i) := fun i i0 i1 => by
        by_cases e : i = j
        · rw [e]; exact yd
        · exact q2 i i0 (by omega)
      refine Ev_ite (fun w3 => ?_) (fun w3 => ?_)
      · refine Ev_in ⟨by dsimp only; rw [mst_s]; omega, fun i i0 i1 => all i i0 (by dsimp only at i1; rw [mst_s] at i1; exact i1), fun u => by dsimp only at u; rw [mst_s] at u; omega⟩ (by dsimp only; rw [mst_s]; omega)
      · have e9 := q3 (by omega)
        have nb := vw_b (t := t) (a := a) (j - a).toNat (fun i i0 i1 => q2 _ (by omega) (by omega))
        have n7 := vw_7 (j - a).toNat (by omega)
        rw [← e9] at nb
        have yd' := yd
        unfold Let at yd'
        try simp (disch := omega) only [w32_eq, w64_eq, chk_T, chk_t, lt, lm, ob, Int.add_zero, Int.zero_add, true_and, and_true, if_true, if_false, K20000, K20001, K20002, K20003, K20004, K20005, K20006, K20007, K20008, K20009, K20010, K20011, K20012, K20013, K20014, K20015, K20016, K20017, K20018, K20019, N20001, N20002, N20003, N20004, N20005, N20006, N20007, N20008, N20009, N20010, N20011, N20012, N20013, N20014, N20015, N20016, N20017, N20018, N20019, ]
        refine Ev_in ⟨by dsimp only; rw [mst_s]; omega, fun i i0 i1 => all i i0 (by dsimp only at i1; rw [mst_s] at i1; exact i1), fun u => ?_⟩ (by dsimp only; rw [mst_s]; omega)
        dsimp only
        rw [mst_s, vw_s (by omega), ← e9]; omega
  · rw [if_neg z, (isLet_0 (-1)).mpr (by unfold Let; omega), if_pos rfl]
    refine Ev_out (fun f => ⟨f, ?_, ?_⟩)
    · dsimp only; rw [hj]; exact ⟨q1.1, q1.2, q2, .inl (by omega)⟩
    · dsimp only; rw [hj]; exact q3
theorem r_advance (hR : RT μ t n) (hp : μ 20000 6 = p) (h0 : 0 ≤ p ∧ p ≤ n) : Ev (fX11_advance 20000 μ) (fun μ' => Fr [] [6, 7, 8, 9, 10] μ μ' ∧ ∃ k, TK t n p (μ' 20000 7) (μ' 20000 6) k ∧ TR t (μ' 20000 7) (μ' 20000 6) k μ') := by
  have hn := hR.2.2.1
  unfold fX11_advance
  refine Ev_bind (r_blanks hR hp h0) (fun μ1 ⟨f1, R1⟩ => ?_)
  have f1' : Fr [] [6, 7, 8, 9, 10] μ μ1 := f1.mo (by decide) (by decide)
  generalize ha : μ1 20000 6 = a at *
  have ra := R1.1; have rb := R1.2.1
  simp (disch := omega) only [w32_eq, w64_eq, chk_T, chk_t, lt, lm, ob, Int.add_zero, Int.zero_add, true_and, and_true, if_true, if_false, K20000, K20001, K20002, K20003, K20004, K20005, K20006, K20007, K20008, K20009, K20010, K20011, K20012, K20013, K20014, K20015, K20016, K20017, K20018, K20019, N20001, N20002, N20003, N20004, N20005, N20006, N20007, N20008, N20009, N20010, N20011, N20012, N20013, N20014, N20015, N20016, N20017, N20018, N20019, ha]
  have f2 : Fr [] [6, 7, 8, 9, 10] μ (mst μ1 20000 7 a) := f1'.tr (Fr.fld rfl (by decide))
  have a2 : mst μ1 20000 7 a 20000 6 = a := by rw [mst_j (by decide)]; exact ha
  have b2 : mst μ1 20000 7 a 20000 7 = a := mst_s
  generalize mst μ1 20000 7 a = μ2 at *
  have T2 : RT μ2 t n := hR.fr f2 (by decide) (by decide)
  rw [a2, r_byteAt T2 (by omega) rb]
  simp only [ob]
  by_cases z : a < n
  · rw [if_pos z]
    have tb := (hR.2.2.2 a (by omega) (by omega)).2
    rw [if_pos (by omega)]
    refine Ev_ite (fun w1 => ?_) (fun w1 => ?_)
    · have nl := (isLet_0 _).mp w1
      refine Ev_ite (fun w2 => ?_) (fun w2 => ?_)
      · have nd := (isDig_0 _).mp w2
        try simp (disch := omega) only [w32_eq, w64_eq, chk_T, chk_t, lt, lm, ob, Int.add_zero, Int.zero_add, true_and, and_true, if_true, if_false, K20000, K20001, K20002, K20003, K20004, K20005, K20006, K20007, K20008, K20009, K20010, K20011, K20012, K20013, K20014, K20015, K20016, K20017, K20018, K20019, N20001, N20002, N20003, N20004, N20005, N20006, N20007, N20008, N20009, N20010, N20011, N20012, N20013, N20014, N20015, N20016, N20017, N20018, N20019, ]
        refine Ev_ite (fun w3 => ?_) (fun w3 => ?_)
        · refine Ev_some ⟨(f2.tr (Fr.fld rfl (by decide))).tr (Fr.fld rfl (by decide)), 3, ?_⟩
          rw [mst_j (by decide), mst_j (by decide), mst_j (by decide), mst_s, b2]
          exact ⟨⟨R1, .inr (.inr (.inr ⟨z, nl, nd, rfl, .inl ⟨w3, rfl⟩⟩))⟩, .inr (.inr (.inr (.inl ⟨rfl, mst_s⟩)))⟩
        · refine Ev_some ⟨(f2.tr (Fr.fld rfl (by decide))).tr (Fr.fld rfl (by decide)), 4, ?_⟩
          rw [mst_j (by decide), mst_j (by decide), mst_j (by decide), mst_s, b2]
          exact ⟨⟨R1, .inr (.inr (.inr ⟨z, nl, nd, rfl, .inr ⟨w3, rfl⟩⟩))⟩, .inr (.inr (.inr (.inr ⟨rfl, mst_s⟩)))⟩
      · have yd : Dig (t a) := Classical.not_not.mp (fun y => w2 ((isDig_0 _).mpr y))
        have f3 : Fr [] [6, 7, 8, 9, 10] μ (mst μ2 20000 9 0) := f2.tr (Fr.fld rfl (by decide))
        have a3 : mst μ2 20000 9 0 20000 6 = a := by rw [mst_j (by decide)]; exact a2
        have b3 : mst μ2 20000 9 0 20000 7 = a := by rw [mst_j (by decide)]; exact b2
        have c3 : mst μ2 20000 9 0 20000 9 = 0 := mst_s
        try simp (disch := omega) only [w32_eq, w64_eq, chk_T, chk_t, lt, lm, ob, Int.add_zero, Int.zero_add, true_and, and_true, if_true, if_false, K20000, K20001, K20002, K20003, K20004, K20005, K20006, K20007, K20008, K20009, K20010, K20011, K20012, K20013, K20014, K20015, K20016, K20017, K20018, K20019, N20001, N20002, N20003, N20004, N20005, N20006, N20007, N20008, N20009, N20010, N20011, N20012, N20013, N20014, N20015, N20016, N20017, N20018, N20019, ]
        generalize mst μ2 20000 9 0 = μ3 at *
        have T3 : RT μ3 t n := hR.fr f3 (by decide) (by decide)
        refine Ev_bind (r_digits T3 a3 b3 c3 (by omega)) (fun μ4 ⟨f4, R4, v4⟩ => ?_)
        have e7 : μ4 20000 7 = a := (f4.2 7 (by decide)).trans b3
        have r1 := R4.1; have r2 := R4.2.1
        have f4' : Fr [] [6, 7, 8, 9, 10] μ μ4 := f3.tr (f4.mo (by decide) (by decide))
        simp (disch := omega) only [w32_eq, w64_eq, chk_T, chk_t, lt, lm, ob, Int.add_zero, Int.zero_add, true_and, and_true, if_true, if_false, K20000, K20001, K20002, K20003, K20004, K20005, K20006, K20007, K20008, K20009, K20010, K20011, K20012, K20013, K20014, K20015, K20016, K20017, K20018, K20019, N20001, N20002, N20003, N20004, N20005, N20006, N20007, N20008, N20009, N20010, N20011, N20012, N20013, N20014, N20015, N20016, N20017, N20018, N20019, e7]
        refine Ev_ite (fun w3 => ?_) (fun w3 => ?_)
        · refine Ev_some ⟨f4'.tr (Fr.fld rfl (by decide)), 2, ?_⟩
          rw [mst_j (by decide), mst_j (by decide), e7]
          refine ⟨⟨R1, .inr (.inr (.inl ⟨z, yd, R4, .inl ⟨w3, rfl⟩⟩))⟩, .inr (.inr (.inl ⟨rfl, mst_s, ?_⟩))⟩
          rw [mst_j (by decide)]; exact v4 w3
        · refine Ev_some ⟨f4'.tr (Fr.fld rfl (by decide)), 4, ?_⟩
          rw [mst_j (by decide), mst_j (by decide), e7]
          exact ⟨⟨R1, .inr (.inr (.inl ⟨z, yd, R4, .inr ⟨by omega, rfl⟩⟩))⟩, .inr (.inr (.inr (.inr ⟨rfl, mst_s⟩)))⟩
    · have yl : Let (t a) := Classical.not_not.mp (fun y => w1 ((isLet_0 _).mpr y))
      refine Ev_bind (r_letters T2 a2 b2 (by omega)) ?_
      rintro ⟨v4, μ4⟩ ⟨f4, R4, h4⟩
      dsimp only at f4 R4 h4 ⊢
      have e7 : μ4 20000 7 = a := (f4.2 7 (by decide)).trans b2
      have r1 := R4.1; have r2 := R4.2.1
      have f4' : Fr [] [6, 7, 8, 9, 10] μ μ4 := f2.tr (f4.mo (by decide) (by decide))
      obtain ⟨q, hq⟩ : ∃ q, μ4 20000 6 = q := ⟨_, rfl⟩
      simp only [hq] at R4 h4 r1 r2 ⊢
      simp (disch := omega) only [w32_eq, w64_eq, chk_T, chk_t, lt, lm, ob, Int.add_zero, Int.zero_add, true_and, and_true, if_true, if_false, K20000, K20001, K20002, K20003, K20004, K20005, K20006, K20007, K20008, K20009, K20010, K20011, K20012, K20013, K20014, K20015, K20016, K20017, K20018, K20019, N20001, N20002, N20003, N20004, N20005, N20006, N20007, N20008, N20009, N20010, N20011, N20012, N20013, N20014, N20015, N20016, N20017, N20018, N20019, e7]
      have lets := R4.2.2.1
      have fin : ∀ w, (∀ c, 1 ≤ c → c ≤ 16 → (w = wc c ↔ sp t c a q)) → (w = 99 ∨ ∃ c, (1 ≤ c ∧ c ≤ 16) ∧ w = wc c) → Ev (jX11_advance_162 20000 w 20000 μ4) (fun μ' => Fr [] [6, 7, 8, 9, 10] μ μ' ∧ ∃ k, TK t n p (μ' 20000 7) (μ' 20000 6) k ∧ TR t (μ' 20000 7) (μ' 20000 6) k μ') := by
        intro w hw hw2
        unfold jX11_advance_162
        simp (disch := omega) only [w32_eq, w64_eq, chk_T, chk_t, lt, lm, ob, Int.add_zero, Int.zero_add, true_and, and_true, if_true, if_false, K20000, K20001, K20002, K20003, K20004, K20005, K20006, K20007, K20008, K20009, K20010, K20011, K20012, K20013, K20014, K20015, K20016, K20017, K20018, K20019, N20001, N20002, N20003, N20004, N20005, N20006, N20007, N20008, N20009, N20010, N20011, N20012, N20013, N20014, N20015, N20016, N20017, N20018, N20019, mst_s]
        refine Ev_ite (fun w3 => ?_) (fun w3 => ?_)
        · refine Ev_some ⟨(f4'.tr (Fr.fld rfl (by decide))).tr (Fr.fld rfl (by decide)), 1, ?_⟩
          rw [mst_j (by decide), mst_j (by decide), mst_j (by decide), mst_j (by decide), e7, hq]
          refine ⟨⟨R1, .inr (.inl ⟨z, yl, R4, rfl⟩)⟩, .inr (.inl ⟨rfl, ?_, .inr ⟨mst_s, ?_⟩⟩)⟩
          · intro c c0 c1; rw [mst_j (by decide), mst_s]; exact hw c c0 c1
          · rw [mst_j (by decide), mst_s]; exact w3
        · refine Ev_some ⟨(f4'.tr (Fr.fld rfl (by decide))).tr (Fr.fld rfl (by decide)), 1, ?_⟩
          rw [mst_j (by decide), mst_j (by decide), mst_j (by decide), mst_j (by decide), e7, hq]
          refine ⟨⟨R1, .inr (.inl ⟨z, yl, R4, rfl⟩)⟩, .inr (.inl ⟨rfl, ?_, .inl ⟨mst_s, ?_⟩⟩)⟩
          · intro c c0 c1; rw [mst_j (by decide), mst_s]; exact hw c c0 c1
          · rw [mst_j (by decide), mst_s]
            rcases hw2 with u | u
            · exact absurd u w3
            · exact u
      refine Ev_ite (fun w3 => ?_) (fun w3 => ?_)
      · rw [r_wordOf]
        simp only [ob]
        have e := h4 w3
        refine fin _ (fun c c0 c1 => ?_) (wof_e _)
        rw [wof_wc ⟨c0, c1⟩, e]
        exact sp_vw ⟨c0, c1⟩ lets r1
      · refine fin 99 (fun c c0 c1 => ?_) (.inl rfl)
        constructor
        · intro u
          unfold wc at u
          split at u
          · omega
          · split at u
            · omega
            · split at u <;> omega
        · intro u
          have := u.1; have := (sc_b ⟨c0, c1⟩).1; omega
  · rw [if_neg z, if_neg (by decide)]
    try simp (disch := omega) only [w32_eq, w64_eq, chk_T, chk_t, lt, lm, ob, Int.add_zero, Int.zero_add, true_and, and_true, if_true, if_false, K20000, K20001, K20002, K20003, K20004, K20005, K20006, K20007, K20008, K20009, K20010, K20011, K20012, K20013, K20014, K20015, K20016, K20017, K20018, K20019, N20001, N20002, N20003, N20004, N20005, N20006, N20007, N20008, N20009, N20010, N20011, N20012, N20013, N20014, N20015, N20016, N20017, N20018, N20019, ]
    refine Ev_some ⟨f2.tr (Fr.fld rfl (by decide)), 0, ?_⟩
    rw [mst_j (by decide), mst_j (by decide), a2, b2]
    exact ⟨⟨R1, .inl ⟨by omega, rfl, rfl⟩⟩, .inl ⟨rfl, mst_s⟩⟩
end
