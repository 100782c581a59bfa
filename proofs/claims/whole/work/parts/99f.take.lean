/-! ===== states are copied and made ===== -/
def LaC (μ μ' : Mm) (t c : Int) : Prop := (∀ i, 0 ≤ i → i ≤ 5 → μ' t i = μ c i) ∧ (∀ i, 0 ≤ i → i < 144 → μ' (t + 1) i = μ (c + 1) i) ∧ (∀ i, 0 ≤ i → i < 12 → μ' (t + 2) i = μ (c + 2) i ∧ μ' (t + 3) i = μ (c + 3) i ∧ μ' (t + 4) i = μ (c + 4) i ∧ μ' (t + 5) i = μ (c + 5) i) ∧ LaF μ' t
def SkC (μ μ' : Mm) (t c : Int) : Prop := (∀ i, 0 ≤ i → i ≤ 6 → μ' t i = μ c i) ∧ (∀ i, 0 ≤ i → i < 12 → μ' (t + 1) i = μ (c + 1) i ∧ μ' (t + 2) i = μ (c + 2) i) ∧ SkF μ' t
section
variable {μ μ' μ1 μ2 : Mm} {b b' : Int → Int} {vb vb' n k c t s L v : Int} {g g' : Int → Int} {ok : Prop}
theorem La_C (h : LaC μ μ' t c) (hK : LaK t) (hL : La μ c g) (hO : g 5 ≤ 12) : La μ' t g := by
  obtain ⟨h1, h2, h3, h4⟩ := h
  obtain ⟨l1, l2, ⟨z0, z1, z2, z3, z4, z5⟩, l4, l5⟩ := hL
  refine ⟨hK, h4, ⟨?_, ?_, ?_, ?_, ?_, ?_⟩, fun p p0 p1 => (h2 p p0 p1).trans (l4 p p0 p1), fun i i0 i1 => ?_⟩
  · exact (h1 0 (by decide) (by decide)).trans z0
  · exact (h1 1 (by decide) (by decide)).trans z1
  · exact (h1 2 (by decide) (by decide)).trans z2
  · exact (h1 3 (by decide) (by decide)).trans z3
  · exact (h1 4 (by decide) (by decide)).trans z4
  · exact (h1 5 (by decide) (by decide)).trans z5
  · obtain ⟨x1, x2, x3, x4⟩ := h3 i i0 (by omega)
    obtain ⟨y1, y2, y3, y4⟩ := l5 i i0 i1
    exact ⟨x2.trans y1, x1.trans y2, x3.trans y3, x4.trans y4⟩
theorem Sk_C {q : Int → Int} (h : SkC μ μ' t c) (hK : SkK t) (hS : Sk μ c q) (hO : q 0 ≤ 12) : Sk μ' t q := by
  obtain ⟨h1, h2, h3⟩ := h
  obtain ⟨l1, l2, ⟨z0, z1, z2, z3, z4, z5, z6⟩, l4⟩ := hS
  refine ⟨hK, h3, ⟨?_, ?_, ?_, ?_, ?_, ?_, ?_⟩, fun i i0 i1 => ?_⟩
  · exact (h1 0 (by decide) (by decide)).trans z0
  · exact (h1 1 (by decide) (by decide)).trans z1
  · exact (h1 2 (by decide) (by decide)).trans z2
  · exact (h1 3 (by decide) (by decide)).trans z3
  · exact (h1 4 (by decide) (by decide)).trans z4
  · exact (h1 5 (by decide) (by decide)).trans z5
  · exact (h1 6 (by decide) (by decide)).trans z6
  · obtain ⟨x1, x2⟩ := h2 i i0 (by omega)
    obtain ⟨y1, y2⟩ := l4 i i0 i1
    exact ⟨x1.trans y1, x2.trans y2⟩
theorem c_take2 (hKt : LaK t) (hKc : LaK c) (hFt : LaF μ t) (hFc : LaF μ c) (hB : ∀ i, 0 ≤ i → i < 12 → μ (c + 3) i = 0 ∨ μ (c + 3) i = 1) (hd : t + 5 < c ∨ c + 5 < t) : Ev (fX2_take t c μ) (fun μ' => Fw (fun x => t ≤ x ∧ x ≤ t + 5) μ μ' ∧ LaC μ μ' t c) := by
  obtain ⟨kt, ⟨kt1, nt1⟩, ⟨kt2, nt2⟩, ⟨kt3, nt3⟩, ⟨kt4, nt4⟩, kt5, nt5⟩ := hKt
  obtain ⟨kc, ⟨kc1, nc1⟩, ⟨kc2, nc2⟩, ⟨kc3, nc3⟩, ⟨kc4, nc4⟩, kc5, nc5⟩ := hKc
  obtain ⟨f6, f7, f8, f9, f10⟩ := hFt
  obtain ⟨g6, g7, g8, g9, g10⟩ := hFc
  unfold fX2_take
  simp (disch := omega) only [w32_eq, w64_eq, chk_T, chk_t, lt, lm, ob, Int.add_zero, Int.zero_add, true_and, and_true, if_true, if_false, kt, kc, mst_n, mst_j, g6, g7, g9, g10, f6, f7, f9, f10, kt1, nt1, kt2, nt2, kc1, nc1, kc2, nc2, kt4, nt4, kc4, nc4, kt5, nt5, kc5, nc5, mcp_n]
  have F0 : ∀ ν : Mm, ν = mcp (mcp (mcp (mcp (mst (mst (mst (mst (mst (mst μ t 0 (μ c 0)) t 1 (μ c 1)) t 2 (μ c 2)) t 3 (μ c 3)) t 4 (μ c 4)) t 5 (μ c 5)) (c + 1) 0 (t + 1) 0 144) (c + 2) 0 (t + 2) 0 12) (c + 4) 0 (t + 4) 0 12) (c + 5) 0 (t + 5) 0 12 → Fw (fun x => t ≤ x ∧ x ≤ t + 5 ∧ x ≠ t + 3) μ ν ∧ (∀ i, 0 ≤ i → i ≤ 5 → ν t i = μ c i) ∧ (∀ i, 6 ≤ i → ν t i = μ t i) ∧ (∀ i, 0 ≤ i → i < 144 → ν (t + 1) i = μ (c + 1) i) ∧ ∀ i, 0 ≤ i → i < 12 → ν (t + 2) i = μ (c + 2) i ∧ ν (t + 4) i = μ (c + 4) i ∧ ν (t + 5) i = μ (c + 5) i := by
    intro ν e
    subst e
    refine ⟨fun x hx => ?_, fun i i0 i1 => ?_, fun i i0 => ?_, fun i i0 i1 => ?_, fun i i0 i1 => ⟨?_, ?_, ?_⟩⟩
    · rw [mcp_n (fun e => hx (by omega)), mcp_n (fun e => hx (by omega)), mcp_n (fun e => hx (by omega)), mcp_n (fun e => hx (by omega))]
      have nt : x ≠ t := fun e => hx (by omega)
      simp only [mst_n nt]
    · rw [mcp_n (by omega), mcp_n (by omega), mcp_n (by omega), mcp_n (by omega)]
      have : i = 0 ∨ i = 1 ∨ i = 2 ∨ i = 3 ∨ i = 4 ∨ i = 5 := by omega
      rcases this with e | e | e | e | e | e <;> (subst e; simp (disch := omega) only [mst_s, mst_j])
    · rw [mcp_n (by omega), mcp_n (by omega), mcp_n (by omega), mcp_n (by omega)]
      simp (disch := omega) only [mst_j]
    · rw [mcp_n (by omega), mcp_n (by omega), mcp_n (by omega), mcp_i ⟨i0, i1⟩]
      simp (disch := omega) only [mst_n]
    · rw [mcp_n (by omega), mcp_n (by omega), mcp_i ⟨i0, i1⟩, mcp_n (by omega)]
      simp (disch := omega) only [mst_n]
    · rw [mcp_n (by omega), mcp_i ⟨i0, i1⟩, mcp_n (by omega), mcp_n (by omega)]
      simp (disch := omega) only [mst_n]
    · rw [mcp_i ⟨i0, i1⟩, mcp_n (by omega), mcp_n (by omega), mcp_n (by omega)]
      simp (disch := omega) only [mst_n]
  have F1 := F0 _ rfl
  generalize mcp (mcp (mcp (mcp (mst (mst (mst (mst (mst (mst μ t 0 (μ c 0)) t 1 (μ c 1)) t 2 (μ c 2)) t 3 (μ c 3)) t 4 (μ c 4)) t 5 (μ c 5)) (c + 1) 0 (t + 1) 0 144) (c + 2) 0 (t + 2) 0 12) (c + 4) 0 (t + 4) 0 12) (c + 5) 0 (t + 5) 0 12 = ν at *
  clear F0
  obtain ⟨u1, u2, u3, u4, u5⟩ := F1
  refine Ev_bind (Ev_lop (P := fun μ' => Fw (fun x => x = t + 3) ν μ' ∧ ∀ i, 0 ≤ i → i < 12 → μ' (t + 3) i = μ (c + 3) i) (fun q => (0 ≤ q.1 ∧ q.1 ≤ 12) ∧ Fw (fun x => x = t + 3) ν q.2 ∧ ∀ i, 0 ≤ i → i < q.1 → q.2 (t + 3) i = μ (c + 3) i) (fun q => (12 - q.1).toNat) ⟨(by first | omega | (dsimp only; omega) | (dsimp only)), Fw.rf, fun i a c => by dsimp only at c; omega⟩ (by unfold FU; dsimp only; omega) ?_) ?_
  · rintro ⟨v2, μ1⟩ ⟨q1, q2, q3⟩
    dsimp only at q1 q2 q3 ⊢
    unfold sX2_take_111
    dsimp only
    refine Ev_ite (fun w => Ev_out ⟨q2, fun i a c => q3 i a (by omega)⟩) (fun w => ?_)
    have rt : μ1 t 8 = t + 3 := by rw [q2 t (by omega), u3 8 (by decide)]; exact f8
    have rc : μ1 c = μ c := (q2 c (by omega)).trans (u1 c (by omega))
    have rc3 : μ1 (c + 3) = μ (c + 3) := (q2 _ (by omega)).trans (u1 _ (by omega))
    have hb := hB v2 q1.1 (by omega)
    simp (disch := omega) only [w32_eq, w64_eq, chk_T, chk_t, lt, lm, ob, Int.add_zero, Int.zero_add, true_and, and_true, if_true, if_false, kt, kc, rt, rc, g8, rc3, kc3, nc3, kt3, nt3, hb]
    refine Ev_in ⟨(by first | omega | (dsimp only; omega) | (dsimp only)), q2.st rfl, fun i a d => ?_⟩ (by first | omega | (dsimp only; omega) | (dsimp only))
    dsimp only at d ⊢
    by_cases e : i = v2
    · subst e; rw [mst_s]
    · rw [mst_j e]; exact q3 i a (by omega)
  · rintro μ3 ⟨w1, w2⟩
    refine Ev_some ⟨(u1.mo (fun x hx => ⟨hx.1, hx.2.1⟩)).tr (w1.mo (fun x hx => by omega)), fun i i0 i1 => ?_, fun i i0 i1 => ?_, fun i i0 i1 => ?_, ?_⟩
    · rw [w1 t (by omega)]; exact u2 i i0 i1
    · rw [w1 _ (by omega)]; exact u4 i i0 i1
    · rw [w1 (t + 2) (by omega), w1 (t + 4) (by omega), w1 (t + 5) (by omega)]
      exact ⟨(u5 i i0 i1).1, w2 i i0 i1, (u5 i i0 i1).2.1, (u5 i i0 i1).2.2⟩
    · unfold LaF; rw [w1 t (by omega), u3 6 (by decide), u3 7 (by decide), u3 8 (by decide), u3 9 (by decide), u3 10 (by decide)]; exact ⟨f6, f7, f8, f9, f10⟩
theorem c_take8 (hKt : StK t) (hFt : StF μ t) (hS : St μ c b) (hd : t + 100 ≤ c ∨ c + 100 ≤ t) : Ev (fX8_take t c μ) (fun μ' => Fw (fun x => t ≤ x ∧ x < t + 100) μ μ' ∧ St μ' t b) := by
  obtain ⟨hKc, hFc, ⟨c1, c2, c3, c4, c5⟩, ct', cl, cs, hA⟩ := hS
  obtain ⟨kt, ⟨kt1, nt1⟩, ⟨kt2, nt2⟩, ⟨kt3, nt3⟩, ktl, kts⟩ := hKt
  obtain ⟨kc, ⟨kc1, nc1⟩, ⟨kc2, nc2⟩, ⟨kc3, nc3⟩, kcl, kcs⟩ := hKc
  obtain ⟨⟨f0, f6, f7⟩, fl, fs⟩ := hFt
  obtain ⟨⟨g0, g6, g7⟩, gl', gs⟩ := hFc
  unfold fX8_take
  simp (disch := omega) only [w32_eq, w64_eq, chk_T, chk_t, lt, lm, ob, Int.add_zero, Int.zero_add, true_and, and_true, if_true, if_false, kt, kc, mst_n, mst_j, g0, f0, kt1, nt1, kc1, nc1, mcp_n]
  have F0 : ∀ ν : Mm, ν = mst (mst (mst (mst (mst (mcp μ (c + 1) 0 (t + 1) 0 700) t 1 (μ c 1)) t 2 (μ c 2)) t 3 (μ c 3)) t 4 (μ c 4)) t 5 (μ c 5) → Fw (fun x => x = t ∨ x = t + 1) μ ν ∧ (ν t 0 = t + 1 ∧ ν t 6 = t + 2 ∧ ν t 7 = t + 3) ∧ (ν t 1 = μ c 1 ∧ ν t 2 = μ c 2 ∧ ν t 3 = μ c 3 ∧ ν t 4 = μ c 4 ∧ ν t 5 = μ c 5) ∧ ∀ i, 0 ≤ i → i < 700 → ν (t + 1) i = μ (c + 1) i := by
    intro ν e
    subst e
    refine ⟨fun x hx => ?_, ⟨?_, ?_, ?_⟩, ⟨?_, ?_, ?_, ?_, ?_⟩, fun i i0 i1 => ?_⟩
    · have nt : x ≠ t := fun e => hx (by omega)
      simp only [mst_n nt]
      rw [mcp_n (fun e => hx (by omega))]
    · simp (disch := omega) only [mst_j, mcp_n]; exact f0
    · simp (disch := omega) only [mst_j, mcp_n]; exact f6
    · simp (disch := omega) only [mst_j, mcp_n]; exact f7
    · simp (disch := omega) only [mst_s, mst_j]
    · simp (disch := omega) only [mst_s, mst_j]
    · simp (disch := omega) only [mst_s, mst_j]
    · simp (disch := omega) only [mst_s, mst_j]
    · simp (disch := omega) only [mst_s, mst_j]
    · simp (disch := omega) only [mst_n]; rw [mcp_i ⟨i0, i1⟩]
  have F1 := F0 _ rfl
  generalize mst (mst (mst (mst (mst (mcp μ (c + 1) 0 (t + 1) 0 700) t 1 (μ c 1)) t 2 (μ c 2)) t 3 (μ c 3)) t 4 (μ c 4)) t 5 (μ c 5) = ν at *
  clear F0
  obtain ⟨u1, ⟨u0, u6, u7⟩, u3, u4⟩ := F1
  refine Ev_bind (Ev_lop (P := fun μ' => Fw (fun x => t + 10 ≤ x ∧ x < t + 40) ν μ' ∧ ∀ n, 0 ≤ n → n < 2 → LaC μ μ' (t + 10 + 10 * n) (c + 10 + 10 * n)) (fun q => (0 ≤ q.1 ∧ q.1 ≤ 2) ∧ Fw (fun x => t + 10 ≤ x ∧ x < t + 40) ν q.2 ∧ (∀ n, 0 ≤ n → n < q.1 → LaC μ q.2 (t + 10 + 10 * n) (c + 10 + 10 * n)) ∧ ∀ n, q.1 ≤ n → n < 2 → LaF q.2 (t + 10 + 10 * n)) (fun q => (2 - q.1).toNat) ⟨(by first | omega | (dsimp only; omega) | (dsimp only)), Fw.rf, fun i a c => by dsimp only at c; omega, fun n n0 n1 => by dsimp only at n0 ⊢; unfold LaF; rw [u1 _ (by omega)]; exact (fl n n0 n1).2.1⟩ (by unfold FU; dsimp only; omega) ?_) ?_
  · rintro ⟨v2, μ1⟩ ⟨q1, q2, q3, q4⟩
    dsimp only at q1 q2 q3 q4 ⊢
    unfold sX8_take_58
    dsimp only
    refine Ev_ite (fun w => Ev_out ⟨q2, fun i a c => q3 i a (by omega)⟩) (fun w => ?_)
    have a1 : μ1 t 6 = t + 2 := by rw [q2 t (by omega)]; exact u6
    have a2 : μ1 c = μ c := (q2 c (by omega)).trans (u1 c (by omega))
    have a3 : μ1 (t + 2) v2 = t + 10 + 10 * v2 := by rw [q2 _ (by omega), u1 _ (by omega)]; exact (fl v2 q1.1 (by omega)).1
    have a4 : μ1 (c + 2) v2 = c + 10 + 10 * v2 := by rw [q2 _ (by omega), u1 _ (by omega)]; exact (gl' v2 q1.1 (by omega)).1
    have rc : ∀ x, c + 10 ≤ x → x < c + 40 → μ1 x = μ x := fun x x0 x1 => (q2 x (by omega)).trans (u1 x (by omega))
    have kk := ktl v2 q1.1 (by omega)
    simp (disch := omega) only [w32_eq, w64_eq, chk_T, chk_t, lt, lm, ob, Int.add_zero, Int.zero_add, true_and, and_true, if_true, if_false, kt, kc, a1, a2, g6, kt2, nt2, kc2, nc2, a3, a4, kk.1]
    refine Ev_bind (c_take2 kk (kcl v2 q1.1 (by omega)) (q4 v2 (Int.le_refl _) (by omega)) (by unfold LaF; rw [rc _ (by omega) (by omega)]; exact (gl' v2 q1.1 (by omega)).2.1) (fun i i0 i1 => by rw [rc _ (by omega) (by omega)]; exact (gl' v2 q1.1 (by omega)).2.2 i i0 i1) (by omega)) (fun μ5 ⟨w1, w2⟩ => ?_)
    try simp (disch := omega) only [w32_eq, w64_eq, chk_T, chk_t, lt, lm, ob, Int.add_zero, Int.zero_add, true_and, and_true, if_true, if_false, ]
    refine Ev_in ⟨(by first | omega | (dsimp only; omega) | (dsimp only)), q2.tr (w1.mo (fun x hx => by omega)), fun n n0 n1 => ?_, fun n n0 n1 => ?_⟩ (by first | omega | (dsimp only; omega) | (dsimp only))
    · dsimp only at n1 ⊢
      by_cases e : n = v2
      · subst e
        unfold LaC at w2 ⊢
        rw [rc _ (by omega) (by omega), rc (c + 10 + 10 * n + 1) (by omega) (by omega), rc (c + 10 + 10 * n + 2) (by omega) (by omega), rc (c + 10 + 10 * n + 3) (by omega) (by omega), rc (c + 10 + 10 * n + 4) (by omega) (by omega), rc (c + 10 + 10 * n + 5) (by omega) (by omega)] at w2
        exact w2
      · have o := q3 n n0 (by omega)
        unfold LaC LaF at o ⊢
        rw [w1 (t + 10 + 10 * n) (by omega), w1 (t + 10 + 10 * n + 1) (by omega), w1 (t + 10 + 10 * n + 2) (by omega), w1 (t + 10 + 10 * n + 3) (by omega), w1 (t + 10 + 10 * n + 4) (by omega), w1 (t + 10 + 10 * n + 5) (by omega)]; exact o
    · dsimp only at n0 ⊢
      have o := q4 n (by omega) n1
      unfold LaF at o ⊢
      rw [w1 (t + 10 + 10 * n) (by omega)]; exact o
  · rintro μ3 ⟨w1, w2⟩
    have hs0 : ∀ n, 0 ≤ n → n < 4 → SkF μ3 (t + 40 + 10 * n) := fun n n0 n1 => by
      unfold SkF; rw [w1 _ (by omega), u1 _ (by omega)]; exact (fs n n0 n1).2.1
    refine Ev_bind (Ev_lop (P := fun μ' => Fw (fun x => t + 40 ≤ x ∧ x < t + 80) μ3 μ' ∧ ∀ n, 0 ≤ n → n < 4 → SkC μ μ' (t + 40 + 10 * n) (c + 40 + 10 * n)) (fun q => (0 ≤ q.1 ∧ q.1 ≤ 4) ∧ Fw (fun x => t + 40 ≤ x ∧ x < t + 80) μ3 q.2 ∧ (∀ n, 0 ≤ n → n < q.1 → SkC μ q.2 (t + 40 + 10 * n) (c + 40 + 10 * n)) ∧ ∀ n, q.1 ≤ n → n < 4 → SkF q.2 (t + 40 + 10 * n)) (fun q => (4 - q.1).toNat) ⟨(by first | omega | (dsimp only; omega) | (dsimp only)), Fw.rf, fun i a c => by dsimp only at c; omega, fun n n0 n1 => hs0 n n0 n1⟩ (by unfold FU; dsimp only; omega) ?_) ?_
    · rintro ⟨v2, μ1⟩ ⟨q1, q2, q3, q4⟩
      dsimp only at q1 q2 q3 q4 ⊢
      unfold sX8_take_86
      dsimp only
      refine Ev_ite (fun w => Ev_out ⟨q2, fun i a c => q3 i a (by omega)⟩) (fun w => ?_)
      have a1 : μ1 t 7 = t + 3 := by rw [q2 t (by omega), w1 t (by omega)]; exact u7
      have a2 : μ1 c = μ c := (q2 c (by omega)).trans ((w1 c (by omega)).trans (u1 c (by omega)))
      have a3 : μ1 (t + 3) v2 = t + 40 + 10 * v2 := by rw [q2 _ (by omega), w1 _ (by omega), u1 _ (by omega)]; exact (fs v2 q1.1 (by omega)).1
      have a4 : μ1 (c + 3) v2 = c + 40 + 10 * v2 := by rw [q2 _ (by omega), w1 _ (by omega), u1 _ (by omega)]; exact (gs v2 q1.1 (by omega)).1
      have rc : ∀ x, c + 40 ≤ x → x < c + 80 → μ1 x = μ x := fun x x0 x1 => (q2 x (by omega)).trans ((w1 x (by omega)).trans (u1 x (by omega)))
      have kk := kts v2 q1.1 (by omega)
      simp (disch := omega) only [w32_eq, w64_eq, chk_T, chk_t, lt, lm, ob, Int.add_zero, Int.zero_add, true_and, and_true, if_true, if_false, kt, kc, a1, a2, g7, kt3, nt3, kc3, nc3, a3, a4, kk.1]
      refine Ev_bind (c_take6 kk (kcs v2 q1.1 (by omega)) (q4 v2 (Int.le_refl _) (by omega)) (by unfold SkF; rw [rc _ (by omega) (by omega)]; exact (gs v2 q1.1 (by omega)).2.1) (by unfold SkB; rw [rc _ (by omega) (by omega)]; exact (gs v2 q1.1 (by omega)).2.2) (by omega)) (fun μ5 ⟨x1, x2⟩ => ?_)
      try simp (disch := omega) only [w32_eq, w64_eq, chk_T, chk_t, lt, lm, ob, Int.add_zero, Int.zero_add, true_and, and_true, if_true, if_false, ]
      refine Ev_in ⟨(by first | omega | (dsimp only; omega) | (dsimp only)), q2.tr (x1.mo (fun x hx => by omega)), fun n n0 n1 => ?_, fun n n0 n1 => ?_⟩ (by first | omega | (dsimp only; omega) | (dsimp only))
      · dsimp only at n1 ⊢
        by_cases e : n = v2
        · subst e
          unfold SkC
          rw [rc _ (by omega) (by omega), rc (c + 40 + 10 * n + 1) (by omega) (by omega), rc (c + 40 + 10 * n + 2) (by omega) (by omega)] at x2
          exact x2
        · have o := q3 n n0 (by omega)
          unfold SkC SkF at o ⊢
          rw [x1 (t + 40 + 10 * n) (by omega), x1 (t + 40 + 10 * n + 1) (by omega), x1 (t + 40 + 10 * n + 2) (by omega)]; exact o
      · dsimp only at n0 ⊢
        have o := q4 n (by omega) n1
        unfold SkF at o ⊢
        rw [x1 (t + 40 + 10 * n) (by omega)]; exact o
    · rintro μ4 ⟨x1, x2⟩
      have r : ∀ x, t ≤ x → x < t + 10 → μ4 x = ν x := fun x y0 y1 => (x1 x (by omega)).trans (w1 x (by omega))
      have rl : ∀ x, t + 10 ≤ x → x < t + 40 → μ4 x = μ3 x := fun x y0 y1 => x1 x (by omega)
      have LC : ∀ n, 0 ≤ n → n < 2 → LaC μ μ4 (t + 10 + 10 * n) (c + 10 + 10 * n) := fun n n0 n1 => by
        have o := w2 n n0 n1
        unfold LaC LaF at o ⊢
        rw [rl (t + 10 + 10 * n) (by omega) (by omega), rl (t + 10 + 10 * n + 1) (by omega) (by omega), rl (t + 10 + 10 * n + 2) (by omega) (by omega), rl (t + 10 + 10 * n + 3) (by omega) (by omega), rl (t + 10 + 10 * n + 4) (by omega) (by omega), rl (t + 10 + 10 * n + 5) (by omega) (by omega)]; exact o
      have a0 := hA.1; have a1 := hA.2.1
      refine Ev_some ⟨((u1.mo (fun x hx => by omega)).tr (w1.mo (fun x hx => by omega))).tr (x1.mo (fun x hx => by omega)), ⟨kt, ⟨kt1, nt1⟩, ⟨kt2, nt2⟩, ⟨kt3, nt3⟩, ktl, kts⟩, ⟨?_, fun n n0 n1 => ⟨?_, (LC n n0 n1).2.2.2, fun i i0 i1 => ?_⟩, fun n n0 n1 => ⟨?_, (x2 n n0 n1).2.2, ?_⟩⟩, ?_, fun i i0 i1 => ?_, fun n n0 n1 => ?_, fun n n0 n1 => ?_, hA⟩
      · rw [r t (by omega) (by omega)]; exact ⟨u0, u6, u7⟩
      · rw [r _ (by omega) (by omega), u1 _ (by omega)]; exact (fl n n0 n1).1
      · rw [((LC n n0 n1).2.2.1 i i0 i1).2.1]; exact (gl' n n0 n1).2.2 i i0 i1
      · rw [r _ (by omega) (by omega), u1 _ (by omega)]; exact (fs n n0 n1).1
      · have o := x2 n n0 n1
        unfold SkB; rw [o.1 2 (by decide) (by decide), o.1 3 (by decide) (by decide), o.1 4 (by decide) (by decide)]; exact (gs n n0 n1).2.2
      · rw [r t (by omega) (by omega), u3.1, u3.2.1, u3.2.2.1, u3.2.2.2.1, u3.2.2.2.2]; exact ⟨c1, c2, c3, c4, c5⟩
      · rw [r _ (by omega) (by omega), u4 i i0 i1]; exact ct' i i0 i1
      · exact La_C (LC n n0 (by omega)) (ktl n n0 (by omega)) (cl n n0 n1) (hA.2.2.2.2.1 n n0 n1).t.2
      · exact Sk_C (x2 n n0 (by omega)) (kts n n0 (by omega)) (cs n n0 n1) (hA.2.2.2.2.2.1 n n0 n1).1.2
end
