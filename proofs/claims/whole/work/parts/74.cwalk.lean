/-! ===== the class walks ===== -/
def Wv (E : Int → Int → Prop) (S : Int → Prop) (st qu : Int → Int) (len hd : Int) : Prop := Bf E S st qu len hd ∧ (∀ i, 0 ≤ i → i < hd → Dn E st (qu i)) ∧ ∀ q, S q → st q = 0
theorem Wv_step {E : Int → Int → Prop} {S : Int → Prop} {st qu st' qu' : Int → Int} {len hd q : Int} (h : Wv E S st qu len hd) (hl : hd < len) (hq : 0 ≤ q ∧ q < 144) (he : E (qu hd) q) (h1 : st q = -1) (e1 : st' q = st (qu hd) + 1) (e2 : ∀ x, x ≠ q → st' x = st x) (e3 : qu' len = q) (e4 : ∀ x, x ≠ len → qu' x = qu x) : Wv E S st' qu' (len + 1) hd ∧ (∀ i, 0 ≤ i → i < len → qu' i = qu i ∧ st' (qu i) = st (qu i)) := by
  obtain ⟨hB, hD, h0⟩ := h
  have k0 := hB.1.1
  have kh := hB.2.1 hd k0 hl
  have hw : wk E S (st (qu hd) + 1).toNat q := by
    rw [show (st (qu hd) + 1).toNat = (st (qu hd)).toNat + 1 by omega]
    exact .inr ⟨qu hd, kh.2.2, he⟩
  obtain ⟨hB', old⟩ := Bf_add hB hq h1 (by omega) (hB.2.2.2.2 hl) (fun _ => by omega) (fun z => by omega) hw e1 e2 e3 e4
  refine ⟨⟨hB', fun i i0 i1 => ?_, fun x hx => ?_⟩, old⟩
  · rw [(old i i0 (by omega)).1]
    exact Dn_add (hD i i0 i1) (by have := (hB.2.1 i i0 (by omega)).2.1; omega) h1 e1 e2
  · have := h0 x hx
    rw [e2 x (fun e => by subst e; omega)]; exact this
/-- the sources so far -/
def Wq (E : Int → Int → Prop) (S : Int → Prop) (st qu : Int → Int) (len : Int) (D : Int → Prop) : Prop := Bf E S st qu len 0 ∧ (∀ i, 0 ≤ i → i < len → st (qu i) = 0) ∧ ∀ q, D q → st q = 0
theorem Wq_step {E : Int → Int → Prop} {S D D' : Int → Prop} {st qu st' qu' : Int → Int} {len q : Int} (h : Wq E S st qu len D) (hq : 0 ≤ q ∧ q < 144) (hs : S q) (h1 : st q = -1) (e1 : st' q = 0) (e2 : ∀ x, x ≠ q → st' x = st x) (e3 : qu' len = q) (e4 : ∀ x, x ≠ len → qu' x = qu x) (hd : ∀ x, D' x → D x ∨ x = q) : Wq E S st' qu' (len + 1) D' := by
  obtain ⟨hB, hD, h0⟩ := h
  obtain ⟨hB', old⟩ := Bf_add hB hq h1 (Int.le_refl 0) (fun j j0 j1 => by rw [hD j j0 j1]; omega) (fun w => by rw [hD 0 (by omega) w]; omega) (fun z => rfl) hs e1 e2 e3 e4
  refine ⟨hB', fun i i0 i1 => ?_, fun x hx => ?_⟩
  · by_cases z : i = len
    · rw [z, e3, e1]
    · obtain ⟨o1, o2⟩ := old i i0 (by omega)
      rw [o1, o2]; exact hD i i0 (by omega)
  · rcases hd x hx with w | w
    · have := h0 x w
      rw [e2 x (fun e => by subst e; omega)]; exact this
    · rw [w, e1]
theorem Wq_no {E : Int → Int → Prop} {S D D' : Int → Prop} {st qu : Int → Int} {len : Int} (h : Wq E S st qu len D) (hd : ∀ x, D' x → D x ∨ ((0 ≤ x ∧ x < 144) ∧ st x ≠ -1)) : Wq E S st qu len D' := by
  refine ⟨h.1, h.2.1, fun x hx => ?_⟩
  rcases hd x hx with w | w
  · exact h.2.2 x w
  · obtain ⟨i, i0, i1, i2⟩ := h.1.2.2.1 x w.1.1 w.1.2 w.2
    rw [← i2]; exact h.2.1 i i0 i1
theorem Wq_v {E : Int → Int → Prop} {S : Int → Prop} {st qu : Int → Int} {len : Int} (h : Wq E S st qu len S) : Wv E S st qu len 0 := ⟨h.1, fun i i0 i1 => by omega, h.2.2⟩
def wR (x : Int) : Prop := 300 ≤ x ∧ x ≤ 304
def wQ (x : Int) : Prop := x = 300 ∨ x = 302 ∨ x = 303
def Ws (μ : Mm) (c cl : Int) (g : Int → Int) (sh : Int → Prop) : Prop := WkF μ ∧ (μ 300 0 = c ∧ μ 300 1 = cl) ∧ La μ c g ∧ (1000 ≤ c ∧ ∀ q, 0 ≤ q → q < 144 → μ 301 q = bi (sh q))
section
variable {μ μ' : Mm} {b : Int → Int} {vb c cl n p q : Int} {g : Int → Int} {sh S T : Int → Prop}
theorem Ca.wk (h : Ca μ b vb) (f : Fw wR μ μ') (F : WkF μ') : Ca μ' b vb := by
  obtain ⟨⟨a, c, d, e, g, i⟩, hs⟩ := h
  refine ⟨⟨a.fw f (fun x x0 x1 => by unfold wR; omega), c.fw f (by unfold wR; omega), ?_, F, ?_, i.e (f 101 (by unfold wR; omega)) (fun x a b => by rw [f 0 (by unfold wR; omega)])⟩, fun n h0 h1 => (hs n h0 h1).fw f (by rw [f 102 (by unfold wR; omega)]) (fun x a b => by unfold wR; omega) (fun x a b => by rw [f 0 (by unfold wR; omega)])⟩
  · unfold FtF; rw [f 250 (by unfold wR; omega)]; exact d
  · unfold SkF; rw [f 290 (by unfold wR; omega)]; exact g
theorem Bd_wk (f : Fw wR μ μ') : Bd μ' = Bd μ := Bd_e (f 101 (by unfold wR; omega)) (f 102 (by unfold wR; omega)) (f 10002 (by unfold wR; omega)) (f 12002 (by unfold wR; omega))
theorem Rq_wk {x : Int} (h : wR x) : Rq x := by unfold wR at h; unfold Rq; omega
theorem wQR {x : Int} (h : wQ x) : wR x := by unfold wQ at h; unfold wR; omega
theorem c_ready (hF : WkF μ) : Ev (fX9_ready 300 c cl μ) (fun μ' => Fw wR μ μ' ∧ WkF μ' ∧ (μ' 300 0 = c ∧ μ' 300 1 = cl) ∧ μ' 300 6 = 0 ∧ (∀ q, 0 ≤ q → q < 144 → μ' 301 q = 0) ∧ ∀ q, 0 ≤ q → q < 144 → μ' 302 q = -1) := by
  obtain ⟨w2, w3, w4, w5⟩ := hF
  unfold fX9_ready
  simp (disch := omega) only [w32_eq, w64_eq, chk_T, chk_t, lt, lm, ob, Int.add_zero, Int.zero_add, true_and, and_true, if_true, if_false, K100, K101, K102, K103, K104, K200, K201, K230, K231, K232, K233, K234, K235, K236, K237, K250, K251, K252, K253, K254, K300, K301, K302, K303, K304, N101, N102, N103, N104, N201, N232, N233, N234, N235, N236, N237, N251, N252, N253, N254, N301, N302, N303, N304, mst_s, mst_j, mst_n, w2]
  refine Ev_bind (c_wipe (a := 301) (by omega)) (fun μ1 ⟨f1, z1⟩ => ?_)
  have r1 : μ1 300 = mst (mst (mst μ 300 0 c) 300 1 cl) 300 6 0 300 := f1 300 (by omega)
  simp (disch := omega) only [w32_eq, w64_eq, chk_T, chk_t, lt, lm, ob, Int.add_zero, Int.zero_add, true_and, and_true, if_true, if_false, K100, K101, K102, K103, K104, K200, K201, K230, K231, K232, K233, K234, K235, K236, K237, K250, K251, K252, K253, K254, K300, K301, K302, K303, K304, N101, N102, N103, N104, N201, N232, N233, N234, N235, N236, N237, N251, N252, N253, N254, N301, N302, N303, N304, r1, mst_s, mst_j, mst_n, w3]
  refine Ev_bind (c_fill (by decide) (by rw [N302]; omega)) (fun μ2 ⟨f2, z2, _⟩ => ?_)
  have r2 : μ2 300 = mst (mst (mst μ 300 0 c) 300 1 cl) 300 6 0 300 := (f2 300 (by omega)).trans r1
  rw [N302] at z2
  refine Ev_some ⟨?_, ?_, ?_, ?_, fun q a b => ?_, z2⟩
  · exact (((Fw.rf.st (by unfold wR; omega)).st (by unfold wR; omega)).st (by unfold wR; omega)).tr ((f1.mo (fun x hx => by unfold wR; omega)).tr (f2.mo (fun x hx => by unfold wR; omega)))
  · unfold WkF; rw [r2]; simp (disch := omega) only [mst_s, mst_j]; exact ⟨w2, w3, w4, w5⟩
  · rw [r2]; simp (disch := omega) only [mst_s, mst_j]; exact ⟨trivial, trivial⟩
  · rw [r2, mst_s]
  · rw [f2 301 (by omega)]; exact z1 q a b
theorem c_enqNo (h : Ws μ c cl g sh) (hL : LdOk g) (hq : ¬Pl g q ∨ sh q ∨ μ 302 q ≠ -1) (n : Int) : fX9_enqueue 300 q n μ = some μ := by
  obtain ⟨⟨w2, w3, w4, w5⟩, ⟨e0, e1⟩, hA, c0, hs⟩ := h
  unfold fX9_enqueue
  simp (disch := omega) only [w32_eq, w64_eq, chk_T, chk_t, lt, lm, ob, Int.add_zero, Int.zero_add, true_and, and_true, if_true, if_false, K100, K101, K102, K103, K104, K200, K201, K230, K231, K232, K233, K234, K235, K236, K237, K250, K251, K252, K253, K254, K300, K301, K302, K303, K304, N101, N102, N103, N104, N201, N232, N233, N234, N235, N236, N237, N251, N252, N253, N254, N301, N302, N303, N304, e0, La_k hA, c_has hA hL]
  by_cases hp : Pl g q
  · have bq := Pl.i hL hp
    rw [bi_t hp, if_neg (by decide)]
    simp (disch := omega) only [w32_eq, w64_eq, chk_T, chk_t, lt, lm, ob, Int.add_zero, Int.zero_add, true_and, and_true, if_true, if_false, K100, K101, K102, K103, K104, K200, K201, K230, K231, K232, K233, K234, K235, K236, K237, K250, K251, K252, K253, K254, K300, K301, K302, K303, K304, N101, N102, N103, N104, N201, N232, N233, N234, N235, N236, N237, N251, N252, N253, N254, N301, N302, N303, N304, w2, hs q bq.1 bq.2, w3]
    by_cases z : sh q
    · rw [bi_t z, if_neg (by decide)]
    · rw [bi_f z, if_pos rfl, if_neg (by rcases hq with w | w | w; exact absurd hp w; exact absurd w z; exact w)]
  · rw [bi_f hp, if_pos rfl]
theorem c_enqYes (h : Ws μ c cl g sh) (hL : LdOk g) (hq : Pl g q) (h1 : ¬sh q) (h2 : μ 302 q = -1) (hl : 0 ≤ μ 300 6 ∧ μ 300 6 < 144) (n : Int) : fX9_enqueue 300 q n μ = some (mst (mst (mst μ 302 q n) 303 (μ 300 6) q) 300 6 (μ 300 6 + 1)) := by
  obtain ⟨⟨w2, w3, w4, w5⟩, ⟨e0, e1⟩, hA, c0, hs⟩ := h
  have bq := Pl.i hL hq
  unfold fX9_enqueue
  simp (disch := omega) only [w32_eq, w64_eq, chk_T, chk_t, lt, lm, ob, Int.add_zero, Int.zero_add, true_and, and_true, if_true, if_false, K100, K101, K102, K103, K104, K200, K201, K230, K231, K232, K233, K234, K235, K236, K237, K250, K251, K252, K253, K254, K300, K301, K302, K303, K304, N101, N102, N103, N104, N201, N232, N233, N234, N235, N236, N237, N251, N252, N253, N254, N301, N302, N303, N304, e0, La_k hA, c_has hA hL, bi_t hq, w2, hs q bq.1 bq.2, bi_f h1, w3, h2]
  rw [if_neg (by decide), if_neg (by omega)]
  simp (disch := omega) only [w32_eq, w64_eq, chk_T, chk_t, lt, lm, ob, Int.add_zero, Int.zero_add, true_and, and_true, if_true, if_false, K100, K101, K102, K103, K104, K200, K201, K230, K231, K232, K233, K234, K235, K236, K237, K250, K251, K252, K253, K254, K300, K301, K302, K303, K304, N101, N102, N103, N104, N201, N232, N233, N234, N235, N236, N237, N251, N252, N253, N254, N301, N302, N303, N304, mst_n, mst_s, w4]
theorem Ws.enq {i j v x : Int} (h : Ws μ c cl g sh) : Ws (mst (mst (mst μ 302 q n) 303 i v) 300 6 x) c cl g sh := by
  obtain ⟨w, e, hA, c0, hs⟩ := h
  refine ⟨?_, ?_, hA.fw (R := wQ) (((Fw.rf.st (by unfold wQ; omega)).st (by unfold wQ; omega)).st (by unfold wQ; omega)) (fun x a b => by unfold wQ; omega), c0, ?_⟩
  · unfold WkF; simp (disch := omega) only [mst_n, mst_s, mst_j, ]; exact w
  · simp (disch := omega) only [mst_n, mst_s, mst_j, ]; exact e
  · simp (disch := omega) only [mst_n, mst_s, mst_j, ]; exact hs
theorem Fw.enq {i v x : Int} {μ0 : Mm} (h : Fw wQ μ0 μ) : Fw wQ μ0 (mst (mst (mst μ 302 q n) 303 i v) 300 6 x) := ((h.st (by unfold wQ; omega)).st (by unfold wQ; omega)).st (by unfold wQ; omega)
theorem We_P (h : We g cl sh p q) (hL : LdOk g) : 0 ≤ q ∧ q < 144 := Pl.i hL h.2.1.2
theorem iabs_le {x k : Int} (h : -1000000 ≤ x ∧ x ≤ 1000000) : k < iabs x ↔ ¬(x ≤ k ∧ -k ≤ x) := by
  unfold iabs
  split
  · omega
  · rw [w32_eq (by omega) (by omega)]; omega
/-- one side after the other -/
theorem c_sides {v1 : Int} {hd : Int} (hW : Ws μ c cl g sh) (hL : LdOk g) (hS : ∀ q, S q → Pl g q) (hV : Wv (We g cl sh) S (μ 302) (μ 303) (μ 300 6) hd) (hl : hd < μ 300 6) (hp : μ 303 hd = p) : Ev (lop (sX9_walkTo_50 300 v1 hd p) FU (0, μ)) (fun μ' => Fw wQ μ μ' ∧ Ws μ' c cl g sh ∧ Wv (We g cl sh) S (μ' 302) (μ' 303) (μ' 300 6) (hd + 1) ∧ ∀ i, 0 ≤ i → i ≤ hd → μ' 303 i = μ 303 i) := by
  have hE : ∀ p q, We g cl sh p q → Pl g q := fun p q h => h.2.1.2
  refine Ev_lop (fun t => (0 ≤ t.1 ∧ t.1 ≤ 4) ∧ Fw wQ μ t.2 ∧ Ws t.2 c cl g sh ∧ Wv (We g cl sh) S (t.2 302) (t.2 303) (t.2 300 6) hd ∧ (hd < t.2 300 6 ∧ ∀ i, 0 ≤ i → i ≤ hd → t.2 303 i = μ 303 i) ∧ ∀ k, 0 ≤ k → k < t.1 → We g cl sh p (nb g p k) → t.2 302 (nb g p k) ≠ -1 ∧ t.2 302 (nb g p k) ≤ t.2 302 p + 1) (fun t => (4 - t.1).toNat) ⟨(by first | omega | (dsimp only; omega) | (dsimp only)), Fw.rf, hW, hV, ⟨hl, fun _ _ _ => rfl⟩, fun k a b => by omega⟩ (by unfold FU; dsimp only; omega) ?_
  rintro ⟨v4, μ1⟩ ⟨h1, f1, W1, V1, ⟨l1, q1⟩, d1⟩
  dsimp only at h1 f1 W1 V1 l1 q1 d1 ⊢
  unfold sX9_walkTo_50
  dsimp only
  have p1 : μ1 303 hd = p := (q1 hd V1.1.1.1 (by omega)).trans hp
  have kh := V1.1.2.1 hd V1.1.1.1 l1
  rw [p1] at kh
  have hP : Pl g p := wk_p hS hE _ _ kh.2.2
  have bp := Pl.i hL hP
  have ll := Bf_len V1.1
  refine Ev_ite (fun w => Ev_out ⟨f1, W1, ⟨Bf_next V1.1 l1, fun i i0 i1 => ?_, V1.2.2⟩, q1⟩) (fun w => ?_)
  · by_cases z : i = hd
    · subst z; rw [p1]
      rintro q ⟨⟨k, hk, e⟩, r⟩
      subst e
      exact d1 k hk.1 (by omega) ⟨⟨k, hk, rfl⟩, r⟩
    · exact V1.2.1 i i0 (by omega)
  · have e0 := W1.2.1.1; have e1 := W1.2.1.2; have hA := W1.2.2.1
    have go : ∀ μ2 : Mm, Fw wQ μ μ2 → Ws μ2 c cl g sh → Wv (We g cl sh) S (μ2 302) (μ2 303) (μ2 300 6) hd → (hd < μ2 300 6 ∧ ∀ i, 0 ≤ i → i ≤ hd → μ2 303 i = μ 303 i) → (∀ k, 0 ≤ k → k < v4 + 1 → We g cl sh p (nb g p k) → μ2 302 (nb g p k) ≠ -1 ∧ μ2 302 (nb g p k) ≤ μ2 302 p + 1) → Ev (some (Sum.inl (v4 + 1, μ2) : (Int × Mm) ⊕ Mm)) (Nx (fun t => (0 ≤ t.1 ∧ t.1 ≤ 4) ∧ Fw wQ μ t.2 ∧ Ws t.2 c cl g sh ∧ Wv (We g cl sh) S (t.2 302) (t.2 303) (t.2 300 6) hd ∧ (hd < t.2 300 6 ∧ ∀ i, 0 ≤ i → i ≤ hd → t.2 303 i = μ 303 i) ∧ ∀ k, 0 ≤ k → k < t.1 → We g cl sh p (nb g p k) → t.2 302 (nb g p k) ≠ -1 ∧ t.2 302 (nb g p k) ≤ t.2 302 p + 1) (fun t => (4 - t.1).toNat) (fun μ' => Fw wQ μ μ' ∧ Ws μ' c cl g sh ∧ Wv (We g cl sh) S (μ' 302) (μ' 303) (μ' 300 6) (hd + 1) ∧ ∀ i, 0 ≤ i → i ≤ hd → μ' 303 i = μ 303 i) (4 - v4).toNat) := fun μ2 a b c d e => Ev_in ⟨(by first | omega | (dsimp only; omega) | (dsimp only)), a, b, c, d, e⟩ (by first | omega | (dsimp only; omega) | (dsimp only))
    have no : (We g cl sh p (nb g p v4) → μ1 302 (nb g p v4) ≠ -1 ∧ μ1 302 (nb g p v4) ≤ μ1 302 p + 1) → _ := fun hh => go μ1 f1 W1 V1 ⟨l1, q1⟩ (fun k a b => by
      by_cases z : k = v4
      · subst z; exact hh
      · exact d1 k a (by omega))
    simp (disch := omega) only [w32_eq, w64_eq, chk_T, chk_t, lt, lm, ob, Int.add_zero, Int.zero_add, true_and, and_true, if_true, if_false, K100, K101, K102, K103, K104, K200, K201, K230, K231, K232, K233, K234, K235, K236, K237, K250, K251, K252, K253, K254, K300, K301, K302, K303, K304, N101, N102, N103, N104, N201, N232, N233, N234, N235, N236, N237, N251, N252, N253, N254, N301, N302, N303, N304, e0, La_k hA, c_neighbour hA hL hP, c_has hA hL, bi_t hP]
    rw [if_neg (by decide)]
    by_cases hq : Pl g (nb g p v4)
    · have bq := Pl.i hL hq
      have g1 := hL.hh bp.1 bp.2; have g2 := hL.hh bq.1 bq.2
      rw [bi_t hq, if_neg (by decide)]
      simp (disch := omega) only [w32_eq, w64_eq, chk_T, chk_t, lt, lm, ob, Int.add_zero, Int.zero_add, true_and, and_true, if_true, if_false, K100, K101, K102, K103, K104, K200, K201, K230, K231, K232, K233, K234, K235, K236, K237, K250, K251, K252, K253, K254, K300, K301, K302, K303, K304, N101, N102, N103, N104, N201, N232, N233, N234, N235, N236, N237, N251, N252, N253, N254, N301, N302, N303, N304, La_k hA, La_k1 hA, La_n1 hA, La_k2 hA, La_n2 hA, La_k3 hA, La_n3 hA, La_k4 hA, La_n4 hA, La_k5 hA, La_n5 hA, La_f6 hA, La_f7 hA, La_f8 hA, La_f9 hA, La_f10 hA, La_0 hA, La_1 hA, La_2 hA, La_3 hA, La_4 hA, La_5 hA, La_h hA, La_a hA, La_t hA, La_fr hA, La_to hA, e1, W1.1.2.1]
      by_cases hc : g (6 + nb g p v4) - g (6 + p) ≤ cl ∧ -cl ≤ g (6 + nb g p v4) - g (6 + p)
      · rw [if_neg (fun z => (iabs_le (by omega)).mp z hc)]
        by_cases hs : sh (nb g p v4)
        · rw [c_enqNo W1 hL (.inr (.inl hs))]
          exact no (fun w => absurd hs w.2.2.2)
        · have he : We g cl sh p (nb g p v4) := ⟨⟨v4, by omega, rfl⟩, ⟨hP, hq⟩, hc, hs⟩
          by_cases hm : μ1 302 (nb g p v4) = -1
          · have rm := Bf_room V1.1 bq hm
            rw [c_enqYes W1 hL hq hs hm (by omega)]
            simp only [ob]
            obtain ⟨V2, old⟩ := Wv_step (st' := mst (mst (mst μ1 302 (nb g p v4) (μ1 302 p + 1)) 303 (μ1 300 6) (nb g p v4)) 300 6 (μ1 300 6 + 1) 302) (qu' := mst (mst (mst μ1 302 (nb g p v4) (μ1 302 p + 1)) 303 (μ1 300 6) (nb g p v4)) 300 6 (μ1 300 6 + 1) 303) V1 l1 bq (by rw [p1]; exact he) hm (by rw [p1]; simp (disch := omega) only [mst_n, mst_s, mst_j, ]) (fun x hx => by simp (disch := omega) only [mst_n, mst_s, mst_j, ]) (by simp (disch := omega) only [mst_n, mst_s, mst_j, ]) (fun x hx => by simp (disch := omega) only [mst_n, mst_s, mst_j, ])
            have o1 := (old hd V1.1.1.1 l1).2
            rw [p1] at o1
            refine go _ f1.enq (Ws.enq (j := 0) W1) (by rw [mst_s]; exact V2) ⟨by rw [mst_s]; omega, fun i i0 i1 => ?_⟩ (fun k a b he2 => ?_)
            · rw [(old i i0 (by omega)).1]; exact q1 i i0 i1
            · rw [o1]
              by_cases z : nb g p k = nb g p v4
              · rw [z]; simp (disch := omega) only [mst_n, mst_s, mst_j, ]; omega
              · have := d1 k a (by apply Classical.byContradiction; intro ng; exact z (by rw [show k = v4 by omega])) he2
                rw [mst_n (by decide), mst_n (by decide), mst_j z]; exact this
          · rw [c_enqNo W1 hL (.inr (.inr hm))]
            refine no (fun _ => ⟨hm, ?_⟩)
            obtain ⟨i, i0, i1, i2⟩ := V1.1.2.2.1 _ bq.1 bq.2 hm
            have := V1.1.2.2.2.2 l1 i i0 i1
            rw [i2, p1] at this; exact this
      · rw [if_pos ((iabs_le (by omega)).mpr hc)]
        exact no (fun w => absurd w.2.2.1 hc)
    · rw [bi_f hq, if_pos rfl]
      try simp (disch := omega) only [w32_eq, w64_eq, chk_T, chk_t, lt, lm, ob, Int.add_zero, Int.zero_add, true_and, and_true, if_true, if_false, ]
      exact no (fun w => absurd w.2.1.2 hq)
theorem c_walkTo (hW : Ws μ c cl g sh) (hL : LdOk g) (hS : ∀ q, S q → Pl g q) (hV : Wv (We g cl sh) S (μ 302) (μ 303) (μ 300 6) 0) (hT : ∀ q, 0 ≤ q → q < 144 → μ 104 q = bi (T q)) : Ev (fX9_walkTo 300 104 μ) (fun r => Fw wR μ r.2 ∧ WkF r.2 ∧ DG (We g cl sh) S T r.1) := by
  have hE : ∀ p q, We g cl sh p q → Pl g q := fun p q h => h.2.1.2
  have hE' : ∀ p q, We g cl sh p q → 0 ≤ q ∧ q < 144 := fun p q h => Pl.i hL h.2.1.2
  have hS' : ∀ q, S q → 0 ≤ q ∧ q < 144 := fun q h => Pl.i hL (hS q h)
  unfold fX9_walkTo
  refine Ev_bind (Ev_lop (P := fun x => match x with | .inl μ' => Fw wQ μ μ' ∧ WkF μ' ∧ DG (We g cl sh) S T (-1) | .inr (q, μ') => Fw wQ μ μ' ∧ WkF μ' ∧ (0 ≤ q ∧ q < 144) ∧ DG (We g cl sh) S T (μ' 302 q)) (fun t => Fw wQ μ t.2 ∧ Ws t.2 c cl g sh ∧ Wv (We g cl sh) S (t.2 302) (t.2 303) (t.2 300 6) t.1 ∧ ∀ i, 0 ≤ i → i < t.1 → ¬T (t.2 303 i)) (fun t => (144 - t.1).toNat) ⟨Fw.rf, hW, hV, fun i a b => by omega⟩ (by unfold FU; dsimp only; omega) ?_) ?_
  · rintro ⟨v2, μ1⟩ ⟨f1, W1, V1, t1⟩
    dsimp only at f1 W1 V1 t1 ⊢
    have ll := Bf_len V1.1; have h0 := V1.1.1.1; have h1 := V1.1.1.2.1
    have r104 : μ1 104 = μ 104 := f1 104 (by unfold wQ; omega)
    unfold sX9_walkTo_2
    dsimp only
    simp (disch := omega) only [w32_eq, w64_eq, chk_T, chk_t, lt, lm, ob, Int.add_zero, Int.zero_add, true_and, and_true, if_true, if_false, K100, K101, K102, K103, K104, K200, K201, K230, K231, K232, K233, K234, K235, K236, K237, K250, K251, K252, K253, K254, K300, K301, K302, K303, K304, N101, N102, N103, N104, N201, N232, N233, N234, N235, N236, N237, N251, N252, N253, N254, N301, N302, N303, N304, ]
    refine Ev_ite (fun w => Ev_out ⟨f1, W1.1, Bf_none V1.1 hS' hE' V1.2.1 V1.2.2 t1 w⟩) (fun w => ?_)
    have kh := V1.1.2.1 v2 h0 (by omega)
    have hP : Pl g (μ1 303 v2) := wk_p hS hE _ _ kh.2.2
    rw [if_neg (by omega)]
    simp (disch := omega) only [w32_eq, w64_eq, chk_T, chk_t, lt, lm, ob, Int.add_zero, Int.zero_add, true_and, and_true, if_true, if_false, K100, K101, K102, K103, K104, K200, K201, K230, K231, K232, K233, K234, K235, K236, K237, K250, K251, K252, K253, K254, K300, K301, K302, K303, K304, N101, N102, N103, N104, N201, N232, N233, N234, N235, N236, N237, N251, N252, N253, N254, N301, N302, N303, N304, W1.1.2.2.1]
    rw [if_neg (by omega)]
    try simp (disch := omega) only [w32_eq, w64_eq, chk_T, chk_t, lt, lm, ob, Int.add_zero, Int.zero_add, true_and, and_true, if_true, if_false, ]
    rw [if_neg (by omega), r104, hT _ kh.1.1 kh.1.2]
    by_cases z : T (μ1 303 v2)
    · rw [bi_t z, if_neg (by decide)]
      exact Ev_out ⟨f1, W1.1, kh.1, Bf_stop V1.1 hS' hE' V1.2.1 V1.2.2 t1 (by omega) z⟩
    · rw [bi_f z, if_pos rfl]
      unfold jX9_walkTo_47
      refine Ev_bind (c_sides W1 hL hS V1 (by omega) rfl) (fun μ2 ⟨f2, W2, V2, q2⟩ => ?_)
      try simp (disch := omega) only [w32_eq, w64_eq, chk_T, chk_t, lt, lm, ob, Int.add_zero, Int.zero_add, true_and, and_true, if_true, if_false, ]
      refine Ev_in ⟨f1.tr f2, W2, V2, fun i i0 i1 => ?_⟩ (by first | omega | (dsimp only; omega) | (dsimp only))
      dsimp only at i1 ⊢
      rw [q2 i i0 (by omega)]
      by_cases y : i = v2
      · rw [y]; exact z
      · exact t1 i i0 (by omega)
  · intro x hx
    rcases x with μ' | ⟨q, μ'⟩
    · obtain ⟨f, w, d⟩ := hx
      exact Ev_some ⟨f.mo (fun x hx => wQR hx), w, d⟩
    · obtain ⟨f, w, bq, d⟩ := hx
      dsimp only
      simp (disch := omega) only [w32_eq, w64_eq, chk_T, chk_t, lt, lm, ob, Int.add_zero, Int.zero_add, true_and, and_true, if_true, if_false, K100, K101, K102, K103, K104, K200, K201, K230, K231, K232, K233, K234, K235, K236, K237, K250, K251, K252, K253, K254, K300, K301, K302, K303, K304, N101, N102, N103, N104, N201, N232, N233, N234, N235, N236, N237, N251, N252, N253, N254, N301, N302, N303, N304, w.2.1]
      exact Ev_some ⟨f.mo (fun x hx => wQR hx), w, d⟩
end
