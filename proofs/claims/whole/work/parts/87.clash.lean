/-! ===== doubt: clashes ===== -/
def cls (g s : Int → Int) (p st i k : Int) : Prop := (k < i ∧ ¬ar g s p st k i) ∨ (i < k ∧ ¬ar g s p st i k)
theorem cls_s {g s : Int → Int} {p st i k : Int} (h : cls g s p st i k) : cls g s p st k i := by
  rcases h with h | h
  · exact .inr h
  · exact .inl h
/-- enough is doubted -/
def En (g s : Int → Int) (p st y x : Int) : Prop := (∀ i, 0 ≤ i → mb x i → i < s 0) ∧ ∀ i, 0 ≤ i → i < s 0 → mb x i ∨ ((lok g s p st i ∧ tok g s p st y i) ∧ ∀ k, 0 ≤ k → k < i → mb x k ∨ ar g s p st k i)
def d4R (x : Int) : Prop := 252 ≤ x ∧ x ≤ 254
section
variable {μ μ' : Mm} {b : Int → Int} {vb c k n p st i j y m lo hi kk yr : Int} {g s : Int → Int}
theorem Fz.d4 (h : Fz μ b vb n kk s yr m lo hi) (f : Fw d4R μ μ') : Fz μ' b vb n kk s yr m lo hi := by
  obtain ⟨h1, h2, h3, h4, h5, h6, h7⟩ := h
  have f' : Fw f5R μ μ' := f.mo (fun x hx => by unfold d4R at hx; unfold f5R; omega)
  have r : μ' 250 = μ 250 := f 250 (by unfold d4R; omega)
  refine ⟨h1.ft f', h2.ft f' (by unfold FtF; rw [r]; exact h2.1.2.2.1), h3, by rw [r]; exact h4, ⟨h5.1.fw f (fun x a b => by unfold d4R; have := h5.2.2; omega), h5.2⟩, h6.e (fun i _ _ _ => by rw [r]) (f 251 (by unfold d4R; omega)), by rw [r]; exact h7⟩
/-- the clashes are noted: of the first m, with those below q -/
def Ag (μ : Mm) (K : Int → Int → Prop) (m : Int) : Prop := ∀ i, 0 ≤ i → i < m → (0 ≤ μ 253 i ∧ μ 253 i < 256) ∧ ∀ k, 0 ≤ k → (mb (μ 253 i) k ↔ k < m ∧ K i k)
theorem c_clash30 {v1 : Int} (h : Ft μ c k n g s p) (hc : cb g s p) (hm : Spt μ g s p st (s 0)) (hi : 0 ≤ i ∧ i < s 0 ∧ i < 8) (hA : Ag μ (cls g s p st) i) (h0 : μ 253 i = 0) : Ev (lop (sX1_findClashes_30 250 v1 i) FU (0, μ)) (fun μ' => Fw (fun x => x = 253) μ μ' ∧ Ag μ' (cls g s p st) (i + 1)) := by
  have o := h.2.2.2.2.1.2.1.1
  refine Ev_lop (fun t => (0 ≤ t.1 ∧ t.1 ≤ i) ∧ Fw (fun x => x = 253) μ t.2 ∧ ((0 ≤ t.2 253 i ∧ t.2 253 i < 256) ∧ ∀ x, 0 ≤ x → (mb (t.2 253 i) x ↔ x < t.1 ∧ cls g s p st i x)) ∧ ∀ j, 0 ≤ j → j < i → (0 ≤ t.2 253 j ∧ t.2 253 j < 256) ∧ ∀ x, 0 ≤ x → (mb (t.2 253 j) x ↔ (x < i ∧ cls g s p st j x) ∨ (x = i ∧ j < t.1 ∧ cls g s p st j x))) (fun t => (i - t.1).toNat) ⟨(by first | omega | (dsimp only; omega) | (dsimp only)), Fw.rf, ⟨(by first | omega | (dsimp only; omega) | (dsimp only)), fun x x0 => ?_⟩, fun j j0 j1 => ⟨(hA j j0 j1).1, fun x x0 => ?_⟩⟩ (by unfold FU; dsimp only; omega) ?_
  · dsimp only; rw [h0]; exact ⟨fun w => absurd w mb_0, fun w => by omega⟩
  · dsimp only; rw [(hA j j0 j1).2 x x0]
    exact ⟨.inl, fun w => by rcases w with w | w; exact w; omega⟩
  rintro ⟨v3, μ1⟩ ⟨k1, f1, ⟨k2, k3⟩, k4⟩
  dsimp only at k1 f1 k2 k3 k4 ⊢
  have H1 : Ft μ1 c k n g s p := h.fw f1 (fun x hx => by omega)
  have S1 : Spt μ1 g s p st (s 0) := by unfold Spt; rw [f1 252 (by omega)]; exact hm
  have e10 := H1.1.1.2.2.1
  unfold sX1_findClashes_30
  dsimp only
  refine Ev_ite (fun w => Ev_out ⟨f1, fun j j0 j1 => ?_⟩) (fun w => ?_)
  · by_cases e : j = i
    · rw [e]
      refine ⟨k2, fun x x0 => ?_⟩
      rw [k3 x x0]
      constructor
      · intro q; exact ⟨by omega, q.2⟩
      · intro q
        refine ⟨?_, q.2⟩
        by_cases z : x = i
        · subst z; rcases q.2 with u | u <;> omega
        · omega
    · obtain ⟨a1, a2⟩ := k4 j j0 (by omega)
      refine ⟨a1, fun x x0 => ?_⟩
      rw [a2 x x0]
      constructor
      · intro q; rcases q with q | q
        · exact ⟨by omega, q.2⟩
        · exact ⟨by omega, q.2.2⟩
      · intro q
        by_cases z : x = i
        · exact .inr ⟨z, by omega, q.2⟩
        · exact .inl ⟨by omega, q.2⟩
  · simp (disch := omega) only [w32_eq, w64_eq, chk_T, chk_t, lt, lm, ob, Int.add_zero, Int.zero_add, true_and, and_true, if_true, if_false, K100, K101, K102, K103, K104, K200, K201, K230, K231, K232, K233, K234, K235, K236, K237, K250, K251, K252, K253, K254, K300, K301, K302, K303, K304, N101, N102, N103, N104, N201, N232, N233, N234, N235, N236, N237, N251, N252, N253, N254, N301, N302, N303, N304, ]
    rw [c_agree (i := i) (j := v3) H1 hc S1 ⟨hi.1, hi.2.1⟩ (by omega) (by omega) (by omega)]
    simp only [ob, bi_if]
    by_cases z : ar g s p st v3 i
    · rw [sel_t z]
      try simp (disch := omega) only [w32_eq, w64_eq, chk_T, chk_t, lt, lm, ob, Int.add_zero, Int.zero_add, true_and, and_true, if_true, if_false, ]
      refine Ev_in ⟨(by first | omega | (dsimp only; omega) | (dsimp only)), f1, ⟨k2, fun x x0 => ?_⟩, fun j j0 j1 => ⟨(k4 j j0 j1).1, fun x x0 => ?_⟩⟩ (by first | omega | (dsimp only; omega) | (dsimp only))
      · dsimp only
        rw [k3 x x0]
        constructor
        · intro q; exact ⟨by omega, q.2⟩
        · intro q
          refine ⟨?_, q.2⟩
          by_cases e : x = v3
          · subst e; rcases q.2 with u | u; exact absurd z u.2; omega
          · omega
      · dsimp only
        rw [(k4 j j0 j1).2 x x0]
        constructor
        · intro q; rcases q with q | q
          · exact .inl q
          · exact .inr ⟨q.1, by omega, q.2.2⟩
        · intro q; rcases q with q | q
          · exact .inl q
          · refine .inr ⟨q.1, ?_, q.2.2⟩
            by_cases e : j = v3
            · subst e; obtain ⟨q1, q2, q3⟩ := q
              subst q1; rcases q3 with u | u; omega; exact absurd z u.2
            · omega
    · rw [sel_f z]
      simp (disch := omega) only [w32_eq, w64_eq, chk_T, chk_t, lt, lm, ob, Int.add_zero, Int.zero_add, true_and, and_true, if_true, if_false, K100, K101, K102, K103, K104, K200, K201, K230, K231, K232, K233, K234, K235, K236, K237, K250, K251, K252, K253, K254, K300, K301, K302, K303, K304, N101, N102, N103, N104, N201, N232, N233, N234, N235, N236, N237, N251, N252, N253, N254, N301, N302, N303, N304, e10, mst_n]
      have ci : cls g s p st i v3 := .inl ⟨by omega, z⟩
      have bi8 := ishl_b (i := v3) (by omega)
      have bi9 := ishl_b (i := i) (by omega)
      have v3k := k4 v3 k1.1 (by omega)
      refine Ev_in ⟨(by first | omega | (dsimp only; omega) | (dsimp only)), (f1.st (by omega)).st (by omega), ⟨?_, fun x x0 => ?_⟩, fun j j0 j1 => ?_⟩ (by first | omega | (dsimp only; omega) | (dsimp only))
      · dsimp only
        rw [mst_j (by omega), mst_s]; exact ior_b k2 bi8
      · dsimp only
        rw [mst_j (by omega), mst_s, ior_m k2 bi8, k3 x x0, ishl_m (by omega) x0]
        constructor
        · intro q; rcases q with q | q
          · exact ⟨by omega, q.2⟩
          · subst q; exact ⟨by omega, ci⟩
        · intro q
          by_cases e : x = v3
          · exact .inr e
          · exact .inl ⟨by omega, q.2⟩
      · dsimp only
        by_cases e : j = v3
        · rw [e, mst_s, mst_j (by omega)]
          refine ⟨ior_b v3k.1 bi9, fun x x0 => ?_⟩
          rw [ior_m v3k.1 bi9, v3k.2 x x0, ishl_m (by omega) x0]
          constructor
          · intro q; rcases q with (q | q) | q
            · exact .inl q
            · omega
            · subst q; exact .inr ⟨rfl, by omega, cls_s ci⟩
          · intro q; rcases q with q | q
            · exact .inl (.inl q)
            · exact .inr q.1
        · rw [mst_j e, mst_j (by omega)]
          refine ⟨(k4 j j0 j1).1, fun x x0 => ?_⟩
          rw [(k4 j j0 j1).2 x x0]
          constructor
          · intro q; rcases q with q | q
            · exact .inl q
            · exact .inr ⟨q.1, by omega, q.2.2⟩
          · intro q; rcases q with q | q
            · exact .inl q
            · exact .inr ⟨q.1, by omega, q.2.2⟩
theorem c_findClashes (h : Ft μ c k n g s p) (hc : cb g s p) (hs : 0 ≤ st ∧ st < hN g p) (h8 : s 0 ≤ 8) (hm : Spt μ g s p st (s 0)) : Ev (fX1_findClashes 250 μ) (fun r => Fw (fun x => x = 253) μ r.2 ∧ Ag r.2 (cls g s p st) (s 0) ∧ (0 ≤ r.1 ∧ r.1 < 256) ∧ ∀ i, 0 ≤ i → (mb r.1 i ↔ i < s 0 ∧ ¬lok g s p st i)) := by
  have o := h.2.2.2.2.1.2.1.1
  unfold fX1_findClashes
  refine Ev_bind (Ev_lop (P := fun r => Fw (fun x => x = 253) μ r.2 ∧ Ag r.2 (cls g s p st) (s 0) ∧ (0 ≤ r.1 ∧ r.1 < 256) ∧ ∀ i, 0 ≤ i → (mb r.1 i ↔ i < s 0 ∧ ¬lok g s p st i)) (fun t => (0 ≤ t.2.1 ∧ t.2.1 ≤ s 0) ∧ Fw (fun x => x = 253) μ t.2.2 ∧ Ag t.2.2 (cls g s p st) t.2.1 ∧ (0 ≤ t.1 ∧ t.1 < 256) ∧ ∀ i, 0 ≤ i → (mb t.1 i ↔ i < t.2.1 ∧ ¬lok g s p st i)) (fun t => (s 0 - t.2.1).toNat) ⟨(by first | omega | (dsimp only; omega) | (dsimp only)), Fw.rf, fun i a b => by dsimp only at b; omega, (by first | omega | (dsimp only; omega) | (dsimp only)), fun i a => ⟨fun w => absurd w mb_0, fun w => by dsimp only at w; omega⟩⟩ (by unfold FU; dsimp only; omega) ?_) (fun r h => Ev_some h)
  rintro ⟨v1, v2, μ1⟩ ⟨k1, f1, k2, k3, k4⟩
  dsimp only at k1 f1 k2 k3 k4 ⊢
  have H1 : Ft μ1 c k n g s p := h.fw f1 (fun x hx => by omega)
  have S1 : Spt μ1 g s p st (s 0) := by unfold Spt; rw [f1 252 (by omega)]; exact hm
  have e1 := H1.1.2.2.1; have hS := H1.2.2.1; have e10 := H1.1.1.2.2.1
  unfold sX1_findClashes_4
  dsimp only
  simp (disch := omega) only [w32_eq, w64_eq, chk_T, chk_t, lt, lm, ob, Int.add_zero, Int.zero_add, true_and, and_true, if_true, if_false, K100, K101, K102, K103, K104, K200, K201, K230, K231, K232, K233, K234, K235, K236, K237, K250, K251, K252, K253, K254, K300, K301, K302, K303, K304, N101, N102, N103, N104, N201, N232, N233, N234, N235, N236, N237, N251, N252, N253, N254, N301, N302, N303, N304, e1, hS.1.1, hS.2.2.1.1]
  refine Ev_ite (fun z => Ev_out ?_) (fun z => ?_)
  · have e : v2 = s 0 := by omega
    rw [e] at k2
    refine ⟨f1, k2, k3, ?_⟩
    rw [← e]; exact k4
  rw [if_neg (by omega)]
  simp (disch := omega) only [w32_eq, w64_eq, chk_T, chk_t, lt, lm, ob, Int.add_zero, Int.zero_add, true_and, and_true, if_true, if_false, K100, K101, K102, K103, K104, K200, K201, K230, K231, K232, K233, K234, K235, K236, K237, K250, K251, K252, K253, K254, K300, K301, K302, K303, K304, N101, N102, N103, N104, N201, N232, N233, N234, N235, N236, N237, N251, N252, N253, N254, N301, N302, N303, N304, e10]
  have f2 : Fw (fun x => x = 253) μ1 (mst μ1 253 v2 0) := Fw.s0 rfl
  have H2 : Ft (mst μ1 253 v2 0) c k n g s p := H1.fw f2 (fun x hx => by omega)
  have S2 : Spt (mst μ1 253 v2 0) g s p st (s 0) := by unfold Spt; rw [mst_n (by decide)]; exact S1
  refine Ev_bind (c_clash30 H2 hc S2 (by omega) (fun i a b => ?_) mst_s) (fun μ3 ⟨f3, A3⟩ => ?_)
  · rw [mst_j (by omega)]; exact k2 i a b
  have H3 : Ft μ3 c k n g s p := H2.fw f3 (fun x hx => by omega)
  have S3 : Spt μ3 g s p st (s 0) := by unfold Spt; rw [f3 252 (by omega)]; exact S2
  rw [c_lacksLake (i := v2) H3 hc hs S3 (by omega) (by omega)]
  simp only [ob, bi_if]
  by_cases u : lok g s p st v2
  · rw [sel_f (fun w => w u)]
    try simp (disch := omega) only [w32_eq, w64_eq, chk_T, chk_t, lt, lm, ob, Int.add_zero, Int.zero_add, true_and, and_true, if_true, if_false, ]
    refine Ev_in ⟨(by first | omega | (dsimp only; omega) | (dsimp only)), (f1.tr f2).tr f3, A3, k3, fun i a => ?_⟩ (by first | omega | (dsimp only; omega) | (dsimp only))
    dsimp only
    rw [k4 i a]
    constructor
    · intro q; exact ⟨by omega, q.2⟩
    · intro q
      refine ⟨?_, q.2⟩
      by_cases e : i = v2
      · subst e; exact absurd u q.2
      · omega
  · rw [sel_t u]
    try simp (disch := omega) only [w32_eq, w64_eq, chk_T, chk_t, lt, lm, ob, Int.add_zero, Int.zero_add, true_and, and_true, if_true, if_false, ]
    have b8 := ishl_b (i := v2) (by omega)
    refine Ev_in ⟨(by first | omega | (dsimp only; omega) | (dsimp only)), (f1.tr f2).tr f3, A3, ior_b k3 b8, fun i a => ?_⟩ (by first | omega | (dsimp only; omega) | (dsimp only))
    dsimp only
    rw [ior_m k3 b8, k4 i a, ishl_m (by omega) a]
    constructor
    · intro q; rcases q with q | q
      · exact ⟨by omega, q.2⟩
      · subst q; exact ⟨by omega, u⟩
    · intro q
      by_cases e : i = v2
      · exact .inr e
      · exact .inl ⟨by omega, q.2⟩
theorem c_withoutTower (h : Ft μ c k n g s p) (hc : cb g s p) (h8 : s 0 ≤ 8) (hm : Spt μ g s p st (s 0)) (y : Int) : Ev (fX1_withoutTower 250 y μ) (fun r => (0 ≤ r ∧ r < 256) ∧ ∀ i, 0 ≤ i → (mb r i ↔ i < s 0 ∧ ¬tok g s p st y i)) := by
  have o := h.2.2.2.2.1.2.1.1
  have e1 := h.1.2.2.1; have hS := h.2.2.1
  unfold fX1_withoutTower
  refine Ev_bind (Ev_lop (P := fun r => (0 ≤ r ∧ r < 256) ∧ ∀ i, 0 ≤ i → (mb r i ↔ i < s 0 ∧ ¬tok g s p st y i)) (fun t => (0 ≤ t.2 ∧ t.2 ≤ s 0) ∧ (0 ≤ t.1 ∧ t.1 < 256) ∧ ∀ i, 0 ≤ i → (mb t.1 i ↔ i < t.2 ∧ ¬tok g s p st y i)) (fun t => (s 0 - t.2).toNat) ⟨(by first | omega | (dsimp only; omega) | (dsimp only)), (by first | omega | (dsimp only; omega) | (dsimp only)), fun i a => ⟨fun w => absurd w mb_0, fun w => by dsimp only at w; omega⟩⟩ (by unfold FU; dsimp only; omega) ?_) (fun r h => Ev_some h)
  rintro ⟨v2, v3⟩ ⟨k1, k3, k4⟩
  dsimp only at k1 k3 k4 ⊢
  unfold sX1_withoutTower_4
  dsimp only
  simp (disch := omega) only [w32_eq, w64_eq, chk_T, chk_t, lt, lm, ob, Int.add_zero, Int.zero_add, true_and, and_true, if_true, if_false, K100, K101, K102, K103, K104, K200, K201, K230, K231, K232, K233, K234, K235, K236, K237, K250, K251, K252, K253, K254, K300, K301, K302, K303, K304, N101, N102, N103, N104, N201, N232, N233, N234, N235, N236, N237, N251, N252, N253, N254, N301, N302, N303, N304, e1, hS.1.1, hS.2.2.1.1]
  refine Ev_ite (fun z => Ev_out ?_) (fun z => ?_)
  · have e : v3 = s 0 := by omega
    refine ⟨k3, ?_⟩
    rw [← e]; exact k4
  rw [if_neg (by omega), c_lacksTower (i := v3) (y := y) h hc hm (by omega) (by omega)]
  simp only [ob, bi_if]
  by_cases u : tok g s p st y v3
  · rw [sel_f (fun w => w u)]
    try simp (disch := omega) only [w32_eq, w64_eq, chk_T, chk_t, lt, lm, ob, Int.add_zero, Int.zero_add, true_and, and_true, if_true, if_false, ]
    refine Ev_in ⟨(by first | omega | (dsimp only; omega) | (dsimp only)), k3, fun i a => ?_⟩ (by first | omega | (dsimp only; omega) | (dsimp only))
    dsimp only
    rw [k4 i a]
    constructor
    · intro q; exact ⟨by omega, q.2⟩
    · intro q
      refine ⟨?_, q.2⟩
      by_cases e : i = v3
      · subst e; exact absurd u q.2
      · omega
  · rw [sel_t u]
    try simp (disch := omega) only [w32_eq, w64_eq, chk_T, chk_t, lt, lm, ob, Int.add_zero, Int.zero_add, true_and, and_true, if_true, if_false, ]
    have b8 := ishl_b (i := v3) (by omega)
    refine Ev_in ⟨(by first | omega | (dsimp only; omega) | (dsimp only)), ior_b k3 b8, fun i a => ?_⟩ (by first | omega | (dsimp only; omega) | (dsimp only))
    dsimp only
    rw [ior_m k3 b8, k4 i a, ishl_m (by omega) a]
    constructor
    · intro q; rcases q with q | q
      · exact ⟨by omega, q.2⟩
      · subst q; exact ⟨by omega, u⟩
    · intro q
      by_cases e : i = v3
      · exact .inr e
      · exact .inl ⟨by omega, q.2⟩
theorem c_firstClash {x N : Int} {K : Int → Int → Prop} (hF : FtF μ) (e1 : μ 250 1 = k) (hk : KD k = 6) (e0 : μ k 0 = N) (h8 : 0 ≤ N ∧ N ≤ 8) (hA : Ag μ K N) (hx : 0 ≤ x ∧ x < 256) : Ev (fX1_firstClash 250 x μ) (fun r => (r = -1 ∧ ∀ i, 0 ≤ i → i < N → mb x i ∨ ∀ j, 0 ≤ j → j < N → K i j → mb x j) ∨ ((0 ≤ r ∧ r < N) ∧ ¬mb x r ∧ ∃ j, (0 ≤ j ∧ j < N) ∧ K r j ∧ ¬mb x j)) := by
  obtain ⟨f4, f9, f10, f11⟩ := hF
  unfold fX1_firstClash
  refine Ev_bind (Ev_lop (P := fun r => match r with | .inl _ => ∀ i, 0 ≤ i → i < N → mb x i ∨ ∀ j, 0 ≤ j → j < N → K i j → mb x j | .inr r => (0 ≤ r ∧ r < N) ∧ ¬mb x r ∧ ∃ j, (0 ≤ j ∧ j < N) ∧ K r j ∧ ¬mb x j) (fun t => (0 ≤ t ∧ t ≤ N) ∧ ∀ i, 0 ≤ i → i < t → mb x i ∨ ∀ j, 0 ≤ j → j < N → K i j → mb x j) (fun t => (N - t).toNat) ⟨by omega, fun i a b => by omega⟩ (by unfold FU; omega) ?_) ?_
  · intro v2 ⟨k1, k2⟩
    unfold sX1_firstClash_2
    simp (disch := omega) only [w32_eq, w64_eq, chk_T, chk_t, lt, lm, ob, Int.add_zero, Int.zero_add, true_and, and_true, if_true, if_false, K100, K101, K102, K103, K104, K200, K201, K230, K231, K232, K233, K234, K235, K236, K237, K250, K251, K252, K253, K254, K300, K301, K302, K303, K304, N101, N102, N103, N104, N201, N232, N233, N234, N235, N236, N237, N251, N252, N253, N254, N301, N302, N303, N304, e1, hk, e0]
    refine Ev_ite (fun z => Ev_out (fun i a b => k2 i a (by omega))) (fun z => ?_)
    rw [if_neg (by omega)]
    have b0 := bit_0 hx (i := v2) (by omega)
    have av := hA v2 k1.1 (by omega)
    have go : (mb x v2 ∨ ∀ j, 0 ≤ j → j < N → K v2 j → mb x j) → Ev (some (Sum.inl (v2 + 1) : Int ⊕ (Unit ⊕ Int))) (Nx (fun t => (0 ≤ t ∧ t ≤ N) ∧ ∀ i, 0 ≤ i → i < t → mb x i ∨ ∀ j, 0 ≤ j → j < N → K i j → mb x j) (fun t => (N - t).toNat) (fun r => match r with | .inl _ => ∀ i, 0 ≤ i → i < N → mb x i ∨ ∀ j, 0 ≤ j → j < N → K i j → mb x j | .inr r => (0 ≤ r ∧ r < N) ∧ ¬mb x r ∧ ∃ j, (0 ≤ j ∧ j < N) ∧ K r j ∧ ¬mb x j) (N - v2).toNat) := by
      intro hh
      refine Ev_in ⟨by omega, fun i a b => ?_⟩ (by omega)
      by_cases e : i = v2
      · subst e; exact hh
      · exact k2 i a (by omega)
    refine Ev_ite (fun w => ?_) (fun w => ?_)
    · simp (disch := omega) only [w32_eq, w64_eq, chk_T, chk_t, lt, lm, ob, Int.add_zero, Int.zero_add, true_and, and_true, if_true, if_false, K100, K101, K102, K103, K104, K200, K201, K230, K231, K232, K233, K234, K235, K236, K237, K250, K251, K252, K253, K254, K300, K301, K302, K303, K304, N101, N102, N103, N104, N201, N232, N233, N234, N235, N236, N237, N251, N252, N253, N254, N301, N302, N303, N304, f10]
      refine Ev_ite (fun u => ?_) (fun u => ?_)
      · try simp (disch := omega) only [w32_eq, w64_eq, chk_T, chk_t, lt, lm, ob, Int.add_zero, Int.zero_add, true_and, and_true, if_true, if_false, ]
        have := (sub_0 av.1 hx).mp u
        exact go (.inr (fun j a b q => this j a ((av.2 j a).mpr ⟨b, q⟩)))
      · refine Ev_out ⟨by omega, b0.mp w, ?_⟩
        apply Classical.byContradiction; intro ng
        apply u
        refine (sub_0 av.1 hx).mpr (fun j a q => ?_)
        apply Classical.byContradiction; intro q2
        obtain ⟨q3, q4⟩ := (av.2 j a).mp q
        exact ng ⟨j, ⟨a, q3⟩, q4, q2⟩
    · exact go (.inl (Classical.byContradiction (fun q => w (b0.mpr q))))
  · intro r hr
    rcases r with u | r
    · cases u; exact Ev_some (.inl ⟨rfl, hr⟩)
    · exact Ev_some (.inr hr)
end
