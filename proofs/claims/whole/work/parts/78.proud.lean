/-! ===== proud ===== -/
def hE (g : Int → Int) (h : Int) : Int → Int → Prop := We g 999 (fun x => g (6 + x) < h)
def hS (g : Int → Int) (p h : Int) (x : Int) : Prop := x = p ∧ ¬g (6 + p) < h
def hr (g : Int → Int) (p h q : Int) : Prop := ∃ m : Nat, wk (hE g h) (hS g p h) m q
def Hg (g : Int → Int) (p h : Int) : Prop := ∃ q, hr g p h q ∧ g (6 + p) < g (6 + q)
def Sd (g : Int → Int) (p s : Int) : Prop := ((0 ≤ s ∧ s ≤ g (6 + p)) ∧ Hg g p s ∧ ∀ h, s < h → h ≤ g (6 + p) → ¬Hg g p h) ∨ (s = 0 ∧ ∀ h, 0 ≤ h → h ≤ g (6 + p) → ¬Hg g p h)
theorem Sd_u {g : Int → Int} {p s t : Int} (h0 : 0 ≤ g (6 + p)) (h : Sd g p s) (k : Sd g p t) : s = t := by
  rcases h with ⟨a, b, c⟩ | ⟨a, b⟩ <;> rcases k with ⟨d, e, f⟩ | ⟨d, e⟩
  · rcases Int.lt_trichotomy s t with q | q | q
    · exact absurd e (c t q d.2)
    · exact q
    · exact absurd b (f s q a.2)
  · exact absurd b (e s a.1 a.2)
  · exact absurd e (b t d.1 d.2)
  · omega
theorem wk_mono {E E' : Int → Int → Prop} {S S' : Int → Prop} (hs : ∀ x, S x → S' x) (he : ∀ x y, E x y → E' x y) : ∀ (m : Nat) (q : Int), wk E S m q → wk E' S' m q
  | 0, q, h => hs q h
  | m + 1, q, h => by
    rcases h with h | ⟨p, hp, h⟩
    · exact .inl (wk_mono hs he m q h)
    · exact .inr ⟨p, wk_mono hs he m p hp, he p q h⟩
theorem hr_mono {g : Int → Int} {p h h' q : Int} (hh : h' ≤ h) (k : hr g p h q) : hr g p h' q := by
  obtain ⟨m, k⟩ := k
  refine ⟨m, wk_mono (fun x hx => ⟨hx.1, ?_⟩) (fun x y hx => ⟨hx.1, hx.2.1, hx.2.2.1, ?_⟩) m q k⟩
  · have := hx.2; omega
  · have := hx.2.2.2; dsimp only at this ⊢; omega
theorem hr_P {g : Int → Int} {p h q : Int} (hp : Pl g p) (k : hr g p h q) : Pl g q := by
  obtain ⟨m, k⟩ := k
  exact wk_p (fun q hq => by rw [hq.1]; exact hp) (fun x y hx => hx.2.1.2) m q k
theorem hr_step {g : Int → Int} {p h q k : Int} (hL : LdOk g) (hk : 0 ≤ k ∧ k < 4) (h1 : hr g p h q) (hq : Pl g q) (hr2 : Pl g (nb g q k)) (h2 : h ≤ g (6 + nb g q k)) : hr g p h (nb g q k) := by
  obtain ⟨m, h1⟩ := h1
  have b1 := Pl.i hL hq; have b2 := Pl.i hL hr2
  have := hL.hh b1.1 b1.2; have := hL.hh b2.1 b2.2
  exact ⟨m + 1, .inr ⟨q, h1, ⟨k, hk, rfl⟩, ⟨hq, hr2⟩, by omega, by dsimp only; omega⟩⟩
/-- how far the search is: levels, what is shut -/
def Sv (g : Int → Int) (p : Int) (lv sh : Int → Int) : Prop :=
  lv p = g (6 + p) ∧
  (∀ q, Pl g q → lv q = -1 ∨ (0 ≤ lv q ∧ lv q ≤ g (6 + p) ∧ lv q ≤ g (6 + q)) ∧ hr g p (lv q) q) ∧
  (∀ q, Pl g q → sh q ≠ 0 → 0 ≤ lv q ∧ g (6 + q) ≤ g (6 + p) ∧ ∀ k, 0 ≤ k → k < 4 → Pl g (nb g q k) → lv q ≤ lv (nb g q k) ∨ g (6 + nb g q k) ≤ lv (nb g q k)) ∧
  (∀ x y, Pl g x → Pl g y → sh x ≠ 0 → sh y = 0 → lv y ≤ lv x)
theorem Sv_no {g : Int → Int} {p h : Int} {lv sh : Int → Int} (hv : Sv g p lv sh) (hp : Pl g p) (ho : ∀ q, Pl g q → sh q = 0 → lv q < h) (hh : h ≤ g (6 + p)) : ∀ (m : Nat) (q : Int), wk (hE g h) (hS g p h) m q → Pl g q ∧ sh q ≠ 0 ∧ h ≤ lv q
  | 0, q, hq => by
    have e := hq.1; subst e
    refine ⟨hp, fun z => ?_, ?_⟩
    · have := ho q hp z; have := hv.1; omega
    · have := hv.1; omega
  | m + 1, q, hq => by
    rcases hq with hq | ⟨x, hx, he⟩
    · exact Sv_no hv hp ho hh m q hq
    · obtain ⟨x1, x2, x3⟩ := Sv_no hv hp ho hh m x hx
      obtain ⟨⟨k, hk, e⟩, hpl, _, hs⟩ := he
      dsimp only at hs
      have := (hv.2.2.1 x x1 x2).2.2 k hk.1 hk.2 (by rw [e]; exact hpl.2)
      rw [e] at this
      have l : h ≤ lv q := by omega
      exact ⟨hpl.2, fun z => by have := ho q hpl.2 z; omega, l⟩
theorem Sv_not {g : Int → Int} {p h : Int} {lv sh : Int → Int} (hv : Sv g p lv sh) (hp : Pl g p) (ho : ∀ q, Pl g q → sh q = 0 → lv q < h) (hh : h ≤ g (6 + p)) : ¬Hg g p h := by
  rintro ⟨q, ⟨m, hq⟩, h2⟩
  obtain ⟨a, b, _⟩ := Sv_no hv hp ho hh m q hq
  have := (hv.2.2.1 q a b).2.1
  omega
/-- after the neighbours of q are raised -/
def Rz (g : Int → Int) (q n : Int) (lv sh lv' : Int → Int) : Prop :=
  (∀ x, Pl g x → sh x ≠ 0 → lv' x = lv x) ∧
  (∀ r, Pl g r → lv' r = lv r ∨ (∃ k, (0 ≤ k ∧ k < 4) ∧ nb g q k = r) ∧ (lv' r ≤ lv q ∧ lv' r ≤ g (6 + r) ∧ lv r ≤ lv' r ∧ 0 ≤ lv' r)) ∧
  ∀ k, 0 ≤ k → k < n → Pl g (nb g q k) → lv q ≤ lv' (nb g q k) ∨ g (6 + nb g q k) ≤ lv' (nb g q k)
theorem Sv_next {g : Int → Int} {p q : Int} {lv sh lv' sh' : Int → Int} (hL : LdOk g) (hv : Sv g p lv sh) (hp : Pl g p) (hq : Pl g q) (h0 : sh q = 0) (h1 : 0 ≤ lv q) (h2 : ∀ x, Pl g x → sh x = 0 → lv x ≤ lv q) (h3 : g (6 + q) ≤ g (6 + p)) (e1 : sh' q ≠ 0) (e2 : ∀ x, x ≠ q → sh' x = sh x) (hz : Rz g q 4 lv sh' lv') : Sv g p lv' sh' := by
  obtain ⟨a, b, c, d⟩ := hv
  obtain ⟨r1, r2, r3⟩ := hz
  have up : ∀ r, Pl g r → lv r ≤ lv' r := fun r hr => by rcases r2 r hr with w | ⟨_, w⟩ <;> omega
  have lq : lv' q = lv q := r1 q hq e1
  have cl : ∀ x, Pl g x → sh' x ≠ 0 → lv q ≤ lv x := fun x hx hs => by
    by_cases z : x = q
    · rw [z]; omega
    · rw [e2 x z] at hs; exact d x q hx hq hs h0
  refine ⟨?_, fun r hr => ?_, fun x hx hs => ?_, fun x y hx hy s1 s2 => ?_⟩
  · have := up p hp
    rcases r2 p hp with w | ⟨_, w⟩
    · rw [w]; exact a
    · have := w.2.1; omega
  · rcases r2 r hr with w | ⟨⟨k, hk, e⟩, w⟩
    · rw [w]; exact b r hr
    · right
      have bq := b q hq
      rcases bq with z | ⟨z1, z2⟩
      · omega
      · refine ⟨by omega, ?_⟩
        rw [← e] at hr w ⊢
        exact hr_step hL hk (hr_mono w.1 z2) hq hr w.2.1
  · rw [r1 x hx hs]
    by_cases z : x = q
    · subst z
      exact ⟨h1, h3, r3⟩
    · rw [e2 x z] at hs
      obtain ⟨c1, c2, c3⟩ := c x hx hs
      refine ⟨c1, c2, fun k k0 k1 hk => ?_⟩
      have := c3 k k0 k1 hk
      have := up _ hk
      omega
  · rw [r1 x hx s1]
    have := cl x hx s1
    have ny : y ≠ q := fun z => e1 (z ▸ s2)
    have := h2 y hy (by rw [← e2 y ny]; exact s2)
    rcases r2 y hy with w | ⟨_, w⟩
    · omega
    · omega
section
variable {μ μ' : Mm} {b : Int → Int} {vb c n p q : Int} {g : Int → Int}
theorem c_highestOpen (hF : WkF μ) (hc : μ 300 0 = c) (hA : La μ c g) (hL : LdOk g) (hlv : ∀ q, Pl g q → -1 ≤ μ 304 q) : Ev (fX9_highestOpen 300 μ) (fun r => (r = -1 ∧ ∀ q, Pl g q → μ 301 q = 0 → μ 304 q = -1) ∨ (Pl g r ∧ μ 301 r = 0 ∧ 0 ≤ μ 304 r ∧ ∀ q, Pl g q → μ 301 q = 0 → μ 304 q ≤ μ 304 r)) := by
  obtain ⟨w2, w3, w4, w5⟩ := hF
  have nb := np_b hL
  unfold fX9_highestOpen
  refine Ev_bind (Ev_lop (P := fun r => (r = -1 ∧ ∀ q, Pl g q → μ 301 q = 0 → μ 304 q = -1) ∨ (Pl g r ∧ μ 301 r = 0 ∧ 0 ≤ μ 304 r ∧ ∀ q, Pl g q → μ 301 q = 0 → μ 304 q ≤ μ 304 r)) (fun t => (0 ≤ t.2 ∧ t.2 ≤ np g) ∧ ((t.1 = -1 ∧ ∀ q, 0 ≤ q → q < t.2 → μ 301 q = 0 → μ 304 q = -1) ∨ ((0 ≤ t.1 ∧ t.1 < t.2) ∧ μ 301 t.1 = 0 ∧ 0 ≤ μ 304 t.1 ∧ ∀ q, 0 ≤ q → q < t.2 → μ 301 q = 0 → μ 304 q ≤ μ 304 t.1))) (fun t => (np g - t.2).toNat) ⟨(by first | omega | (dsimp only; omega) | (dsimp only)), .inl ⟨rfl, fun q a b => by dsimp only at b; omega⟩⟩ (by unfold FU; dsimp only; omega) ?_) (fun r h => Ev_some h)
  rintro ⟨v1, v2⟩ ⟨k1, k2⟩
  dsimp only at k1 k2 ⊢
  unfold sX9_highestOpen_4
  dsimp only
  simp (disch := omega) only [w32_eq, w64_eq, chk_T, chk_t, lt, lm, ob, Int.add_zero, Int.zero_add, true_and, and_true, if_true, if_false, K100, K101, K102, K103, K104, K200, K201, K230, K231, K232, K233, K234, K235, K236, K237, K250, K251, K252, K253, K254, K300, K301, K302, K303, K304, N101, N102, N103, N104, N201, N232, N233, N234, N235, N236, N237, N251, N252, N253, N254, N301, N302, N303, N304, hc, La_k hA, c_places hA hL, w2, w5]
  refine Ev_ite (fun y => Ev_out ?_) (fun y => ?_)
  · rcases k2 with ⟨a, k⟩ | ⟨a, k3, k4, k⟩
    · exact .inl ⟨a, fun q hq => k q hq.1 (by have := hq.2; omega)⟩
    · exact .inr ⟨⟨a.1, by omega⟩, k3, k4, fun q hq => k q hq.1 (by have := hq.2; omega)⟩
  · have hl := hlv v2 ⟨k1.1, by omega⟩
    refine Ev_ite (fun z => ?_) (fun z => ?_)
    · have key : ∀ v, (v1 = -1 → v = -1) → (v1 ≠ -1 → v = μ 304 v1) → Ev (jX9_highestOpen_45 300 v1 v2 v (μ 304 v2) μ) (Nx (fun t => (0 ≤ t.2 ∧ t.2 ≤ np g) ∧ ((t.1 = -1 ∧ ∀ q, 0 ≤ q → q < t.2 → μ 301 q = 0 → μ 304 q = -1) ∨ ((0 ≤ t.1 ∧ t.1 < t.2) ∧ μ 301 t.1 = 0 ∧ 0 ≤ μ 304 t.1 ∧ ∀ q, 0 ≤ q → q < t.2 → μ 301 q = 0 → μ 304 q ≤ μ 304 t.1))) (fun t => (np g - t.2).toNat) (fun r => (r = -1 ∧ ∀ q, Pl g q → μ 301 q = 0 → μ 304 q = -1) ∨ (Pl g r ∧ μ 301 r = 0 ∧ 0 ≤ μ 304 r ∧ ∀ q, Pl g q → μ 301 q = 0 → μ 304 q ≤ μ 304 r)) (np g - v2).toNat) := by
        intro v a1 a2
        unfold jX9_highestOpen_45
        simp (disch := omega) only [w32_eq, w64_eq, chk_T, chk_t, lt, lm, ob, Int.add_zero, Int.zero_add, true_and, and_true, if_true, if_false, K100, K101, K102, K103, K104, K200, K201, K230, K231, K232, K233, K234, K235, K236, K237, K250, K251, K252, K253, K254, K300, K301, K302, K303, K304, N101, N102, N103, N104, N201, N232, N233, N234, N235, N236, N237, N251, N252, N253, N254, N301, N302, N303, N304, ]
        refine Ev_ite (fun u => Ev_in ⟨(by first | omega | (dsimp only; omega) | (dsimp only)), ?_⟩ (by first | omega | (dsimp only; omega) | (dsimp only))) (fun u => Ev_in ⟨(by first | omega | (dsimp only; omega) | (dsimp only)), ?_⟩ (by first | omega | (dsimp only; omega) | (dsimp only)))
        · dsimp only
          rcases k2 with ⟨a, k⟩ | ⟨a, k3, k4, k⟩
          · refine .inl ⟨a, fun q q0 q1 hs => ?_⟩
            by_cases e : q = v2
            · subst e; have := a1 a; omega
            · exact k q q0 (by omega) hs
          · refine .inr ⟨⟨a.1, by omega⟩, k3, k4, fun q q0 q1 hs => ?_⟩
            by_cases e : q = v2
            · subst e; have := a2 (by omega); omega
            · exact k q q0 (by omega) hs
        · dsimp only
          refine .inr ⟨⟨k1.1, by omega⟩, z, ?_, fun q q0 q1 hs => ?_⟩
          · rcases k2 with ⟨a, k⟩ | ⟨a, k3, k4, k⟩
            · have := a1 a; omega
            · have := a2 (by omega); omega
          · by_cases e : q = v2
            · subst e; omega
            · rcases k2 with ⟨a, k⟩ | ⟨a, k3, k4, k⟩
              · have := a1 a; have := k q q0 (by omega) hs; omega
              · have := a2 (by omega); have := k q q0 (by omega) hs; omega
      refine Ev_ite (fun u => key _ (fun _ => rfl) (fun w => absurd u w)) (fun u => ?_)
      have : 0 ≤ v1 ∧ v1 < v2 := by rcases k2 with ⟨a, k⟩ | ⟨a, _⟩; exact absurd a u; exact a
      try simp (disch := omega) only [w32_eq, w64_eq, chk_T, chk_t, lt, lm, ob, Int.add_zero, Int.zero_add, true_and, and_true, if_true, if_false, ]
      exact key _ (fun w => absurd w u) (fun _ => rfl)
    · refine Ev_in ⟨(by first | omega | (dsimp only; omega) | (dsimp only)), ?_⟩ (by first | omega | (dsimp only; omega) | (dsimp only))
      dsimp only
      rcases k2 with ⟨a, k⟩ | ⟨a, k3, k4, k⟩
      · refine .inl ⟨a, fun q q0 q1 hs => ?_⟩
        by_cases e : q = v2
        · subst e; exact absurd hs z
        · exact k q q0 (by omega) hs
      · refine .inr ⟨⟨a.1, by omega⟩, k3, k4, fun q q0 q1 hs => ?_⟩
        by_cases e : q = v2
        · subst e; exact absurd hs z
        · exact k q q0 (by omega) hs
theorem imax_v {x y : Int} : (imax x y = x ∧ y ≤ x) ∨ (imax x y = y ∧ x < y) := by
  unfold imax; split
  · exact .inr ⟨rfl, by omega⟩
  · exact .inl ⟨rfl, by omega⟩
theorem imin_v {x y : Int} : (imin x y = x ∧ x ≤ y) ∨ (imin x y = y ∧ y < x) := by
  unfold imin; split
  · exact .inr ⟨rfl, by omega⟩
  · exact .inl ⟨rfl, by omega⟩
theorem c_raise (hF : WkF μ) (hc : μ 300 0 = c) (hc0 : 1000 ≤ c) (hA : La μ c g) (hL : LdOk g) (hq : Pl g q) (hs : μ 301 q ≠ 0) (h1 : 0 ≤ μ 304 q) (hcl : ∀ x, Pl g x → μ 301 x ≠ 0 → μ 304 q ≤ μ 304 x) : Ev (fX9_raiseNeighbours 300 q μ) (fun μ' => Fw (fun x => x = 304) μ μ' ∧ Rz g q 4 (μ 304) (μ 301) (μ' 304)) := by
  obtain ⟨w2, w3, w4, w5⟩ := hF
  have bq := Pl.i hL hq
  unfold fX9_raiseNeighbours
  refine Ev_bind (Ev_lop (P := fun μ' => Fw (fun x => x = 304) μ μ' ∧ Rz g q 4 (μ 304) (μ 301) (μ' 304)) (fun t => (0 ≤ t.1 ∧ t.1 ≤ 4) ∧ Fw (fun x => x = 304) μ t.2 ∧ Rz g q t.1 (μ 304) (μ 301) (t.2 304)) (fun t => (4 - t.1).toNat) ⟨(by first | omega | (dsimp only; omega) | (dsimp only)), Fw.rf, fun _ _ _ => rfl, fun _ _ => .inl rfl, fun k a b => by dsimp only at b; omega⟩ (by unfold FU; dsimp only; omega) ?_) (fun r h => Ev_some h)
  rintro ⟨v2, μ1⟩ ⟨k1, f1, z1, z2, z3⟩
  dsimp only at k1 f1 z1 z2 z3 ⊢
  have r300 := f1 300 (by omega)
  have A1 : La μ1 c g := hA.fw f1 (fun x a b => by omega)
  unfold sX9_raiseNeighbours_2
  dsimp only
  refine Ev_ite (fun y => Ev_out ⟨f1, z1, z2, fun k a b => z3 k a (by omega)⟩) (fun y => ?_)
  simp (disch := omega) only [w32_eq, w64_eq, chk_T, chk_t, lt, lm, ob, Int.add_zero, Int.zero_add, true_and, and_true, if_true, if_false, K100, K101, K102, K103, K104, K200, K201, K230, K231, K232, K233, K234, K235, K236, K237, K250, K251, K252, K253, K254, K300, K301, K302, K303, K304, N101, N102, N103, N104, N201, N232, N233, N234, N235, N236, N237, N251, N252, N253, N254, N301, N302, N303, N304, r300, hc, La_k A1, c_neighbour A1 hL hq, c_has A1 hL, bi_t hq]
  rw [if_neg (by decide)]
  by_cases hr : Pl g (nb g q v2)
  · have br := Pl.i hL hr
    rw [bi_t hr, if_neg (by decide)]
    simp (disch := omega) only [w32_eq, w64_eq, chk_T, chk_t, lt, lm, ob, Int.add_zero, Int.zero_add, true_and, and_true, if_true, if_false, K100, K101, K102, K103, K104, K200, K201, K230, K231, K232, K233, K234, K235, K236, K237, K250, K251, K252, K253, K254, K300, K301, K302, K303, K304, N101, N102, N103, N104, N201, N232, N233, N234, N235, N236, N237, N251, N252, N253, N254, N301, N302, N303, N304, w5, La_k A1, La_k1 A1, La_n1 A1, La_k2 A1, La_n2 A1, La_k3 A1, La_n3 A1, La_k4 A1, La_n4 A1, La_k5 A1, La_n5 A1, La_f6 A1, La_f7 A1, La_f8 A1, La_f9 A1, La_f10 A1, La_0 A1, La_1 A1, La_2 A1, La_3 A1, La_4 A1, La_5 A1, La_h A1, La_a A1, La_t A1, La_fr A1, La_to A1]
    have lq : μ1 304 q = μ 304 q := z1 q hq hs
    rw [lq]
    have gr := hL.hh br.1 br.2
    refine Ev_in ⟨(by first | omega | (dsimp only; omega) | (dsimp only)), f1.st (by omega), fun x hx hs => ?_, fun r hr2 => ?_, fun k a c hk => ?_⟩ (by first | omega | (dsimp only; omega) | (dsimp only))
    · dsimp only
      by_cases e : x = nb g q v2
      · have := hcl x hx hs
        have o := z1 x hx hs
        rw [e, mst_s, ← e, o]
        have i1 := imax_v (x := μ 304 x) (y := imin (μ 304 q) (g (6 + x))); have i2 := imin_v (x := μ 304 q) (y := g (6 + x))
        omega
      · rw [mst_j e]; exact z1 x hx hs
    · dsimp only
      by_cases e : r = nb g q v2
      · rw [e, mst_s, ← e]
        rw [← e] at gr
        have i1 := imax_v (x := μ1 304 r) (y := imin (μ 304 q) (g (6 + r))); have i2 := imin_v (x := μ 304 q) (y := g (6 + r))
        rcases z2 r hr2 with w | ⟨w, w2⟩
        · rcases i1 with i1 | i1
          · left; omega
          · right; exact ⟨⟨v2, by omega, e.symm⟩, by omega⟩
        · right; exact ⟨w, by omega⟩
      · rw [mst_j e]; exact z2 r hr2
    · dsimp only at c ⊢
      by_cases e : nb g q k = nb g q v2
      · rw [e, mst_s]
        have i1 := imax_v (x := μ1 304 (nb g q v2)) (y := imin (μ 304 q) (g (6 + nb g q v2))); have i2 := imin_v (x := μ 304 q) (y := g (6 + nb g q v2))
        omega
      · rw [mst_j e]
        exact z3 k a (by apply Classical.byContradiction; intro ng; exact e (by rw [show k = v2 by omega])) hk
  · rw [bi_f hr, if_pos rfl]
    try simp (disch := omega) only [w32_eq, w64_eq, chk_T, chk_t, lt, lm, ob, Int.add_zero, Int.zero_add, true_and, and_true, if_true, if_false, ]
    refine Ev_in ⟨(by first | omega | (dsimp only; omega) | (dsimp only)), f1, z1, z2, fun k a c hk => ?_⟩ (by first | omega | (dsimp only; omega) | (dsimp only))
    dsimp only at c
    by_cases e : k = v2
    · subst e; exact absurd hk hr
    · exact z3 k a (by omega) hk
theorem c_saddle (hF : WkF μ) (hc0 : 1000 ≤ c) (hA : La μ c g) (hL : LdOk g) (hp : Pl g p) : Ev (fX9_saddle 300 c p μ) (fun r => Fw wR μ r.2 ∧ WkF r.2 ∧ Sd g p r.1) := by
  have bp := Pl.i hL hp
  have gp := hL.hh bp.1 bp.2
  have nb := np_b hL
  unfold fX9_saddle
  simp (disch := omega) only [w32_eq, w64_eq, chk_T, chk_t, lt, lm, ob, Int.add_zero, Int.zero_add, true_and, and_true, if_true, if_false, K100, K101, K102, K103, K104, K200, K201, K230, K231, K232, K233, K234, K235, K236, K237, K250, K251, K252, K253, K254, K300, K301, K302, K303, K304, N101, N102, N103, N104, N201, N232, N233, N234, N235, N236, N237, N251, N252, N253, N254, N301, N302, N303, N304, La_k hA, c_has hA hL, bi_t hp]
  rw [if_neg (by decide)]
  refine Ev_bind (c_ready (c := c) (cl := 999) hF) (fun μ1 ⟨f1, F1, e1, _, s1, _⟩ => ?_)
  rw [F1.2.2.2]
  refine Ev_bind (c_fill (by decide) (by rw [N304]; omega)) (fun μ2 ⟨f2, z2, _⟩ => ?_)
  rw [N304] at z2
  have f02 : Fw wR μ μ2 := f1.tr (f2.mo (fun x hx => by unfold wR; omega))
  have A2 : La μ2 c g := hA.fw f02 (fun x a b => by unfold wR; omega)
  have F2 : WkF μ2 := by unfold WkF; rw [f2 300 (by omega)]; exact F1
  have e2 : μ2 300 0 = c := by rw [f2 300 (by omega)]; exact e1.1
  have s2 : ∀ q, 0 ≤ q → q < 144 → μ2 301 q = 0 := by rw [f2 301 (by omega)]; exact s1
  simp (disch := omega) only [w32_eq, w64_eq, chk_T, chk_t, lt, lm, ob, Int.add_zero, Int.zero_add, true_and, and_true, if_true, if_false, K100, K101, K102, K103, K104, K200, K201, K230, K231, K232, K233, K234, K235, K236, K237, K250, K251, K252, K253, K254, K300, K301, K302, K303, K304, N101, N102, N103, N104, N201, N232, N233, N234, N235, N236, N237, N251, N252, N253, N254, N301, N302, N303, N304, La_k A2, La_k1 A2, La_n1 A2, La_k2 A2, La_n2 A2, La_k3 A2, La_n3 A2, La_k4 A2, La_n4 A2, La_k5 A2, La_n5 A2, La_f6 A2, La_f7 A2, La_f8 A2, La_f9 A2, La_f10 A2, La_0 A2, La_1 A2, La_2 A2, La_3 A2, La_4 A2, La_5 A2, La_h A2, La_a A2, La_t A2, La_fr A2, La_to A2, F2.2.2.2]
  refine Ev_bind (Ev_lop (P := fun x => match x with | .inl μ' => Fw wR μ μ' ∧ WkF μ' ∧ Sd g p 0 | .inr (.inl μ') => Fw wR μ μ' ∧ WkF μ' ∧ Sd g p 0 | .inr (.inr (q, μ')) => Fw wR μ μ' ∧ WkF μ' ∧ (0 ≤ q ∧ q < 144) ∧ Sd g p (μ' 304 q)) (fun t => (0 ≤ t.1 ∧ t.1 ≤ 144) ∧ Fw wR μ t.2 ∧ WkF t.2 ∧ t.2 300 0 = c ∧ Sv g p (t.2 304) (t.2 301) ∧ ct (fun q => t.2 301 q ≠ 0) 144 = t.1) (fun t => (144 - t.1).toNat) ⟨(by first | omega | (dsimp only; omega) | (dsimp only)), f02.st (by unfold wR; omega), ?_, ?_, ?_, ?_⟩ (by unfold FU; dsimp only; omega) ?_) ?_
  · unfold WkF; simp (disch := omega) only [mst_n, mst_s, mst_j, ]; exact F2
  · simp (disch := omega) only [mst_n, mst_s, mst_j, ]; exact e2
  · dsimp only
    refine ⟨mst_s, fun q hq => ?_, fun q hq hs => ?_, fun x y hx hy s3 _ => ?_⟩
    · have bq := Pl.i hL hq
      by_cases e : q = p
      · rw [e, mst_s]; exact .inr ⟨by omega, 0, rfl, by omega⟩
      · rw [mst_j e]; exact .inl (z2 q bq.1 bq.2)
    · have bq := Pl.i hL hq
      rw [mst_n (by decide)] at hs
      exact absurd (s2 q bq.1 bq.2) hs
    · have bq := Pl.i hL hx
      rw [mst_n (by decide)] at s3
      exact absurd (s2 x bq.1 bq.2) s3
  · dsimp only
    have : ∀ m : Nat, m ≤ 144 → ct (fun q => mst μ2 304 p (g (6 + p)) 301 q ≠ 0) m = 0 := by
      intro m; induction m with
      | zero => intro _; rfl
      | succ m ih => intro h; show ct _ m + bi _ = 0; rw [ih (by omega), bi_f (fun z => z (by rw [mst_n (by decide)]; exact s2 m (by omega) (by omega)))]; omega
    exact this 144 (by omega)
  · rintro ⟨v3, μ3⟩ ⟨h3, f3, F3, e3, S3, c3⟩
    dsimp only at h3 f3 F3 e3 S3 c3 ⊢
    have A3 : La μ3 c g := hA.fw f3 (fun x a b => by unfold wR; omega)
    unfold sX9_saddle_40
    dsimp only
    refine Ev_ite (fun y => Ev_out ⟨f3, F3, .inr ⟨rfl, fun h h0 h1 => Sv_not S3 hp (fun q hq hs => ?_) h1⟩⟩) (fun y => ?_)
    · have bq := Pl.i hL hq
      have := ct_lt2 (P := fun q => μ3 301 q ≠ 0) (k := q) 144 bq.1 (by omega) (fun w => w hs)
      omega
    simp (disch := omega) only [w32_eq, w64_eq, chk_T, chk_t, lt, lm, ob, Int.add_zero, Int.zero_add, true_and, and_true, if_true, if_false, K100, K101, K102, K103, K104, K200, K201, K230, K231, K232, K233, K234, K235, K236, K237, K250, K251, K252, K253, K254, K300, K301, K302, K303, K304, N101, N102, N103, N104, N201, N232, N233, N234, N235, N236, N237, N251, N252, N253, N254, N301, N302, N303, N304, ]
    refine Ev_bind (c_highestOpen F3 e3 A3 hL (fun q hq => by rcases S3.2.1 q hq with w | w <;> omega)) (fun r hr => ?_)
    rcases hr with ⟨e, hn⟩ | ⟨hr, o, l, hm⟩
    · rw [if_pos e]
      exact Ev_out ⟨f3, F3, .inr ⟨rfl, fun h h0 h1 => Sv_not S3 hp (fun q hq hs => by have := hn q hq hs; omega) h1⟩⟩
    · have br := Pl.i hL hr
      rw [if_neg (by omega)]
      simp (disch := omega) only [w32_eq, w64_eq, chk_T, chk_t, lt, lm, ob, Int.add_zero, Int.zero_add, true_and, and_true, if_true, if_false, K100, K101, K102, K103, K104, K200, K201, K230, K231, K232, K233, K234, K235, K236, K237, K250, K251, K252, K253, K254, K300, K301, K302, K303, K304, N101, N102, N103, N104, N201, N232, N233, N234, N235, N236, N237, N251, N252, N253, N254, N301, N302, N303, N304, La_k A3, La_k1 A3, La_n1 A3, La_k2 A3, La_n2 A3, La_k3 A3, La_n3 A3, La_k4 A3, La_n4 A3, La_k5 A3, La_n5 A3, La_f6 A3, La_f7 A3, La_f8 A3, La_f9 A3, La_f10 A3, La_0 A3, La_1 A3, La_2 A3, La_3 A3, La_4 A3, La_5 A3, La_h A3, La_a A3, La_t A3, La_fr A3, La_to A3, F3.1]
      refine Ev_ite (fun w => ?_) (fun w => ?_)
      · have F4 : WkF (mst μ3 301 r 1) := by unfold WkF; simp (disch := omega) only [mst_n, mst_s, mst_j, ]; exact F3
        have e4 : mst μ3 301 r 1 300 0 = c := by simp (disch := omega) only [mst_n, mst_s, mst_j, ]; exact e3
        have f34 : Fw wR μ3 (mst μ3 301 r 1) := Fw.s0 (by unfold wR; omega)
        refine Ev_bind (c_raise F4 e4 hc0 (A3.fw f34 (fun x a b => by unfold wR; omega)) hL hr (by rw [mst_s]; decide) (by rw [mst_n (by decide)]; exact l) (fun x hx hs => ?_)) (fun μ5 ⟨f5, z5⟩ => ?_)
        · rw [mst_n (by decide)]
          by_cases e : x = r
          · rw [e]; omega
          · rw [mst_j e] at hs; exact S3.2.2.2 x r hx hr hs o
        · rw [mst_n (by decide)] at z5
          try simp (disch := omega) only [w32_eq, w64_eq, chk_T, chk_t, lt, lm, ob, Int.add_zero, Int.zero_add, true_and, and_true, if_true, if_false, ]
          have r301 : μ5 301 = mst μ3 301 r 1 301 := f5 301 (by omega)
          have r300 : μ5 300 = μ3 300 := by rw [f5 300 (by omega), mst_n (by decide)]
          refine Ev_in ⟨(by first | omega | (dsimp only; omega) | (dsimp only)), (f3.tr f34).tr (f5.mo (fun x hx => by unfold wR; omega)), ?_, ?_, ?_, ?_⟩ (by first | omega | (dsimp only; omega) | (dsimp only))
          · unfold WkF; dsimp only; rw [r300]; exact F3
          · dsimp only; rw [r300]; exact e3
          · dsimp only
            rw [r301]
            exact Sv_next hL S3 hp hr o l hm w (by rw [mst_s]; decide) (fun x hx => mst_j hx) z5
          · dsimp only
            rw [r301, ← c3]
            have := ct_upd (P := fun q => mst μ3 301 r 1 301 q ≠ 0) (Q := fun q => μ3 301 q ≠ 0) (k := r) 144 (fun i hi => by rw [mst_j hi]) br.1 (by omega) (by rw [mst_s]; decide) (fun w => w o)
            omega
      · refine Ev_out ⟨f3, F3, br, ?_⟩
        rcases S3.2.1 r hr with z | ⟨z, z2⟩
        · omega
        · exact .inl ⟨by omega, ⟨r, z2, by omega⟩, fun h h0 h1 => Sv_not S3 hp (fun q hq hs => by have := hm q hq hs; omega) h1⟩
  · intro x hx
    rcases x with μ' | μ' | ⟨q, μ'⟩
    · exact Ev_some hx
    · exact Ev_some hx
    · obtain ⟨f, w, bq, d⟩ := hx
      dsimp only
      simp (disch := omega) only [w32_eq, w64_eq, chk_T, chk_t, lt, lm, ob, Int.add_zero, Int.zero_add, true_and, and_true, if_true, if_false, K100, K101, K102, K103, K104, K200, K201, K230, K231, K232, K233, K234, K235, K236, K237, K250, K251, K252, K253, K254, K300, K301, K302, K303, K304, N101, N102, N103, N104, N201, N232, N233, N234, N235, N236, N237, N251, N252, N253, N254, N301, N302, N303, N304, w.2.2.2]
      exact Ev_some ⟨f, w, d⟩
def ZProud (b : Int → Int) (n p r : Int) : Prop := (isP b n p ∧ ∃ s, Sd (lg b n) p s ∧ r = lg b n (6 + p) - s) ∨ (¬isP b n p ∧ r = -1)
theorem ZProud_u {b : Int → Int} {n p r s : Int} (hA : AOk b) (h : ZProud b n p r) (h2 : ZProud b n p s) : r = s := by
  rcases h with ⟨a, x, d, e⟩ | ⟨a, d⟩ <;> rcases h2 with ⟨a2, x2, d2, e2⟩ | ⟨a2, d2⟩
  · have hD := hA.2.2.2.2.1 n a.1.1 a.1.2
    have bp := Pl.i hD a.2
    have := Sd_u (hD.hh bp.1 bp.2).1 d d2
    omega
  · exact absurd a a2
  · exact absurd a2 a
  · omega
theorem q_proud (hW : Nw μ b) (hC : Ca μ b vb) (n p : Int) : Ev (fX10_proud 100 n p μ) (fun r => QP μ b vb (ZProud b n p) r (Bd μ)) := by
  have n0 := hW.n0
  unfold fX10_proud
  simp (disch := omega) only [w32_eq, w64_eq, chk_T, chk_t, lt, lm, ob, Int.add_zero, Int.zero_add, true_and, and_true, if_true, if_false, K100, K101, K102, K103, K104, K200, K201, K230, K231, K232, K233, K234, K235, K236, K237, K250, K251, K252, K253, K254, K300, K301, K302, K303, K304, N101, N102, N103, N104, N201, N232, N233, N234, N235, N236, N237, N251, N252, N253, N254, N301, N302, N303, N304, c_landAt hW]
  by_cases hn : isL b n
  · have hn1 := hn.1; have hn2 := hn.2
    have hD := hW.ld hn1 hn2; have hA := hW.la hn1 hn2
    rw [sel_t hn, if_neg (by omega)]
    simp (disch := omega) only [w32_eq, w64_eq, chk_T, chk_t, lt, lm, ob, Int.add_zero, Int.zero_add, true_and, and_true, if_true, if_false, K100, K101, K102, K103, K104, K200, K201, K230, K231, K232, K233, K234, K235, K236, K237, K250, K251, K252, K253, K254, K300, K301, K302, K303, K304, N101, N102, N103, N104, N201, N232, N233, N234, N235, N236, N237, N251, N252, N253, N254, N301, N302, N303, N304, La_k hA, c_has hA hD, bi_if]
    by_cases hp : Pl (lg b n) p
    · have bp := Pl.i hD hp
      have gp := hD.hh bp.1 bp.2
      rw [sel_t hp]
      simp (disch := omega) only [w32_eq, w64_eq, chk_T, chk_t, lt, lm, ob, Int.add_zero, Int.zero_add, true_and, and_true, if_true, if_false, K100, K101, K102, K103, K104, K200, K201, K230, K231, K232, K233, K234, K235, K236, K237, K250, K251, K252, K253, K254, K300, K301, K302, K303, K304, N101, N102, N103, N104, N201, N232, N233, N234, N235, N236, N237, N251, N252, N253, N254, N301, N302, N303, N304, La_k hA, La_k1 hA, La_n1 hA, La_k2 hA, La_n2 hA, La_k3 hA, La_n3 hA, La_k4 hA, La_n4 hA, La_k5 hA, La_n5 hA, La_f6 hA, La_f7 hA, La_f8 hA, La_f9 hA, La_f10 hA, La_0 hA, La_1 hA, La_2 hA, La_3 hA, La_4 hA, La_5 hA, La_h hA, La_a hA, La_t hA, La_fr hA, La_to hA, X10F.f0 hW.1, X10F.f1 hW.1, X10F.f2 hW.1, X10F.f3 hW.1, X10F.f4 hW.1, X10F.f5 hW.1, X10F.f6 hW.1, X10F.f7 hW.1, X10F.f8 hW.1, X10F.f9 hW.1, X10F.f10 hW.1]
      refine Ev_bind (c_saddle hC.1.2.2.2.1 (by omega) hA hD hp) ?_
      rintro ⟨r, μ1⟩ ⟨f1, F1, d1⟩
      dsimp only at f1 F1 d1 ⊢
      have A1 : La μ1 (1010 + 10 * n) (lg b n) := hA.fw f1 (fun x a b => by unfold wR; omega)
      have rb : 0 ≤ r ∧ r ≤ lg b n (6 + p) := by rcases d1 with w | w <;> omega
      simp (disch := omega) only [w32_eq, w64_eq, chk_T, chk_t, lt, lm, ob, Int.add_zero, Int.zero_add, true_and, and_true, if_true, if_false, K100, K101, K102, K103, K104, K200, K201, K230, K231, K232, K233, K234, K235, K236, K237, K250, K251, K252, K253, K254, K300, K301, K302, K303, K304, N101, N102, N103, N104, N201, N232, N233, N234, N235, N236, N237, N251, N252, N253, N254, N301, N302, N303, N304, La_k A1, La_k1 A1, La_n1 A1, La_k2 A1, La_n2 A1, La_k3 A1, La_n3 A1, La_k4 A1, La_n4 A1, La_k5 A1, La_n5 A1, La_f6 A1, La_f7 A1, La_f8 A1, La_f9 A1, La_f10 A1, La_0 A1, La_1 A1, La_2 A1, La_3 A1, La_4 A1, La_5 A1, La_h A1, La_a A1, La_t A1, La_fr A1, La_to A1]
      exact Ev_some ⟨(Bd_wk f1).symm, f1.mo (fun x hx => Rq_wk hx), hC.wk f1 F1, .inl ⟨⟨hn, hp⟩, r, d1, rfl⟩⟩
    · rw [sel_f hp]; exact Ev_some ⟨rfl, Fw.rf, hC, .inr ⟨fun u => hp u.2, rfl⟩⟩
  · rw [sel_f hn, if_pos rfl]; exact Ev_some ⟨rfl, Fw.rf, hC, .inr ⟨fun u => hn u.1, rfl⟩⟩
end
