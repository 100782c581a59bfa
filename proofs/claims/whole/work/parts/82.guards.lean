/-! ===== guards of the class ===== -/
def ow (p w : Int) : Int := if p / 64 = w then lshl 1 ((p % 64).toNat : Int) else 0
theorem ow_b {p x : Int} (hp : 0 ≤ p) : bw (ow p (x / 64)) (x % 64).toNat = true ↔ x = p := by
  unfold ow
  by_cases z : p / 64 = x / 64
  · rw [if_pos z, bw_one (by omega)]
    constructor
    · intro h; have := of_decide_eq_true h; omega
    · intro h; subst h; simp
  · rw [if_neg z, bw_0]
    constructor
    · intro h; cases h
    · intro h; subst h; exact absurd rfl z
theorem W1_n {g : Int → Int} {p : Int} (hL : LdOk g) (hp : Pl g p) : ct (W1 g p) 144 = ct (vS g p) 144 + 1 := by
  have b := Pl.i hL hp
  have := ct_upd (P := W1 g p) (Q := vS g p) (k := p) 144 (fun i hi => ⟨fun w => by rcases w with w | w; exact absurd w hi; exact w, .inr⟩) b.1 (by omega) (.inl rfl) (fun w => w.2.1 rfl)
  omega
theorem GdS_of {g : Int → Int} {s t0 t1 t2 : Int} (hs : s = 1 ∨ s = 2 ∨ s = 3) (hN : ∀ s', 1 ≤ s' → s' < s → RwN g s') {a b c : Int} (h : RwF g s a b c) (e0 : t0 = a) (e1 : 2 ≤ s → t1 = b) (e2 : 3 ≤ s → t2 = c) : GdS g s t0 t1 t2 := by
  obtain ⟨r, cv, lst⟩ := h
  have n1 : 2 ≤ s → ∀ a, Pl g a → ¬Cov g a a a := fun z a ha => hN 1 (by omega) (by omega) a a a ⟨⟨ha.1, ha.2⟩, .inl ⟨rfl, rfl, rfl⟩⟩
  have n2 : 3 ≤ s → ∀ a b, 0 ≤ a → a < b → b < np g → ¬Cov g a b b := fun z a b h0 h1 h2 => hN 2 (by omega) (by omega) a b b ⟨⟨h0, h2⟩, .inr (.inl ⟨rfl, h1, rfl⟩)⟩
  obtain ⟨r0, r1⟩ := r
  rcases hs with e | e | e
  · subst e
    have : b = a ∧ c = a := by omega
    obtain ⟨z1, z2⟩ := this; subst z1 z2 e0
    exact .inl ⟨rfl, r0, cv, fun x h0 h1 => lst x x x (.inl h1) ⟨⟨h0, by omega⟩, .inl ⟨rfl, rfl, rfl⟩⟩⟩
  · subst e
    have q1 := e1 (by omega)
    have : c = b := by omega
    subst this e0 q1
    exact .inr (.inl ⟨rfl, n1 (by omega), by omega, cv, fun x y h0 h1 h2 h3 => lst x y y (by omega) ⟨⟨h0, h2⟩, .inr (.inl ⟨rfl, h1, rfl⟩)⟩⟩)
  · subst e
    have q1 := e1 (by omega); have q2 := e2 (by omega)
    subst e0 q1 q2
    exact .inr (.inr (.inl ⟨rfl, n1 (by omega), n2 (by omega), by omega, cv, fun x y z h0 h1 h2 h3 h4 => lst x y z h4 ⟨⟨h0, h3⟩, .inr (.inr ⟨rfl, h1, h2⟩)⟩⟩))
theorem GdS_none {g : Int → Int} {t0 t1 t2 : Int} (hN : ∀ s', 1 ≤ s' → s' < 4 → RwN g s') : GdS g (-1) t0 t1 t2 :=
  .inr (.inr (.inr ⟨rfl, fun a ha => hN 1 (by omega) (by omega) a a a ⟨⟨ha.1, ha.2⟩, .inl ⟨rfl, rfl, rfl⟩⟩, fun a b h0 h1 h2 => hN 2 (by omega) (by omega) a b b ⟨⟨h0, h2⟩, .inr (.inl ⟨rfl, h1, rfl⟩)⟩, fun a b c h0 h1 h2 h3 => hN 3 (by omega) (by omega) a b c ⟨⟨h0, h3⟩, .inr (.inr ⟨rfl, h1, h2⟩)⟩⟩))
section
variable {μ μ' μ0 : Mm} {b : Int → Int} {vb q n p s : Int} {g : Int → Int}
def gA (n x : Int) : Prop := x = 10000 + 2000 * n ∨ x = 10000 + 2000 * n + 1 ∨ x = 10000 + 2000 * n + 3 ∨ x = 10000 + 2000 * n + 4
theorem Ca.gw (hC : Ca μ b vb) (hn : n = 0 ∨ n = 1) (hs : μ 102 n ≠ 0) (f : Fw (gA n) μ μ') (hq : ∀ i, i < 8 → μ' (10000 + 2000 * n) i = μ (10000 + 2000 * n) i) (hg : μ' (10000 + 2000 * n) 9 ≤ μ' (10000 + 2000 * n) 1 ∧ (μ' (10000 + 2000 * n) 9 = μ' (10000 + 2000 * n) 1 → n < b 0 ∧ GdS (lg b n) (μ' (10000 + 2000 * n) 8) (μ' (10000 + 2000 * n + 1) 0) (μ' (10000 + 2000 * n + 1) 1) (μ' (10000 + 2000 * n + 1) 2))) : Ca μ' b vb := by
  refine ⟨hC.1.fw f (by unfold gA; omega) (by unfold gA; omega) (by unfold gA; omega) (by unfold gA; omega) (by unfold gA; omega) (f 101 (by unfold gA; omega)) (fun x a b => by rw [f 0 (by unfold gA; omega)]), fun m m0 m1 => ?_⟩
  have r102 := f 102 (by unfold gA; omega)
  have r0 := f 0 (by unfold gA; omega)
  by_cases e : m = n
  · subst e
    obtain ⟨e102, hF, hv, hl, _⟩ := hC.sn ⟨m0, m1⟩ hs
    refine .inr ⟨by rw [r102]; exact e102, ?_, ?_, fun p p0 p1 => ?_, hg⟩
    · unfold ScF at hF ⊢
      rw [hq 0 (by omega), hq 2 (by omega), hq 3 (by omega), hq 4 (by omega), hq 5 (by omega), hq 6 (by omega), hq 7 (by omega)]; exact hF
    · rw [hq 1 (by omega)]; exact hv
    · have old := hl p p0 p1
      have e3 := f (10000 + 2000 * m + 100 + 10 * p) (by unfold gA; omega)
      unfold LnI LiF at old ⊢
      rw [hq 1 (by omega), f (10000 + 2000 * m + 2) (by unfold gA; omega), e3, r0]
      rcases old with a | ⟨a, c, d, e⟩
      · exact .inl a
      · exact .inr ⟨a, c, d, fun z => ⟨(e z).1, (e z).2.1, (e z).2.2.fw f (fun x a b => by unfold gA; omega)⟩⟩
  · exact (hC.2 m m0 m1).fw f (by rw [r102]) (fun x a b => by unfold gA; omega) (fun x a b => by rw [r0])
theorem Bd_ga (f : Fw (gA n) μ μ') (hn : n = 0 ∨ n = 1) : Bd μ' = Bd μ := Bd_e (f 101 (by unfold gA; omega)) (f 102 (by unfold gA; omega)) (f 10002 (by unfold gA; omega)) (f 12002 (by unfold gA; omega))
theorem gA_q {x : Int} (hn : n = 0 ∨ n = 1) (h : gA n x) : Rq x := by unfold gA at h; unfold Rq; omega
/-- the words of one place -/
theorem c_words (hq : q = 10000 ∨ q = 12000) (h7 : μ q 7 = q + 4) (h6 : μ q 6 = q + 3) (hL : LdOk g) (hp : Pl g p) (L : Li μ s g p) (hs : s = q + 100 + 10 * p) (hS : Wb (μ (q + 4)) 0 (fun x => 0 ≤ x ∧ x < p)) : Ev (lop (sX4_findGuards_51 q p s) FU (0, μ)) (fun μ' => Fw (fun x => x = q + 3 ∨ x = q + 4) μ μ' ∧ Wb (μ' (q + 4)) 0 (fun x => 0 ≤ x ∧ x < p + 1) ∧ Wb (μ' (q + 3)) (3 * p) (W1 g p) ∧ ∀ i, i < 3 * p → μ' (q + 3) i = μ (q + 3) i) := by
  have hK := ScK_q hq
  have bp := Pl.i hL hp
  have e := q_ok bp.1 (show p < 192 by omega)
  have sb := L.2.2.2.2.2.2
  have goal : ∀ μ' : Mm, (∀ w, 0 ≤ w → w < 3 → μ' (q + 4) w = lor (μ (q + 4) w) (ow p w) ∧ μ' (q + 3) (3 * p + w) = lor (μ (s + 6) w) (ow p w)) → Wb (μ' (q + 4)) 0 (fun x => 0 ≤ x ∧ x < p + 1) ∧ Wb (μ' (q + 3)) (3 * p) (W1 g p) := by
    intro μ' h
    refine ⟨⟨fun w w0 w1 => ?_, fun x x0 x1 => ?_⟩, fun w w0 w1 => ?_, fun x x0 x1 => ?_⟩
    · rw [Int.zero_add, (h w w0 w1).1]; exact R64_lor _ _
    · rw [Int.zero_add, (h _ (by omega) (by omega)).1, bw_or]
      have a := hS.2 x x0 x1
      rw [Int.zero_add] at a
      simp only [Bool.or_eq_true, a, ow_b bp.1]
      omega
    · rw [(h w w0 w1).2]; exact R64_lor _ _
    · rw [(h _ (by omega) (by omega)).2, bw_or]
      have a := sb.2 x x0 x1
      simp only [Bool.or_eq_true, a, ow_b bp.1]
      exact ⟨fun w => by rcases w with w | w; exact .inr w; exact .inl w, fun w => by rcases w with w | w; exact .inr w; exact .inl w⟩
  refine Ev_lop (fun t => (0 ≤ t.1 ∧ t.1 ≤ 3) ∧ Fw (fun x => x = q + 3 ∨ x = q + 4) μ t.2 ∧ (∀ w, 0 ≤ w → w < t.1 → t.2 (q + 4) w = lor (μ (q + 4) w) (ow p w) ∧ t.2 (q + 3) (3 * p + w) = lor (μ (s + 6) w) (ow p w)) ∧ (∀ w, t.1 ≤ w → t.2 (q + 4) w = μ (q + 4) w) ∧ ∀ i, i < 3 * p → t.2 (q + 3) i = μ (q + 3) i) (fun t => (3 - t.1).toNat) ⟨(by first | omega | (dsimp only; omega) | (dsimp only)), Fw.rf, fun w a b => by dsimp only at b; omega, fun _ _ => rfl, fun _ _ => rfl⟩ (by unfold FU; dsimp only; omega) ?_
  rintro ⟨v3, μ1⟩ ⟨k1, f1, k2, k3, k4⟩
  dsimp only at k1 f1 k2 k3 k4 ⊢
  have rq : μ1 q = μ q := f1 q (by omega)
  have rs : μ1 s = μ s := f1 s (by omega)
  have rs6 : μ1 (s + 6) = μ (s + 6) := f1 (s + 6) (by omega)
  unfold sX4_findGuards_51
  dsimp only
  refine Ev_ite (fun y => Ev_out ?_) (fun y => ?_)
  · have := goal μ1 (fun w a b => k2 w a (by omega))
    exact ⟨f1, this.1, this.2, k4⟩
  · rw [e.1, e.2]
    have key : ∀ v, v = ow p v3 → Ev (jX4_findGuards_74 q p s v3 v μ1) (Nx (fun t => (0 ≤ t.1 ∧ t.1 ≤ 3) ∧ Fw (fun x => x = q + 3 ∨ x = q + 4) μ t.2 ∧ (∀ w, 0 ≤ w → w < t.1 → t.2 (q + 4) w = lor (μ (q + 4) w) (ow p w) ∧ t.2 (q + 3) (3 * p + w) = lor (μ (s + 6) w) (ow p w)) ∧ (∀ w, t.1 ≤ w → t.2 (q + 4) w = μ (q + 4) w) ∧ ∀ i, i < 3 * p → t.2 (q + 3) i = μ (q + 3) i) (fun t => (3 - t.1).toNat) (fun μ' => Fw (fun x => x = q + 3 ∨ x = q + 4) μ μ' ∧ Wb (μ' (q + 4)) 0 (fun x => 0 ≤ x ∧ x < p + 1) ∧ Wb (μ' (q + 3)) (3 * p) (W1 g p) ∧ ∀ i, i < 3 * p → μ' (q + 3) i = μ (q + 3) i) (3 - v3).toNat) := by
      intro v hv
      unfold jX4_findGuards_74
      have lK := L.1; have lF := L.2.1
      simp (disch := omega) only [w32_eq, w64_eq, chk_T, chk_t, lt, lm, ob, Int.add_zero, Int.zero_add, true_and, and_true, if_true, if_false, hK.1, rq, h7, h6, hK.2.2.2.1.1, hK.2.2.2.1.2, hK.2.2.2.2.1.1, hK.2.2.2.2.1.2, mst_n, LiK.k lK, LiK.k1 lK, LiK.n1 lK, LiK.k2 lK, LiK.n2 lK, LiK.k3 lK, LiK.n3 lK, LiK.k4 lK, LiK.n4 lK, LiK.k5 lK, LiK.n5 lK, LiK.k6 lK, LiK.n6 lK, rs, LiF.f4 lF, LiF.f5 lF, LiF.f6 lF, LiF.f7 lF, LiF.f8 lF, LiF.f9 lF, rs6]
      rw [show p * 3 = 3 * p by omega]
      refine Ev_in ⟨(by first | omega | (dsimp only; omega) | (dsimp only)), (f1.st (.inr rfl)).st (.inl rfl), fun w a b => ?_, fun w a => ?_, fun i hi => ?_⟩ (by first | omega | (dsimp only; omega) | (dsimp only))
      · dsimp only at b ⊢
        rw [mst_n (show q + 4 ≠ q + 3 by omega)]
        by_cases z : w = v3
        · subst z; rw [mst_s, mst_s, hv, k3 w (by omega)]; exact ⟨rfl, rfl⟩
        · rw [mst_j z, mst_j (by omega), mst_n (show q + 3 ≠ q + 4 by omega)]; exact k2 w a (by omega)
      · dsimp only at a ⊢
        rw [mst_n (by omega), mst_j (by omega)]; exact k3 w (by omega)
      · dsimp only
        rw [mst_j (by omega), mst_n (by omega)]; exact k4 i hi
    refine Ev_ite (fun z => key _ ?_) (fun z => key _ ?_)
    · unfold ow; rw [if_pos z]
    · unfold ow; rw [if_neg z]
theorem c_sizes (hq : q = 10000 ∨ q = 12000) (hn : n = 0 ∨ n = 1) (hF : ScF μ q n) (hA : La μ (1010 + 10 * n) g) (hL : LdOk g) (hS : Wb (μ (q + 4)) 0 (Pl g)) (hW : ∀ p, Pl g p → Wb (μ (q + 3)) (3 * p) (W1 g p)) (hw : ∀ p, Pl g p → ct (W1 g p) 144 ≤ μ q 10) (hb : 0 ≤ μ q 10 ∧ μ q 10 ≤ 145) : Ev (lop (sX4_findGuards_120 q) FU (1, μ)) (fun x => match x with | .inl μ' => Fw (gR q) μ μ' ∧ GdS g (-1) (μ' (q + 1) 0) (μ' (q + 1) 1) (μ' (q + 1) 2) | .inr (r, μ') => Fw (gR q) μ μ' ∧ GdS g r (μ' (q + 1) 0) (μ' (q + 1) 1) (μ' (q + 1) 2)) := by
  have hK := ScK_q hq
  refine Ev_lop (fun t => (1 ≤ t.1 ∧ t.1 ≤ 4) ∧ Fw (gR q) μ t.2 ∧ Wb (t.2 (q + 4)) 0 (Pl g) ∧ ∀ s', 1 ≤ s' → s' < t.1 → RwN g s') (fun t => (4 - t.1).toNat) ⟨(by first | omega | (dsimp only; omega) | (dsimp only)), Fw.rf, hS, fun s' a b => by dsimp only at b; omega⟩ (by unfold FU; dsimp only; omega) ?_
  rintro ⟨v1, μ1⟩ ⟨k1, f1, w1, no⟩
  dsimp only at k1 f1 w1 no ⊢
  unfold sX4_findGuards_120
  dsimp only
  refine Ev_ite (fun y => Ev_out ⟨f1, GdS_none (fun s' a b => no s' a (by omega))⟩) (fun y => ?_)
  have rq : μ1 q = μ q := f1 q (by unfold gR; omega)
  have rq3 : μ1 (q + 3) = μ (q + 3) := f1 (q + 3) (by unfold gR; omega)
  rw [chk_t hK.1]
  refine Ev_bind (c_posts (s := v1) hq hn (by unfold ScF; rw [rq]; exact hF) (hA.fw f1 (fun x a b => by unfold gR; omega)) hL (by omega) w1 (by rw [rq3]; exact hW) (by rw [rq]; exact hw) (by rw [rq]; exact hb)) ?_
  rintro ⟨r, μ2⟩ ⟨f2, w2, po⟩
  dsimp only at f2 w2 po ⊢
  rcases po with ⟨e, z⟩ | ⟨e, a, b, c, z, e0, e1, e2⟩
  · rw [if_pos e]
    simp (disch := omega) only [w32_eq, w64_eq, chk_T, chk_t, lt, lm, ob, Int.add_zero, Int.zero_add, true_and, and_true, if_true, if_false, ]
    refine Ev_in ⟨(by first | omega | (dsimp only; omega) | (dsimp only)), f1.tr f2, w2, fun s' a b => ?_⟩ (by first | omega | (dsimp only; omega) | (dsimp only))
    dsimp only at b
    by_cases u : s' = v1
    · subst u; exact z
    · exact no s' a (by omega)
  · rw [if_neg (by omega)]
    exact Ev_out ⟨f1.tr f2, GdS_of (by omega) no z e0 e1 e2⟩
end
