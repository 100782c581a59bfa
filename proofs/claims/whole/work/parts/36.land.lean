/-! ===== the class: a land ===== -/
def Fw (R : Int → Prop) (μ μ' : Mm) : Prop := ∀ x, ¬R x → μ' x = μ x
theorem Fw.rf {R : Int → Prop} {μ : Mm} : Fw R μ μ := fun _ _ => rfl
theorem Fw.tr {R : Int → Prop} {μ μ1 μ2 : Mm} (h : Fw R μ μ1) (h2 : Fw R μ1 μ2) : Fw R μ μ2 := fun x hx => (h2 x hx).trans (h x hx)
theorem Fw.mo {R S : Int → Prop} {μ μ1 : Mm} (h : Fw R μ μ1) (hs : ∀ x, R x → S x) : Fw S μ μ1 := fun x hx => h x (fun q => hx (hs x q))
theorem Fw.st {R : Int → Prop} {μ μ1 : Mm} {a i v : Int} (h : Fw R μ μ1) (ha : R a) : Fw R μ (mst μ1 a i v) := fun x hx => (mst_n (fun (e : x = a) => hx (e ▸ ha))).trans (h x hx)
theorem Fw.s0 {R : Int → Prop} {μ : Mm} {a i v : Int} (ha : R a) : Fw R μ (mst μ a i v) := Fw.rf.st ha
/-- the numbers c .. c + 5 are those of a land -/
def LaK (c : Int) : Prop := KD c = 2 ∧ (KD (c + 1) = 12 ∧ LN (c + 1) = 144) ∧ (KD (c + 2) = 12 ∧ LN (c + 2) = 12) ∧ (KD (c + 3) = 14 ∧ LN (c + 3) = 12) ∧ (KD (c + 4) = 12 ∧ LN (c + 4) = 12) ∧ (KD (c + 5) = 12 ∧ LN (c + 5) = 12)
def LaF (μ : Mm) (c : Int) : Prop := μ c 6 = c + 1 ∧ μ c 7 = c + 2 ∧ μ c 8 = c + 3 ∧ μ c 9 = c + 4 ∧ μ c 10 = c + 5
/-- the class holds the land g at c -/
def La (μ : Mm) (c : Int) (g : Int → Int) : Prop := LaK c ∧ LaF μ c ∧ (μ c 0 = g 0 ∧ μ c 1 = g 1 ∧ μ c 2 = g 2 ∧ μ c 3 = g 3 ∧ μ c 4 = g 4 ∧ μ c 5 = g 5) ∧ (∀ p, 0 ≤ p → p < 144 → μ (c + 1) p = g (6 + p)) ∧ ∀ k, 0 ≤ k → k < g 5 → μ (c + 3) k = g (150 + 4 * k) ∧ μ (c + 2) k = g (151 + 4 * k) ∧ μ (c + 4) k = g (152 + 4 * k) ∧ μ (c + 5) k = g (153 + 4 * k)
section
variable {μ : Mm} {c : Int} {g : Int → Int}
theorem La_k (h : La μ c g) : KD c = 2 := h.1.1
theorem La_k1 (h : La μ c g) : KD (c + 1) = 12 := h.1.2.1.1
theorem La_n1 (h : La μ c g) : LN (c + 1) = 144 := h.1.2.1.2
theorem La_k2 (h : La μ c g) : KD (c + 2) = 12 := h.1.2.2.1.1
theorem La_n2 (h : La μ c g) : LN (c + 2) = 12 := h.1.2.2.1.2
theorem La_k3 (h : La μ c g) : KD (c + 3) = 14 := h.1.2.2.2.1.1
theorem La_n3 (h : La μ c g) : LN (c + 3) = 12 := h.1.2.2.2.1.2
theorem La_k4 (h : La μ c g) : KD (c + 4) = 12 := h.1.2.2.2.2.1.1
theorem La_n4 (h : La μ c g) : LN (c + 4) = 12 := h.1.2.2.2.2.1.2
theorem La_k5 (h : La μ c g) : KD (c + 5) = 12 := h.1.2.2.2.2.2.1
theorem La_n5 (h : La μ c g) : LN (c + 5) = 12 := h.1.2.2.2.2.2.2
theorem La_f6 (h : La μ c g) : μ c 6 = c + 1 := h.2.1.1
theorem La_f7 (h : La μ c g) : μ c 7 = c + 2 := h.2.1.2.1
theorem La_f8 (h : La μ c g) : μ c 8 = c + 3 := h.2.1.2.2.1
theorem La_f9 (h : La μ c g) : μ c 9 = c + 4 := h.2.1.2.2.2.1
theorem La_f10 (h : La μ c g) : μ c 10 = c + 5 := h.2.1.2.2.2.2
theorem La_0 (h : La μ c g) : μ c 0 = g 0 := h.2.2.1.1
theorem La_1 (h : La μ c g) : μ c 1 = g 1 := h.2.2.1.2.1
theorem La_2 (h : La μ c g) : μ c 2 = g 2 := h.2.2.1.2.2.1
theorem La_3 (h : La μ c g) : μ c 3 = g 3 := h.2.2.1.2.2.2.1
theorem La_4 (h : La μ c g) : μ c 4 = g 4 := h.2.2.1.2.2.2.2.1
theorem La_5 (h : La μ c g) : μ c 5 = g 5 := h.2.2.1.2.2.2.2.2
theorem La_h (h : La μ c g) {p : Int} (h0 : 0 ≤ p) (h1 : p < 144) : μ (c + 1) p = g (6 + p) := h.2.2.2.1 p h0 h1
theorem La_a (h : La μ c g) {k : Int} (h0 : 0 ≤ k) (h1 : k < g 5) : μ (c + 2) k = g (151 + 4 * k) := (h.2.2.2.2 k h0 h1).2.1
theorem La_t (h : La μ c g) {k : Int} (h0 : 0 ≤ k) (h1 : k < g 5) : μ (c + 3) k = g (150 + 4 * k) := (h.2.2.2.2 k h0 h1).1
theorem La_fr (h : La μ c g) {k : Int} (h0 : 0 ≤ k) (h1 : k < g 5) : μ (c + 4) k = g (152 + 4 * k) := (h.2.2.2.2 k h0 h1).2.2.1
theorem La_to (h : La μ c g) {k : Int} (h0 : 0 ≤ k) (h1 : k < g 5) : μ (c + 5) k = g (153 + 4 * k) := (h.2.2.2.2 k h0 h1).2.2.2
theorem La.fw {R : Int → Prop} {μ' : Mm} (h : La μ c g) (f : Fw R μ μ') (h0 : ∀ x, c ≤ x → x ≤ c + 5 → ¬R x) : La μ' c g := by
  have e0 := f c (h0 c (by omega) (by omega)); have e1 := f (c + 1) (h0 _ (by omega) (by omega)); have e2 := f (c + 2) (h0 _ (by omega) (by omega)); have e3 := f (c + 3) (h0 _ (by omega) (by omega)); have e4 := f (c + 4) (h0 _ (by omega) (by omega)); have e5 := f (c + 5) (h0 _ (by omega) (by omega))
  unfold La LaF; rw [e0, e1, e2, e3, e4, e5]; exact h
theorem c_places (h : La μ c g) (hL : LdOk g) : fX2_places c μ = some (np g) := by
  have b := np_b hL
  unfold fX2_places
  have e : g 0 * g 1 = np g := rfl
  simp (disch := omega) only [w32_eq, w64_eq, chk_T, chk_t, lt, lm, ob, Int.add_zero, Int.zero_add, true_and, and_true, if_true, if_false, La_k h, La_k1 h, La_n1 h, La_k2 h, La_n2 h, La_k3 h, La_n3 h, La_k4 h, La_n4 h, La_k5 h, La_n5 h, La_f6 h, La_f7 h, La_f8 h, La_f9 h, La_f10 h, La_0 h, La_1 h, La_2 h, La_3 h, La_4 h, La_5 h, La_h h, La_a h, La_t h, La_fr h, La_to h, e]
  split
  · have : np g = 144 := by omega
    rw [this]
  · rfl
theorem c_has (h : La μ c g) (hL : LdOk g) (p : Int) : fX2_has c p μ = some (bi (Pl g p)) := by
  unfold fX2_has
  simp (disch := omega) only [w32_eq, w64_eq, chk_T, chk_t, lt, lm, ob, Int.add_zero, Int.zero_add, true_and, and_true, if_true, if_false, La_k h, La_k1 h, La_n1 h, La_k2 h, La_n2 h, La_k3 h, La_n3 h, La_k4 h, La_n4 h, La_k5 h, La_n5 h, La_f6 h, La_f7 h, La_f8 h, La_f9 h, La_f10 h, La_0 h, La_1 h, La_2 h, La_3 h, La_4 h, La_5 h, La_h h, La_a h, La_t h, La_fr h, La_to h, c_places h hL]
  by_cases q : p < 0
  · rw [if_pos q, bi_f]; intro z; have := z.1; omega
  · rw [if_neg q]
    by_cases q2 : np g ≤ p
    · rw [if_pos q2, bi_f]; intro z; have := z.2; omega
    · rw [if_neg q2, bi_t]; exact ⟨by omega, by omega⟩
theorem c_column (h : La μ c g) (hL : LdOk g) {p : Int} (hp : 0 ≤ p) : fX2_column c p μ = some (cX g p) := by
  have w := hL.w
  unfold fX2_column cX
  simp (disch := omega) only [w32_eq, w64_eq, chk_T, chk_t, lt, lm, ob, Int.add_zero, Int.zero_add, true_and, and_true, if_true, if_false, La_k h, La_k1 h, La_n1 h, La_k2 h, La_n2 h, La_k3 h, La_n3 h, La_k4 h, La_n4 h, La_k5 h, La_n5 h, La_f6 h, La_f7 h, La_f8 h, La_f9 h, La_f10 h, La_0 h, La_1 h, La_2 h, La_3 h, La_4 h, La_5 h, La_h h, La_a h, La_t h, La_fr h, La_to h, tmod_nn, ne_eq]
  rw [if_neg (by omega)]
theorem c_row (h : La μ c g) (hL : LdOk g) {p : Int} (hp : Pl g p) : fX2_row c p μ = some (cY g p) := by
  have w := hL.w; have d := hL.d; have b := cY_b hL hp; have b1 := Pl.i hL hp
  unfold cY at *
  unfold fX2_row
  simp (disch := omega) only [w32_eq, w64_eq, chk_T, chk_t, lt, lm, ob, Int.add_zero, Int.zero_add, true_and, and_true, if_true, if_false, La_k h, La_k1 h, La_n1 h, La_k2 h, La_n2 h, La_k3 h, La_n3 h, La_k4 h, La_n4 h, La_k5 h, La_n5 h, La_f6 h, La_f7 h, La_f8 h, La_f9 h, La_f10 h, La_0 h, La_1 h, La_2 h, La_3 h, La_4 h, La_5 h, La_h h, La_a h, La_t h, La_fr h, La_to h, tdiv_nn, ne_eq]
  rw [if_neg (by omega)]
theorem c_apart (h : La μ c g) (hL : LdOk g) {p q : Int} (hp : Pl g p) (hq : Pl g q) : fX2_apart c p q μ = some (zF g p q) := by
  have h1 := zE_b hL p q; have h2 := zS_b hL hp hq
  have s1 := sq_le h1.1 h1.2; have s2 := sq_le h2.1 h2.2; have s3 := sq_nn (zE g p q); have s4 := sq_nn (zS g p q)
  have e1 : cX g p - cX g q = - zE g p q := by unfold zE; omega
  have e2 : cY g p - cY g q = - zS g p q := by unfold zS; omega
  unfold fX2_apart zF
  simp (disch := omega) only [w32_eq, w64_eq, chk_T, chk_t, lt, lm, ob, Int.add_zero, Int.zero_add, true_and, and_true, if_true, if_false, La_k h, La_k1 h, La_n1 h, La_k2 h, La_n2 h, La_k3 h, La_n3 h, La_k4 h, La_n4 h, La_k5 h, La_n5 h, La_f6 h, La_f7 h, La_f8 h, La_f9 h, La_f10 h, La_0 h, La_1 h, La_2 h, La_3 h, La_4 h, La_5 h, La_h h, La_a h, La_t h, La_fr h, La_to h, c_column h hL hp.1, c_column h hL hq.1, c_row h hL hp, c_row h hL hq, e1, e2, Int.neg_mul_neg]
theorem c_lift (h : La μ c g) (hL : LdOk g) {p q d : Int} (hp : Pl g p) (hq : Pl g q) (hd : d = zF g p q) : fX2_lift c p q d μ = some (zR g p q) := by
  have b1 := Pl.i hL hp; have b2 := Pl.i hL hq
  have h3 := zB_b hL hp hq; have h5 := hL.hh b1.1 b1.2; have h6 := hL.hh b2.1 b2.2; have h7 := hL.e
  subst hd
  unfold fX2_lift zR
  rw [if_neg (by omega), if_neg (by omega), if_neg (by omega), if_pos (by omega)]
  simp (disch := omega) only [w32_eq, w64_eq, chk_T, chk_t, lt, lm, ob, Int.add_zero, Int.zero_add, true_and, and_true, if_true, if_false, La_k h, La_k1 h, La_n1 h, La_k2 h, La_n2 h, La_k3 h, La_n3 h, La_k4 h, La_n4 h, La_k5 h, La_n5 h, La_f6 h, La_f7 h, La_f8 h, La_f9 h, La_f10 h, La_0 h, La_1 h, La_2 h, La_3 h, La_4 h, La_5 h, La_h h, La_a h, La_t h, La_fr h, La_to h, tdiv_nn]
/-- a tower stands at q in a year -/
def tw (g : Int → Int) (q y : Int) : Prop := ∃ k, 0 ≤ k ∧ k < g 5 ∧ g (150 + 4 * k) = 1 ∧ g (151 + 4 * k) = q ∧ g (152 + 4 * k) ≤ y ∧ y ≤ g (153 + 4 * k)
theorem c_hasTower (h : La μ c g) (hL : LdOk g) (q y : Int) : fX2_hasTower c q y μ = some (bi (tw g q y)) := by
  have t := hL.t
  apply Ev.eq
  unfold fX2_hasTower
  refine Ev_bind (Ev_lop (P := fun x => (x = .inl () ∧ ¬tw g q y) ∨ (x = .inr () ∧ tw g q y)) (fun s => (0 ≤ s ∧ s ≤ g 5) ∧ ∀ k, 0 ≤ k → k < s → ¬(g (150 + 4 * k) = 1 ∧ g (151 + 4 * k) = q ∧ g (152 + 4 * k) ≤ y ∧ y ≤ g (153 + 4 * k))) (fun s => (g 5 - s).toNat) ⟨by omega, fun k a b => by omega⟩ (by unfold FU; omega) ?_) ?_
  · intro v3 ⟨h1, h2⟩
    unfold sX2_hasTower_2
    simp (disch := omega) only [w32_eq, w64_eq, chk_T, chk_t, lt, lm, ob, Int.add_zero, Int.zero_add, true_and, and_true, if_true, if_false, La_k h, La_k1 h, La_n1 h, La_k2 h, La_n2 h, La_k3 h, La_n3 h, La_k4 h, La_n4 h, La_k5 h, La_n5 h, La_f6 h, La_f7 h, La_f8 h, La_f9 h, La_f10 h, La_0 h, La_1 h, La_2 h, La_3 h, La_4 h, La_5 h, La_h h, La_a h, La_t h, La_fr h, La_to h]
    have go : ¬(g (150 + 4 * v3) = 1 ∧ g (151 + 4 * v3) = q ∧ g (152 + 4 * v3) ≤ y ∧ y ≤ g (153 + 4 * v3)) → ¬g 5 ≤ v3 → Ev (some (Sum.inl (v3 + 1)) : Option (Int ⊕ (Unit ⊕ Unit))) (Nx (fun s => (0 ≤ s ∧ s ≤ g 5) ∧ ∀ k, 0 ≤ k → k < s → ¬(g (150 + 4 * k) = 1 ∧ g (151 + 4 * k) = q ∧ g (152 + 4 * k) ≤ y ∧ y ≤ g (153 + 4 * k))) (fun s => (g 5 - s).toNat) (fun x => (x = .inl () ∧ ¬tw g q y) ∨ (x = .inr () ∧ tw g q y)) (g 5 - v3).toNat) := by
      intro hn hl
      refine Ev_in ⟨by omega, fun k a b => ?_⟩ (by omega)
      by_cases z : k = v3
      · subst z; exact hn
      · exact h2 k a (by omega)
    refine Ev_ite (fun q1 => Ev_out (.inl ⟨rfl, ?_⟩)) (fun q1 => ?_)
    · rintro ⟨k, a, b, d⟩; exact h2 k a (by omega) d
    · have tt := hL.tt h1.1 (by omega : v3 < g 5)
      rw [if_neg (by omega)]
      try simp (disch := omega) only [w32_eq, w64_eq, chk_T, chk_t, lt, lm, ob, Int.add_zero, Int.zero_add, true_and, and_true, if_true, if_false, La_k h, La_k1 h, La_n1 h, La_k2 h, La_n2 h, La_k3 h, La_n3 h, La_k4 h, La_n4 h, La_k5 h, La_n5 h, La_f6 h, La_f7 h, La_f8 h, La_f9 h, La_f10 h, La_0 h, La_1 h, La_2 h, La_3 h, La_4 h, La_5 h, La_h h, La_a h, La_t h, La_fr h, La_to h]
      refine Ev_ite (fun q2 => go (fun z => by omega) q1) (fun q2 => Ev_ite (fun q3 => Ev_ite (fun q4 => go (fun z => by omega) q1) (fun q4 => Ev_ite (fun q5 => go (fun z => by omega) q1) (fun q5 => Ev_out (.inr ⟨rfl, v3, h1.1, by omega, by omega, q3, by omega, by omega⟩)))) (fun q3 => go (fun z => q3 z.2.1) q1))
  · rintro r (⟨e, z⟩ | ⟨e, z⟩)
    · subst e; exact Ev_some (bi_f z).symm
    · subst e; exact Ev_some (bi_t z).symm
/-- the neighbours of p: 0 north, 1 east, 2 south, 3 west; -1 none -/
noncomputable def nb (g : Int → Int) (p i : Int) : Int := if i = 0 then (if 0 < cY g p then p - g 0 else -1) else if i = 1 then (if cX g p < g 0 - 1 then p + 1 else -1) else if i = 2 then (if cY g p < g 1 - 1 then p + g 0 else -1) else (if 0 < cX g p then p - 1 else -1)
theorem nb_P (hL : LdOk g) {p i : Int} (hp : Pl g p) (h : nb g p i ≠ -1) : Pl g (nb g p i) := by
  have w := hL.w; have d := hL.d; have bx := cX_b hL p; have bY := cY_b hL hp
  have e := at_c (g := g) p
  unfold at0 at e
  have key : ∀ x y : Int, (0 ≤ x ∧ x < g 0) → (0 ≤ y ∧ y < g 1) → Pl g (y * g 0 + x) := fun x y hx hy => at_P hx.1 hx.2 hy.1 hy.2
  unfold nb at h ⊢
  split at h
  · next h1 => rw [if_pos h1]; split at h
               · next h2 => rw [if_pos h2]
                            have := key (cX g p) (cY g p - 1) bx (by omega)
                            rwa [show (cY g p - 1) * g 0 + cX g p = p - g 0 by rw [Int.sub_mul]; omega] at this
               · exact absurd rfl h
  · next h1 =>
    rw [if_neg h1]
    split at h
    · next h1 => rw [if_pos h1]; split at h
                 · next h2 => rw [if_pos h2]
                              have := key (cX g p + 1) (cY g p) (by omega) bY
                              rwa [show cY g p * g 0 + (cX g p + 1) = p + 1 by omega] at this
                 · exact absurd rfl h
    · next h1 =>
      rw [if_neg h1]
      split at h
      · next h1 => rw [if_pos h1]; split at h
                   · next h2 => rw [if_pos h2]
                                have := key (cX g p) (cY g p + 1) bx (by omega)
                                rwa [show (cY g p + 1) * g 0 + cX g p = p + g 0 by rw [Int.add_mul]; omega] at this
                   · exact absurd rfl h
      · next h1 => rw [if_neg h1]; split at h
                   · next h2 => rw [if_pos h2]
                                have := key (cX g p - 1) (cY g p) (by omega) bY
                                rwa [show cY g p * g 0 + (cX g p - 1) = p - 1 by omega] at this
                   · exact absurd rfl h
theorem c_neighbour (h : La μ c g) (hL : LdOk g) {p i : Int} (hp : Pl g p) : fX2_neighbour c p i μ = some (nb g p i) := by
  have w := hL.w; have d := hL.d; have b1 := Pl.i hL hp
  unfold fX2_neighbour nb
  simp (disch := omega) only [w32_eq, w64_eq, chk_T, chk_t, lt, lm, ob, Int.add_zero, Int.zero_add, true_and, and_true, if_true, if_false, La_k h, La_k1 h, La_n1 h, La_k2 h, La_n2 h, La_k3 h, La_n3 h, La_k4 h, La_n4 h, La_k5 h, La_n5 h, La_f6 h, La_f7 h, La_f8 h, La_f9 h, La_f10 h, La_0 h, La_1 h, La_2 h, La_3 h, La_4 h, La_5 h, La_h h, La_a h, La_t h, La_fr h, La_to h, c_column h hL hp.1, c_row h hL hp]
  split
  · split
    · rw [if_neg (by omega)]
    · rw [if_pos (by omega)]
  · split
    · split
      · rw [if_neg (by omega)]
      · rw [if_pos (by omega)]
    · split
      · split
        · rw [if_neg (by omega)]
        · rw [if_pos (by omega)]
      · split
        · rw [if_neg (by omega)]
        · rw [if_pos (by omega)]
end
