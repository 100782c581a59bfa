/-! ===== rules for calls that make objects: what is left of a budget ===== -/
def Ec {α : Type} (x : Option (α × Nat × Nat)) (b : Int) (P : α → Int → Prop) : Prop := ∃ r c n b', x = some (r, c, n) ∧ P r b' ∧ (c : Int) + b' ≤ b ∧ (n : Int) + b' ≤ b
theorem Ec_some {α : Type} {r : α} {b : Int} {P : α → Int → Prop} (h : P r b) : Ec (some (r, 0, 0)) b P := ⟨r, 0, 0, b, rfl, h, by omega, by omega⟩
theorem Ec_chk {α : Type} {c : Prop} [Decidable c] {x : Option (α × Nat × Nat)} {b : Int} {P : α → Int → Prop} (h : c) (k : Ec x b P) : Ec (chk c x) b P := by rw [chk_t h]; exact k
theorem Ec_ite {α : Type} {c : Prop} [Decidable c] {x y : Option (α × Nat × Nat)} {b : Int} {P : α → Int → Prop} (h1 : c → Ec x b P) (h2 : ¬c → Ec y b P) : Ec (if c then x else y) b P := by
  by_cases h : c
  · rw [if_pos h]; exact h1 h
  · rw [if_neg h]; exact h2 h
theorem Ec_pay {α : Type} {x : Option (α × Nat × Nat)} {b b1 : Int} {c n : Nat} {P : α → Int → Prop} (h : Ec x b1 P) (h1 : (c : Int) + b1 ≤ b) (h2 : (n : Int) + b1 ≤ b) : Ec (pay c n x) b P := by
  obtain ⟨r, c', n', b', e, hp, a1, a2⟩ := h
  refine ⟨r, c + c', n + n', b', by rw [e]; rfl, hp, ?_, ?_⟩
  · rw [Int.natCast_add]; omega
  · rw [Int.natCast_add]; omega
theorem Ec_bind {α β : Type} {x : Option (α × Nat × Nat)} {f : α × Nat × Nat → Option (β × Nat × Nat)} {b : Int} {Q : α → Int → Prop} {P : β → Int → Prop} (h : Ec x b Q) (k : ∀ r b', Q r b' → ∀ c n, ∃ y, f (r, c, n) = pay c n y ∧ Ec y b' P) : Ec (x.bind f) b P := by
  obtain ⟨r, c, n, b1, e, hq, a1, a2⟩ := h
  obtain ⟨y, ey, hy⟩ := k r b1 hq c n
  rw [e]; show Ec (f (r, c, n)) b P; rw [ey]
  exact Ec_pay hy a1 a2
theorem Ec_bindE {α β : Type} {x : Option α} {f : α → Option (β × Nat × Nat)} {b : Int} {Q : α → Prop} {P : β → Int → Prop} (h : Ev x Q) (k : ∀ r, Q r → Ec (f r) b P) : Ec (x.bind f) b P := by
  obtain ⟨r, e, hq⟩ := h
  rw [e]; exact k r hq
theorem Ec_mono {α : Type} {x : Option (α × Nat × Nat)} {b : Int} {P Q : α → Int → Prop} (h : Ec x b P) (k : ∀ r b', P r b' → Q r b') : Ec x b Q := by
  obtain ⟨r, c, n, b', e, hp, a⟩ := h; exact ⟨r, c, n, b', e, k r b' hp, a⟩
def NxA {σ ρ : Type} (I : σ → Int → Prop) (m : σ → Nat) (P : ρ → Int → Prop) (k : Nat) : σ ⊕ ρ → Int → Prop
  | .inl s, b => I s b ∧ m s < k
  | .inr r, b => P r b
theorem Ec_lop {σ ρ : Type} {step : σ → Option ((σ ⊕ ρ) × Nat × Nat)} {s : σ} {b : Int} {P : ρ → Int → Prop} (I : σ → Int → Prop) (m : σ → Nat) (hI : I s b) (hm : m s < FU) (hs : ∀ s b, I s b → Ec (step s) b (NxA I m P (m s))) : Ec (lopA step FU s) b P := by
  have : ∀ (f : Nat) (s : σ) (b : Int), I s b → m s < f → Ec (lopA step f s) b P := by
    intro f
    induction f with
    | zero => intro s b _ h; exact absurd h (Nat.not_lt_zero _)
    | succ f ih =>
      intro s b h h2
      unfold lopA
      obtain ⟨t, c, n, b', e, ht, a1, a2⟩ := hs s b h
      rw [e]
      cases t with
      | inr r => exact ⟨r, c, n, b', rfl, ht, a1, a2⟩
      | inl s' =>
        have h3 : I s' b' ∧ m s' < m s := ht
        exact Ec_pay (ih s' b' h3.1 (by omega)) a1 a2
  exact this FU s b hI hm
theorem Ec_inA {σ ρ : Type} {I : σ → Int → Prop} {m : σ → Nat} {P : ρ → Int → Prop} {k : Nat} {s : σ} {b : Int} (h : I s b) (h2 : m s < k) : Ec (some ((Sum.inl s : σ ⊕ ρ), 0, 0)) b (NxA I m P k) := Ec_some ⟨h, h2⟩
theorem Ec_outA {σ ρ : Type} {I : σ → Int → Prop} {m : σ → Nat} {P : ρ → Int → Prop} {k : Nat} {r : ρ} {b : Int} (h : P r b) : Ec (some ((Sum.inr r : σ ⊕ ρ), 0, 0)) b (NxA I m P k) := Ec_some h
theorem py {α : Type} {c n a b : Nat} {v : α} : pay c n (some (v, a, b)) = some (v, c + a, n + b) := by
  have h : pay c n (some (v, a, b)) = some (v, c + a, n + b) := Eq.refl _
  exact h
theorem nw_n {μ : Mm} {a b : Int} (h : b ≠ a) (h0 : b ≠ 0) : mnw μ a b = μ b := by unfold mnw; rw [if_neg h, if_neg h0]
theorem nw_s {μ : Mm} {a i : Int} : mnw μ a a i = 0 := by unfold mnw; rw [if_pos rfl]
theorem nw_z {μ : Mm} {a j : Int} (ha : a ≠ 0) (h : j ≠ a) : mnw μ a 0 j = μ 0 j := by unfold mnw; rw [if_neg (Ne.symm ha), if_pos rfl, if_neg h]
theorem Fw.nw {R : Int → Prop} {μ μ1 : Mm} {a : Int} (h : Fw R μ μ1) (ha : R a) (h0 : R 0) : Fw R μ (mnw μ1 a) := fun x hx => (nw_n (fun (e : x = a) => hx (e ▸ ha)) (fun (e : x = 0) => hx (e ▸ h0))).trans (h x hx)
/-! ===== the class: its own rows ===== -/
def X10F (μ : Mm) : Prop := μ 100 0 = 1000 ∧ μ 100 1 = 101 ∧ μ 100 2 = 200 ∧ μ 100 3 = 230 ∧ μ 100 4 = 102 ∧ μ 100 5 = 240 ∧ μ 100 6 = 250 ∧ μ 100 7 = 290 ∧ μ 100 8 = 300 ∧ μ 100 9 = 103 ∧ μ 100 10 = 104
section
variable {μ : Mm}
theorem X10F.f0 (h : X10F μ) : μ 100 0 = 1000 := h.1
theorem X10F.f1 (h : X10F μ) : μ 100 1 = 101 := h.2.1
theorem X10F.f2 (h : X10F μ) : μ 100 2 = 200 := h.2.2.1
theorem X10F.f3 (h : X10F μ) : μ 100 3 = 230 := h.2.2.2.1
theorem X10F.f4 (h : X10F μ) : μ 100 4 = 102 := h.2.2.2.2.1
theorem X10F.f5 (h : X10F μ) : μ 100 5 = 240 := h.2.2.2.2.2.1
theorem X10F.f6 (h : X10F μ) : μ 100 6 = 250 := h.2.2.2.2.2.2.1
theorem X10F.f7 (h : X10F μ) : μ 100 7 = 290 := h.2.2.2.2.2.2.2.1
theorem X10F.f8 (h : X10F μ) : μ 100 8 = 300 := h.2.2.2.2.2.2.2.2.1
theorem X10F.f9 (h : X10F μ) : μ 100 9 = 103 := h.2.2.2.2.2.2.2.2.2.1
theorem X10F.f10 (h : X10F μ) : μ 100 10 = 104 := h.2.2.2.2.2.2.2.2.2.2
end
/-! sketches -/
def SkK (c : Int) : Prop := KD c = 6 ∧ (KD (c + 1) = 12 ∧ LN (c + 1) = 12) ∧ (KD (c + 2) = 12 ∧ LN (c + 2) = 12)
def SkF (μ : Mm) (c : Int) : Prop := μ c 7 = c + 1 ∧ μ c 8 = c + 2
def SkB (μ : Mm) (c : Int) : Prop := (μ c 2 = 0 ∨ μ c 2 = 1) ∧ (μ c 3 = 0 ∨ μ c 3 = 1) ∧ (μ c 4 = 0 ∨ μ c 4 = 1)
def SkOk (s : Int → Int) : Prop := (1 ≤ s 0 ∧ s 0 ≤ 12) ∧ (0 ≤ s 1 ∧ s 1 ≤ 99) ∧ (s 2 = 0 ∨ s 2 = 1) ∧ (s 3 = 0 ∨ s 3 = 1) ∧ (s 4 = 0 ∨ s 4 = 1) ∧ (0 ≤ s 5 ∧ s 5 ≤ s 6 ∧ s 6 ≤ 99) ∧ ∀ i, 0 ≤ i → i < s 0 → (1 ≤ s (7 + i) ∧ s (7 + i) ≤ 99) ∧ (0 ≤ s (19 + i) ∧ s (19 + i) ≤ 5)
def Sk (μ : Mm) (c : Int) (s : Int → Int) : Prop := SkK c ∧ SkF μ c ∧ (μ c 0 = s 0 ∧ μ c 1 = s 1 ∧ μ c 2 = s 2 ∧ μ c 3 = s 3 ∧ μ c 4 = s 4 ∧ μ c 5 = s 5 ∧ μ c 6 = s 6) ∧ ∀ i, 0 ≤ i → i < s 0 → μ (c + 1) i = s (7 + i) ∧ μ (c + 2) i = s (19 + i)
theorem Sk.fw {R : Int → Prop} {μ μ' : Mm} {c : Int} {s : Int → Int} (h : Sk μ c s) (f : Fw R μ μ') (h0 : ∀ x, c ≤ x → x ≤ c + 2 → ¬R x) : Sk μ' c s := by
  unfold Sk SkF; rw [f c (h0 _ (by omega) (by omega)), f (c + 1) (h0 _ (by omega) (by omega)), f (c + 2) (h0 _ (by omega) (by omega))]; exact h
/-! the told things, as functions of the reference's row -/
def gl (b : Int → Int) (l n : Int) : Int → Int := fun i => if 0 ≤ i ∧ i < n then b (l + i) else 0
def lg (b : Int → Int) (n : Int) : Int → Int := gl b (710 + 200 * n) 200
def ls (b : Int → Int) (n : Int) : Int → Int := gl b (1110 + 32 * n) 32
theorem gl_t {b : Int → Int} {l n i : Int} (h0 : 0 ≤ i) (h1 : i < n) : gl b l n i = b (l + i) := by unfold gl; rw [if_pos ⟨h0, h1⟩]
/-- what holds of a state's row -/
def AOk (b : Int → Int) : Prop := (0 ≤ b 0 ∧ b 0 ≤ 2) ∧ (0 ≤ b 1 ∧ b 1 ≤ 4) ∧ (0 ≤ b 2 ∧ b 2 ≤ 700) ∧ (∀ i, 0 ≤ i → i < 700 → 0 ≤ b (10 + i) ∧ b (10 + i) ≤ 255) ∧ (∀ n, 0 ≤ n → n < b 0 → LdOk (lg b n)) ∧ (∀ n, 0 ≤ n → n < b 1 → SkOk (ls b n)) ∧ (-1000 ≤ b 3 ∧ b 3 ≤ 1000 ∧ -1000 ≤ b 4 ∧ b 4 ≤ 1000)
def StK (c : Int) : Prop := KD c = 8 ∧ (KD (c + 1) = 12 ∧ LN (c + 1) = 700) ∧ (KD (c + 2) = 15 ∧ LN (c + 2) = 2) ∧ (KD (c + 3) = 17 ∧ LN (c + 3) = 4) ∧ (∀ n, 0 ≤ n → n < 2 → LaK (c + 10 + 10 * n)) ∧ ∀ n, 0 ≤ n → n < 4 → SkK (c + 40 + 10 * n)
def StF (μ : Mm) (c : Int) : Prop := (μ c 0 = c + 1 ∧ μ c 6 = c + 2 ∧ μ c 7 = c + 3) ∧ (∀ n, 0 ≤ n → n < 2 → μ (c + 2) n = c + 10 + 10 * n ∧ LaF μ (c + 10 + 10 * n) ∧ ∀ k, 0 ≤ k → k < 12 → μ (c + 10 + 10 * n + 3) k = 0 ∨ μ (c + 10 + 10 * n + 3) k = 1) ∧ ∀ n, 0 ≤ n → n < 4 → μ (c + 3) n = c + 40 + 10 * n ∧ SkF μ (c + 40 + 10 * n) ∧ SkB μ (c + 40 + 10 * n)
/-- the state c holds what the row b holds -/
def St (μ : Mm) (c : Int) (b : Int → Int) : Prop := StK c ∧ StF μ c ∧ (μ c 1 = b 2 ∧ μ c 2 = b 3 ∧ μ c 3 = b 4 ∧ μ c 4 = b 0 ∧ μ c 5 = b 1) ∧ (∀ i, 0 ≤ i → i < 700 → μ (c + 1) i = b (10 + i)) ∧ (∀ n, 0 ≤ n → n < b 0 → La μ (c + 10 + 10 * n) (lg b n)) ∧ (∀ n, 0 ≤ n → n < b 1 → Sk μ (c + 40 + 10 * n) (ls b n)) ∧ AOk b
theorem StF.fw {R : Int → Prop} {μ μ' : Mm} {c : Int} (h : StF μ c) (f : Fw R μ μ') (h0 : ∀ x, c ≤ x → x < c + 100 → ¬R x) : StF μ' c := by
  obtain ⟨h1, h2, h3⟩ := h
  refine ⟨by rw [f c (h0 _ (by omega) (by omega))]; exact h1, fun n n0 n1 => ?_, fun n n0 n1 => ?_⟩
  · have := h2 n n0 n1
    unfold LaF; rw [f (c + 2) (h0 _ (by omega) (by omega)), f (c + 10 + 10 * n) (h0 _ (by omega) (by omega)), f (c + 10 + 10 * n + 3) (h0 _ (by omega) (by omega))]; exact this
  · have := h3 n n0 n1
    unfold SkF SkB; rw [f (c + 3) (h0 _ (by omega) (by omega)), f (c + 40 + 10 * n) (h0 _ (by omega) (by omega))]; exact this
theorem St.fw {R : Int → Prop} {μ μ' : Mm} {c : Int} {b : Int → Int} (h : St μ c b) (f : Fw R μ μ') (h0 : ∀ x, c ≤ x → x < c + 100 → ¬R x) : St μ' c b := by
  obtain ⟨hk, hf, hv, ht, hl, hs, ho⟩ := h
  refine ⟨hk, hf.fw f h0, by rw [f c (h0 _ (by omega) (by omega))]; exact hv, by rw [f (c + 1) (h0 _ (by omega) (by omega))]; exact ht, fun n n0 n1 => ?_, fun n n0 n1 => ?_, ho⟩
  · have := ho.1; exact (hl n n0 n1).fw f (fun x a b => h0 x (by omega) (by omega))
  · have := ho.2.1; exact (hs n n0 n1).fw f (fun x a b => h0 x (by omega) (by omega))
/-- the state of now -/
def Nw (μ : Mm) (b : Int → Int) : Prop := X10F μ ∧ St μ 1000 b
theorem Nw.fw {R : Int → Prop} {μ μ' : Mm} {b : Int → Int} (h : Nw μ b) (f : Fw R μ μ') (h0 : ¬R 100) (h1 : ∀ x, 1000 ≤ x → x < 1100 → ¬R x) : Nw μ' b := by
  refine ⟨?_, h.2.fw f (fun x a b => h1 x a (by omega))⟩
  unfold X10F; rw [f 100 h0]; exact h.1
theorem Nw.la {μ : Mm} {b : Int → Int} (h : Nw μ b) {n : Int} (h0 : 0 ≤ n) (h1 : n < b 0) : La μ (1010 + 10 * n) (lg b n) := h.2.2.2.2.2.1 n h0 h1
theorem Nw.ld {μ : Mm} {b : Int → Int} (h : Nw μ b) {n : Int} (h0 : 0 ≤ n) (h1 : n < b 0) : LdOk (lg b n) := h.2.2.2.2.2.2.2.2.2.2.2.1 n h0 h1
theorem Nw.sk {μ : Mm} {b : Int → Int} (h : Nw μ b) {n : Int} (h0 : 0 ≤ n) (h1 : n < b 1) : Sk μ (1040 + 10 * n) (ls b n) := h.2.2.2.2.2.2.1 n h0 h1
theorem Nw.so {μ : Mm} {b : Int → Int} (h : Nw μ b) {n : Int} (h0 : 0 ≤ n) (h1 : n < b 1) : SkOk (ls b n) := h.2.2.2.2.2.2.2.2.2.2.2.2.1 n h0 h1
theorem Nw.n0 {μ : Mm} {b : Int → Int} (h : Nw μ b) : 0 ≤ b 0 ∧ b 0 ≤ 2 := h.2.2.2.2.2.2.2.1
theorem Nw.n1 {μ : Mm} {b : Int → Int} (h : Nw μ b) : 0 ≤ b 1 ∧ b 1 ≤ 4 := h.2.2.2.2.2.2.2.2.1
theorem K1000 : KD 1000 = 8 := by decide
theorem K1002 : KD 1002 = 15 := by decide
theorem N1002 : LN 1002 = 2 := by decide
theorem K1003 : KD 1003 = 17 := by decide
theorem N1003 : LN 1003 = 4 := by decide
/-- land n is there -/
def isL (b : Int → Int) (n : Int) : Prop := 0 ≤ n ∧ n < b 0
def isS (b : Int → Int) (n : Int) : Prop := 0 ≤ n ∧ n < b 1
theorem c_landAt {μ : Mm} {b : Int → Int} {n : Int} (h : Nw μ b) : fX10_landAt 100 n μ = some (sel (isL b n) (1010 + 10 * n) 0) := by
  have n0 := h.n0
  have e6 : μ 1000 6 = 1002 := h.2.2.1.1.2.1
  have e4 : μ 1000 4 = b 0 := h.2.2.2.1.2.2.2.1
  unfold fX10_landAt
  simp (disch := omega) only [w32_eq, w64_eq, chk_T, chk_t, lt, lm, ob, Int.add_zero, Int.zero_add, true_and, and_true, if_true, if_false, K100, K101, K102, K103, K104, K200, K201, K230, K231, K232, K233, K234, K235, K236, K237, K250, K251, K252, K253, K254, K300, K301, K302, K303, K304, N101, N102, N103, N104, N201, N232, N233, N234, N235, N236, N237, N251, N252, N253, N254, N301, N302, N303, N304, X10F.f0 h.1, X10F.f1 h.1, X10F.f2 h.1, X10F.f3 h.1, X10F.f4 h.1, X10F.f5 h.1, X10F.f6 h.1, X10F.f7 h.1, X10F.f8 h.1, X10F.f9 h.1, X10F.f10 h.1, K1000, e4, e6, K1002, N1002]
  by_cases q : n < 0
  · rw [if_pos q, sel_f (fun z => by have := z.1; omega)]
  · rw [if_neg q]
    by_cases q2 : b 0 ≤ n
    · rw [if_pos q2, sel_f (fun z => by have := z.2; omega)]
    · rw [if_neg q2, if_neg (by omega), sel_t ⟨by omega, by omega⟩]
      have := (h.2.2.1.2.1 n (by omega) (by omega)).1
      rw [show (1000 : Int) + 2 = 1002 by decide, show (1000 : Int) + 10 + 10 * n = 1010 + 10 * n by omega] at this
      simp (disch := omega) only [w32_eq, w64_eq, chk_T, chk_t, lt, lm, ob, Int.add_zero, Int.zero_add, true_and, and_true, if_true, if_false, this]
theorem c_sketchAt {μ : Mm} {b : Int → Int} {n : Int} (h : Nw μ b) : fX10_sketchAt 100 n μ = some (sel (isS b n) (1040 + 10 * n) 0) := by
  have n0 := h.n1
  have e6 : μ 1000 7 = 1003 := h.2.2.1.1.2.2
  have e4 : μ 1000 5 = b 1 := h.2.2.2.1.2.2.2.2
  unfold fX10_sketchAt
  simp (disch := omega) only [w32_eq, w64_eq, chk_T, chk_t, lt, lm, ob, Int.add_zero, Int.zero_add, true_and, and_true, if_true, if_false, K100, K101, K102, K103, K104, K200, K201, K230, K231, K232, K233, K234, K235, K236, K237, K250, K251, K252, K253, K254, K300, K301, K302, K303, K304, N101, N102, N103, N104, N201, N232, N233, N234, N235, N236, N237, N251, N252, N253, N254, N301, N302, N303, N304, X10F.f0 h.1, X10F.f1 h.1, X10F.f2 h.1, X10F.f3 h.1, X10F.f4 h.1, X10F.f5 h.1, X10F.f6 h.1, X10F.f7 h.1, X10F.f8 h.1, X10F.f9 h.1, X10F.f10 h.1, K1000, e4, e6, K1003, N1003]
  by_cases q : n < 0
  · rw [if_pos q, sel_f (fun z => by have := z.1; omega)]
  · rw [if_neg q]
    by_cases q2 : b 1 ≤ n
    · rw [if_pos q2, sel_f (fun z => by have := z.2; omega)]
    · rw [if_neg q2, if_neg (by omega), sel_t ⟨by omega, by omega⟩]
      have := (h.2.2.1.2.2 n (by omega) (by omega)).1
      rw [show (1000 : Int) + 3 = 1003 by decide, show (1000 : Int) + 40 + 10 * n = 1040 + 10 * n by omega] at this
      simp (disch := omega) only [w32_eq, w64_eq, chk_T, chk_t, lt, lm, ob, Int.add_zero, Int.zero_add, true_and, and_true, if_true, if_false, this]
/-! ===== scenes ===== -/
def ScK (q : Int) : Prop := KD q = 4 ∧ (KD (q + 1) = 12 ∧ LN (q + 1) = 3) ∧ (KD (q + 2) = 18 ∧ LN (q + 2) = 144) ∧ (KD (q + 3) = 13 ∧ LN (q + 3) = 432) ∧ (KD (q + 4) = 13 ∧ LN (q + 4) = 12) ∧ LiK (q + 10) ∧ ∀ p, 0 ≤ p → p < 144 → LiK (q + 100 + 10 * p)
theorem lk0 : upTo (fun n => decide (KD (10100 + 10 * (n : Int)) = 7 ∧ (KD (10100 + 10 * (n : Int) + 1) = 12 ∧ LN (10100 + 10 * (n : Int) + 1) = 90) ∧ (KD (10100 + 10 * (n : Int) + 2) = 12 ∧ LN (10100 + 10 * (n : Int) + 2) = 90) ∧ (KD (10100 + 10 * (n : Int) + 3) = 12 ∧ LN (10100 + 10 * (n : Int) + 3) = 90) ∧ (KD (10100 + 10 * (n : Int) + 4) = 12 ∧ LN (10100 + 10 * (n : Int) + 4) = 45) ∧ (KD (10100 + 10 * (n : Int) + 5) = 12 ∧ LN (10100 + 10 * (n : Int) + 5) = 12) ∧ (KD (10100 + 10 * (n : Int) + 6) = 13 ∧ LN (10100 + 10 * (n : Int) + 6) = 3))) 144 = true := by decide +kernel
theorem lk1 : upTo (fun n => decide (KD (12100 + 10 * (n : Int)) = 7 ∧ (KD (12100 + 10 * (n : Int) + 1) = 12 ∧ LN (12100 + 10 * (n : Int) + 1) = 90) ∧ (KD (12100 + 10 * (n : Int) + 2) = 12 ∧ LN (12100 + 10 * (n : Int) + 2) = 90) ∧ (KD (12100 + 10 * (n : Int) + 3) = 12 ∧ LN (12100 + 10 * (n : Int) + 3) = 90) ∧ (KD (12100 + 10 * (n : Int) + 4) = 12 ∧ LN (12100 + 10 * (n : Int) + 4) = 45) ∧ (KD (12100 + 10 * (n : Int) + 5) = 12 ∧ LN (12100 + 10 * (n : Int) + 5) = 12) ∧ (KD (12100 + 10 * (n : Int) + 6) = 13 ∧ LN (12100 + 10 * (n : Int) + 6) = 3))) 144 = true := by decide +kernel
theorem LiK_p {q p : Int} (hq : q = 10000 ∨ q = 12000) (h0 : 0 ≤ p) (h1 : p < 144) : LiK (q + 100 + 10 * p) := by
  rcases hq with e | e
  · have := of_decide_eq_true (upTo_e lk0 (show p.toNat < 144 by omega))
    rw [Int.toNat_of_nonneg h0] at this; subst e; exact this
  · have := of_decide_eq_true (upTo_e lk1 (show p.toNat < 144 by omega))
    rw [Int.toNat_of_nonneg h0] at this; subst e; exact this
theorem ScK_q {q : Int} (hq : q = 10000 ∨ q = 12000) : ScK q := by
  have hp := fun p h0 h1 => LiK_p (q := q) (p := p) hq h0 h1
  rcases hq with e | e <;> (subst e; exact ⟨by decide, ⟨by decide, by decide⟩, ⟨by decide, by decide⟩, ⟨by decide, by decide⟩, ⟨by decide, by decide⟩, ⟨by decide, ⟨by decide, by decide⟩, ⟨by decide, by decide⟩, ⟨by decide, by decide⟩, ⟨by decide, by decide⟩, ⟨by decide, by decide⟩, ⟨by decide, by decide⟩⟩, hp⟩)
theorem c_lineInit {μ : Mm} {s : Int} (hK : LiK s) (h0 : 0 < s) (hz : ∀ i, s < i → i ≤ s + 6 → μ 0 i = 0) : ∃ μ', fX7_init s μ = some (μ', 6, 330) ∧ Fw (fun x => x = 0 ∨ s ≤ x ∧ x ≤ s + 6) μ μ' ∧ LiF μ' s ∧ μ' s 0 = -1 ∧ ∀ j, j < s ∨ s + 6 < j → μ' 0 j = μ 0 j := by
  have z1 := hz (s + 1) (by omega) (by omega); have z2 := hz (s + 2) (by omega) (by omega); have z3 := hz (s + 3) (by omega) (by omega); have z4 := hz (s + 4) (by omega) (by omega); have z5 := hz (s + 5) (by omega) (by omega); have z6 := hz (s + 6) (by omega) (by omega)
  unfold fX7_init
  simp (disch := omega) only [w32_eq, w64_eq, chk_T, chk_t, lt, lm, ob, Int.add_zero, Int.zero_add, true_and, and_true, if_true, if_false, LiK.k hK, LiK.k1 hK, LiK.n1 hK, LiK.k2 hK, LiK.n2 hK, LiK.k3 hK, LiK.n3 hK, LiK.k4 hK, LiK.n4 hK, LiK.k5 hK, LiK.n5 hK, LiK.k6 hK, LiK.n6 hK, mst_n, mst_s, mst_j, nw_n, nw_s, nw_z, ne_eq, z1, z2, z3, z4, z5, z6, py]
  refine ⟨_, rfl, ?_, ?_, ?_, ?_⟩
  · repeat first
      | exact Fw.rf
      | apply Fw.st
      | apply Fw.nw
      | omega
  · unfold LiF; simp (disch := omega) only [mst_n, mst_s, mst_j, nw_n, nw_s, nw_z, ]; exact ⟨trivial, trivial, trivial, trivial, trivial, trivial⟩
  · simp (disch := omega) only [mst_n, mst_s, mst_j, nw_n, nw_s, nw_z, ]
  · intro j hj; simp (disch := omega) only [mst_n, mst_s, mst_j, nw_n, nw_s, nw_z, ]
