/-! ===== rules for loops and numbers ===== -/
theorem lop_inv {σ ρ : Type} {step : σ → Option (σ ⊕ ρ)} (I : σ → Prop) (m : σ → Nat) (P : ρ → Prop) (hs : ∀ s, I s → (∃ r, step s = some (.inr r) ∧ P r) ∨ (∃ s', step s = some (.inl s') ∧ I s' ∧ m s' < m s)) : ∀ (f : Nat) (s : σ), I s → m s < f → ∃ r, lop step f s = some r ∧ P r
  | 0, s, _, h => absurd h (Nat.not_lt_zero _)
  | f + 1, s, hI, h => by
    unfold lop
    rcases hs s hI with ⟨r, e, hP⟩ | ⟨s', e, hI', hm⟩
    · rw [e]; exact ⟨r, rfl, hP⟩
    · rw [e]; exact lop_inv I m P hs f s' hI' (by omega)
/-- a loop that ends with a known answer -/
theorem lop_eq {σ ρ : Type} {step : σ → Option (σ ⊕ ρ)} (I : σ → Prop) (m : σ → Nat) (r0 : ρ) (hs : ∀ s, I s → step s = some (.inr r0) ∨ (∃ s', step s = some (.inl s') ∧ I s' ∧ m s' < m s)) {s : σ} (hI : I s) (hm : m s < FU) : lop step FU s = some r0 := by
  obtain ⟨r, e, hr⟩ := lop_inv (ρ := ρ) I m (fun r => r = r0) (fun s hI => (hs s hI).imp (fun e => ⟨r0, e, rfl⟩) id) FU s hI hm
  rw [e, hr]
theorem bind_s {α β : Type} {x : Option α} {a : α} {f : α → Option β} (h : x = some a) : x.bind f = f a := by rw [h]; rfl
theorem sq_le {x b : Int} (h1 : -b ≤ x) (h2 : x ≤ b) : x * x ≤ b * b := by
  rcases Int.le_total 0 x with h | h
  · exact Int.mul_le_mul h2 h2 h (by omega)
  · have := Int.mul_le_mul (show -x ≤ b by omega) (show -x ≤ b by omega) (by omega) (by omega)
    rwa [Int.neg_mul_neg] at this
theorem sq_nn (x : Int) : 0 ≤ x * x := by
  rcases Int.le_total 0 x with h | h
  · exact Int.mul_nonneg h h
  · exact Int.mul_nonneg_of_nonpos_of_nonpos h h
theorem mul_le_of {x y a b : Int} (h0 : 0 ≤ x) (h1 : x ≤ a) (h2 : 0 ≤ y) (h3 : y ≤ b) : x * y ≤ a * b := Int.mul_le_mul h1 h3 h2 (by omega)
theorem mul_nn {x y : Int} (h0 : 0 ≤ x) (h2 : 0 ≤ y) : 0 ≤ x * y := Int.mul_nonneg h0 h2
theorem tdiv_nn {x y : Int} (h : 0 ≤ x) : x.tdiv y = x / y := Int.tdiv_eq_ediv_of_nonneg h
theorem tmod_nn {x y : Int} (h : 0 ≤ x) : x.tmod y = x % y := Int.tmod_eq_emod_of_nonneg h
theorem KR0 : KD 20000 = 11 := by decide
theorem KR1 : KD 20001 = 12 := by decide
theorem LR1 : LN 20001 = 5000 := by decide
/-! ===== a land in the reference's row: what it is ===== -/
/-- the land at l of the row a is as texts make it -/
def LdOk (a : Int → Int) (l : Int) : Prop := (2 ≤ a l ∧ a l ≤ 12) ∧ (2 ≤ a (l + 1) ∧ a (l + 1) ≤ 12) ∧ (0 ≤ a (l + 2) ∧ a (l + 2) ≤ 9) ∧ (0 ≤ a (l + 3) ∧ a (l + 3) ≤ 99) ∧ (1 ≤ a (l + 4) ∧ a (l + 4) ≤ 999) ∧ (0 ≤ a (l + 5) ∧ a (l + 5) ≤ 12) ∧ (∀ p, 0 ≤ p → p < 144 → 0 ≤ a (l + 6 + p) ∧ a (l + 6 + p) ≤ 999) ∧ (∀ k, 0 ≤ k → k < a (l + 5) → (a (l + 150 + 4 * k) = 0 ∨ a (l + 150 + 4 * k) = 1) ∧ (0 ≤ a (l + 151 + 4 * k) ∧ a (l + 151 + 4 * k) < a l * a (l + 1)) ∧ (0 ≤ a (l + 152 + 4 * k) ∧ a (l + 152 + 4 * k) ≤ a (l + 153 + 4 * k) ∧ a (l + 153 + 4 * k) ≤ 99))
/-- a base of a land -/
def isL (l : Int) : Prop := l = 710 ∨ l = 910
def Pl (a : Int → Int) (l p : Int) : Prop := 0 ≤ p ∧ p < a l * a (l + 1)
def zE (a : Int → Int) (l p q : Int) : Int := q % a l - p % a l
def zS (a : Int → Int) (l p q : Int) : Int := q / a l - p / a l
def zF (a : Int → Int) (l p q : Int) : Int := zE a l p q * zE a l p q + zS a l p q * zS a l p q
def zR (a : Int → Int) (l p q : Int) : Int := a (l + 6 + q) - a (l + 3) * zF a l p q / 100 - a (l + 6 + p) - a (l + 2)
def zQ (x : Int) : Int := x * (if 0 ≤ x then x else -x)
def zT (a : Int → Int) (l p x y : Int) : Int := zQ (zR a l p x) * zF a l p y - zQ (zR a l p y) * zF a l p x
theorem Pl.b {a : Int → Int} {l p : Int} (hL : LdOk a l) (h : Pl a l p) : 0 ≤ p ∧ p < 144 := by
  have := mul_le_of (x := a l) (y := a (l + 1)) (a := 12) (b := 12) (by have := hL.1; omega) hL.1.2 (by have := hL.2.1; omega) hL.2.1.2
  have := h.1; have := h.2; omega
theorem zE_b {a : Int → Int} {l p q : Int} (hL : LdOk a l) : -11 ≤ zE a l p q ∧ zE a l p q ≤ 11 := by
  have h1 := hL.1
  unfold zE
  have := Int.emod_nonneg q (b := a l) (by omega); have := Int.emod_lt_of_pos q (b := a l) (by omega)
  have := Int.emod_nonneg p (b := a l) (by omega); have := Int.emod_lt_of_pos p (b := a l) (by omega)
  omega
theorem div_b {a : Int → Int} {l p : Int} (hL : LdOk a l) (h : Pl a l p) : 0 ≤ p / a l ∧ p / a l < a (l + 1) := by
  have h1 := hL.1
  refine ⟨Int.ediv_nonneg h.1 (by omega), ?_⟩
  apply Int.ediv_lt_of_lt_mul (by omega)
  rw [Int.mul_comm]; exact h.2
theorem zS_b {a : Int → Int} {l p q : Int} (hL : LdOk a l) (hp : Pl a l p) (hq : Pl a l q) : -11 ≤ zS a l p q ∧ zS a l p q ≤ 11 := by
  have h1 := hL.2.1; have := div_b hL hp; have := div_b hL hq
  unfold zS; omega
theorem zF_b {a : Int → Int} {l p q : Int} (hL : LdOk a l) (hp : Pl a l p) (hq : Pl a l q) : 0 ≤ zF a l p q ∧ zF a l p q ≤ 242 := by
  have h1 := zE_b (p := p) (q := q) hL; have h2 := zS_b hL hp hq
  have := sq_le h1.1 h1.2; have := sq_le h2.1 h2.2; have := sq_nn (zE a l p q); have := sq_nn (zS a l p q)
  unfold zF; omega
theorem zR_b {a : Int → Int} {l p q : Int} (hL : LdOk a l) (hp : Pl a l p) (hq : Pl a l q) : -1247 ≤ zR a l p q ∧ zR a l p q ≤ 999 := by
  have h1 := zF_b hL hp hq
  have h2 := hL.2.2.2.1
  have h3 := mul_le_of h2.1 h2.2 h1.1 h1.2
  have h4 := mul_nn h2.1 h1.1
  have b1 := Pl.b hL hp; have b2 := Pl.b hL hq
  have h5 := hL.2.2.2.2.2.2.1 p b1.1 b1.2; have h6 := hL.2.2.2.2.2.2.1 q b2.1 b2.2; have h7 := hL.2.2.1
  unfold zR; omega
theorem r_eastOf {μ : Mm} {l p q : Int} (hM : Md μ) (hl : isL l) (hL : LdOk (μ 20001) l) (hp : Pl (μ 20001) l p) (hq : Pl (μ 20001) l q) : fX11_eastOf 20000 l p q μ = some (zE (μ 20001) l p q) := by
  have h1 := hL.1
  have hl2 : 0 ≤ l ∧ l < 1000 := by rcases hl with rfl | rfl <;> omega
  have hb := zE_b (p := p) (q := q) hL
  unfold fX11_eastOf
  simp (disch := omega) only [Md_0 hM, KR0, KR1, LR1, w32_eq, Int.add_zero, chk_t, true_and]
  sorry
