/-! ===== rules for loops and numbers ===== -/
def Ev {α : Type} (x : Option α) (P : α → Prop) : Prop := ∃ r, x = some r ∧ P r
theorem Ev_some {α : Type} {r : α} {P : α → Prop} (h : P r) : Ev (some r) P := ⟨r, rfl, h⟩
theorem Ev_eq {α : Type} {x : Option α} {r : α} {P : α → Prop} (e : x = some r) (h : P r) : Ev x P := ⟨r, e, h⟩
theorem Ev_chk {α : Type} {c : Prop} [Decidable c] {x : Option α} {P : α → Prop} (h : c) (k : Ev x P) : Ev (chk c x) P := by rw [chk_t h]; exact k
theorem chk_T {α : Type} [Decidable True] {x : Option α} : chk True x = x := by unfold chk; rw [if_pos trivial]
theorem ob {α β : Type} {a : α} {f : α → Option β} : (some a).bind f = f a := by
  have h : (some a).bind f = f a := Eq.refl _
  exact h
theorem Ev_bind {α β : Type} {x : Option α} {f : α → Option β} {Q : α → Prop} {P : β → Prop} (h : Ev x Q) (k : ∀ r, Q r → Ev (f r) P) : Ev (x.bind f) P := by
  obtain ⟨r, e, hr⟩ := h; rw [e]; exact k r hr
theorem Ev_ite {α : Type} {c : Prop} [Decidable c] {x y : Option α} {P : α → Prop} (h1 : c → Ev x P) (h2 : ¬c → Ev y P) : Ev (if c then x else y) P := by
  by_cases h : c
  · rw [if_pos h]; exact h1 h
  · rw [if_neg h]; exact h2 h
theorem Ev_mono {α : Type} {x : Option α} {P Q : α → Prop} (h : Ev x P) (k : ∀ r, P r → Q r) : Ev x Q := by
  obtain ⟨r, e, hr⟩ := h; exact ⟨r, e, k r hr⟩
theorem Ev_lm {α : Type} {m : Mm} {f : Mm → Option α} {P : α → Prop} (h : ∀ μ', μ' = m → Ev (f μ') P) : Ev (lm m f) P := h m rfl
theorem Ev_lt {α : Type} {m : Int} {f : Int → Option α} {P : α → Prop} (h : Ev (f m) P) : Ev (lt m f) P := h
theorem Ev.eq {α : Type} {x : Option α} {v : α} (h : Ev x (fun r => r = v)) : x = some v := by
  obtain ⟨r, e, hr⟩ := h; rw [e, hr]
/-- what a step may give: another state that keeps I and is nearer the end, or a good end -/
def Nx {σ ρ : Type} (I : σ → Prop) (m : σ → Nat) (P : ρ → Prop) (k : Nat) : σ ⊕ ρ → Prop
  | .inl s => I s ∧ m s < k
  | .inr r => P r
theorem Ev_lopN {σ ρ : Type} {step : σ → Option (σ ⊕ ρ)} (I : σ → Prop) (m : σ → Nat) {P : ρ → Prop} (hs : ∀ s, I s → Ev (step s) (Nx I m P (m s))) : ∀ (f : Nat) (s : σ), I s → m s < f → Ev (lop step f s) P
  | 0, s, _, h => absurd h (Nat.not_lt_zero _)
  | f + 1, s, hI, h => by
    unfold lop
    obtain ⟨t, e, ht⟩ := hs s hI
    rw [e]
    cases t with
    | inr r => exact ⟨r, rfl, ht⟩
    | inl s' =>
      have h2 : I s' ∧ m s' < m s := ht
      exact Ev_lopN I m hs f s' h2.1 (by omega)
theorem Ev_lop {σ ρ : Type} {step : σ → Option (σ ⊕ ρ)} {s : σ} {P : ρ → Prop} (I : σ → Prop) (m : σ → Nat) (hI : I s) (hm : m s < FU) (hs : ∀ s, I s → Ev (step s) (Nx I m P (m s))) : Ev (lop step FU s) P := Ev_lopN I m hs FU s hI hm
theorem Ev_in {σ ρ : Type} {I : σ → Prop} {m : σ → Nat} {P : ρ → Prop} {k : Nat} {s : σ} (h : I s) (h2 : m s < k) : Ev (some (Sum.inl s : σ ⊕ ρ)) (Nx I m P k) := ⟨_, rfl, h, h2⟩
theorem Ev_out {σ ρ : Type} {I : σ → Prop} {m : σ → Nat} {P : ρ → Prop} {k : Nat} {r : ρ} (h : P r) : Ev (some (Sum.inr r : σ ⊕ ρ)) (Nx I m P k) := ⟨_, rfl, h⟩
/-- a truth as a number -/
noncomputable def bi (c : Prop) : Int := @ite Int c (Classical.propDecidable c) 1 0
theorem bi_t {c : Prop} (h : c) : bi c = 1 := by unfold bi; rw [if_pos h]
theorem bi_f {c : Prop} (h : ¬c) : bi c = 0 := by unfold bi; rw [if_neg h]
theorem bi_0 {c : Prop} : bi c = 0 ↔ ¬c := by
  constructor
  · intro h q; rw [bi_t q] at h; omega
  · exact bi_f
theorem bi_1 {c : Prop} : bi c = 1 ↔ c := by
  constructor
  · intro h; apply Classical.byContradiction; intro q; rw [bi_f q] at h; omega
  · exact bi_t
theorem bi_b (c : Prop) : bi c = 0 ∨ bi c = 1 := by
  rcases Classical.em c with h | h
  · exact .inr (bi_t h)
  · exact .inl (bi_f h)
theorem bi_c {c d : Prop} (h : c ↔ d) : bi c = bi d := by rw [propext h]
/-- how many of 0 .. n - 1 -/
noncomputable def ct (P : Int → Prop) : Nat → Int
  | 0 => 0
  | n + 1 => ct P n + bi (P n)
theorem ct_b (P : Int → Prop) : ∀ n : Nat, 0 ≤ ct P n ∧ ct P n ≤ n
  | 0 => by simp [ct]
  | n + 1 => by
    have := ct_b P n
    rcases bi_b (P n) with h | h <;> (unfold ct; rw [h]; omega)
theorem ct_c {P Q : Int → Prop} : ∀ n : Nat, (∀ i : Int, 0 ≤ i → i < n → (P i ↔ Q i)) → ct P n = ct Q n
  | 0, _ => rfl
  | n + 1, h => by
    unfold ct
    rw [ct_c n (fun i h0 h1 => h i h0 (by omega)), bi_c (h n (by omega) (by omega))]
theorem ct_s {P : Int → Prop} {i : Int} (h : 0 ≤ i) : ct P (i + 1).toNat = ct P i.toNat + bi (P i) := by
  have : (i + 1).toNat = i.toNat + 1 := by omega
  rw [this]; show ct P i.toNat + bi (P (i.toNat : Int)) = _
  rw [Int.toNat_of_nonneg h]
/-- the least of 0 .. n - 1, or -1 -/
def Fi (P : Int → Prop) (n r : Int) : Prop := (0 ≤ r ∧ r < n ∧ P r ∧ ∀ i, 0 ≤ i → i < r → ¬P i) ∨ (r = -1 ∧ ∀ i, 0 ≤ i → i < n → ¬P i)
theorem Fi_u {P : Int → Prop} {n r s : Int} (h : Fi P n r) (k : Fi P n s) : r = s := by
  rcases h with ⟨a, b, c, d⟩ | ⟨a, b⟩ <;> rcases k with ⟨e, f, i, j⟩ | ⟨e, f⟩
  · rcases Int.lt_trichotomy r s with q | q | q
    · exact absurd c (j r a q)
    · exact q
    · exact absurd i (d s e q)
  · exact absurd c (f r a b)
  · exact absurd i (b s e f)
  · omega
theorem Fi_c {P Q : Int → Prop} {n r : Int} (h : ∀ i, 0 ≤ i → i < n → (P i ↔ Q i)) (k : Fi P n r) : Fi Q n r := by
  rcases k with ⟨a, b, c, d⟩ | ⟨a, b⟩
  · exact .inl ⟨a, b, (h r a b).mp c, fun i h0 h1 q => d i h0 h1 ((h i h0 (by omega)).mpr q)⟩
  · exact .inr ⟨a, fun i h0 h1 q => b i h0 h1 ((h i h0 h1).mpr q)⟩
theorem sq_le {x b : Int} (h1 : -b ≤ x) (h2 : x ≤ b) : x * x ≤ b * b := by
  rcases Int.le_total 0 x with h | h
  · exact Int.mul_le_mul h2 h2 h (by omega)
  · have := Int.mul_le_mul (show -x ≤ b by omega) (show -x ≤ b by omega) (by omega) (by omega)
    rwa [Int.neg_mul_neg] at this
theorem sq_nn (x : Int) : 0 ≤ x * x := by
  rcases Int.le_total 0 x with h | h
  · exact Int.mul_nonneg h h
  · exact Int.mul_nonneg_of_nonpos_of_nonpos h h
theorem mul_le_of {x y a b : Int} (h0 : 0 ≤ x) (h1 : x ≤ a) (h2 : 0 ≤ y) (h3 : y ≤ b) : x * y ≤ a * b := Int.mul_le_mul h1 h3 h2 (by omega)
theorem mul_nn {x y : Int} (h0 : 0 ≤ x) (h2 : 0 ≤ y) : 0 ≤ x * y := Int.mul_nonneg h0 h2
theorem mul_ab {x y a b : Int} (h0 : -a ≤ x) (h1 : x ≤ a) (h2 : 0 ≤ y) (h3 : y ≤ b) : -(a * b) ≤ x * y ∧ x * y ≤ a * b := by
  have ha : 0 ≤ a := by omega
  have h4 := Int.mul_le_mul_of_nonneg_left h3 ha
  have h5 := Int.mul_le_mul_of_nonneg_right h1 h2
  have h6 := Int.mul_le_mul_of_nonneg_right h0 h2
  rw [Int.neg_mul] at h6
  omega
theorem tdiv_nn {x y : Int} (h : 0 ≤ x) : x.tdiv y = x / y := Int.tdiv_eq_ediv_of_nonneg h
theorem tmod_nn {x y : Int} (h : 0 ≤ x) : x.tmod y = x % y := Int.tmod_eq_emod_of_nonneg h
theorem K20000 : KD 20000 = 11 := by decide
theorem K20001 : KD 20001 = 12 := by decide
theorem N20001 : LN 20001 = 5000 := by decide
theorem K20002 : KD 20002 = 14 := by decide
theorem N20002 : LN 20002 = 3 := by decide
theorem K20003 : KD 20003 = 12 := by decide
theorem N20003 : LN 20003 = 400 := by decide
theorem K20004 : KD 20004 = 12 := by decide
theorem N20004 : LN 20004 = 400 := by decide
theorem K20005 : KD 20005 = 12 := by decide
theorem N20005 : LN 20005 = 200 := by decide
theorem K20006 : KD 20006 = 12 := by decide
theorem N20006 : LN 20006 = 400 := by decide
theorem K20007 : KD 20007 = 12 := by decide
theorem N20007 : LN 20007 = 144 := by decide
theorem K20008 : KD 20008 = 12 := by decide
theorem N20008 : LN 20008 = 9216 := by decide
theorem K20009 : KD 20009 = 12 := by decide
theorem N20009 : LN 20009 = 144 := by decide
theorem K20010 : KD 20010 = 12 := by decide
theorem N20010 : LN 20010 = 144 := by decide
theorem K20011 : KD 20011 = 14 := by decide
theorem N20011 : LN 20011 = 144 := by decide
theorem K20012 : KD 20012 = 12 := by decide
theorem N20012 : LN 20012 = 8 := by decide
theorem K20013 : KD 20013 = 12 := by decide
theorem N20013 : LN 20013 = 144 := by decide
theorem K20014 : KD 20014 = 12 := by decide
theorem N20014 : LN 20014 = 144 := by decide
theorem K20015 : KD 20015 = 14 := by decide
theorem N20015 : LN 20015 = 144 := by decide
theorem K20016 : KD 20016 = 13 := by decide
theorem N20016 : LN 20016 = 432 := by decide
theorem K20017 : KD 20017 = 13 := by decide
theorem N20017 : LN 20017 = 3 := by decide
theorem K20018 : KD 20018 = 12 := by decide
theorem N20018 : LN 20018 = 3 := by decide
theorem K20019 : KD 20019 = 12 := by decide
theorem N20019 : LN 20019 = 144 := by decide
theorem K100 : KD 100 = 10 := by decide
theorem K101 : KD 101 = 19 := by decide
theorem N101 : LN 101 = 3 := by decide
theorem K102 : KD 102 = 16 := by decide
theorem N102 : LN 102 = 2 := by decide
theorem K103 : KD 103 = 14 := by decide
theorem N103 : LN 103 = 144 := by decide
theorem K104 : KD 104 = 14 := by decide
theorem N104 : LN 104 = 144 := by decide
theorem K200 : KD 200 = 3 := by decide
theorem K201 : KD 201 = 12 := by decide
theorem N201 : LN 201 = 0 := by decide
theorem K230 : KD 230 = 5 := by decide
theorem K231 : KD 231 = 0 := by decide
theorem K232 : KD 232 = 12 := by decide
theorem N232 : LN 232 = 336 := by decide
theorem K233 : KD 233 = 12 := by decide
theorem N233 : LN 233 = 336 := by decide
theorem K234 : KD 234 = 12 := by decide
theorem N234 : LN 234 = 144 := by decide
theorem K235 : KD 235 = 12 := by decide
theorem N235 : LN 235 = 144 := by decide
theorem K236 : KD 236 = 12 := by decide
theorem N236 : LN 236 = 144 := by decide
theorem K237 : KD 237 = 12 := by decide
theorem N237 : LN 237 = 91 := by decide
theorem K250 : KD 250 = 1 := by decide
theorem K251 : KD 251 = 12 := by decide
theorem N251 : LN 251 = 25 := by decide
theorem K252 : KD 252 = 12 := by decide
theorem N252 : LN 252 = 12 := by decide
theorem K253 : KD 253 = 12 := by decide
theorem N253 : LN 253 = 12 := by decide
theorem K254 : KD 254 = 12 := by decide
theorem N254 : LN 254 = 16 := by decide
theorem K300 : KD 300 = 9 := by decide
theorem K301 : KD 301 = 14 := by decide
theorem N301 : LN 301 = 144 := by decide
theorem K302 : KD 302 = 12 := by decide
theorem N302 : LN 302 = 144 := by decide
theorem K303 : KD 303 = 12 := by decide
theorem N303 : LN 303 = 144 := by decide
theorem K304 : KD 304 = 12 := by decide
theorem N304 : LN 304 = 144 := by decide
