/-! ===== walks: the fewest steps ===== -/
/-- reached in at most n steps -/
def wk (E : Int → Int → Prop) (S : Int → Prop) : Nat → Int → Prop
  | 0, q => S q
  | n + 1, q => wk E S n q ∨ ∃ p, wk E S n p ∧ E p q
theorem wk_up {E : Int → Int → Prop} {S : Int → Prop} {q : Int} {n : Nat} : ∀ m : Nat, wk E S n q → wk E S (n + m) q
  | 0, h => h
  | m + 1, h => .inl (wk_up m h)
theorem wk_p {E : Int → Int → Prop} {S R : Int → Prop} (hS : ∀ q, S q → R q) (hE : ∀ p q, E p q → R q) : ∀ (n : Nat) (q : Int), wk E S n q → R q
  | 0, q, h => hS q h
  | n + 1, q, h => by
    rcases h with h | ⟨p, _, h⟩
    · exact wk_p hS hE n q h
    · exact hE p q h
/-- a row of places that wait, the steps to them -/
def Bf (E : Int → Int → Prop) (S : Int → Prop) (st qu : Int → Int) (len hd : Int) : Prop :=
  (0 ≤ hd ∧ hd ≤ len ∧ len = ct (fun q => st q ≠ -1) 144) ∧
  (∀ i, 0 ≤ i → i < len → (0 ≤ qu i ∧ qu i < 144) ∧ (0 ≤ st (qu i) ∧ st (qu i) ≤ i) ∧ wk E S (st (qu i)).toNat (qu i)) ∧
  (∀ q, 0 ≤ q → q < 144 → st q ≠ -1 → ∃ i, 0 ≤ i ∧ i < len ∧ qu i = q) ∧
  (∀ i j, 0 ≤ i → i ≤ j → j < len → st (qu i) ≤ st (qu j)) ∧
  (hd < len → ∀ j, 0 ≤ j → j < len → st (qu j) ≤ st (qu hd) + 1)
def Dn (E : Int → Int → Prop) (st : Int → Int) (p : Int) : Prop := ∀ q, E p q → st q ≠ -1 ∧ st q ≤ st p + 1
section
variable {E : Int → Int → Prop} {S T : Int → Prop} {st qu st' qu' : Int → Int} {len hd q n : Int}
theorem Bf_len (h : Bf E S st qu len hd) : 0 ≤ len ∧ len ≤ 144 := by
  have := h.1.2.2; have := ct_b (fun q => st q ≠ -1) 144; omega
theorem ct_lt2 {P : Int → Prop} {k : Int} : ∀ m : Nat, 0 ≤ k → k < m → ¬P k → ct P m < m
  | 0, h0, h1, _ => by omega
  | m + 1, h0, h1, hp => by
    show ct P m + bi (P m) < _
    by_cases z : k = m
    · rw [← z, bi_f hp]; have := ct_b P m; omega
    · have := ct_lt2 m h0 (by omega) hp
      rcases bi_b (P m) with e | e <;> (rw [e]; omega)
theorem Bf_room (h : Bf E S st qu len hd) (hq : 0 ≤ q ∧ q < 144) (h1 : st q = -1) : len < 144 := by
  have := h.1.2.2
  have := ct_lt2 (P := fun q => st q ≠ -1) (k := q) 144 hq.1 (by omega) (fun w => w h1)
  omega
theorem Bf_add (h : Bf E S st qu len hd) (hq : 0 ≤ q ∧ q < 144) (h1 : st q = -1) (hn : 0 ≤ n) (a : ∀ j, 0 ≤ j → j < len → st (qu j) ≤ n) (a2 : hd < len → n ≤ st (qu hd) + 1) (a3 : hd = len → n = 0) (w : wk E S n.toNat q) (e1 : st' q = n) (e2 : ∀ x, x ≠ q → st' x = st x) (e3 : qu' len = q) (e4 : ∀ x, x ≠ len → qu' x = qu x) : Bf E S st' qu' (len + 1) hd ∧ (∀ i, 0 ≤ i → i < len → qu' i = qu i ∧ st' (qu i) = st (qu i)) := by
  have hl := Bf_len h
  obtain ⟨⟨k1, k2, k3⟩, k4, k5, k6, k7⟩ := h
  have old : ∀ i, 0 ≤ i → i < len → qu' i = qu i ∧ st' (qu i) = st (qu i) := by
    intro i i0 i1
    refine ⟨e4 i (by omega), e2 _ (fun e => ?_)⟩
    have := (k4 i i0 i1).2.1; rw [e, h1] at this; omega
  refine ⟨⟨⟨k1, by omega, ?_⟩, fun i i0 i1 => ?_, fun x x0 x1 hx => ?_, fun i j i0 i1 i2 => ?_, fun hh j j0 j1 => ?_⟩, old⟩
  · rw [k3]
    have := ct_upd (P := fun q => st' q ≠ -1) (Q := fun q => st q ≠ -1) (k := q) 144 (fun i hi => by rw [e2 i hi]) hq.1 (by omega) (by rw [e1]; omega) (fun w => w h1)
    omega
  · by_cases z : i = len
    · subst z; rw [e3, e1]
      refine ⟨hq, ⟨hn, ?_⟩, w⟩
      by_cases z2 : hd = i
      · have := a3 z2; omega
      · have := a2 (by omega); have := (k4 hd k1 (by omega)).2.1; omega
    · obtain ⟨o1, o2⟩ := old i i0 (by omega)
      rw [o1, o2]; exact k4 i i0 (by omega)
  · by_cases z : x = q
    · exact ⟨len, by omega, by omega, by rw [e3, z]⟩
    · rw [e2 x z] at hx
      obtain ⟨i, i0, i1, i2⟩ := k5 x x0 x1 hx
      exact ⟨i, i0, by omega, by rw [(old i i0 i1).1]; exact i2⟩
  · by_cases z : j = len
    · subst z; rw [e3, e1]
      by_cases z2 : i = j
      · subst z2; rw [e3, e1]; omega
      · obtain ⟨o1, o2⟩ := old i i0 (by omega)
        rw [o1, o2]; exact a i i0 (by omega)
    · obtain ⟨o1, o2⟩ := old i i0 (by omega)
      obtain ⟨o3, o4⟩ := old j (by omega) (by omega)
      rw [o1, o2, o3, o4]; exact k6 i j i0 i1 (by omega)
  · by_cases z : hd = len
    · have n0 := a3 z
      rw [z, e3, e1]
      by_cases z2 : j = len
      · subst z2; rw [e3, e1]; omega
      · obtain ⟨o1, o2⟩ := old j j0 (by omega)
        rw [o1, o2]; have := a j j0 (by omega); omega
    · obtain ⟨o1, o2⟩ := old hd k1 (by omega)
      rw [o1, o2]
      by_cases z2 : j = len
      · subst z2; rw [e3, e1]; exact a2 (by omega)
      · obtain ⟨o3, o4⟩ := old j j0 (by omega)
        rw [o3, o4]; exact k7 (by omega) j j0 (by omega)
/-- one more of the sources -/
def Bs (E : Int → Int → Prop) (S : Int → Prop) (st qu : Int → Int) (len : Int) (D : Int → Prop) : Prop := Bf E S st qu len 0 ∧ (∀ i, 0 ≤ i → i < len → st (qu i) = 0) ∧ ∀ q, D q → st q = 0
theorem Bf_start (h : ∀ q, 0 ≤ q → q < 144 → st q = -1) : Bf E S st qu 0 0 := by
  refine ⟨⟨by omega, by omega, ?_⟩, fun i _ _ => by omega, fun q a b c => absurd (h q a b) c, fun i j _ _ _ => by omega, fun z => by omega⟩
  have : ct (fun q => st q ≠ -1) 144 = ct (fun _ => False) 144 := ct_c 144 (fun i a b => ⟨fun w => absurd (h i a (by omega)) w, False.elim⟩)
  rw [this]
  have : ∀ m : Nat, ct (fun _ => False) m = 0 := by
    intro m; induction m with
    | zero => rfl
    | succ m ih => show ct (fun _ => False) m + bi False = 0; rw [ih, bi_f (fun z => z)]; omega
  rw [this]
theorem Bf_next (h : Bf E S st qu len hd) (hl : hd < len) : Bf E S st qu len (hd + 1) := by
  obtain ⟨⟨k1, k2, k3⟩, k4, k5, k6, k7⟩ := h
  refine ⟨⟨by omega, by omega, k3⟩, k4, k5, k6, fun z j j0 j1 => ?_⟩
  have := k7 hl j j0 j1
  have := k6 hd (hd + 1) k1 (by omega) z
  omega
theorem Bf_min (h : Bf E S st qu len hd) (hS : ∀ q, S q → 0 ≤ q ∧ q < 144) (hE : ∀ p q, E p q → 0 ≤ q ∧ q < 144) (hD : ∀ i, 0 ≤ i → i < hd → Dn E st (qu i)) (h0 : ∀ q, S q → st q = 0) : ∀ (m : Nat) (q : Int), wk E S m q → (hd < len → (m : Int) ≤ st (qu hd)) → st q ≠ -1 ∧ st q ≤ m
  | 0, q, hw, _ => by have := h0 q hw; omega
  | m + 1, q, hw, hm => by
    rcases hw with hw | ⟨p, hp, he⟩
    · have := Bf_min h hS hE hD h0 m q hw (fun z => by have := hm z; omega)
      exact ⟨this.1, by omega⟩
    · have ih := Bf_min h hS hE hD h0 m p hp (fun z => by have := hm z; omega)
      have pr := wk_p hS hE m p hp
      obtain ⟨i, i0, i1, i2⟩ := h.2.2.1 p pr.1 pr.2 ih.1
      have hi : i < hd := by
        apply Classical.byContradiction; intro ng
        have := h.2.2.2.1 hd i h.1.1 (by omega) i1
        rw [i2] at this
        have := hm (by omega); omega
      have := hD i i0 hi q (by rw [i2]; exact he)
      rw [i2] at this
      exact ⟨this.1, by omega⟩
/-- r is the fewest steps to a place of T, or -1 -/
def DG (E : Int → Int → Prop) (S T : Int → Prop) (r : Int) : Prop := (0 ≤ r ∧ (∃ q, T q ∧ wk E S r.toNat q) ∧ ∀ q (m : Nat), T q → wk E S m q → r ≤ m) ∨ (r = -1 ∧ ∀ q (m : Nat), T q → ¬wk E S m q)
theorem DG_u {r s : Int} (h : DG E S T r) (k : DG E S T s) : r = s := by
  rcases h with ⟨a, ⟨q, b1, b2⟩, c⟩ | ⟨a, b⟩ <;> rcases k with ⟨d, ⟨q2, e1, e2⟩, f⟩ | ⟨d, e⟩
  · have := c q2 _ e1 e2; have := f q _ b1 b2; omega
  · exact absurd b2 (e q _ b1)
  · exact absurd e2 (b q2 _ e1)
  · omega
theorem DG_c {r : Int} {E' : Int → Int → Prop} {S' T' : Int → Prop} (h : DG E S T r) (e1 : E = E') (e2 : S = S') (e3 : T = T') : DG E' S' T' r := by subst e1 e2 e3; exact h
theorem Bf_stop (h : Bf E S st qu len hd) (hS : ∀ q, S q → 0 ≤ q ∧ q < 144) (hE : ∀ p q, E p q → 0 ≤ q ∧ q < 144) (hD : ∀ i, 0 ≤ i → i < hd → Dn E st (qu i)) (h0 : ∀ q, S q → st q = 0) (hT : ∀ i, 0 ≤ i → i < hd → ¬T (qu i)) (hl : hd < len) (ht : T (qu hd)) : DG E S T (st (qu hd)) := by
  have k := h.2.1 hd h.1.1 hl
  refine .inl ⟨k.2.1.1, ⟨_, ht, k.2.2⟩, fun q m tq wq => ?_⟩
  apply Classical.byContradiction; intro ng
  have := Bf_min h hS hE hD h0 m q wq (fun _ => by omega)
  have pr := wk_p hS hE m q wq
  obtain ⟨i, i0, i1, i2⟩ := h.2.2.1 q pr.1 pr.2 this.1
  have hi : i < hd := by
    apply Classical.byContradiction; intro ng
    have := h.2.2.2.1 hd i h.1.1 (by omega) i1
    rw [i2] at this
    omega
  exact hT i i0 hi (by rw [i2]; exact tq)
theorem Bf_none (h : Bf E S st qu len hd) (hS : ∀ q, S q → 0 ≤ q ∧ q < 144) (hE : ∀ p q, E p q → 0 ≤ q ∧ q < 144) (hD : ∀ i, 0 ≤ i → i < hd → Dn E st (qu i)) (h0 : ∀ q, S q → st q = 0) (hT : ∀ i, 0 ≤ i → i < hd → ¬T (qu i)) (hl : len ≤ hd) : DG E S T (-1) := by
  refine .inr ⟨rfl, fun q m tq wq => ?_⟩
  have := Bf_min h hS hE hD h0 m q wq (fun z => by omega)
  have pr := wk_p hS hE m q wq
  obtain ⟨i, i0, i1, i2⟩ := h.2.2.1 q pr.1 pr.2 this.1
  exact hT i i0 (by omega) (by rw [i2]; exact tq)
/-- all is reached: the steps are the fewest -/
theorem Bf_all (h : Bf E S st qu len hd) (hS : ∀ q, S q → 0 ≤ q ∧ q < 144) (hE : ∀ p q, E p q → 0 ≤ q ∧ q < 144) (hD : ∀ i, 0 ≤ i → i < hd → Dn E st (qu i)) (h0 : ∀ q, S q → st q = 0) (hl : len ≤ hd) (hq : 0 ≤ q ∧ q < 144) : DG E S (fun x => x = q) (st q) := by
  by_cases z : st q = -1
  · rw [z]
    refine .inr ⟨rfl, fun x m tx wx => ?_⟩
    subst tx
    exact (Bf_min h hS hE hD h0 m x wx (fun z => by omega)).1 z
  · obtain ⟨i, i0, i1, i2⟩ := h.2.2.1 q hq.1 hq.2 z
    have k := h.2.1 i i0 i1
    rw [i2] at k
    refine .inl ⟨k.2.1.1, ⟨q, rfl, k.2.2⟩, fun x m tx wx => ?_⟩
    subst tx
    exact (Bf_min h hS hE hD h0 m x wx (fun z => by omega)).2
theorem Dn_add {p : Int} (h : Dn E st p) (hp : st p ≠ -1) (h1 : st q = -1) (e1 : st' q = n) (e2 : ∀ x, x ≠ q → st' x = st x) : Dn E st' p := by
  intro x hx
  have := h x hx
  have ne : x ≠ q := fun e => this.1 (e ▸ h1)
  have ne2 : p ≠ q := fun e => hp (e ▸ h1)
  rw [e2 x ne, e2 p ne2]; exact this
end
/-- a step from p to q: beside it, no more up or down than c, not shut -/
def We (g : Int → Int) (c : Int) (sh : Int → Prop) (p q : Int) : Prop := (∃ k, (0 ≤ k ∧ k < 4) ∧ nb g p k = q) ∧ (Pl g p ∧ Pl g q) ∧ (g (6 + q) - g (6 + p) ≤ c ∧ -c ≤ g (6 + q) - g (6 + p)) ∧ ¬sh q
