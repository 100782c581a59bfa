/-! ===== rows of guards in order ===== -/
def Rw (s n a b c : Int) : Prop := (0 ≤ a ∧ c < n) ∧ ((s = 1 ∧ b = a ∧ c = b) ∨ (s = 2 ∧ a < b ∧ c = b) ∨ (s = 3 ∧ a < b ∧ b < c))
def RwF (g : Int → Int) (s a b c : Int) : Prop := Rw s (np g) a b c ∧ Cov g a b c ∧ ∀ x y z, (x < a ∨ x = a ∧ (y < b ∨ y = b ∧ z < c)) → Rw s (np g) x y z → ¬Cov g x y z
def RwN (g : Int → Int) (s : Int) : Prop := ∀ x y z, Rw s (np g) x y z → ¬Cov g x y z
def PO (g : Int → Int) (s r t0 t1 t2 : Int) : Prop := (r = 0 ∧ RwN g s) ∨ (r = 1 ∧ ∃ a b c, RwF g s a b c ∧ t0 = a ∧ (2 ≤ s → t1 = b) ∧ (3 ≤ s → t2 = c))
def tA : Nat → Int
  | 0 => 1
  | k + 1 => tA k + k + 2
def tB : Nat → Int
  | 0 => 1
  | k + 1 => tB k + tA k + 1
theorem tA_p : ∀ k : Nat, 1 ≤ tA k
  | 0 => by decide
  | k + 1 => by have := tA_p k; show 1 ≤ tA k + k + 2; omega
theorem tB_p : ∀ k : Nat, 1 ≤ tB k
  | 0 => by decide
  | k + 1 => by have := tB_p k; have := tA_p k; show 1 ≤ tB k + tA k + 1; omega
theorem tB_m (k : Nat) : ∀ m : Nat, tB k ≤ tB (k + m)
  | 0 => Int.le_refl _
  | m + 1 => by have := tB_m k m; have := tA_p (k + m); show tB k ≤ tB (k + m) + tA (k + m) + 1; omega
theorem tB_144 : tB 144 ≤ 1000000 := by decide +kernel
theorem tA_s {n x : Int} (h : x + 1 < n) : tA (n - 1 - x).toNat = tA (n - 1 - (x + 1)).toNat + (n - 1 - (x + 1)) + 2 := by
  have : (n - 1 - x).toNat = (n - 1 - (x + 1)).toNat + 1 := by omega
  rw [this]; show tA (n - 1 - (x + 1)).toNat + ((n - 1 - (x + 1)).toNat : Int) + 2 = _; omega
theorem tB_s {n x : Int} (h : x + 1 < n) : tB (n - 1 - x).toNat = tB (n - 1 - (x + 1)).toNat + tA (n - 1 - (x + 1)).toNat + 1 := by
  have : (n - 1 - x).toNat = (n - 1 - (x + 1)).toNat + 1 := by omega
  rw [this]; rfl
theorem ct_z {P : Int → Prop} : ∀ n : Nat, ct P n = 0 → ∀ i : Int, 0 ≤ i → i < n → ¬P i
  | 0, _, i, h0, h1 => by omega
  | n + 1, h, i, h0, h1 => by
    have h2 : ct P n + bi (P n) = 0 := h
    have := ct_b P n
    have := bi_b (P n)
    by_cases e : i = n
    · subst e; exact bi_0.mp (by omega)
    · exact ct_z n (by omega) i h0 (by omega)
theorem ct_z2 {P : Int → Prop} : ∀ n : Nat, (∀ i : Int, 0 ≤ i → i < n → ¬P i) → ct P n = 0
  | 0, _ => rfl
  | n + 1, h => by
    show ct P n + bi (P n) = 0
    rw [ct_z2 n (fun i a b => h i a (by omega)), bi_f (h n (by omega) (by omega))]; rfl
theorem ct_u2 {P Q R : Int → Prop} (h : ∀ i, P i → Q i ∨ R i) : ∀ n : Nat, ct P n ≤ ct Q n + ct R n
  | 0 => by show (0 : Int) ≤ 0 + 0; omega
  | n + 1 => by
    have := ct_u2 h n
    show ct P n + bi (P n) ≤ ct Q n + bi (Q n) + (ct R n + bi (R n))
    have a := bi_b (P n); have b := bi_b (Q n); have c := bi_b (R n)
    by_cases z : P n
    · rcases h n z with w | w
      · rw [bi_t z, bi_t w]; omega
      · rw [bi_t z, bi_t w]; omega
    · rw [bi_f z]; omega
theorem ct_u1 {P Q : Int → Prop} (h : ∀ i, P i → Q i) : ∀ n : Nat, ct P n ≤ ct Q n
  | 0 => Int.le_refl _
  | n + 1 => by
    have := ct_u1 h n
    show ct P n + bi (P n) ≤ ct Q n + bi (Q n)
    have a := bi_b (P n); have b := bi_b (Q n)
    by_cases z : P n
    · rw [bi_t z, bi_t (h n z)]; omega
    · rw [bi_f z]; omega
def Lf1 (g : Int → Int) (a z : Int) : Prop := Pl g z ∧ ¬W1 g a z
def Lf2 (g : Int → Int) (a b z : Int) : Prop := Lf1 g a z ∧ ¬W1 g b z
def Lf3 (g : Int → Int) (a b c z : Int) : Prop := Lf2 g a b z ∧ ¬W1 g c z
theorem Lf1_0 {g : Int → Int} {a : Int} (hL : LdOk g) : ct (Lf1 g a) 144 = 0 ↔ Cov g a a a := by
  constructor
  · intro h z hz
    have b := Pl.i hL hz
    have := ct_z 144 h z b.1 (by omega)
    exact .inl (Classical.byContradiction fun w => this ⟨hz, w⟩)
  · intro h
    exact ct_z2 144 (fun i _ _ w => by rcases h i w.1 with x | x | x <;> exact w.2 x)
theorem Lf2_0 {g : Int → Int} {a b : Int} (hL : LdOk g) : ct (Lf2 g a b) 144 = 0 ↔ Cov g a b b := by
  constructor
  · intro h z hz
    have b := Pl.i hL hz
    have := ct_z 144 h z b.1 (by omega)
    apply Classical.byContradiction; intro w
    exact this ⟨⟨hz, fun x => w (.inl x)⟩, fun x => w (.inr (.inl x))⟩
  · intro h
    exact ct_z2 144 (fun i _ _ w => by rcases h i w.1.1 with x | x | x; exact w.1.2 x; exact w.2 x; exact w.2 x)
theorem Lf3_0 {g : Int → Int} {a b c : Int} (hL : LdOk g) : ct (Lf3 g a b c) 144 = 0 ↔ Cov g a b c := by
  constructor
  · intro h z hz
    have b := Pl.i hL hz
    have := ct_z 144 h z b.1 (by omega)
    apply Classical.byContradiction; intro w
    exact this ⟨⟨⟨hz, fun x => w (.inl x)⟩, fun x => w (.inr (.inl x))⟩, fun x => w (.inr (.inr x))⟩
  · intro h
    exact ct_z2 144 (fun i _ _ w => by rcases h i w.1.1.1 with x | x | x; exact w.1.1.2 x; exact w.1.2 x; exact w.2 x)
theorem Cov_1 {g : Int → Int} {a b c : Int} (h : Cov g a b c) : ct (Lf1 g a) 144 ≤ ct (W1 g b) 144 + ct (W1 g c) 144 :=
  ct_u2 (fun i w => by rcases h i w.1 with x | x | x; exact absurd x w.2; exact .inl x; exact .inr x) 144
theorem Cov_1b {g : Int → Int} {a b : Int} (h : Cov g a b b) : ct (Lf1 g a) 144 ≤ ct (W1 g b) 144 :=
  ct_u1 (fun i w => by rcases h i w.1 with x | x | x; exact absurd x w.2; exact x; exact x) 144
theorem Cov_2 {g : Int → Int} {a b c : Int} (h : Cov g a b c) : ct (Lf2 g a b) 144 ≤ ct (W1 g c) 144 :=
  ct_u1 (fun i w => by rcases h i w.1.1 with x | x | x; exact absurd x w.1.2; exact absurd x w.2; exact x) 144
/-- how far the search is -/
def PI (g : Int → Int) (s : Int) (le : Int → Int) (d x0 x1 x2 t : Int) : Prop :=
  (d = -1 ∧ RwN g s) ∨
  (d = 0 ∧ (-1 ≤ x0 ∧ x0 < np g) ∧ (∀ a b c, a ≤ x0 → Rw s (np g) a b c → ¬Cov g a b c) ∧ t + tB (np g - 1 - x0).toNat ≤ 1000000) ∨
  (d = 1 ∧ 2 ≤ s ∧ (0 ≤ x0 ∧ x0 ≤ x1 ∧ x1 < np g) ∧ Wb le 3 (Lf1 g x0) ∧ (∀ a b c, a < x0 ∨ a = x0 ∧ b ≤ x1 → Rw s (np g) a b c → ¬Cov g a b c) ∧ t + tA (np g - 1 - x1).toNat + tB (np g - 1 - x0).toNat ≤ 1000000) ∨
  (d = 2 ∧ s = 3 ∧ (0 ≤ x0 ∧ x0 < x1 ∧ x1 ≤ x2 ∧ x2 < np g) ∧ (Wb le 3 (Lf1 g x0) ∧ Wb le 6 (Lf2 g x0 x1)) ∧ (∀ a b c, a < x0 ∨ a = x0 ∧ (b < x1 ∨ b = x1 ∧ c ≤ x2) → Rw s (np g) a b c → ¬Cov g a b c) ∧ t + (np g - x2) + tA (np g - 1 - x1).toNat + tB (np g - 1 - x0).toNat ≤ 1000000)
theorem Rw_ab {s n a b c : Int} (h : Rw s n a b c) : 0 ≤ a ∧ a ≤ b ∧ b ≤ c ∧ c < n := by unfold Rw at h; omega
section
variable {μ μ' : Mm} {b : Int → Int} {vb q n p d s : Int} {g : Int → Int}
def gR (q x : Int) : Prop := x = q + 1 ∨ x = q + 4
theorem c_posts (hq : q = 10000 ∨ q = 12000) (hn : n = 0 ∨ n = 1) (hF : ScF μ q n) (hA : La μ (1010 + 10 * n) g) (hL : LdOk g) (hs : s = 1 ∨ s = 2 ∨ s = 3) (hS : Wb (μ (q + 4)) 0 (Pl g)) (hW : ∀ p, Pl g p → Wb (μ (q + 3)) (3 * p) (W1 g p)) (hw : ∀ p, Pl g p → ct (W1 g p) 144 ≤ μ q 10) (hb : 0 ≤ μ q 10 ∧ μ q 10 ≤ 145) : Ev (fX4_posts q s μ) (fun r => Fw (gR q) μ r.2 ∧ Wb (r.2 (q + 4)) 0 (Pl g) ∧ PO g s r.1 (r.2 (q + 1) 0) (r.2 (q + 1) 1) (r.2 (q + 1) 2)) := by
  have hK := ScK_q hq
  obtain ⟨s0, s2, s3, s4, s5, s6, s7⟩ := hF
  have nb := np_b hL
  have hPl : ∀ x, 144 ≤ x → ¬Pl g x := fun x hx w => by have := Pl.i hL w; omega
  have hL1 : ∀ a x, 144 ≤ x → ¬Lf1 g a x := fun a x hx w => hPl x hx w.1
  have hL2 : ∀ a c x, 144 ≤ x → ¬Lf2 g a c x := fun a c x hx w => hL1 a x hx w.1
  unfold fX4_posts
  simp (disch := omega) only [w32_eq, w64_eq, chk_T, chk_t, lt, lm, ob, Int.add_zero, Int.zero_add, true_and, and_true, if_true, if_false, hK.1, s2, hK.2.1.1, hK.2.1.2]
  refine Ev_bind (Ev_lop (P := fun x => match x with | .inl μ' => Fw (gR q) μ μ' ∧ Wb (μ' (q + 4)) 0 (Pl g) ∧ RwN g s | .inr μ' => Fw (gR q) μ μ' ∧ Wb (μ' (q + 4)) 0 (Pl g) ∧ PO g s 1 (μ' (q + 1) 0) (μ' (q + 1) 1) (μ' (q + 1) 2)) (fun t => (-1 ≤ t.1 ∧ t.1 ≤ 2) ∧ (0 ≤ t.2.1 ∧ t.2.1 ≤ 1000000) ∧ Fw (gR q) μ t.2.2 ∧ Wb (t.2.2 (q + 4)) 0 (Pl g) ∧ PI g s (t.2.2 (q + 4)) t.1 (t.2.2 (q + 1) 0) (t.2.2 (q + 1) 1) (t.2.2 (q + 1) 2) t.2.1) (fun t => (1000001 - t.2.1).toNat) ⟨(by first | omega | (dsimp only; omega) | (dsimp only)), (by first | omega | (dsimp only; omega) | (dsimp only)), Fw.s0 (.inl rfl), ?_, ?_⟩ (by unfold FU; dsimp only; omega) ?_) ?_
  · dsimp only; rw [mst_n (by omega)]; exact hS
  · dsimp only; rw [mst_s]
    refine .inr (.inl ⟨rfl, by omega, fun a b c h r => by have := Rw_ab r; omega, ?_⟩)
    have := tB_m (np g - 1 - (-1)).toNat (144 - np g).toNat
    rw [show (np g - 1 - (-1)).toNat + (144 - np g).toNat = 144 by omega] at this
    have := tB_144
    omega
  · rintro ⟨v2, v3, μ1⟩ ⟨k1, k2, f1, w1, i1⟩
    dsimp only at k1 k2 f1 w1 i1 ⊢
    have r0 : μ1 q = μ q := f1 q (by unfold gR; omega)
    have r3 : μ1 (q + 3) = μ (q + 3) := f1 (q + 3) (by unfold gR; omega)
    unfold sX4_posts_11
    dsimp only
    have stop : v2 < 0 ∨ 1000000 ≤ v3 → RwN g s := by
      intro z
      rcases i1 with i | i | i | i
      · exact i.2
      · have := tB_p (np g - 1 - μ1 (q + 1) 0).toNat; have := i.2.2.2; omega
      · have := tB_p (np g - 1 - μ1 (q + 1) 0).toNat; have := tA_p (np g - 1 - μ1 (q + 1) 1).toNat; have := i.2.2.2.2.2; omega
      · have := tB_p (np g - 1 - μ1 (q + 1) 0).toNat; have := tA_p (np g - 1 - μ1 (q + 1) 1).toNat; have := i.2.2.1; have := i.2.2.2.2.2; omega
    refine Ev_ite (fun z => Ev_out ⟨f1, w1, stop (.inr z)⟩) (fun z => ?_)
    refine Ev_ite (fun y => Ev_out ⟨f1, w1, stop (.inl y)⟩) (fun y => ?_)
    rw [if_neg (by omega)]
    have go : ∀ (d : Int) (μ2 : Mm), (-1 ≤ d ∧ d ≤ 2) → Fw (gR q) μ μ2 → Wb (μ2 (q + 4)) 0 (Pl g) → PI g s (μ2 (q + 4)) d (μ2 (q + 1) 0) (μ2 (q + 1) 1) (μ2 (q + 1) 2) (v3 + 1) → Ev (some (Sum.inl (d, v3 + 1, μ2) : (Int × Int × Mm) ⊕ (Mm ⊕ Mm))) (Nx (fun t => (-1 ≤ t.1 ∧ t.1 ≤ 2) ∧ (0 ≤ t.2.1 ∧ t.2.1 ≤ 1000000) ∧ Fw (gR q) μ t.2.2 ∧ Wb (t.2.2 (q + 4)) 0 (Pl g) ∧ PI g s (t.2.2 (q + 4)) t.1 (t.2.2 (q + 1) 0) (t.2.2 (q + 1) 1) (t.2.2 (q + 1) 2) t.2.1) (fun t => (1000001 - t.2.1).toNat) (fun x => match x with | .inl μ' => Fw (gR q) μ μ' ∧ Wb (μ' (q + 4)) 0 (Pl g) ∧ RwN g s | .inr μ' => Fw (gR q) μ μ' ∧ Wb (μ' (q + 4)) 0 (Pl g) ∧ PO g s 1 (μ' (q + 1) 0) (μ' (q + 1) 1) (μ' (q + 1) 2)) (1000001 - v3).toNat) := fun d μ2 a1 a2 a3 a4 => Ev_in ⟨a1, (by first | omega | (dsimp only; omega) | (dsimp only)), a2, a3, a4⟩ (by first | omega | (dsimp only; omega) | (dsimp only))
    -- the next one at this depth
    have xb : -1 ≤ μ1 (q + 1) v2 ∧ μ1 (q + 1) v2 < np g := by
      rcases i1 with i | i | i | i
      · omega
      · rw [i.1]; exact i.2.1
      · rw [i.1]; have := i.2.2.1; omega
      · rw [i.1]; have := i.2.2.1; omega
    have f2 : Fw (gR q) μ (mst μ1 (q + 1) v2 (μ1 (q + 1) v2 + 1)) := f1.st (.inl rfl)
    have A2 : La (mst μ1 (q + 1) v2 (μ1 (q + 1) v2 + 1)) (1010 + 10 * n) g := hA.fw f2 (fun x a b => by unfold gR; omega)
    have rq2 : mst μ1 (q + 1) v2 (μ1 (q + 1) v2 + 1) q = μ q := f2 q (by unfold gR; omega)
    have rq3 : mst μ1 (q + 1) v2 (μ1 (q + 1) v2 + 1) (q + 3) = μ (q + 3) := f2 (q + 3) (by unfold gR; omega)
    have rq4 : mst μ1 (q + 1) v2 (μ1 (q + 1) v2 + 1) (q + 4) = μ1 (q + 4) := mst_n (by omega)
    simp (disch := omega) only [w32_eq, w64_eq, chk_T, chk_t, lt, lm, ob, Int.add_zero, Int.zero_add, true_and, and_true, if_true, if_false, hK.1, r0, s2, hK.2.1.1, hK.2.1.2, rq2, s0, La_k A2, c_places A2 hL, mst_s]
    refine Ev_ite (fun y2 => ?_) (fun y2 => ?_)
    · have hx : Pl g (μ1 (q + 1) v2 + 1) := ⟨by omega, y2⟩
      have bx := Pl.i hL hx
      have W3 : Wb (mst μ1 (q + 1) v2 (μ1 (q + 1) v2 + 1) (q + 3)) (3 * (μ1 (q + 1) v2 + 1)) (W1 g (μ1 (q + 1) v2 + 1)) := by rw [rq3]; exact hW _ hx
      rcases i1 with i | i | i | i
      · omega
      · obtain ⟨e, ib, ino, it⟩ := i
        subst e
        refine Ev_bind (c_watch (d := 0) (P := Pl g) (Q := W1 g (μ1 (q + 1) 0 + 1)) hK (by rw [rq2]; exact s7) (by rw [rq2]; exact s6) (by omega) bx (by rw [rq4]; exact w1) W3 hPl) ?_
        rintro ⟨u, μ3⟩ ⟨f3, hu, L3, o3⟩
        dsimp only at f3 hu L3 o3 ⊢
        replace hu : u = ct (Lf1 g (μ1 (q + 1) 0 + 1)) 144 := hu
        replace L3 : Wb (μ3 (q + 4)) 3 (Lf1 g (μ1 (q + 1) 0 + 1)) := L3
        have cu := ct_b (Lf1 g (μ1 (q + 1) 0 + 1)) 144
        have f03 : Fw (gR q) μ μ3 := f2.tr (f3.mo (fun x hx => .inr hx))
        have w3 : Wb (μ3 (q + 4)) 0 (Pl g) := w1.e (fun i a b => by rw [o3 i (by omega), rq4])
        have r1 : μ3 (q + 1) = mst μ1 (q + 1) 0 (μ1 (q + 1) 0 + 1) (q + 1) := f3 (q + 1) (by omega)
        have g0 : μ3 (q + 1) 0 = μ1 (q + 1) 0 + 1 := by rw [r1, mst_s]
        have q3 : μ3 q = μ q := f03 q (by unfold gR; omega)
        have tb := tB_s y2; have ta := tA_p (np g - 1 - (μ1 (q + 1) 0 + 1)).toNat
        have stay : (∀ b c, Rw s (np g) (μ1 (q + 1) 0 + 1) b c → ¬Cov g (μ1 (q + 1) 0 + 1) b c) → PI g s (μ3 (q + 4)) 0 (μ3 (q + 1) 0) (μ3 (q + 1) 1) (μ3 (q + 1) 2) (v3 + 1) := by
          intro h
          rw [g0]
          refine .inr (.inl ⟨rfl, by omega, fun a b c ha r => ?_, by omega⟩)
          by_cases e : a = μ1 (q + 1) 0 + 1
          · subst e; exact h b c r
          · exact ino a b c (by omega) r
        have more : Ev (jX4_posts_90 q s 0 v3 u (s - 0 - 1) μ3) (Nx (fun t => (-1 ≤ t.1 ∧ t.1 ≤ 2) ∧ (0 ≤ t.2.1 ∧ t.2.1 ≤ 1000000) ∧ Fw (gR q) μ t.2.2 ∧ Wb (t.2.2 (q + 4)) 0 (Pl g) ∧ PI g s (t.2.2 (q + 4)) t.1 (t.2.2 (q + 1) 0) (t.2.2 (q + 1) 1) (t.2.2 (q + 1) 2) t.2.1) (fun t => (1000001 - t.2.1).toNat) (fun x => match x with | .inl μ' => Fw (gR q) μ μ' ∧ Wb (μ' (q + 4)) 0 (Pl g) ∧ RwN g s | .inr μ' => Fw (gR q) μ μ' ∧ Wb (μ' (q + 4)) 0 (Pl g) ∧ PO g s 1 (μ' (q + 1) 0) (μ' (q + 1) 1) (μ' (q + 1) 2)) (1000001 - v3).toNat) ∨ (u = 0 ∧ s = 1) := by
          by_cases e1 : u = 0 ∧ s = 1
          · exact .inr e1
          · left
            unfold jX4_posts_90
            by_cases hs1 : s = 1
            · rw [if_pos (by omega)]
              simp (disch := omega) only [w32_eq, w64_eq, chk_T, chk_t, lt, lm, ob, Int.add_zero, Int.zero_add, true_and, and_true, if_true, if_false, ]
              refine go 0 μ3 (by omega) f03 w3 (stay (fun b c r h => e1 ⟨?_, hs1⟩))
              obtain ⟨_, r⟩ := r
              have e2 : b = μ1 (q + 1) 0 + 1 ∧ c = b := by omega
              rw [e2.2, e2.1] at h
              rw [hu]; exact (Lf1_0 hL).mpr h
            · rw [if_neg (by omega)]
              have mw : (s - 0 - 1) * μ q 10 = (if s = 2 then μ q 10 else 2 * μ q 10) := by
                rcases hs with e | e | e
                · omega
                · subst e; rw [if_pos rfl]; omega
                · subst e; rw [if_neg (by decide)]
                  show (3 - 0 - 1) * μ q 10 = _; omega
              have mb : 0 ≤ (s - 0 - 1) * μ q 10 ∧ (s - 0 - 1) * μ q 10 ≤ 290 := by rw [mw]; split <;> omega
              simp (disch := omega) only [w32_eq, w64_eq, chk_T, chk_t, lt, lm, ob, Int.add_zero, Int.zero_add, true_and, and_true, if_true, if_false, hK.1, q3]
              refine Ev_ite (fun y3 => go 0 μ3 (by omega) f03 w3 (stay (fun b c r h => ?_))) (fun y3 => ?_)
              · have rb := Rw_ab r
                have hb2 := hw b ⟨by omega, by omega⟩; have hc2 := hw c ⟨by omega, by omega⟩
                rw [mw] at y3
                by_cases s2' : s = 2
                · rw [if_pos s2'] at y3
                  obtain ⟨_, r⟩ := r
                  have : c = b := by omega
                  rw [this] at h
                  have := Cov_1b h; omega
                · rw [if_neg s2'] at y3
                  have := Cov_1 h; omega
              · simp (disch := omega) only [w32_eq, w64_eq, chk_T, chk_t, lt, lm, ob, Int.add_zero, Int.zero_add, true_and, and_true, if_true, if_false, s2, hK.2.1.1, hK.2.1.2]
                try rw [q3, s2]
                try simp (disch := omega) only [w32_eq, w64_eq, chk_T, chk_t, lt, lm, ob, Int.add_zero, Int.zero_add, true_and, and_true, if_true, if_false, hK.2.1.1, hK.2.1.2]
                refine go 1 _ (by omega) (f03.st (.inl rfl)) (by rw [mst_n (by omega)]; exact w3) ?_
                have e0 : mst μ3 (q + 1) 1 (μ3 (q + 1) 0) (q + 1) 0 = μ1 (q + 1) 0 + 1 := by rw [mst_j (by omega)]; exact g0
                have e1' : mst μ3 (q + 1) 1 (μ3 (q + 1) 0) (q + 1) 1 = μ1 (q + 1) 0 + 1 := by rw [mst_s]; exact g0
                simp only [show (1 : Int) - 1 = 0 by decide]
                rw [e0, e1', mst_n (by omega)]
                refine .inr (.inr (.inl ⟨rfl, by omega, by omega, L3, fun a b c ha r => ?_, by omega⟩))
                have rb := Rw_ab r
                refine ino a b c ?_ r
                rcases ha with ha | ⟨ha, hb'⟩
                · omega
                · obtain ⟨_, r⟩ := r; omega
        rcases more with more | ⟨m1, m2⟩
        · refine Ev_ite (fun y3 => Ev_ite (fun y4 => ?_) (fun _ => more)) (fun _ => more)
          refine Ev_out ⟨f03, w3, .inr ⟨rfl, μ1 (q + 1) 0 + 1, μ1 (q + 1) 0 + 1, μ1 (q + 1) 0 + 1, ⟨⟨by omega, .inl ⟨by omega, rfl, rfl⟩⟩, (Lf1_0 hL).mp (by rw [← hu]; exact y3), fun a b c ha r => ino a b c ?_ r⟩, g0, fun _ => by omega, fun _ => by omega⟩⟩
          obtain ⟨_, r⟩ := r; omega
        · rw [if_pos m1, if_pos (by omega)]
          refine Ev_out ⟨f03, w3, .inr ⟨rfl, μ1 (q + 1) 0 + 1, μ1 (q + 1) 0 + 1, μ1 (q + 1) 0 + 1, ⟨⟨by omega, .inl ⟨by omega, rfl, rfl⟩⟩, (Lf1_0 hL).mp (by rw [← hu]; exact m1), fun a b c ha r => ino a b c ?_ r⟩, g0, fun _ => by omega, fun _ => by omega⟩⟩
          obtain ⟨_, r⟩ := r; omega
      · obtain ⟨e, is, ib, iw, ino, it⟩ := i
        subst e
        refine Ev_bind (c_watch (d := 1) (P := Lf1 g (μ1 (q + 1) 0)) (Q := W1 g (μ1 (q + 1) 1 + 1)) hK (by rw [rq2]; exact s7) (by rw [rq2]; exact s6) (by omega) bx (by rw [rq4]; exact iw) W3 (hL1 _)) ?_
        rintro ⟨u, μ3⟩ ⟨f3, hu, L3, o3⟩
        dsimp only at f3 hu L3 o3 ⊢
        replace hu : u = ct (Lf2 g (μ1 (q + 1) 0) (μ1 (q + 1) 1 + 1)) 144 := hu
        replace L3 : Wb (μ3 (q + 4)) 6 (Lf2 g (μ1 (q + 1) 0) (μ1 (q + 1) 1 + 1)) := L3
        have cu := ct_b (Lf2 g (μ1 (q + 1) 0) (μ1 (q + 1) 1 + 1)) 144
        have f03 : Fw (gR q) μ μ3 := f2.tr (f3.mo (fun x hx => .inr hx))
        have w3 : Wb (μ3 (q + 4)) 0 (Pl g) := w1.e (fun i a b => by rw [o3 i (by omega), rq4])
        have iw3 : Wb (μ3 (q + 4)) 3 (Lf1 g (μ1 (q + 1) 0)) := iw.e (fun i a b => by rw [o3 i (by omega), rq4])
        have r1 : μ3 (q + 1) = mst μ1 (q + 1) 1 (μ1 (q + 1) 1 + 1) (q + 1) := f3 (q + 1) (by omega)
        have g0 : μ3 (q + 1) 0 = μ1 (q + 1) 0 := by rw [r1, mst_j (by omega)]
        have g1 : μ3 (q + 1) 1 = μ1 (q + 1) 1 + 1 := by rw [r1, mst_s]
        have q3 : μ3 q = μ q := f03 q (by unfold gR; omega)
        have ta := tA_s y2
        have stay : (∀ c, Rw s (np g) (μ1 (q + 1) 0) (μ1 (q + 1) 1 + 1) c → ¬Cov g (μ1 (q + 1) 0) (μ1 (q + 1) 1 + 1) c) → PI g s (μ3 (q + 4)) 1 (μ3 (q + 1) 0) (μ3 (q + 1) 1) (μ3 (q + 1) 2) (v3 + 1) := by
          intro h
          rw [g0, g1]
          refine .inr (.inr (.inl ⟨rfl, is, by omega, iw3, fun a b c ha r => ?_, by omega⟩))
          by_cases e : a = μ1 (q + 1) 0 ∧ b = μ1 (q + 1) 1 + 1
          · obtain ⟨e1, e2⟩ := e; subst e1 e2; exact h c r
          · exact ino a b c (by omega) r
        have won : u = 0 → s = 2 → PO g s 1 (μ3 (q + 1) 0) (μ3 (q + 1) 1) (μ3 (q + 1) 2) := by
          intro m1 m2
          refine .inr ⟨rfl, μ1 (q + 1) 0, μ1 (q + 1) 1 + 1, μ1 (q + 1) 1 + 1, ⟨⟨by omega, .inr (.inl ⟨by omega, by omega, rfl⟩)⟩, (Lf2_0 hL).mp (by rw [← hu]; exact m1), fun a b c ha r => ino a b c ?_ r⟩, g0, fun _ => g1, fun _ => by omega⟩
          obtain ⟨_, r⟩ := r; omega
        have more : Ev (jX4_posts_90 q s 1 v3 u (s - 1 - 1) μ3) (Nx (fun t => (-1 ≤ t.1 ∧ t.1 ≤ 2) ∧ (0 ≤ t.2.1 ∧ t.2.1 ≤ 1000000) ∧ Fw (gR q) μ t.2.2 ∧ Wb (t.2.2 (q + 4)) 0 (Pl g) ∧ PI g s (t.2.2 (q + 4)) t.1 (t.2.2 (q + 1) 0) (t.2.2 (q + 1) 1) (t.2.2 (q + 1) 2) t.2.1) (fun t => (1000001 - t.2.1).toNat) (fun x => match x with | .inl μ' => Fw (gR q) μ μ' ∧ Wb (μ' (q + 4)) 0 (Pl g) ∧ RwN g s | .inr μ' => Fw (gR q) μ μ' ∧ Wb (μ' (q + 4)) 0 (Pl g) ∧ PO g s 1 (μ' (q + 1) 0) (μ' (q + 1) 1) (μ' (q + 1) 2)) (1000001 - v3).toNat) ∨ (u = 0 ∧ s = 2) := by
          by_cases e1 : u = 0 ∧ s = 2
          · exact .inr e1
          · left
            unfold jX4_posts_90
            by_cases hs1 : s = 2
            · rw [if_pos (by omega)]
              simp (disch := omega) only [w32_eq, w64_eq, chk_T, chk_t, lt, lm, ob, Int.add_zero, Int.zero_add, true_and, and_true, if_true, if_false, ]
              refine go 1 μ3 (by omega) f03 w3 (stay (fun c r h => e1 ⟨?_, hs1⟩))
              obtain ⟨_, r⟩ := r
              have e2 : c = μ1 (q + 1) 1 + 1 := by omega
              rw [e2] at h
              rw [hu]; exact (Lf2_0 hL).mpr h
            · have hs3 : s = 3 := by omega
              have mw : (s - 1 - 1) * μ q 10 = μ q 10 := by
                rw [hs3]; show (3 - 1 - 1) * μ q 10 = _; omega
              rw [if_neg (by omega)]
              simp (disch := omega) only [w32_eq, w64_eq, chk_T, chk_t, lt, lm, ob, Int.add_zero, Int.zero_add, true_and, and_true, if_true, if_false, hK.1, q3]
              rw [mw]
              refine Ev_ite (fun y3 => ?_) (fun y3 => ?_)
              · try simp (disch := omega) only [w32_eq, w64_eq, chk_T, chk_t, lt, lm, ob, Int.add_zero, Int.zero_add, true_and, and_true, if_true, if_false, ]
                refine go 1 μ3 (by omega) f03 w3 (stay (fun c r h => ?_))
                have rb := Rw_ab r
                have hc2 := hw c ⟨by omega, by omega⟩
                have := Cov_2 h
                omega
              · try simp (disch := omega) only [w32_eq, w64_eq, chk_T, chk_t, lt, lm, ob, Int.add_zero, Int.zero_add, true_and, and_true, if_true, if_false, s2, hK.2.1.1, hK.2.1.2]
                refine go 2 _ (by omega) (f03.st (.inl rfl)) (by rw [mst_n (by omega)]; exact w3) ?_
                have e0 : mst μ3 (q + 1) 2 (μ3 (q + 1) 1) (q + 1) 0 = μ1 (q + 1) 0 := by rw [mst_j (by omega)]; exact g0
                have e1' : mst μ3 (q + 1) 2 (μ3 (q + 1) 1) (q + 1) 1 = μ1 (q + 1) 1 + 1 := by rw [mst_j (by omega)]; exact g1
                have e2' : mst μ3 (q + 1) 2 (μ3 (q + 1) 1) (q + 1) 2 = μ1 (q + 1) 1 + 1 := by rw [mst_s]; exact g1
                simp only [show (1 : Int) + 1 = 2 by decide, show (2 : Int) - 1 = 1 by decide]
                rw [e0, e1', e2', mst_n (by omega)]
                refine .inr (.inr (.inr ⟨rfl, hs3, by omega, ⟨iw3, L3⟩, fun a b c ha r => ?_, by omega⟩))
                have rb := Rw_ab r
                refine ino a b c ?_ r
                obtain ⟨_, r⟩ := r; omega
        rcases more with more | ⟨m1, m2⟩
        · exact Ev_ite (fun y3 => Ev_ite (fun y4 => Ev_out ⟨f03, w3, won y3 (by omega)⟩) (fun _ => more)) (fun _ => more)
        · rw [if_pos m1, if_pos (by omega)]
          exact Ev_out ⟨f03, w3, won m1 m2⟩
      · obtain ⟨e, is, ib, iw, ino, it⟩ := i
        subst e
        refine Ev_bind (c_watch (d := 2) (P := Lf2 g (μ1 (q + 1) 0) (μ1 (q + 1) 1)) (Q := W1 g (μ1 (q + 1) 2 + 1)) hK (by rw [rq2]; exact s7) (by rw [rq2]; exact s6) (by omega) bx (by rw [rq4]; exact iw.2) W3 (hL2 _ _)) ?_
        rintro ⟨u, μ3⟩ ⟨f3, hu, L3, o3⟩
        dsimp only at f3 hu L3 o3 ⊢
        replace hu : u = ct (Lf3 g (μ1 (q + 1) 0) (μ1 (q + 1) 1) (μ1 (q + 1) 2 + 1)) 144 := hu
        have cu := ct_b (Lf3 g (μ1 (q + 1) 0) (μ1 (q + 1) 1) (μ1 (q + 1) 2 + 1)) 144
        have f03 : Fw (gR q) μ μ3 := f2.tr (f3.mo (fun x hx => .inr hx))
        have w3 : Wb (μ3 (q + 4)) 0 (Pl g) := w1.e (fun i a b => by rw [o3 i (by omega), rq4])
        have iw3 : Wb (μ3 (q + 4)) 3 (Lf1 g (μ1 (q + 1) 0)) := iw.1.e (fun i a b => by rw [o3 i (by omega), rq4])
        have iw6 : Wb (μ3 (q + 4)) 6 (Lf2 g (μ1 (q + 1) 0) (μ1 (q + 1) 1)) := iw.2.e (fun i a b => by rw [o3 i (by omega), rq4])
        have r1 : μ3 (q + 1) = mst μ1 (q + 1) 2 (μ1 (q + 1) 2 + 1) (q + 1) := f3 (q + 1) (by omega)
        have g0 : μ3 (q + 1) 0 = μ1 (q + 1) 0 := by rw [r1, mst_j (by omega)]
        have g1 : μ3 (q + 1) 1 = μ1 (q + 1) 1 := by rw [r1, mst_j (by omega)]
        have g2 : μ3 (q + 1) 2 = μ1 (q + 1) 2 + 1 := by rw [r1, mst_s]
        have more : u ≠ 0 → Ev (jX4_posts_90 q s 2 v3 u (s - 2 - 1) μ3) (Nx (fun t => (-1 ≤ t.1 ∧ t.1 ≤ 2) ∧ (0 ≤ t.2.1 ∧ t.2.1 ≤ 1000000) ∧ Fw (gR q) μ t.2.2 ∧ Wb (t.2.2 (q + 4)) 0 (Pl g) ∧ PI g s (t.2.2 (q + 4)) t.1 (t.2.2 (q + 1) 0) (t.2.2 (q + 1) 1) (t.2.2 (q + 1) 2) t.2.1) (fun t => (1000001 - t.2.1).toNat) (fun x => match x with | .inl μ' => Fw (gR q) μ μ' ∧ Wb (μ' (q + 4)) 0 (Pl g) ∧ RwN g s | .inr μ' => Fw (gR q) μ μ' ∧ Wb (μ' (q + 4)) 0 (Pl g) ∧ PO g s 1 (μ' (q + 1) 0) (μ' (q + 1) 1) (μ' (q + 1) 2)) (1000001 - v3).toNat) := by
          intro e1
          unfold jX4_posts_90
          rw [if_pos (by omega)]
          simp (disch := omega) only [w32_eq, w64_eq, chk_T, chk_t, lt, lm, ob, Int.add_zero, Int.zero_add, true_and, and_true, if_true, if_false, ]
          refine go 2 μ3 (by omega) f03 w3 ?_
          rw [g0, g1, g2]
          refine .inr (.inr (.inr ⟨rfl, is, by omega, ⟨iw3, iw6⟩, fun a b c ha r => ?_, by omega⟩))
          by_cases e : a = μ1 (q + 1) 0 ∧ b = μ1 (q + 1) 1 ∧ c = μ1 (q + 1) 2 + 1
          · obtain ⟨z1, z2, z3⟩ := e; subst z1 z2 z3
            exact fun h => e1 (by rw [hu]; exact (Lf3_0 hL).mpr h)
          · exact ino a b c (by omega) r
        refine Ev_ite (fun y3 => ?_) (fun y3 => more y3)
        rw [if_pos (by omega)]
        refine Ev_out ⟨f03, w3, .inr ⟨rfl, μ1 (q + 1) 0, μ1 (q + 1) 1, μ1 (q + 1) 2 + 1, ⟨⟨by omega, .inr (.inr ⟨by omega, by omega, by omega⟩)⟩, (Lf3_0 hL).mp (by rw [← hu]; exact y3), fun a b c ha r => ino a b c (by omega) r⟩, g0, fun _ => g1, fun _ => g2⟩⟩
    · refine go (v2 + (-1)) _ (by omega) f2 (by rw [rq4]; exact w1) ?_
      rw [rq4]
      rcases i1 with i | i | i | i
      · omega
      · obtain ⟨e, ib, ino, it⟩ := i
        subst e
        exact .inl ⟨by omega, fun a b c r => ino a b c (by have := Rw_ab r; omega) r⟩
      · obtain ⟨e, is, ib, iw, ino, it⟩ := i
        subst e
        rw [mst_j (by omega)]
        have := tA_p (np g - 1 - μ1 (q + 1) 1).toNat
        exact .inr (.inl ⟨by omega, by omega, fun a b c ha r => ino a b c (by have := Rw_ab r; omega) r, by omega⟩)
      · obtain ⟨e, is, ib, iw, ino, it⟩ := i
        subst e
        rw [mst_j (by omega), mst_j (by omega)]
        exact .inr (.inr (.inl ⟨by omega, by omega, by omega, iw.1, fun a b c ha r => ino a b c (by have := Rw_ab r; omega) r, by omega⟩))
  · intro x hx
    rcases x with μ' | μ'
    · exact Ev_some ⟨hx.1, hx.2.1, .inl ⟨rfl, hx.2.2⟩⟩
    · exact Ev_some hx
end
