/-! ===== the class: a skyline, its bits and rows ===== -/
def LiK (s : Int) : Prop := KD s = 7 ∧ (KD (s + 1) = 12 ∧ LN (s + 1) = 90) ∧ (KD (s + 2) = 12 ∧ LN (s + 2) = 90) ∧ (KD (s + 3) = 12 ∧ LN (s + 3) = 90) ∧ (KD (s + 4) = 12 ∧ LN (s + 4) = 45) ∧ (KD (s + 5) = 12 ∧ LN (s + 5) = 12) ∧ (KD (s + 6) = 13 ∧ LN (s + 6) = 3)
def LiF (μ : Mm) (s : Int) : Prop := μ s 4 = s + 1 ∧ μ s 5 = s + 2 ∧ μ s 6 = s + 3 ∧ μ s 7 = s + 4 ∧ μ s 8 = s + 5 ∧ μ s 9 = s + 6
section
variable {s : Int}
theorem LiK.k (h : LiK s) : KD s = 7 := h.1
theorem LiK.k1 (h : LiK s) : KD (s + 1) = 12 := h.2.1.1
theorem LiK.n1 (h : LiK s) : LN (s + 1) = 90 := h.2.1.2
theorem LiK.k2 (h : LiK s) : KD (s + 2) = 12 := h.2.2.1.1
theorem LiK.n2 (h : LiK s) : LN (s + 2) = 90 := h.2.2.1.2
theorem LiK.k3 (h : LiK s) : KD (s + 3) = 12 := h.2.2.2.1.1
theorem LiK.n3 (h : LiK s) : LN (s + 3) = 90 := h.2.2.2.1.2
theorem LiK.k4 (h : LiK s) : KD (s + 4) = 12 := h.2.2.2.2.1.1
theorem LiK.n4 (h : LiK s) : LN (s + 4) = 45 := h.2.2.2.2.1.2
theorem LiK.k5 (h : LiK s) : KD (s + 5) = 12 := h.2.2.2.2.2.1.1
theorem LiK.n5 (h : LiK s) : LN (s + 5) = 12 := h.2.2.2.2.2.1.2
theorem LiK.k6 (h : LiK s) : KD (s + 6) = 13 := h.2.2.2.2.2.2.1
theorem LiK.n6 (h : LiK s) : LN (s + 6) = 3 := h.2.2.2.2.2.2.2
variable {μ : Mm}
theorem LiF.f4 (h : LiF μ s) : μ s 4 = s + 1 := h.1
theorem LiF.f5 (h : LiF μ s) : μ s 5 = s + 2 := h.2.1
theorem LiF.f6 (h : LiF μ s) : μ s 6 = s + 3 := h.2.2.1
theorem LiF.f7 (h : LiF μ s) : μ s 7 = s + 4 := h.2.2.2.1
theorem LiF.f8 (h : LiF μ s) : μ s 8 = s + 5 := h.2.2.2.2.1
theorem LiF.f9 (h : LiF μ s) : μ s 9 = s + 6 := h.2.2.2.2.2
theorem LiF.fw {R : Int → Prop} {μ' : Mm} (h : LiF μ s) (f : Fw R μ μ') (h0 : ¬R s) : LiF μ' s := by
  unfold LiF; rw [f s h0]; exact h
theorem LiF.st {a i v : Int} (h : LiF μ s) (h0 : a ≠ s ∨ i ≤ 3) : LiF (mst μ a i v) s := by
  by_cases q : a = s
  · subst q; unfold LiF; rw [mst_j (by omega), mst_j (by omega), mst_j (by omega), mst_j (by omega), mst_j (by omega), mst_j (by omega)]; exact h
  · unfold LiF; rw [mst_n (Ne.symm q)]; exact h
end
theorem q_all : upTo (fun n => decide (ishr (n : Int) 6 = (n / 64 : Nat) ∧ iand (n : Int) 63 = (n % 64 : Nat))) 192 = true := by decide +kernel
theorem q_ok {q : Int} (h0 : 0 ≤ q) (h1 : q < 192) : ishr q 6 = q / 64 ∧ iand q 63 = ((q % 64).toNat : Int) := by
  have := of_decide_eq_true (upTo_e q_all (show q.toNat < 192 by omega))
  rw [Int.toNat_of_nonneg h0] at this
  rw [this.1, this.2]; omega
/-- the shown bits of the skyline s are P -/
def Sb (μ : Mm) (s : Int) (P : Int → Prop) : Prop := (∀ w, 0 ≤ w → w < 3 → R64 (μ (s + 6) w)) ∧ ∀ q, 0 ≤ q → q < 192 → (bw (μ (s + 6) (q / 64)) (q % 64).toNat = true ↔ P q)
theorem Sb.c {μ : Mm} {s : Int} {P Q : Int → Prop} (h : Sb μ s P) (hc : ∀ q, 0 ≤ q → q < 192 → (P q ↔ Q q)) : Sb μ s Q := ⟨h.1, fun q a b => (h.2 q a b).trans (hc q a b)⟩
theorem Sb.fw {R : Int → Prop} {μ μ' : Mm} {s : Int} {P : Int → Prop} (h : Sb μ s P) (f : Fw R μ μ') (h0 : ¬R (s + 6)) : Sb μ' s P := by unfold Sb; rw [f _ h0]; exact h
theorem Sb.u {μ μ' : Mm} {s s' : Int} {P Q : Int → Prop} (h : Sb μ s P) (k : Sb μ' s' Q) (hc : ∀ q, 0 ≤ q → q < 192 → (P q ↔ Q q)) {w : Int} (h0 : 0 ≤ w) (h1 : w < 3) : μ (s + 6) w = μ' (s' + 6) w := by
  apply bw_ext (h.1 w h0 h1) (k.1 w h0 h1)
  intro i hi
  have a := h.2 (64 * w + i) (by omega) (by omega); have b := k.2 (64 * w + i) (by omega) (by omega)
  have e1 : (64 * w + (i : Int)) / 64 = w := by omega
  have e2 : ((64 * w + (i : Int)) % 64).toNat = i := by omega
  rw [e1, e2] at a b
  have := (a.trans (hc _ (by omega) (by omega))).trans b.symm
  exact Bool.eq_iff_iff.mpr this
theorem Sb.d {μ μ' : Mm} {s s' : Int} {P Q : Int → Prop} (h : Sb μ s P) (k : Sb μ' s' Q) (e : ∀ w, 0 ≤ w → w < 3 → μ (s + 6) w = μ' (s' + 6) w) : ∀ q, 0 ≤ q → q < 192 → (P q ↔ Q q) := by
  intro q a b
  rw [← h.2 q a b, ← k.2 q a b, e (q / 64) (by omega) (by omega)]
theorem c_show {μ : Mm} {s q v : Int} {P : Int → Prop} (hK : LiK s) (hF : LiF μ s) (hS : Sb μ s P) (h0 : 0 ≤ q) (h1 : q < 144) : Ev (fX7_show s q v μ) (fun μ' => Fw (fun x => x = s + 6) μ μ' ∧ Sb μ' s (fun x => x = q ∧ v ≠ 0 ∨ x ≠ q ∧ P x)) := by
  have e := q_ok h0 (show q < 192 by omega)
  unfold fX7_show
  rw [e.1, e.2]
  simp (disch := omega) only [w32_eq, w64_eq, chk_T, chk_t, lt, lm, ob, Int.add_zero, Int.zero_add, true_and, and_true, if_true, if_false, LiK.k hK, LiK.k1 hK, LiK.n1 hK, LiK.k2 hK, LiK.n2 hK, LiK.k3 hK, LiK.n3 hK, LiK.k4 hK, LiK.n4 hK, LiK.k5 hK, LiK.n5 hK, LiK.k6 hK, LiK.n6 hK, LiF.f4 hF, LiF.f5 hF, LiF.f6 hF, LiF.f7 hF, LiF.f8 hF, LiF.f9 hF, if_neg]
  have lt64 : (q % 64).toNat < 64 := by omega
  have bits : ∀ z : Int, R64 z → (∀ i, i < 64 → (bw z i = true ↔ (if i = (q % 64).toNat then v ≠ 0 else bw (μ (s + 6) (q / 64)) i = true))) → Sb (mst μ (s + 6) (q / 64) z) s (fun x => x = q ∧ v ≠ 0 ∨ x ≠ q ∧ P x) := by
    intro z hz hb
    refine ⟨fun w w0 w1 => ?_, fun x x0 x1 => ?_⟩
    · by_cases y : w = q / 64
      · subst y; rw [mst_s]; exact hz
      · rw [mst_j y]; exact hS.1 w w0 w1
    · by_cases y : x / 64 = q / 64
      · rw [y, mst_s, hb _ (by omega)]
        by_cases y2 : x = q
        · subst y2; rw [if_pos rfl]; simp
        · rw [if_neg (by omega), ← y, hS.2 x x0 x1]; simp [y2]
      · rw [mst_j y, hS.2 x x0 x1]
        have : x ≠ q := fun z => y (by rw [z])
        simp [this]
  refine Ev_ite (fun hv => Ev_some ⟨Fw.s0 rfl, ?_⟩) (fun hv => Ev_some ⟨Fw.s0 rfl, ?_⟩)
  · apply bits _ (R64_land _ _)
    intro i hi
    rw [bw_and, bw_not _ hi, bw_one lt64]
    by_cases y : i = (q % 64).toNat
    · rw [if_pos y]; simp [hv, y]
    · rw [if_neg y]; have : ¬(q % 64).toNat = i := fun z => y z.symm
      simp [this]
  · apply bits _ (R64_lor _ _)
    intro i hi
    rw [bw_or, bw_one lt64]
    by_cases y : i = (q % 64).toNat
    · rw [if_pos y]; simp [hv, y]
    · rw [if_neg y]; have : ¬(q % 64).toNat = i := fun z => y z.symm
      simp [this]
theorem c_shows {μ : Mm} {s q : Int} {P : Int → Prop} (hK : LiK s) (hF : LiF μ s) (hS : Sb μ s P) (h0 : 0 ≤ q) (h1 : q < 192) : fX7_shows s q μ = some (bi (P q)) := by
  have e := q_ok h0 h1
  unfold fX7_shows
  rw [e.1, e.2]
  simp (disch := omega) only [w32_eq, w64_eq, chk_T, chk_t, lt, lm, ob, Int.add_zero, Int.zero_add, true_and, and_true, if_true, if_false, LiK.k hK, LiK.k1 hK, LiK.n1 hK, LiK.k2 hK, LiK.n2 hK, LiK.k3 hK, LiK.n3 hK, LiK.k4 hK, LiK.n4 hK, LiK.k5 hK, LiK.n5 hK, LiK.k6 hK, LiK.n6 hK, LiF.f4 hF, LiF.f5 hF, LiF.f6 hF, LiF.f7 hF, LiF.f8 hF, LiF.f9 hF, if_neg]
  have hb := hS.2 q h0 h1
  split
  · next z => rw [bw_get _ (by omega)] at z; rw [bi_f]; intro y; have := hb.mpr y; rw [z] at this; cases this
  · next z => rw [bw_get _ (by omega)] at z; rw [bi_t]; apply hb.mp; simpa using z
theorem pc_ct {x : Int} {P : Int → Prop} {b : Int} (h : ∀ i : Nat, i < 64 → (bw x i = true ↔ P (b + i))) : (pcN 64 (un x) : Int) = ct (fun i => P (b + i)) 64 := by
  have key : ∀ n m : Nat, n + m ≤ 64 → (pcN n (un x / 2 ^ m) : Int) = ct (fun i => P (b + i)) (n + m) - ct (fun i => P (b + i)) m := by
    intro n
    induction n with
    | zero => intro m _; simp [pcN]
    | succ n ih =>
      intro m hm
      have i2 := ih (m + 1) (by omega)
      show ((un x / 2 ^ m % 2 + pcN n (un x / 2 ^ m / 2) : Nat) : Int) = _
      rw [Nat.div_div_eq_div_mul, ← Nat.pow_succ, Int.natCast_add, i2, show n + (m + 1) = n + 1 + m by omega]
      have e : ct (fun i => P (b + i)) (m + 1) = ct (fun i => P (b + i)) m + bi (P (b + (m : Int))) := rfl
      have hb := h m (by omega)
      unfold bw at hb; rw [Nat.testBit_eq_decide_div_mod_eq] at hb
      rw [e]
      by_cases y : P (b + (m : Int))
      · have := of_decide_eq_true (hb.mpr y); rw [bi_t y, this]; omega
      · have : ¬(un x / 2 ^ m % 2 = 1) := fun z => y (hb.mp (decide_eq_true z))
        rw [bi_f y]; omega
  have := key 64 0 (by omega)
  rw [Nat.pow_zero, Nat.div_one] at this
  rw [this]; simp [ct]
theorem ct_add (P : Int → Prop) : ∀ (n m : Nat), ct P (n + m) = ct P n + ct (fun i => P (n + i)) m
  | n, 0 => by simp [ct]
  | n, m + 1 => by
    show ct P (n + m) + bi (P ((n + m : Nat) : Int)) = ct P n + (ct (fun i => P (n + i)) m + bi (P ((n : Int) + (m : Int))))
    rw [ct_add P n m, Int.natCast_add]; omega
/-- how many are shown -/
theorem c_countShown {μ : Mm} {s : Int} {P : Int → Prop} (hK : LiK s) (hF : LiF μ s) (hS : Sb μ s P) (hn : ∀ q, 144 ≤ q → ¬P q) : fX7_countShown s μ = some (ct P 144) := by
  have bits : ∀ w, 0 ≤ w → w < 3 → lbits (μ (s + 6) w) = ct (fun i => P (64 * w + i)) 64 := by
    intro w w0 w1
    rw [lbits_ok]
    apply pc_ct
    intro i hi
    have := hS.2 (64 * w + i) (by omega) (by omega)
    rwa [show (64 * w + (i : Int)) / 64 = w by omega, show ((64 * w + (i : Int)) % 64).toNat = i by omega] at this
  have e1 : ct P 192 = ct P 144 := (ct_flat (c := P) (v := fun k => k) (a := 144) 192 (by omega) (fun i i0 i1 => hn i (by omega))).1
  have e2 : ct P 192 = ct (fun i => P (64 * 0 + i)) 64 + ct (fun i => P (64 * 1 + i)) 64 + ct (fun i => P (64 * 2 + i)) 64 := by
    rw [show 192 = 64 + (64 + 64) by rfl, ct_add P 64 (64 + 64), ct_add _ 64 64, ← Int.add_assoc]
    have a : (fun i => P (64 * 0 + i)) = P := by funext i; rw [show 64 * 0 + i = i by omega]
    have b : (fun i => P (((64 : Nat) : Int) + i)) = fun i => P (64 * 1 + i) := by funext i; rw [show ((64 : Nat) : Int) + i = 64 * 1 + i by omega]
    have d : (fun i => P (((64 : Nat) : Int) + (((64 : Nat) : Int) + i))) = fun i => P (64 * 2 + i) := by funext i; rw [show ((64 : Nat) : Int) + (((64 : Nat) : Int) + i) = 64 * 2 + i by omega]
    rw [a, b, d]
  have b0 := ct_b (fun i => P (64 * 0 + i)) 64; have b1 := ct_b (fun i => P (64 * 1 + i)) 64; have b2 := ct_b (fun i => P (64 * 2 + i)) 64
  apply Ev.eq
  unfold fX7_countShown
  refine Ev_bind (Ev_lop (P := fun r => r = ct P 144) (fun t => (t.2 = 0 ∧ t.1 = 0) ∨ (t.2 = 1 ∧ t.1 = ct (fun i => P (64 * 0 + i)) 64) ∨ (t.2 = 2 ∧ t.1 = ct (fun i => P (64 * 0 + i)) 64 + ct (fun i => P (64 * 1 + i)) 64) ∨ (t.2 = 3 ∧ t.1 = ct P 144)) (fun t => (3 - t.2).toNat) (.inl ⟨rfl, rfl⟩) (by unfold FU; dsimp only; omega) ?_) (fun r h => Ev_some h)
  rintro ⟨v1, v2⟩ h
  dsimp only at h ⊢
  unfold sX7_countShown_4
  dsimp only
  rcases h with ⟨a, b⟩ | ⟨a, b⟩ | ⟨a, b⟩ | ⟨a, b⟩
  · subst a b; rw [if_neg (by decide)]
    have := bits 0 (by decide) (by decide)
    simp (disch := omega) only [w32_eq, w64_eq, chk_T, chk_t, lt, lm, ob, Int.add_zero, Int.zero_add, true_and, and_true, if_true, if_false, LiK.k hK, LiK.k1 hK, LiK.n1 hK, LiK.k2 hK, LiK.n2 hK, LiK.k3 hK, LiK.n3 hK, LiK.k4 hK, LiK.n4 hK, LiK.k5 hK, LiK.n5 hK, LiK.k6 hK, LiK.n6 hK, LiF.f4 hF, LiF.f5 hF, LiF.f6 hF, LiF.f7 hF, LiF.f8 hF, LiF.f9 hF, this]
    exact Ev_in (.inr (.inl ⟨(by first | omega | (dsimp only; omega) | (dsimp only)), (by first | omega | (dsimp only; omega) | (dsimp only))⟩)) (by dsimp only; omega)
  · subst a b; rw [if_neg (by decide)]
    have := bits 1 (by decide) (by decide)
    simp (disch := omega) only [w32_eq, w64_eq, chk_T, chk_t, lt, lm, ob, Int.add_zero, Int.zero_add, true_and, and_true, if_true, if_false, LiK.k hK, LiK.k1 hK, LiK.n1 hK, LiK.k2 hK, LiK.n2 hK, LiK.k3 hK, LiK.n3 hK, LiK.k4 hK, LiK.n4 hK, LiK.k5 hK, LiK.n5 hK, LiK.k6 hK, LiK.n6 hK, LiF.f4 hF, LiF.f5 hF, LiF.f6 hF, LiF.f7 hF, LiF.f8 hF, LiF.f9 hF, this]
    exact Ev_in (.inr (.inr (.inl ⟨(by first | omega | (dsimp only; omega) | (dsimp only)), (by first | omega | (dsimp only; omega) | (dsimp only))⟩))) (by dsimp only; omega)
  · subst a b; rw [if_neg (by decide)]
    have := bits 2 (by decide) (by decide)
    simp (disch := omega) only [w32_eq, w64_eq, chk_T, chk_t, lt, lm, ob, Int.add_zero, Int.zero_add, true_and, and_true, if_true, if_false, LiK.k hK, LiK.k1 hK, LiK.n1 hK, LiK.k2 hK, LiK.n2 hK, LiK.k3 hK, LiK.n3 hK, LiK.k4 hK, LiK.n4 hK, LiK.k5 hK, LiK.n5 hK, LiK.k6 hK, LiK.n6 hK, LiF.f4 hF, LiF.f5 hF, LiF.f6 hF, LiF.f7 hF, LiF.f8 hF, LiF.f9 hF, this]
    exact Ev_in (.inr (.inr (.inr ⟨(by first | omega | (dsimp only; omega) | (dsimp only)), (by first | omega | (dsimp only; omega) | (dsimp only))⟩))) (by dsimp only; omega)
  · rw [if_pos (by omega)]; exact Ev_out b
