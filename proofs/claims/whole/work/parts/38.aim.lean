/-! ===== the class aims from a place ===== -/
theorem inj_le : ∀ (m n : Nat) (f : Int → Int), (∀ i : Int, 0 ≤ i → i < n → 0 ≤ f i ∧ f i < m) → (∀ i j : Int, 0 ≤ i → i < j → j < n → f i ≠ f j) → n ≤ m
  | 0, n, f, h1, _ => by
    apply Classical.byContradiction; intro q
    have := h1 0 (by omega) (by omega); omega
  | m + 1, n, f, h1, h2 => by
    by_cases hn : n = 0
    · omega
    by_cases q : ∃ a : Int, 0 ≤ a ∧ a < n ∧ f a = m
    · obtain ⟨a, a0, a1, ea⟩ := q
      have ne : ∀ i : Int, 0 ≤ i → i < n → i ≠ a → f i < m := by
        intro i i0 i1 hi
        have := h1 i i0 i1
        have : f i ≠ f a := by
          rcases Int.lt_trichotomy i a with z | z | z
          · exact h2 i a i0 z a1
          · exact absurd z hi
          · exact fun e => h2 a i a0 z i1 e.symm
        omega
      have := inj_le m (n - 1) (fun i => if i = a then f ((n : Int) - 1) else f i) (fun i i0 i1 => by
        split
        · exact ⟨(h1 _ (by omega) (by omega)).1, ne _ (by omega) (by omega) (by omega)⟩
        · exact ⟨(h1 _ i0 (by omega)).1, ne _ i0 (by omega) (by omega)⟩) (fun i j i0 ij j1 => by
        split
        · rw [if_neg (by omega)]; exact fun e => h2 j ((n : Int) - 1) (by omega) (by omega) (by omega) e.symm
        · split
          · exact h2 i ((n : Int) - 1) i0 (by omega) (by omega)
          · exact h2 i j i0 ij (by omega))
      omega
    · have := inj_le m n f (fun i i0 i1 => by
        have := h1 i i0 i1
        have : f i ≠ m := fun e => q ⟨i, i0, i1, e⟩
        omega) h2
      omega
theorem ct_flat {c : Int → Prop} {v : Int → Int} {a : Nat} : ∀ b : Nat, a ≤ b → (∀ i : Int, a ≤ i → i < b → ¬c i) → ct c b = ct c a ∧ fa c v b = fa c v a
  | 0, h, _ => by have : a = 0 := by omega
                  subst this; exact ⟨rfl, rfl⟩
  | b + 1, h, hn => by
    by_cases q : a = b + 1
    · subst q; exact ⟨rfl, rfl⟩
    · have ih := ct_flat (c := c) (v := v) b (by omega) (fun i i0 i1 => hn i i0 (by omega))
      have nb := hn b (by omega) (by omega)
      constructor
      · show ct c b + bi (c b) = _; rw [bi_f nb, ih.1, Int.add_zero]
      · show sel (c b) _ _ = _; rw [sel_f nb, ih.2]
theorem c_fill {a v : Int} {μ : Mm} (hk : KD a = 12) (hn : 0 ≤ LN a ∧ LN a < 1000000) : Ev (fJ7_fill_53178 a v μ) (fun μ' => Fw (fun x => x = a) μ μ' ∧ (∀ i, 0 ≤ i → i < LN a → μ' a i = v) ∧ ∀ i, i < 0 ∨ LN a ≤ i → μ' a i = μ a i) := by
  unfold fJ7_fill_53178
  simp (disch := omega) only [w32_eq, w64_eq, chk_T, chk_t, lt, lm, ob, Int.add_zero, Int.zero_add, true_and, and_true, if_true, if_false, hk]
  refine Ev_bind (Ev_lop (P := fun μ' => Fw (fun x => x = a) μ μ' ∧ (∀ i, 0 ≤ i → i < LN a → μ' a i = v) ∧ ∀ i, i < 0 ∨ LN a ≤ i → μ' a i = μ a i) (fun s => (0 ≤ s.1 ∧ s.1 ≤ LN a) ∧ Fw (fun x => x = a) μ s.2 ∧ (∀ i, 0 ≤ i → i < s.1 → s.2 a i = v) ∧ ∀ i, i < 0 ∨ s.1 ≤ i → s.2 a i = μ a i) (fun s => (LN a - s.1).toNat) ⟨by dsimp only; omega, Fw.rf, fun i a b => by dsimp only at b; omega, fun _ _ => rfl⟩ (by unfold FU; dsimp only; omega) ?_) (fun r h => Ev_some h)
  rintro ⟨v2, μ1⟩ ⟨h1, h2, h3, h4⟩
  dsimp only at h1 h2 h3 h4 ⊢
  unfold sJ7_fill_53178_5
  dsimp only
  refine Ev_ite (fun q => Ev_out ⟨h2, fun i a b => h3 i a (by omega), fun i hi => h4 i (by omega)⟩) (fun q => ?_)
  simp (disch := omega) only [w32_eq, w64_eq, chk_T, chk_t, lt, lm, ob, Int.add_zero, Int.zero_add, true_and, and_true, if_true, if_false, hk]
  refine Ev_in ⟨by dsimp only; omega, h2.st rfl, fun i a b => ?_, fun i hi => ?_⟩ (by dsimp only; omega)
  · dsimp only at b ⊢
    by_cases z : i = v2
    · subst z; exact mst_s
    · rw [mst_j z]; exact h3 i a (by omega)
  · dsimp only at hi ⊢
    rw [mst_j (by omega)]; exact h4 i (by omega)
theorem c_fillL {a v : Int} {μ : Mm} (hk : KD a = 13) (hn : 0 ≤ LN a ∧ LN a < 1000000) : Ev (fJ7_fill_d0a16 a v μ) (fun μ' => Fw (fun x => x = a) μ μ' ∧ (∀ i, 0 ≤ i → i < LN a → μ' a i = v) ∧ ∀ i, i < 0 ∨ LN a ≤ i → μ' a i = μ a i) := by
  unfold fJ7_fill_d0a16
  simp (disch := omega) only [w32_eq, w64_eq, chk_T, chk_t, lt, lm, ob, Int.add_zero, Int.zero_add, true_and, and_true, if_true, if_false, hk]
  refine Ev_bind (Ev_lop (P := fun μ' => Fw (fun x => x = a) μ μ' ∧ (∀ i, 0 ≤ i → i < LN a → μ' a i = v) ∧ ∀ i, i < 0 ∨ LN a ≤ i → μ' a i = μ a i) (fun s => (0 ≤ s.1 ∧ s.1 ≤ LN a) ∧ Fw (fun x => x = a) μ s.2 ∧ (∀ i, 0 ≤ i → i < s.1 → s.2 a i = v) ∧ ∀ i, i < 0 ∨ s.1 ≤ i → s.2 a i = μ a i) (fun s => (LN a - s.1).toNat) ⟨by dsimp only; omega, Fw.rf, fun i a b => by dsimp only at b; omega, fun _ _ => rfl⟩ (by unfold FU; dsimp only; omega) ?_) (fun r h => Ev_some h)
  rintro ⟨v2, μ1⟩ ⟨h1, h2, h3, h4⟩
  dsimp only at h1 h2 h3 h4 ⊢
  unfold sJ7_fill_d0a16_6
  dsimp only
  refine Ev_ite (fun q => Ev_out ⟨h2, fun i a b => h3 i a (by omega), fun i hi => h4 i (by omega)⟩) (fun q => ?_)
  simp (disch := omega) only [w32_eq, w64_eq, chk_T, chk_t, lt, lm, ob, Int.add_zero, Int.zero_add, true_and, and_true, if_true, if_false, hk]
  refine Ev_in ⟨by dsimp only; omega, h2.st rfl, fun i a b => ?_, fun i hi => ?_⟩ (by dsimp only; omega)
  · dsimp only at b ⊢
    by_cases z : i = v2
    · subst z; exact mst_s
    · rw [mst_j z]; exact h3 i a (by omega)
  · dsimp only at hi ⊢
    rw [mst_j (by omega)]; exact h4 i (by omega)
/-- slot e: place e % 11 + 1 of ray e / 11 -/
def oC (g : Int → Int) (p e : Int) : Prop := iR g p (e / 11) (e % 11 + 1)
def oP (g : Int → Int) (p e : Int) : Int := rP g p (e / 11) (e % 11 + 1)
def oD (e : Int) : Int := (e % 11 + 1) * (e % 11 + 1) * dU (e / 11)
theorem oP_inj {g : Int → Int} {p e f : Int} (hL : LdOk g) (hp : Pl g p) (he : 0 ≤ e ∧ e < 3696) (hf : 0 ≤ f ∧ f < 3696) (ce : oC g p e) (cf : oC g p f) (h : oP g p e = oP g p f) : e = f := by
  have a := rP_u (g := g) (p := p) (k := e / 11) (t := e % 11 + 1) (by omega) (by omega) ce.1 hL hp
  have b := rP_u (g := g) (p := p) (k := f / 11) (t := f % 11 + 1) (by omega) (by omega) cf.1 hL hp
  unfold oP at h
  rw [h, b.1, b.2] at a
  omega
theorem oC_143 {g : Int → Int} {p : Int} (hL : LdOk g) (hp : Pl g p) {n : Nat} (hn : n ≤ 3696) : ct (oC g p) n ≤ 143 := by
  have cb := ct_b (oC g p) n
  have np := np_b hL
  have key := inj_le 144 ((ct (oC g p) n).toNat + 1) (fun j => if j = ct (oC g p) n then p else (fa (oC g p) (oP g p) n).2 j) (fun i i0 i1 => by
    split
    · exact Pl.i hL hp
    · obtain ⟨e, e0, e1, ec, _, ev⟩ := fa_of (oC g p) (oP g p) n i i0 (by omega)
      rw [ev]; exact Pl.i hL (rP_P ec.1)) (fun i j i0 ij j1 => by
    rw [if_neg (by omega)]
    obtain ⟨e, e0, e1, ec, ei, ev⟩ := fa_of (oC g p) (oP g p) n i i0 (by omega)
    rw [ev]
    split
    · exact rP_ne (by omega) (by omega) ec.1
    · obtain ⟨f, f0, f1, fc, fi, fv⟩ := fa_of (oC g p) (oP g p) n j (by omega) (by omega)
      rw [fv]; intro z
      have := oP_inj hL hp (by omega) (by omega) ec fc z
      subst this; omega)
  omega
/-- what of the sight never changes -/
def SiF (μ : Mm) : Prop := (μ 230 0 = 231 ∧ μ 230 1 = 234 ∧ μ 230 2 = 235 ∧ μ 230 3 = 236 ∧ μ 230 4 = 237) ∧ (μ 231 0 = 232 ∧ μ 231 1 = 233) ∧ ∀ k, 0 ≤ k → k < 336 → μ 232 k = dE k ∧ μ 233 k = dS k
theorem SiF.f0 {μ : Mm} (h : SiF μ) : μ 230 0 = 231 := h.1.1
theorem SiF.f1 {μ : Mm} (h : SiF μ) : μ 230 1 = 234 := h.1.2.1
theorem SiF.f2 {μ : Mm} (h : SiF μ) : μ 230 2 = 235 := h.1.2.2.1
theorem SiF.f3 {μ : Mm} (h : SiF μ) : μ 230 3 = 236 := h.1.2.2.2.1
theorem SiF.f4 {μ : Mm} (h : SiF μ) : μ 230 4 = 237 := h.1.2.2.2.2
theorem SiF.g0 {μ : Mm} (h : SiF μ) : μ 231 0 = 232 := h.2.1.1
theorem SiF.g1 {μ : Mm} (h : SiF μ) : μ 231 1 = 233 := h.2.1.2
theorem SiF.e {μ : Mm} (h : SiF μ) {k : Int} (h0 : 0 ≤ k) (h1 : k < 336) : μ 232 k = dE k := (h.2.2 k h0 h1).1
theorem SiF.s {μ : Mm} (h : SiF μ) {k : Int} (h0 : 0 ≤ k) (h1 : k < 336) : μ 233 k = dS k := (h.2.2 k h0 h1).2
theorem SiF.fw {R : Int → Prop} {μ μ' : Mm} (h : SiF μ) (f : Fw R μ μ') (h0 : ∀ x, 230 ≤ x → x ≤ 233 → ¬R x) : SiF μ' := by
  unfold SiF; rw [f 230 (h0 _ (by decide) (by decide)), f 231 (h0 _ (by decide) (by decide)), f 232 (h0 _ (by decide) (by decide)), f 233 (h0 _ (by decide) (by decide))]; exact h
theorem SiF.st {μ : Mm} {a i v : Int} (h : SiF μ) (h0 : a = 230 ∧ 5 ≤ i ∨ 234 ≤ a ∨ a < 230) : SiF (mst μ a i v) := by
  unfold SiF
  rw [mst_n (b := 231) (by omega), mst_n (b := 232) (by omega), mst_n (b := 233) (by omega)]
  refine ⟨?_, h.2⟩
  by_cases q : a = 230
  · subst q
    rw [mst_j (by omega), mst_j (by omega), mst_j (by omega), mst_j (by omega), mst_j (by omega)]; exact h.1
  · rw [mst_n (b := 230) (by omega)]; exact h.1
def sR0 (x : Int) : Prop := x = 230 ∨ 234 ≤ x ∧ x ≤ 237
/-- the first n slots are put in order -/
def SiP (μ : Mm) (g : Int → Int) (p : Int) (n : Nat) : Prop := μ 230 5 = p ∧ μ 230 7 = ct (oC g p) n ∧ (∀ j, 0 ≤ j → j < ct (oC g p) n → μ 235 j = (fa (oC g p) (oP g p) n).2 j ∧ μ 236 j = (fa (oC g p) oD n).2 j) ∧ (∀ e : Int, 0 ≤ e → e < n → oC g p e → μ 234 (oP g p e) = ct (cT g p) (e / 11).toNat) ∧ ∀ q, 0 ≤ q → q < 144 → (∀ e : Int, 0 ≤ e → e < n → oC g p e → oP g p e ≠ q) → μ 234 q = -1
/-- and the first k rays are counted -/
def SiB (μ : Mm) (g : Int → Int) (p k : Int) : Prop := μ 230 6 = ct (cT g p) k.toNat ∧ ∀ i : Int, 0 ≤ i → i ≤ k → μ 237 (ct (cT g p) i.toNat) = ct (oC g p) (11 * i).toNat
theorem c_followRay {μ : Mm} {c p k : Int} {g : Int → Int} (hA : La μ c g) (hc : c + 5 < 230 ∨ 237 < c) (hF : SiF μ) (hL : LdOk g) (hp : Pl g p) (hk : 0 ≤ k ∧ k < 336) (hP : SiP μ g p (11 * k).toNat) (hB : SiB μ g p k) (h90 : ct (cT g p) k.toNat < 90) : Ev (fX5_followRay 230 c (cX g p) (cY g p) (dE k) (dS k) μ) (fun μ' => Fw sR0 μ μ' ∧ SiF μ' ∧ SiP μ' g p (11 * (k + 1)).toNat ∧ SiB μ' g p (k + 1)) := by
  have db := d_b hk.1 hk.2; have ub := dU_b hk.1 hk.2
  have s1 := sq_le db.1.1 db.1.2; have s2 := sq_le db.2.1.1 db.2.1.2; have s3 := sq_nn (dE k); have s4 := sq_nn (dS k)
  have w := hL.w; have d := hL.d; have hz := hL.h
  have bx := cX_b hL p; have bY := cY_b hL hp
  have cb := ct_b (cT g p) k.toNat
  unfold fX5_followRay
  have eU : dE k * dE k + dS k * dS k = dU k := rfl
  simp (disch := omega) only [w32_eq, w64_eq, chk_T, chk_t, lt, lm, ob, Int.add_zero, Int.zero_add, true_and, and_true, if_true, if_false, eU]
  have fin : ∀ μ1, Fw sR0 μ μ1 → SiF μ1 → SiP μ1 g p (11 * (k + 1)).toNat → μ1 230 6 = μ 230 6 → μ1 237 = μ 237 → Ev (jX5_followRay_113 230 μ1) (fun μ' => Fw sR0 μ μ' ∧ SiF μ' ∧ SiP μ' g p (11 * (k + 1)).toNat ∧ SiB μ' g p (k + 1)) := by
    intro μ1 f1 F1 P1 e1 e2
    have r1 : μ1 230 6 = ct (cT g p) k.toNat := e1.trans hB.1
    have r2 : μ1 237 (ct (cT g p) k.toNat) = ct (oC g p) (11 * k).toNat := by rw [e2]; exact hB.2 k hk.1 (by omega)
    have mono := ct_mono (oC g p) (11 * k).toNat (11 * (k + 1)).toNat (by omega)
    unfold jX5_followRay_113
    have p1 := P1.2.1
    simp (disch := omega) only [w32_eq, w64_eq, chk_T, chk_t, lt, lm, ob, Int.add_zero, Int.zero_add, true_and, and_true, if_true, if_false, K100, K101, K102, K103, K104, K200, K201, K230, K231, K232, K233, K234, K235, K236, K237, K250, K251, K252, K253, K254, K300, K301, K302, K303, K304, N101, N102, N103, N104, N201, N232, N233, N234, N235, N236, N237, N251, N252, N253, N254, N301, N302, N303, N304, SiF.f0 F1, SiF.f1 F1, SiF.f2 F1, SiF.f3 F1, SiF.f4 F1, SiF.g0 F1, SiF.g1 F1, SiF.e F1, SiF.s F1, r1, r2, p1]
    have es := ct_s (P := cT g p) hk.1
    by_cases hct : cT g p k
    · have h1 : oC g p (11 * k) := by unfold oC; rw [show 11 * k / 11 = k by omega, show 11 * k % 11 + 1 = 1 by omega]; exact hct
      have lt := ct_lt (c := oC g p) (i := 11 * k) (j := 11 * (k + 1)) (by omega) (by omega) h1
      rw [if_neg (by omega), if_neg (by omega)]
      rw [bi_t hct] at es
      simp (disch := omega) only [w32_eq, w64_eq, chk_T, chk_t, lt, lm, ob, Int.add_zero, Int.zero_add, true_and, and_true, if_true, if_false, K100, K101, K102, K103, K104, K200, K201, K230, K231, K232, K233, K234, K235, K236, K237, K250, K251, K252, K253, K254, K300, K301, K302, K303, K304, N101, N102, N103, N104, N201, N232, N233, N234, N235, N236, N237, N251, N252, N253, N254, N301, N302, N303, N304, SiF.f0 F1, SiF.f1 F1, SiF.f2 F1, SiF.f3 F1, SiF.f4 F1, SiF.g0 F1, SiF.g1 F1, SiF.e F1, SiF.s F1, r1, p1, mst_s, mst_j]
      refine Ev_some ⟨(f1.st (.inl rfl)).st (.inr (by omega)), (F1.st (by omega)).st (by omega), ?_, ?_, fun i i0 i1 => ?_⟩
      · obtain ⟨q1, q2, q3, q4, q5⟩ := P1
        unfold SiP
        simp only [mst_n (show (234:Int) ≠ 237 by decide), mst_n (show (230:Int) ≠ 237 by decide), mst_n (show (235:Int) ≠ 237 by decide), mst_n (show (236:Int) ≠ 237 by decide), mst_n (show (234:Int) ≠ 230 by decide), mst_n (show (235:Int) ≠ 230 by decide), mst_n (show (236:Int) ≠ 230 by decide), mst_j (show (5:Int) ≠ 6 by decide), mst_j (show (7:Int) ≠ 6 by decide)]
        exact ⟨q1, q2, q3, q4, q5⟩
      · rw [mst_n (by decide), mst_s, es]
      · by_cases z : i = k + 1
        · subst z; rw [es, mst_s]
        · have := ct_mono (cT g p) i.toNat k.toNat (by omega)
          rw [mst_j (by omega), mst_n (by decide), e2]; exact hB.2 i i0 (by omega)
    · rw [bi_f hct, Int.add_zero] at es
      have flat := (ct_flat (c := oC g p) (v := fun k => k) (a := (11 * k).toNat) (11 * (k + 1)).toNat (by omega) (fun i i0 i1 z => hct (by
        have : i / 11 = k := by omega
        unfold oC at z; rw [this] at z
        exact iR_mono hL hp hk z (by omega) (by omega)))).1
      rw [if_pos (by omega)]
      refine Ev_some ⟨f1, F1, P1, by rw [r1, es], fun i i0 i1 => ?_⟩
      by_cases z : i = k + 1
      · subst z; rw [es, r2, flat]
      · rw [e2]; exact hB.2 i i0 (by omega)
  refine Ev_bind (Ev_lop (P := fun x => ∃ μ1, (x = .inl μ1 ∨ x = .inr μ1) ∧ Fw sR0 μ μ1 ∧ SiF μ1 ∧ SiP μ1 g p (11 * (k + 1)).toNat ∧ μ1 230 6 = μ 230 6 ∧ μ1 237 = μ 237) (fun s => (1 ≤ s.1 ∧ s.1 ≤ 12) ∧ Fw sR0 μ s.2 ∧ SiF s.2 ∧ SiP s.2 g p (11 * k + s.1 - 1).toNat ∧ s.2 230 6 = μ 230 6 ∧ s.2 237 = μ 237) (fun s => (12 - s.1).toNat) ⟨by dsimp only; omega, Fw.rf, hF, ?_, rfl, rfl⟩ (by unfold FU; dsimp only; omega) ?_) ?_
  · dsimp only; rw [show 11 * k + 1 - 1 = 11 * k by omega]; exact hP
  · rintro ⟨v7, μ1⟩ ⟨h1, f1, F1, P1, er, e2⟩
    dsimp only at h1 f1 F1 P1 er e2 ⊢
    have A1 : La μ1 c g := hA.fw f1 (fun x a b => by unfold sR0; omega)
    unfold sX5_followRay_16
    dsimp only
    have stop : (v7 = 12 ∨ ¬iR g p k v7) → SiP μ1 g p (11 * (k + 1)).toNat := by
      intro hs
      have flat := fun v => ct_flat (c := oC g p) (v := v) (a := (11 * k + v7 - 1).toNat) (11 * (k + 1)).toNat (by omega) (fun i i0 i1 z => by
        rcases hs with hs | hs
        · omega
        · apply hs
          have e : i / 11 = k := by omega
          unfold oC at z; rw [e] at z
          exact iR_mono hL hp hk z (by omega) (by omega))
      obtain ⟨q1, q2, q3, q4, q5⟩ := P1
      refine ⟨q1, by rw [(flat oD).1]; exact q2, ?_, ?_, ?_⟩
      · rw [(flat (oP g p)).1, (flat (oP g p)).2, (flat oD).2]; exact q3
      · intro e e0 e1 ec
        by_cases z : e < (11 * k + v7 - 1).toNat
        · exact q4 e e0 z ec
        · exfalso
          rcases hs with hs | hs
          · omega
          · apply hs
            have ee : e / 11 = k := by omega
            unfold oC at ec; rw [ee] at ec
            exact iR_mono hL hp hk ec (by omega) (by omega)
      · intro q q0 q1 hq; exact q5 q q0 q1 (fun e e0 e1 ec => hq e e0 (by omega) ec)
    have m1 := mul_ab (x := dE k) (y := v7) (a := 11) (b := 12) db.1.1 db.1.2 (by omega) h1.2
    have m2 := mul_ab (x := dS k) (y := v7) (a := 11) (b := 12) db.2.1.1 db.2.1.2 (by omega) h1.2
    rw [Int.mul_comm (dE k) v7] at m1; rw [Int.mul_comm (dS k) v7] at m2
    have m3 := mul_le_of (x := v7) (y := v7) (a := 12) (b := 12) (by omega) h1.2 (by omega) h1.2
    have m4 := mul_nn (x := v7) (y := v7) (by omega) (by omega)
    have m5 := mul_le_of (x := v7 * v7) (y := dU k) (a := 144) (b := 242) m4 m3 (by omega) ub.2
    have m6 := mul_nn (x := v7 * v7) (y := dU k) m4 (by omega)
    have ex : cX g p + v7 * dE k = iX g p k v7 := rfl
    have ey : cY g p + v7 * dS k = iY g p k v7 := rfl
    refine Ev_ite (fun q => Ev_out ⟨μ1, .inl rfl, f1, F1, stop (.inl (by omega)), er, e2⟩) (fun q => ?_)
    simp (disch := omega) only [w32_eq, w64_eq, chk_T, chk_t, lt, lm, ob, Int.add_zero, Int.zero_add, true_and, and_true, if_true, if_false, K100, K101, K102, K103, K104, K200, K201, K230, K231, K232, K233, K234, K235, K236, K237, K250, K251, K252, K253, K254, K300, K301, K302, K303, K304, N101, N102, N103, N104, N201, N232, N233, N234, N235, N236, N237, N251, N252, N253, N254, N301, N302, N303, N304, La_k A1, La_k1 A1, La_n1 A1, La_k2 A1, La_n2 A1, La_k3 A1, La_n3 A1, La_k4 A1, La_n4 A1, La_k5 A1, La_n5 A1, La_f6 A1, La_f7 A1, La_f8 A1, La_f9 A1, La_f10 A1, La_0 A1, La_1 A1, La_2 A1, La_3 A1, La_4 A1, La_5 A1, La_h A1, La_a A1, La_t A1, La_fr A1, La_to A1, ex, ey]
    have out : ¬iL g p k v7 → Ev (some (Sum.inr (Sum.inl μ1)) : Option ((Int × Mm) ⊕ (Mm ⊕ Mm))) (Nx (fun s => (1 ≤ s.1 ∧ s.1 ≤ 12) ∧ Fw sR0 μ s.2 ∧ SiF s.2 ∧ SiP s.2 g p (11 * k + s.1 - 1).toNat ∧ s.2 230 6 = μ 230 6 ∧ s.2 237 = μ 237) (fun s => (12 - s.1).toNat) (fun x => ∃ μ1, (x = .inl μ1 ∨ x = .inr μ1) ∧ Fw sR0 μ μ1 ∧ SiF μ1 ∧ SiP μ1 g p (11 * (k + 1)).toNat ∧ μ1 230 6 = μ 230 6 ∧ μ1 237 = μ 237) (12 - v7).toNat) := fun hn => Ev_out ⟨μ1, .inl rfl, f1, F1, stop (.inr (fun z => hn z.1)), er, e2⟩
    refine Ev_ite (fun q1 => out (fun z => by have := z.1; omega)) (fun q1 => Ev_ite (fun q2 => out (fun z => by have := z.1; omega)) (fun q2 => Ev_ite (fun q3 => out (fun z => by have := z.2; omega)) (fun q3 => Ev_ite (fun q4 => out (fun z => by have := z.2; omega)) (fun q4 => Ev_ite (fun q5 => ?_) (fun q5 => Ev_out ⟨μ1, .inr rfl, f1, F1, stop (.inr (fun z => q5 z.2)), er, e2⟩)))))
    have hi : iL g p k v7 := ⟨by omega, by omega⟩
    have hr : iR g p k v7 := ⟨hi, q5⟩
    have hPl := rP_P hi
    have hb := Pl.i hL hPl
    have n1 := mul_le_of (x := iY g p k v7) (y := g 0) (a := 11) (b := 12) (by omega) (by omega) (by omega) w.2
    have n2 := mul_nn (x := iY g p k v7) (y := g 0) (by omega) (by omega)
    have eP : iY g p k v7 * g 0 + iX g p k v7 = rP g p k v7 := rfl
    have c143 := oC_143 hL hp (n := (11 * (k + 1)).toNat) (by omega)
    have ee : (11 * k + v7 - 1) / 11 = k := by omega
    have et : (11 * k + v7 - 1) % 11 + 1 = v7 := by omega
    have oc : oC g p (11 * k + v7 - 1) := by unfold oC; rw [ee, et]; exact hr
    have op : oP g p (11 * k + v7 - 1) = rP g p k v7 := by unfold oP; rw [ee, et]
    have od : oD (11 * k + v7 - 1) = v7 * v7 * dU k := by unfold oD; rw [ee, et]
    have lt143 := ct_lt (c := oC g p) (i := 11 * k + v7 - 1) (j := 11 * (k + 1)) (by omega) (by omega) oc
    have cb1 := ct_b (oC g p) (11 * k + v7 - 1).toNat
    obtain ⟨q1, q2, q3, q4, q5'⟩ := P1
    unfold fX5_addPlace
    simp (disch := omega) only [w32_eq, w64_eq, chk_T, chk_t, lt, lm, ob, Int.add_zero, Int.zero_add, true_and, and_true, if_true, if_false, K100, K101, K102, K103, K104, K200, K201, K230, K231, K232, K233, K234, K235, K236, K237, K250, K251, K252, K253, K254, K300, K301, K302, K303, K304, N101, N102, N103, N104, N201, N232, N233, N234, N235, N236, N237, N251, N252, N253, N254, N301, N302, N303, N304, eP, SiF.f0 F1, SiF.f1 F1, SiF.f2 F1, SiF.f3 F1, SiF.f4 F1, SiF.g0 F1, SiF.g1 F1, SiF.e F1, SiF.s F1, q2, if_neg]
    simp (disch := omega) only [w32_eq, w64_eq, chk_T, chk_t, lt, lm, ob, Int.add_zero, Int.zero_add, true_and, and_true, if_true, if_false, K100, K101, K102, K103, K104, K200, K201, K230, K231, K232, K233, K234, K235, K236, K237, K250, K251, K252, K253, K254, K300, K301, K302, K303, K304, N101, N102, N103, N104, N201, N232, N233, N234, N235, N236, N237, N251, N252, N253, N254, N301, N302, N303, N304, SiF.f0 F1, SiF.f1 F1, SiF.f2 F1, SiF.f3 F1, SiF.f4 F1, SiF.g0 F1, SiF.g1 F1, SiF.e F1, SiF.s F1, q2, mst_n, mst_s, mst_j]
    have es := ct_s (P := oC g p) (i := 11 * k + v7 - 1) (by omega)
    rw [bi_t oc] at es
    have en : 11 * k + (v7 + 1) - 1 = 11 * k + v7 - 1 + 1 := by omega
    refine Ev_in ⟨by dsimp only; omega, ?_, ?_, ?_, ?_, ?_⟩ (by dsimp only; omega)
    · dsimp only
      refine (((f1.st ?_).st ?_).st ?_).st ?_ <;> (unfold sR0; omega)
    · dsimp only
      exact (((F1.st (by omega)).st (by omega)).st (by omega)).st (by omega)
    · dsimp only
      rw [en]
      refine ⟨?_, ?_, fun j j0 j1 => ?_, fun e e0 e1 ec => ?_, fun q q0 q1 hq => ?_⟩
      · rw [mst_j (by decide), mst_n (by decide), mst_n (by decide), mst_n (by decide)]; exact q1
      · rw [mst_s, es]
      · rw [fa_s (by omega), fa_s (by omega), sel_t oc, sel_t oc]
        unfold psh; dsimp only
        rw [fa_n, fa_n, op, od]
        by_cases z : j = ct (oC g p) (11 * k + v7 - 1).toNat
        · rw [if_pos z, if_pos z, z]; simp (disch := omega) only [mst_n, mst_s, mst_j, ]; exact ⟨trivial, trivial⟩
        · rw [if_neg z, if_neg z]; simp (disch := omega) only [mst_n, mst_s, mst_j, ]; exact q3 j j0 (by omega)
      · rw [mst_n (by decide)]
        by_cases z : e = 11 * k + v7 - 1
        · rw [z, op, mst_s, ee]
          exact er.trans hB.1
        · have hne : oP g p e ≠ rP g p k v7 := by
            intro y; rw [← op] at y; exact z (oP_inj hL hp (by omega) (by omega) ec oc y)
          rw [mst_j hne, mst_n (by decide), mst_n (by decide)]; exact q4 e e0 (by omega) ec
      · rw [mst_n (by decide)]
        have hne : q ≠ rP g p k v7 := by
          intro y; exact hq (11 * k + v7 - 1) (by omega) (by omega) oc (by rw [op, y])
        rw [mst_j hne, mst_n (by decide), mst_n (by decide)]
        exact q5' q q0 q1 (fun e e0 e1 ec => hq e e0 (by omega) ec)
    · dsimp only
      rw [mst_j (by decide), mst_n (by decide), mst_n (by decide), mst_n (by decide)]; exact er
    · dsimp only
      rw [mst_n (by decide), mst_n (by decide), mst_n (by decide), mst_n (by decide)]; exact e2
  · rintro r ⟨μ1, hx, f1, F1, P1, e1, e2⟩
    rcases hx with hx | hx <;> (subst hx; exact fin μ1 f1 F1 P1 e1 e2)
/-- the sight is aimed from p -/
def Si (μ : Mm) (g : Int → Int) (p : Int) : Prop := SiP μ g p 3696 ∧ SiB μ g p 336
theorem c_aim {μ : Mm} {c p : Int} {g : Int → Int} (hA : La μ c g) (hc : c + 5 < 230 ∨ 237 < c) (hF : SiF μ) (hL : LdOk g) (hp : Pl g p) : Ev (fX5_aim 230 c p μ) (fun μ' => Fw sR0 μ μ' ∧ SiF μ' ∧ Si μ' g p) := by
  have w := hL.w; have b := Pl.i hL hp
  unfold fX5_aim
  simp (disch := omega) only [w32_eq, w64_eq, chk_T, chk_t, lt, lm, ob, Int.add_zero, Int.zero_add, true_and, and_true, if_true, if_false, K100, K101, K102, K103, K104, K200, K201, K230, K231, K232, K233, K234, K235, K236, K237, K250, K251, K252, K253, K254, K300, K301, K302, K303, K304, N101, N102, N103, N104, N201, N232, N233, N234, N235, N236, N237, N251, N252, N253, N254, N301, N302, N303, N304, SiF.f0 hF, SiF.f1 hF, SiF.f2 hF, SiF.f3 hF, SiF.f4 hF, SiF.g0 hF, SiF.g1 hF, SiF.e hF, SiF.s hF, mst_s, mst_j]
  have f0 : Fw sR0 μ (mst (mst (mst (mst μ 230 5 p) 230 6 0) 230 7 0) 237 0 0) := ((((Fw.s0 (.inl rfl)).st (.inl rfl)).st (.inl rfl)).st (.inr (by decide)))
  have F0 : SiF (mst (mst (mst (mst μ 230 5 p) 230 6 0) 230 7 0) 237 0 0) := (((hF.st (by omega)).st (by omega)).st (by omega)).st (by omega)
  have v0 : (mst (mst (mst (mst μ 230 5 p) 230 6 0) 230 7 0) 237 0 0) 230 5 = p ∧ (mst (mst (mst (mst μ 230 5 p) 230 6 0) 230 7 0) 237 0 0) 230 6 = 0 ∧ (mst (mst (mst (mst μ 230 5 p) 230 6 0) 230 7 0) 237 0 0) 230 7 = 0 ∧ (mst (mst (mst (mst μ 230 5 p) 230 6 0) 230 7 0) 237 0 0) 237 0 = 0 := by
    simp [mst]
  generalize mst (mst (mst (mst μ 230 5 p) 230 6 0) 230 7 0) 237 0 0 = μ0 at *
  rw [F0.f1]
  refine Ev_bind (c_fill (a := 234) (by decide) (by rw [N234]; decide)) (fun μ1 ⟨f1, a1, _⟩ => ?_)
  have f1' : Fw sR0 μ μ1 := f0.tr (f1.mo (fun x hx => by unfold sR0; omega))
  have A1 : La μ1 c g := hA.fw f1' (fun x a b => by unfold sR0; omega)
  have F1 : SiF μ1 := F0.fw f1 (fun x a b => by omega)
  have e1 : μ1 230 = μ0 230 := f1 230 (by decide)
  have e2 : μ1 237 = μ0 237 := f1 237 (by decide)
  rw [N234] at a1
  simp (disch := omega) only [w32_eq, w64_eq, chk_T, chk_t, lt, lm, ob, Int.add_zero, Int.zero_add, true_and, and_true, if_true, if_false, K100, K101, K102, K103, K104, K200, K201, K230, K231, K232, K233, K234, K235, K236, K237, K250, K251, K252, K253, K254, K300, K301, K302, K303, K304, N101, N102, N103, N104, N201, N232, N233, N234, N235, N236, N237, N251, N252, N253, N254, N301, N302, N303, N304, La_k A1, La_k1 A1, La_n1 A1, La_k2 A1, La_n2 A1, La_k3 A1, La_n3 A1, La_k4 A1, La_n4 A1, La_k5 A1, La_n5 A1, La_f6 A1, La_f7 A1, La_f8 A1, La_f9 A1, La_f10 A1, La_0 A1, La_1 A1, La_2 A1, La_3 A1, La_4 A1, La_5 A1, La_h A1, La_a A1, La_t A1, La_fr A1, La_to A1, c_column A1 hL hp.1, c_row A1 hL hp]
  have ct0 : ∀ c : Int → Prop, ct c 0 = 0 := fun _ => rfl
  refine Ev_bind (Ev_lop (P := fun μ' => Fw sR0 μ μ' ∧ SiF μ' ∧ Si μ' g p) (fun s => (0 ≤ s.1 ∧ s.1 ≤ 336) ∧ Fw sR0 μ s.2 ∧ SiF s.2 ∧ SiP s.2 g p (11 * s.1).toNat ∧ SiB s.2 g p s.1) (fun s => (336 - s.1).toNat) ⟨by dsimp only; omega, f1', F1, ?_, ?_⟩ (by unfold FU; dsimp only; omega) ?_) (fun r h => Ev_some h)
  · refine ⟨by dsimp only; rw [e1]; exact v0.1, by dsimp only; rw [e1]; exact v0.2.2.1, fun j j0 j1 => ?_, fun e e0 e1 => ?_, fun q q0 q1 _ => a1 q q0 q1⟩
    · exfalso; dsimp only at j1; rw [show (11 * 0 : Int).toNat = 0 by decide, ct0] at j1; omega
    · exfalso; dsimp only at e1; omega
  · refine ⟨by dsimp only; rw [e1]; exact v0.2.1, fun i i0 i1 => ?_⟩
    have : i = 0 := by dsimp only at i1; omega
    subst this; dsimp only; rw [e2]; exact v0.2.2.2
  · rintro ⟨v5, μ2⟩ ⟨h1, f2, F2, P2, B2⟩
    dsimp only at h1 f2 F2 P2 B2 ⊢
    have A2 : La μ2 c g := hA.fw f2 (fun x a b => by unfold sR0; omega)
    have nb := nR_b hL hp
    unfold sX5_aim_46
    dsimp only
    refine Ev_ite (fun q => Ev_out ⟨f2, F2, ?_⟩) (fun q => ?_)
    · have : v5 = 336 := by omega
      subst this; exact ⟨P2, B2⟩
    · have b1 := B2.1
      simp (disch := omega) only [w32_eq, w64_eq, chk_T, chk_t, lt, lm, ob, Int.add_zero, Int.zero_add, true_and, and_true, if_true, if_false, K100, K101, K102, K103, K104, K200, K201, K230, K231, K232, K233, K234, K235, K236, K237, K250, K251, K252, K253, K254, K300, K301, K302, K303, K304, N101, N102, N103, N104, N201, N232, N233, N234, N235, N236, N237, N251, N252, N253, N254, N301, N302, N303, N304, SiF.f0 F2, SiF.f1 F2, SiF.f2 F2, SiF.f3 F2, SiF.f4 F2, SiF.g0 F2, SiF.g1 F2, SiF.e F2, SiF.s F2, b1]
      refine Ev_ite (fun q2 => Ev_out ⟨f2, F2, ?_⟩) (fun q2 => ?_)
      · -- all rays are found: no more
        have m1 := ct_mono (cT g p) v5.toNat 336 (by omega)
        have nR' : ct (cT g p) 336 ≤ 90 := nb.2
        have none : ∀ i : Int, v5 ≤ i → i < 336 → ¬cT g p i := by
          intro i i0 i1 hi
          have a := ct_lt (c := cT g p) (i := i) (j := 336) (by omega) i1 hi
          have b := ct_mono (cT g p) v5.toNat i.toNat (by omega)
          rw [show (336 : Int).toNat = 336 by decide] at a
          omega
        have noC : ∀ e : Int, 11 * v5 ≤ e → e < 3696 → ¬oC g p e := by
          intro e e0 e1 he
          exact none (e / 11) (by omega) (by omega) (iR_mono hL hp (by omega) he (by omega) (by omega))
        have flat := fun (v : Int → Int) (m : Nat) (h0 : (11 * v5).toNat ≤ m) (hm : m ≤ 3696) => ct_flat (c := oC g p) (v := v) (a := (11 * v5).toNat) m h0 (fun i i0 i1 => noC i (by omega) (by omega))
        have flatT := fun (m : Nat) (h0 : v5.toNat ≤ m) (hm : m ≤ 336) => (ct_flat (c := cT g p) (v := fun k => k) (a := v5.toNat) m h0 (fun i i0 i1 => none i (by omega) (by omega))).1
        obtain ⟨q1, q2, q3, q4, q5⟩ := P2
        refine ⟨⟨q1, by rw [(flat oD 3696 (by omega) (by omega)).1]; exact q2, ?_, ?_, ?_⟩, ?_, ?_⟩
        · rw [(flat (oP g p) 3696 (by omega) (by omega)).1, (flat (oP g p) 3696 (by omega) (by omega)).2, (flat oD 3696 (by omega) (by omega)).2]; exact q3
        · intro e e0 e1 ec
          by_cases z : e < 11 * v5
          · exact q4 e e0 (by omega) ec
          · exact absurd ec (noC e (by omega) (by omega))
        · intro q q0 q1 hq; exact q5 q q0 q1 (fun e e0 e1 ec => hq e e0 (by omega) ec)
        · rw [b1, show (336 : Int).toNat = 336 by decide, flatT 336 (by omega) (by omega)]
        · intro i i0 i1
          by_cases z : i ≤ v5
          · exact B2.2 i i0 z
          · rw [flatT i.toNat (by omega) (by omega), (flat oD (11 * i).toNat (by omega) (by omega)).1]
            exact B2.2 v5 h1.1 (Int.le_refl _)
      · refine Ev_bind (c_followRay A2 hc F2 hL hp (k := v5) (by omega) P2 B2 (by omega)) (fun μ3 ⟨f3, F3, P3, B3⟩ => ?_)
        exact Ev_in ⟨by dsimp only; omega, f2.tr f3, F3, P3, B3⟩ (by dsimp only; omega)
