/-! ===== the reference looks around ===== -/
theorem isIn_0 {v a b : Int} : isIn v a b = 0 ↔ ¬(a ≤ v ∧ v ≤ b) := by
  unfold isIn; split <;> simp_all
theorem isIn_t {v a b : Int} (h0 : a ≤ v) (h1 : v ≤ b) : isIn v a b = 1 := by unfold isIn; rw [if_pos ⟨h0, h1⟩]
theorem isIn_f {v a b : Int} (h : ¬(a ≤ v ∧ v ≤ b)) : isIn v a b = 0 := by unfold isIn; rw [if_neg h]
/-- loops with a count of what is left -/
def Nxi {σ ρ : Type} (I : Nat → σ → Prop) (P : ρ → Prop) (k : Nat) : σ ⊕ ρ → Prop
  | .inl s => ∃ j, j < k ∧ I j s
  | .inr r => P r
theorem Ev_lopI {σ ρ : Type} {step : σ → Option (σ ⊕ ρ)} {s : σ} {P : ρ → Prop} (I : Nat → σ → Prop) (n : Nat) (hI : I n s) (hn : n < FU) (hs : ∀ n s, I n s → Ev (step s) (Nxi I P n)) : Ev (lop step FU s) P := by
  have : ∀ (f n : Nat) (s : σ), I n s → n < f → Ev (lop step f s) P := by
    intro f
    induction f with
    | zero => intro n s _ h; exact absurd h (Nat.not_lt_zero _)
    | succ f ih =>
      intro n s h h2
      unfold lop
      obtain ⟨t, e, ht⟩ := hs n s h
      rw [e]
      cases t with
      | inr r => exact ⟨r, rfl, ht⟩
      | inl s' =>
        obtain ⟨j, hj, h3⟩ := ht
        exact ih j s' h3 (by omega)
  exact this FU n s hI hn
theorem Ev_ini {σ ρ : Type} {I : Nat → σ → Prop} {P : ρ → Prop} {k : Nat} {s : σ} (j : Nat) (h : I j s) (h2 : j < k) : Ev (some (Sum.inl s : σ ⊕ ρ)) (Nxi I P k) := ⟨_, rfl, j, h2, h⟩
theorem Ev_outi {σ ρ : Type} {I : Nat → σ → Prop} {P : ρ → Prop} {k : Nat} {r : ρ} (h : P r) : Ev (some (Sum.inr r : σ ⊕ ρ)) (Nxi I P k) := ⟨_, rfl, h⟩
/-- loops that write: what they leave is known by their frames -/
theorem Ev_lopF {σ ρ : Type} {step : σ → Option (σ ⊕ ρ)} {pj : σ ⊕ ρ → Mm} {R L : List Int} (fr : ∀ s t, step s = some t → Md (pj (.inl s)) → Fr R L (pj (.inl s)) (pj t)) (hL : L.all (fun j => !([0, 1, 3, 4, 13, 15, 16, 17, 19, 21, 22, 23, 25, 27, 28, 30, 31, 32, 33] : List Int).contains j) = true) {s : σ} {P : ρ → Prop} (hM : Md (pj (.inl s))) (I : σ → Prop) (m : σ → Nat) (hI : I s) (hm : m s < FU) (hs : ∀ s', Md (pj (.inl s')) → Fr R L (pj (.inl s)) (pj (.inl s')) → I s' → Ev (step s') (Nx I m (fun r => Fr R L (pj (.inl s)) (pj (.inr r)) → P r) (m s'))) : Ev (lop step FU s) P := by
  refine Ev_lop (fun s' => Md (pj (.inl s')) ∧ Fr R L (pj (.inl s)) (pj (.inl s')) ∧ I s') m ⟨hM, Fr.rf, hI⟩ hm ?_
  intro s' ⟨h1, h2, h3⟩
  obtain ⟨t, e, ht⟩ := hs s' h1 h2 h3
  have f := fr s' t e h1
  refine ⟨t, e, ?_⟩
  cases t with
  | inl s2 => exact ⟨⟨f.md h1 hL, h2.tr f, ht.1⟩, ht.2⟩
  | inr r => exact ht (h2.tr f)
theorem G.fr {μ μ' : Mm} {R L : List Int} {l : Int} {g : Int → Int} (hG : G μ l g) (h : Fr R L μ μ') (hR : 20001 ∉ R) : G μ' l g := by
  refine ⟨hG.1, fun i h0 h1 => ?_⟩
  rw [h.1 20001 (by decide) hR]; exact hG.2 i h0 h1
/-- the reference's directions -/
def Dt (μ : Mm) : Prop := μ 20000 2 = 336 ∧ ∀ k, 0 ≤ k → k < 336 → μ 20003 k = dE k ∧ μ 20004 k = dS k
theorem Dt.e {μ : Mm} (h : Dt μ) {k : Int} (h0 : 0 ≤ k) (h1 : k < 336) : μ 20003 k = dE k := (h.2 k h0 h1).1
theorem Dt.s {μ : Mm} (h : Dt μ) {k : Int} (h0 : 0 ≤ k) (h1 : k < 336) : μ 20004 k = dS k := (h.2 k h0 h1).2
theorem Dt.fr {μ μ' : Mm} {R L : List Int} (hD : Dt μ) (h : Fr R L μ μ') (h1 : 20003 ∉ R) (h2 : 20004 ∉ R) (h3 : 2 ∉ L) : Dt μ' := by
  refine ⟨(h.2 2 h3).trans hD.1, fun k a b => ?_⟩
  rw [h.1 20003 (by decide) h1, h.1 20004 (by decide) h2]; exact hD.2 k a b
theorem gcd_st {x y : Int} (hx : 0 ≤ x) (hy : 0 < y) : Int.gcd y (x % y) = Int.gcd x y := by
  obtain ⟨a, rfl⟩ := Int.eq_ofNat_of_zero_le hx
  obtain ⟨b, rfl⟩ := Int.eq_ofNat_of_zero_le (Int.le_of_lt hy)
  rw [← Int.natCast_emod]
  show Nat.gcd b (a % b) = Nat.gcd a b
  rw [Nat.gcd_comm b (a % b), ← Nat.gcd_rec, Nat.gcd_comm]
theorem r_common {a b : Int} (ha : -10000000 < a ∧ a < 10000000) (hb : -10000000 < b ∧ b < 10000000) : fX11_common a b = some (Int.gcd a b : Int) := by
  have key : ∀ x y : Int, 0 ≤ x → 0 ≤ y → y < 10000000 → jX11_common_26 x y = some (Int.gcd x y : Int) := by
    intro x y hx hy hy2
    apply Ev.eq
    unfold jX11_common_26
    refine Ev_bind (Ev_lop (P := fun r => r = (Int.gcd x y : Int)) (fun s => 0 ≤ s.1 ∧ 0 ≤ s.2 ∧ Int.gcd s.1 s.2 = Int.gcd x y) (fun s => s.2.toNat) ⟨hx, hy, rfl⟩ (by show y.toNat < FU; unfold FU; omega) ?_) (fun r h => Ev_some h)
    rintro ⟨v4, v6⟩ ⟨h1, h2, h4⟩
    dsimp only at h1 h2 h4 ⊢
    unfold sX11_common_28
    dsimp only
    by_cases q : v6 = 0
    · rw [if_pos q]; apply Ev_out; subst q; rw [← h4, Int.gcd_zero_right]; omega
    · rw [if_neg q, chk_t q, tmod_nn h1]
      have m0 := Int.emod_nonneg v4 q; have m1 := Int.emod_lt_of_pos v4 (show 0 < v6 by omega)
      exact Ev_in ⟨h2, m0, by rw [gcd_st h1 (by omega)]; exact h4⟩ (by dsimp only; omega)
  unfold fX11_common
  have k2 : ∀ x, 0 ≤ x → Int.gcd x b = Int.gcd a b → jX11_common_12 b x = some (Int.gcd a b : Int) := by
    intro x hx e
    unfold jX11_common_12
    split
    · rw [key x b hx (by omega) (by omega), e]
    · rw [w64_eq (by omega) (by omega), key x (-b) hx (by omega) (by omega), Int.gcd_neg, e]
  split
  · exact k2 a (by omega) rfl
  · rw [w64_eq (by omega) (by omega)]; exact k2 (-a) (by omega) (by rw [Int.neg_gcd])
theorem r_isEarlier {ax ay bx dy : Int} (h1 : -1000 ≤ ax ∧ ax ≤ 1000) (h2 : -1000 ≤ ay ∧ ay ≤ 1000) (h3 : -1000 ≤ bx ∧ bx ≤ 1000) (h4 : -1000 ≤ dy ∧ dy ≤ 1000) : fX11_isEarlier ax ay bx dy = some (bi (erl ax ay bx dy = true)) := by
  have m1 : -1000000 ≤ ax * dy ∧ ax * dy ≤ 1000000 := by
    rcases Int.le_total 0 dy with q | q
    · exact mul_ab (a := 1000) (b := 1000) h1.1 h1.2 q h4.2
    · have := mul_ab (a := 1000) (b := 1000) (y := -dy) h1.1 h1.2 (by omega) (by omega); rw [Int.mul_neg] at this; omega
  have m2 : -1000000 ≤ ay * bx ∧ ay * bx ≤ 1000000 := by
    rcases Int.le_total 0 bx with q | q
    · exact mul_ab (a := 1000) (b := 1000) h2.1 h2.2 q h3.2
    · have := mul_ab (a := 1000) (b := 1000) (y := -bx) h2.1 h2.2 (by omega) (by omega); rw [Int.mul_neg] at this; omega
  unfold fX11_isEarlier jX11_isEarlier_12 jX11_isEarlier_16 jX11_isEarlier_17 jX11_isEarlier_31 jX11_isEarlier_35 jX11_isEarlier_36
  have e : ∀ c : Bool, bi (c = true) = if c then 1 else 0 := by intro c; cases c <;> simp [bi]
  rw [e]
  unfold erl
  rw [w32_eq (x := ax * dy) (by omega) (by omega), w32_eq (x := ay * bx) (by omega) (by omega), w32_eq (x := ax * dy - ay * bx) (by omega) (by omega)]
  generalize ax * dy - ay * bx = z
  by_cases a1 : 0 < ax <;> by_cases a2 : ax = 0 <;> by_cases a3 : ay < 0 <;> by_cases b1 : 0 < bx <;> by_cases b2 : bx = 0 <;> by_cases b3 : dy < 0 <;> by_cases z1 : 0 < z <;> first | omega | (simp [a1, a2, a3, b1, b2, b3, z1, chk, Int.not_le.mpr, Int.not_lt.mp]; try omega)
theorem rP_lin {g : Int → Int} {p k s : Int} : rP g p k s = p + (dE k + dS k * g 0) * s := by
  have := at_c (g := g) p
  unfold at0 at this
  unfold rP at0 iX iY
  rw [Int.add_mul, Int.add_mul]
  rw [show s * dS k * g 0 = dS k * g 0 * s by simp only [Int.mul_assoc, Int.mul_left_comm, Int.mul_comm], Int.mul_comm s (dE k)]
  omega
theorem r_isSeen_l {μ : Mm} {l p q : Int} {g : Int → Int} (hM : Md μ) (hG : G μ l g) (hL : LdOk g) (hp : Pl g p) (hq : Pl g q) (hn : p ≠ q) (hz : zF g p q ≤ g 4) : Ev (lop (sX11_isSeen_56 20000 l p q (zE g p q) (zS g p q) (rT g p q) μ) FU (1, 1)) (fun r => r = bi (zSeen g p q)) := by
  obtain ⟨hk, ht, hi, e⟩ := rK_ok hL hp hq hn
  have hl := hG.1; have b1 := Pl.i hL hp; have b2 := Pl.i hL hq; have w := hL.w
  have hE := zE_b hL p q; have hS := zS_b hL hp hq
  have hF := rP_F hi; have h11 := iL_11 hL hp hk (Int.le_of_lt ht) hi
  have hEe := rP_E hi; have hSe := rP_S hi
  have zs : zSeen g p q ↔ ∀ s, 0 < s → s < rT g p q → zT g p (rP g p (rK g p q) s) q < 0 := by
    unfold zSeen sR; rw [e]
    exact ⟨fun h => h.2, fun h => ⟨⟨hi, by rw [e] at hF; omega⟩, h⟩⟩
  rw [e] at hEe hSe
  have db := d_b hk.1 hk.2
  have hdiv : (zE g p q + zS g p q * g 0).tdiv (rT g p q) = dE (rK g p q) + dS (rK g p q) * g 0 := by
    rw [hEe, hSe, Int.mul_assoc, ← Int.mul_add, Int.mul_tdiv_cancel_left _ (by omega)]
  clear hEe hSe hF
  generalize hk' : rK g p q = k at *
  generalize ht' : rT g p q = t at *
  clear hk' ht'
  have hw1 := mul_ab (x := dS k) (y := g 0) (a := 11) (b := 12) db.2.1.1 db.2.1.2 (by omega) w.2
  have hw2 := mul_ab (x := zS g p q) (y := g 0) (a := 11) (b := 12) hS.1 hS.2 (by omega) w.2
  refine Ev_lop (P := fun r => r = bi (zSeen g p q)) (fun s => 1 ≤ s.2 ∧ s.2 ≤ t ∧ s.1 = bi (∀ u, 0 < u → u < s.2 → zT g p (rP g p k u) q < 0)) (fun s => (t - s.2).toNat) ⟨by dsimp only; omega, by dsimp only; omega, ?_⟩ (by unfold FU; dsimp only; omega) ?_
  · exact (bi_t (fun t h1 h2 => by dsimp only at h2; omega)).symm
  · rintro ⟨v7, v8⟩ ⟨h1, h2, h3⟩
    dsimp only at h1 h2 h3 ⊢
    unfold sX11_isSeen_56
    dsimp only
    refine Ev_ite (fun q1 => Ev_out ?_) (fun q1 => Ev_ite (fun q2 => Ev_out ?_) (fun q2 => ?_))
    · rw [h3]; apply bi_c
      have : v8 = t := by omega
      rw [zs, this]
    · rw [q2] at h3
      have := bi_0.mp h3.symm
      rw [q2, bi_f]; intro h; apply this
      intro s h4 h5; exact (zs.mp h) s h4 (by omega)
    · have hr : iL g p k v8 := iL_mono hL hp hi (by omega) (by omega)
      have hPl := rP_P hr
      have hb := Pl.i hL hPl
      have lin := rP_lin (g := g) (p := p) (k := k) (s := v8)
      have hst := r_steep hM hG hL hp hPl hq
      have bl : -1000 ≤ (dE k + dS k * g 0) * v8 ∧ (dE k + dS k * g 0) * v8 ≤ 1000 := by omega
      simp (disch := omega) only [w32_eq, w64_eq, chk_T, chk_t, lt, lm, ob, Int.add_zero, Int.zero_add, true_and, and_true, if_true, if_false, K20000, K20001, K20002, K20003, K20004, K20005, K20006, K20007, K20008, K20009, K20010, K20011, K20012, K20013, K20014, K20015, K20016, K20017, K20018, K20019, N20001, N20002, N20003, N20004, N20005, N20006, N20007, N20008, N20009, N20010, N20011, N20012, N20013, N20014, N20015, N20016, N20017, N20018, N20019, Md_0 hM, hG.rd, hG.r0, hdiv, ne_eq]
      rw [← lin, hst]
      simp only [Option.bind_some]
      have prev : ∀ u, 0 < u → u < v8 → zT g p (rP g p k u) q < 0 := by
        apply bi_1.mp; rw [← h3]; rcases bi_b (∀ u, 0 < u → u < v8 → zT g p (rP g p k u) q < 0) with z | z <;> omega
      refine Ev_ite (fun q3 => Ev_in ⟨by dsimp only; omega, by dsimp only; omega, ?_⟩ (by dsimp only; omega)) (fun q3 => Ev_in ⟨by dsimp only; omega, by dsimp only; omega, ?_⟩ (by dsimp only; omega))
      · dsimp only; rw [bi_f]; intro h; have := h v8 (by omega) (by omega); omega
      · dsimp only; rw [bi_t]; intro u h4 h5
        by_cases z : u < v8
        · exact prev u h4 z
        · have : u = v8 := by omega
          subst this; omega
theorem r_isSeen {μ : Mm} {l p q : Int} {g : Int → Int} (hM : Md μ) (hG : G μ l g) (hL : LdOk g) (hp : Pl g p) (hq : Pl g q) (hn : p ≠ q) : fX11_isSeen 20000 l p q μ = some (bi (zSeen g p q)) := by
  obtain ⟨hk, ht, hi, e⟩ := rK_ok hL hp hq hn
  have hl := hG.1
  have hE := zE_b hL p q; have hS := zS_b hL hp hq
  have hF := rP_F hi; have h11 := iL_11 hL hp hk (Int.le_of_lt ht) hi
  rw [e] at hF
  apply Ev.eq
  unfold fX11_isSeen
  have hc : fX11_common (zE g p q) (zS g p q) = some (rT g p q) := r_common (a := zE g p q) (b := zS g p q) (by omega) (by omega)
  simp (disch := omega) only [w32_eq, w64_eq, chk_T, chk_t, lt, lm, ob, Int.add_zero, Int.zero_add, true_and, and_true, if_true, if_false, K20000, K20001, K20002, K20003, K20004, K20005, K20006, K20007, K20008, K20009, K20010, K20011, K20012, K20013, K20014, K20015, K20016, K20017, K20018, K20019, N20001, N20002, N20003, N20004, N20005, N20006, N20007, N20008, N20009, N20010, N20011, N20012, N20013, N20014, N20015, N20016, N20017, N20018, N20019, Md_0 hM, r_farOf hM hG hL hp hq, r_eastOf hM hG hL hp hq, r_southOf hM hG hL hp hq, hc, hG.rd]
  refine Ev_ite (fun hz => ?_) (fun hz => ?_)
  · refine Ev_bind (r_isSeen_l hM hG hL hp hq hn hz) (fun r h => ?_)
    have := bi_b (zSeen g p q)
    exact Ev_chk (by omega) (Ev_some h)
  · apply Ev_some
    rw [bi_f]; intro h; unfold zSeen sR iR at h; omega
theorem r_topOf {μ : Mm} {l p k : Int} {g : Int → Int} (hM : Md μ) (hG : G μ l g) (hD : Dt μ) (hL : LdOk g) (hp : Pl g p) (hk : 0 ≤ k ∧ k < 336) : fX11_topOf 20000 l p k μ = some (tp g p k) := by
  have hl := hG.1; have b1 := Pl.i hL hp; have w := hL.w; have d := hL.d
  have bx := cX_b hL p; have bY := cY_b hL hp; have db := d_b hk.1 hk.2
  have ex : p % g 0 = cX g p := rfl
  have ey : p / g 0 = cY g p := rfl
  apply Ev.eq
  unfold fX11_topOf
  simp (disch := omega) only [w32_eq, w64_eq, chk_T, chk_t, lt, lm, ob, Int.add_zero, Int.zero_add, true_and, and_true, if_true, if_false, K20000, K20001, K20002, K20003, K20004, K20005, K20006, K20007, K20008, K20009, K20010, K20011, K20012, K20013, K20014, K20015, K20016, K20017, K20018, K20019, N20001, N20002, N20003, N20004, N20005, N20006, N20007, N20008, N20009, N20010, N20011, N20012, N20013, N20014, N20015, N20016, N20017, N20018, N20019, Md_0 hM, Md_3 hM, Md_4 hM, hG.rd, hG.r0, hD.e, hD.s, tmod_nn, tdiv_nn, ex, ey, ne_eq]
  refine Ev_bind (Ev_lopI (P := fun r => r = tp g p k) (fun m s => ∃ n : Nat, m + n = 12 ∧ (n = 0 ∨ iL g p k n) ∧ s = (iX g p k ((n : Int) + 1), iY g p k ((n : Int) + 1), tN g p k n)) 12 ⟨0, rfl, .inl rfl, ?_⟩ (by unfold FU; omega) ?_) (fun r h => Ev_some h)
  · unfold iX iY tN; simp
  · rintro m ⟨v4, v5, v6⟩ ⟨n, hm, hn, e⟩
    injection e with e1 e; injection e with e2 e3
    have n11 : (n : Int) ≤ 11 := by
      rcases hn with z | z
      · omega
      · exact iL_11 hL hp hk (by omega) z
    have hxn : iX g p k ((n : Int) + 1) = cX g p + n * dE k + dE k := by unfold iX; rw [Int.add_mul, Int.one_mul]; omega
    have hyn : iY g p k ((n : Int) + 1) = cY g p + n * dS k + dS k := by unfold iY; rw [Int.add_mul, Int.one_mul]; omega
    have hin : (0 ≤ cX g p + n * dE k ∧ cX g p + n * dE k < g 0) ∧ (0 ≤ cY g p + n * dS k ∧ cY g p + n * dS k < g 1) := by
      rcases hn with z | z
      · subst z; simp; omega
      · exact z
    unfold sX11_topOf_41
    dsimp only
    have stop : ¬iL g p k ((n : Int) + 1) → v6 = tp g p k := by
      intro z; rw [e3]; exact (tN_stop hL hp hk (fun q => z q.1) 11 (by omega)).symm
    simp (disch := omega) only [w32_eq, w64_eq, chk_T, chk_t, lt, lm, ob, Int.add_zero, Int.zero_add, true_and, and_true, if_true, if_false, K20000, K20001, K20002, K20003, K20004, K20005, K20006, K20007, K20008, K20009, K20010, K20011, K20012, K20013, K20014, K20015, K20016, K20017, K20018, K20019, N20001, N20002, N20003, N20004, N20005, N20006, N20007, N20008, N20009, N20010, N20011, N20012, N20013, N20014, N20015, N20016, N20017, N20018, N20019, Md_0 hM, hG.rd, hG.r0, isIn_0]
    refine Ev_ite (fun q => Ev_outi (stop (fun z => q ?_))) (fun q1 => Ev_ite (fun q => Ev_outi (stop (fun z => q ?_))) (fun q2 => ?_))
    · have := z.1; omega
    · have := z.2; omega
    · have hi : iL g p k ((n : Int) + 1) := by unfold iL; omega
      have hPl := rP_P hi
      have hb := Pl.i hL hPl
      have eq : v5 * g 0 + v4 = rP g p k ((n : Int) + 1) := by rw [e1, e2]; rfl
      have hy := mul_le_of (x := v5) (y := g 0) (a := 11) (b := 12) (by omega) (by omega) (by omega) w.2
      have hy0 := mul_nn (x := v5) (y := g 0) (by omega) (by omega)
      simp (disch := omega) only [w32_eq, w64_eq, chk_T, chk_t, lt, lm, ob, Int.add_zero, Int.zero_add, true_and, and_true, if_true, if_false, K20000, K20001, K20002, K20003, K20004, K20005, K20006, K20007, K20008, K20009, K20010, K20011, K20012, K20013, K20014, K20015, K20016, K20017, K20018, K20019, N20001, N20002, N20003, N20004, N20005, N20006, N20007, N20008, N20009, N20010, N20011, N20012, N20013, N20014, N20015, N20016, N20017, N20018, N20019, Md_0 hM, hG.rd, hG.r0, eq, r_farOf hM hG hL hp hPl]
      have st : ∀ v : Int, v = tN g p k (n + 1) → Ev (jX11_topOf_138 20000 l p k v4 v5 v μ) (Nxi (fun m s => ∃ n : Nat, m + n = 12 ∧ (n = 0 ∨ iL g p k n) ∧ s = (iX g p k ((n : Int) + 1), iY g p k ((n : Int) + 1), tN g p k n)) (fun r => r = tp g p k) m) := by
        intro v hv
        unfold jX11_topOf_138
        simp (disch := omega) only [w32_eq, w64_eq, chk_T, chk_t, lt, lm, ob, Int.add_zero, Int.zero_add, true_and, and_true, if_true, if_false, K20000, K20001, K20002, K20003, K20004, K20005, K20006, K20007, K20008, K20009, K20010, K20011, K20012, K20013, K20014, K20015, K20016, K20017, K20018, K20019, N20001, N20002, N20003, N20004, N20005, N20006, N20007, N20008, N20009, N20010, N20011, N20012, N20013, N20014, N20015, N20016, N20017, N20018, N20019, Md_3 hM, Md_4 hM, hD.e, hD.s]
        refine Ev_ini (m - 1) ⟨n + 1, by omega, .inr (by rw [Int.natCast_add, Int.natCast_one]; exact hi), ?_⟩ (by omega)
        have c1 : v4 + dE k = iX g p k (((n + 1 : Nat) : Int) + 1) := by rw [e1]; unfold iX; rw [Int.natCast_add, Int.natCast_one]; simp only [Int.add_mul, Int.one_mul]; omega
        have c2 : v5 + dS k = iY g p k (((n + 1 : Nat) : Int) + 1) := by rw [e2]; unfold iY; rw [Int.natCast_add, Int.natCast_one]; simp only [Int.add_mul, Int.one_mul]; omega
        rw [c1, c2, hv]
      have hf := rP_F hi
      have tpos := tN_ok hL hp hk n
      refine Ev_ite (fun q3 => st _ ?_) (fun q3 => Ev_ite (fun q4 => ?_) (fun q4 => ?_))
      · rw [e3]; exact (sel_f (fun z => by have := z.1.2; omega)).symm
      · unfold jX11_topOf_134; exact st _ (sel_t ⟨⟨hi, by omega⟩, .inl (by omega)⟩).symm
      · have hv6 : Pl g v6 := by
          rcases tpos with ⟨z, _⟩ | ⟨s, _, _, s3, z, _⟩
          · omega
          · rw [e3, z]; exact rP_P s3.1
        rw [r_steep hM hG hL hp hPl hv6]
        simp only [Option.bind_some]
        refine Ev_ite (fun q5 => st _ ?_) (fun q5 => ?_)
        · rw [e3]; exact (sel_f (fun z => by rw [← e3] at z; rcases z.2 with z | z <;> omega)).symm
        · unfold jX11_topOf_134; exact st _ (sel_t ⟨⟨hi, by omega⟩, .inr (by rw [← e3]; omega)⟩).symm
theorem r_placesOf {μ : Mm} {l : Int} {g : Int → Int} (hM : Md μ) (hG : G μ l g) (hL : LdOk g) : fX11_placesOf 20000 l μ = some (np g) := by
  have hl := hG.1; have b := np_b hL
  unfold np at b
  unfold fX11_placesOf np
  simp (disch := omega) only [w32_eq, w64_eq, chk_T, chk_t, lt, lm, ob, Int.add_zero, Int.zero_add, true_and, and_true, if_true, if_false, K20000, K20001, K20002, K20003, K20004, K20005, K20006, K20007, K20008, K20009, K20010, K20011, K20012, K20013, K20014, K20015, K20016, K20017, K20018, K20019, N20001, N20002, N20003, N20004, N20005, N20006, N20007, N20008, N20009, N20010, N20011, N20012, N20013, N20014, N20015, N20016, N20017, N20018, N20019, Md_0 hM, hG.rd, hG.r0]
theorem fa_s {c : Int → Prop} {v : Int → Int} {i : Int} (h : 0 ≤ i) : fa c v (i + 1).toNat = sel (c i) (psh (fa c v i.toNat) (v i)) (fa c v i.toNat) := by
  have e : (i + 1).toNat = i.toNat + 1 := by omega
  have e2 : ((i.toNat : Nat) : Int) = i := Int.toNat_of_nonneg h
  rw [e]; show sel (c (i.toNat : Nat)) _ _ = _; rw [e2]
theorem r_looks {μ : Mm} {l p : Int} {g : Int → Int} (hM : Md μ) (hG : G μ l g) (hD : Dt μ) (hL : LdOk g) (hp : Pl g p) : Ev (fX11_looks 20000 l p μ) (fun μ' => Fr [20006] [14] μ μ' ∧ μ' 20000 14 = nR g p ∧ ∀ j, 0 ≤ j → j < nR g p → μ' 20006 j = T g p j) := by
  have nb := nR_b hL hp
  suffices h : Ev (fX11_looks 20000 l p μ) (fun μ' => μ' 20000 14 = nR g p ∧ ∀ j, 0 ≤ j → j < nR g p → μ' 20006 j = T g p j) by
    obtain ⟨r, e, h1⟩ := h
    exact ⟨r, e, frfX11_looks e hM, h1⟩
  unfold fX11_looks
  simp (disch := omega) only [w32_eq, w64_eq, chk_T, chk_t, lt, lm, ob, Int.add_zero, Int.zero_add, true_and, and_true, if_true, if_false, K20000, K20001, K20002, K20003, K20004, K20005, K20006, K20007, K20008, K20009, K20010, K20011, K20012, K20013, K20014, K20015, K20016, K20017, K20018, K20019, N20001, N20002, N20003, N20004, N20005, N20006, N20007, N20008, N20009, N20010, N20011, N20012, N20013, N20014, N20015, N20016, N20017, N20018, N20019, ]
  have f0 : Fr [20006] [14] μ (mst μ 20000 14 0) := Fr.fld rfl (by decide)
  have M0 : Md (mst μ 20000 14 0) := f0.md hM (by decide)
  refine Ev_bind (Ev_lopF (pj := pjX11_looks_7) (P := fun μ' => μ' 20000 14 = nR g p ∧ ∀ j, 0 ≤ j → j < nR g p → μ' 20006 j = T g p j) (fun s t h hM => frsX11_looks_7 h hM) (by decide) M0 (fun s => (0 ≤ s.1 ∧ s.1 ≤ 336) ∧ s.2 20000 14 = ct (cT g p) s.1.toNat ∧ ∀ j, 0 ≤ j → j < ct (cT g p) s.1.toNat → s.2 20006 j = (fa (cT g p) (tp g p) s.1.toNat).2 j) (fun s => (336 - s.1).toNat) ⟨by dsimp only; omega, (by dsimp only; rw [mst_s]; rfl), fun j h0 h1 => ?_⟩ (by unfold FU; dsimp only; omega) ?_) (fun r h => Ev_some h)
  · have : ct (cT g p) 0 = 0 := rfl
    simp only [Int.toNat_zero] at h1; omega
  · rintro ⟨v3, μ1⟩ M1 F1 ⟨h1, h2, h3⟩
    replace M1 : Md μ1 := M1
    replace F1 : Fr [20006] [14] μ μ1 := f0.tr F1
    have G1 := hG.fr F1 (by decide)
    have D1 := hD.fr F1 (by decide) (by decide) (by decide)
    dsimp only at h1 h2 h3 ⊢
    have cb := ct_b (cT g p) v3.toNat
    unfold sX11_looks_7
    dsimp only
    simp (disch := omega) only [w32_eq, w64_eq, chk_T, chk_t, lt, lm, ob, Int.add_zero, Int.zero_add, true_and, and_true, if_true, if_false, K20000, K20001, K20002, K20003, K20004, K20005, K20006, K20007, K20008, K20009, K20010, K20011, K20012, K20013, K20014, K20015, K20016, K20017, K20018, K20019, N20001, N20002, N20003, N20004, N20005, N20006, N20007, N20008, N20009, N20010, N20011, N20012, N20013, N20014, N20015, N20016, N20017, N20018, N20019, D1.1]
    refine Ev_ite (fun q => Ev_out (fun _ => ?_)) (fun q => ?_)
    · have e : v3.toNat = 336 := by omega
      rw [e] at h2 h3
      refine ⟨h2, fun j j0 j1 => ?_⟩
      rw [h3 j j0 j1]
      exact fa_map (v := fun k => k) (tp g p) j0 j1
    · have hk : 0 ≤ v3 ∧ v3 < 336 := by omega
      have ok := tp_ok hL hp hk
      rw [r_topOf M1 G1 D1 hL hp hk]
      simp only [Option.bind_some]
      have es := ct_s (P := cT g p) hk.1
      refine Ev_ite (fun q2 => ?_) (fun q2 => ?_)
      · have hc := ok.1.mp q2
        rw [bi_t hc] at es
        simp (disch := omega) only [w32_eq, w64_eq, chk_T, chk_t, lt, lm, ob, Int.add_zero, Int.zero_add, true_and, and_true, if_true, if_false, K20000, K20001, K20002, K20003, K20004, K20005, K20006, K20007, K20008, K20009, K20010, K20011, K20012, K20013, K20014, K20015, K20016, K20017, K20018, K20019, N20001, N20002, N20003, N20004, N20005, N20006, N20007, N20008, N20009, N20010, N20011, N20012, N20013, N20014, N20015, N20016, N20017, N20018, N20019, Md_15 M1, h2, mst_n, mst_s, mst_j]
        refine Ev_in ⟨by dsimp only; omega, ?_, ?_⟩ (by dsimp only; omega)
        · dsimp only; rw [mst_s, es]
        · dsimp only
          intro j j0 j1
          rw [fa_s hk.1, sel_t hc]
          unfold psh; dsimp only
          rw [fa_n, mst_n (by decide)]
          by_cases z : j = ct (cT g p) v3.toNat
          · rw [if_pos z, z, mst_s]
          · rw [if_neg z, mst_j z]; exact h3 j j0 (by omega)
      · have hc : ¬cT g p v3 := fun z => q2 (ok.1.mpr z)
        rw [bi_f hc] at es
        refine Ev_in ⟨by dsimp only; omega, ?_, ?_⟩ (by dsimp only; omega)
        · dsimp only; omega
        · dsimp only
          intro j j0 j1
          rw [fa_s hk.1, sel_f hc]; exact h3 j j0 (by omega)
/-- the reference has surveyed p -/
def Hp (μ : Mm) (g : Int → Int) (p : Int) : Prop := μ 20007 p = hN g p ∧ ∀ j, 0 ≤ j → j < hN g p → μ 20008 (64 * p + j) = hT g p j
theorem r_surveyAt {μ : Mm} {l p : Int} {g : Int → Int} (hM : Md μ) (hG : G μ l g) (hD : Dt μ) (hL : LdOk g) (hp : Pl g p) : Ev (fX11_surveyAt 20000 l p μ) (fun μ' => Fr [20006, 20007, 20008] [14] μ μ' ∧ Hp μ' g p ∧ (∀ x, x ≠ p → μ' 20007 x = μ 20007 x) ∧ ∀ i, i < 64 * p ∨ 64 * p + 64 ≤ i → μ' 20008 i = μ 20008 i) := by
  have nb := nR_b hL hp; have hb := hN_b hL hp; have b1 := Pl.i hL hp
  suffices h : Ev (fX11_surveyAt 20000 l p μ) (fun μ' => Hp μ' g p ∧ (∀ x, x ≠ p → μ' 20007 x = μ 20007 x) ∧ ∀ i, i < 64 * p ∨ 64 * p + 64 ≤ i → μ' 20008 i = μ 20008 i) by
    obtain ⟨r, e, h1⟩ := h
    exact ⟨r, e, frfX11_surveyAt e hM, h1⟩
  unfold fX11_surveyAt
  simp (disch := omega) only [w32_eq, w64_eq, chk_T, chk_t, lt, lm, ob, Int.add_zero, Int.zero_add, true_and, and_true, if_true, if_false, K20000, K20001, K20002, K20003, K20004, K20005, K20006, K20007, K20008, K20009, K20010, K20011, K20012, K20013, K20014, K20015, K20016, K20017, K20018, K20019, N20001, N20002, N20003, N20004, N20005, N20006, N20007, N20008, N20009, N20010, N20011, N20012, N20013, N20014, N20015, N20016, N20017, N20018, N20019, ]
  refine Ev_bind (r_looks hM hG hD hL hp) (fun μ1 ⟨f1, n1, t1⟩ => ?_)
  have M1 := f1.md hM (by decide)
  simp (disch := omega) only [w32_eq, w64_eq, chk_T, chk_t, lt, lm, ob, Int.add_zero, Int.zero_add, true_and, and_true, if_true, if_false, K20000, K20001, K20002, K20003, K20004, K20005, K20006, K20007, K20008, K20009, K20010, K20011, K20012, K20013, K20014, K20015, K20016, K20017, K20018, K20019, N20001, N20002, N20003, N20004, N20005, N20006, N20007, N20008, N20009, N20010, N20011, N20012, N20013, N20014, N20015, N20016, N20017, N20018, N20019, Md_16 M1]
  have f2 : Fr [20007, 20008] [] μ1 (mst μ1 20007 p 0) := Fr.row rfl rfl (by decide) (by decide)
  have M2 := f2.md M1 (by decide)
  refine Ev_bind (Ev_lopF (pj := pjX11_surveyAt_15) (P := fun μ' => Hp μ' g p ∧ (∀ x, x ≠ p → μ' 20007 x = μ 20007 x) ∧ ∀ i, i < 64 * p ∨ 64 * p + 64 ≤ i → μ' 20008 i = μ 20008 i) (fun s t h hM => frsX11_surveyAt_15 h hM) (by decide) M2 (fun s => (0 ≤ s.1 ∧ s.1 ≤ nR g p) ∧ s.2 20007 p = ct (hc g p) s.1.toNat ∧ (∀ j, 0 ≤ j → j < ct (hc g p) s.1.toNat → s.2 20008 (64 * p + j) = (fa (hc g p) (T g p) s.1.toNat).2 j) ∧ (∀ x, x ≠ p → s.2 20007 x = μ 20007 x) ∧ ∀ i, i < 64 * p ∨ 64 * p + 64 ≤ i → s.2 20008 i = μ 20008 i) (fun s => (nR g p - s.1).toNat) ⟨by dsimp only; omega, (by dsimp only; rw [mst_s]; rfl), fun j h0 h1 => ?_, fun x hx => ?_, fun i hi => ?_⟩ (by unfold FU; dsimp only; omega) ?_) (fun r h => Ev_some h)
  · have : ct (hc g p) 0 = 0 := rfl
    simp only [Int.toNat_zero] at h1; omega
  · dsimp only; rw [mst_j hx, f1.1 20007 (by decide) (by decide)]
  · dsimp only; rw [mst_n (by decide), f1.1 20008 (by decide) (by decide)]
  · rintro ⟨v3, μ3⟩ M3 F3 ⟨h1, h2, h3, h4, h5⟩
    replace M3 : Md μ3 := M3
    replace F3 : Fr [20007, 20008] [] μ1 μ3 := f2.tr F3
    have F0 : Fr [20006, 20007, 20008] [14] μ μ3 := Fr.tr (f1.mo (by decide) (by decide)) (F3.mo (by decide) (by decide))
    have G3 := hG.fr F0 (by decide)
    have n3 : μ3 20000 14 = nR g p := (F3.2 14 (by decide)).trans n1
    have t3 : ∀ j, 0 ≤ j → j < nR g p → μ3 20006 j = T g p j := by rw [F3.1 20006 (by decide) (by decide)]; exact t1
    dsimp only at h1 h2 h3 h4 h5 ⊢
    have cb := ct_b (hc g p) v3.toNat
    have hmono := ct_mono (hc g p) v3.toNat (nR g p).toNat (by omega)
    have hmono' : ct (hc g p) v3.toNat ≤ 45 := Int.le_trans hmono hb.2.1
    unfold sX11_surveyAt_15
    dsimp only
    simp (disch := omega) only [w32_eq, w64_eq, chk_T, chk_t, lt, lm, ob, Int.add_zero, Int.zero_add, true_and, and_true, if_true, if_false, K20000, K20001, K20002, K20003, K20004, K20005, K20006, K20007, K20008, K20009, K20010, K20011, K20012, K20013, K20014, K20015, K20016, K20017, K20018, K20019, N20001, N20002, N20003, N20004, N20005, N20006, N20007, N20008, N20009, N20010, N20011, N20012, N20013, N20014, N20015, N20016, N20017, N20018, N20019, n3]
    refine Ev_ite (fun q => Ev_out (fun _ => ?_)) (fun q => Ev_ite (fun q2 => Ev_out (fun _ => ?_)) (fun q2 => ?_))
    · have e : v3.toNat = (nR g p).toNat := by omega
      rw [e] at h2 h3
      refine ⟨⟨h2, fun j j0 j1 => ?_⟩, h4, h5⟩
      have j1' : j < ct (hc g p) (nR g p).toNat := j1
      have h6 := fa_map (c := hc g p) (v := fun k => k) (T g p) (n := (nR g p).toNat) (j := j) j0 j1'
      have h7 := h3 j j0 j1'
      unfold hT hI
      rw [h7, ← h6]
    · have z0 : ∀ n : Nat, ct (hc g p) n = 0 := by
        intro n; have := ct_sub (c := hc g p) (d := fun _ => False) n (fun i _ _ hi => by have := hi.1; omega)
        have z : ∀ n : Nat, ct (fun _ => False) n = 0 := by
          intro n; induction n with
          | zero => rfl
          | succ n ih => unfold ct; rw [ih, bi_f (fun h => h)]; rfl
        rw [z] at this; have := (ct_b (hc g p) n).1; omega
      have e : hN g p = 0 := z0 _
      refine ⟨⟨by rw [h2, z0, e], fun j j0 j1 => by omega⟩, h4, h5⟩
    · have hj : 0 ≤ v3 ∧ v3 < nR g p := by omega
      have T1 := T_P hL hp hj.1 hj.2
      have es := ct_s (P := hc g p) hj.1
      have key : ∀ a b : Int, 0 ≤ a → a < nR g p → 0 ≤ b → b < nR g p → a = pv g p v3 → b = nx g p v3 → Ev (jX11_surveyAt_75 20000 l p v3 (μ3 20006 a) b 20006 μ3) (Nx (fun s => (0 ≤ s.1 ∧ s.1 ≤ nR g p) ∧ s.2 20007 p = ct (hc g p) s.1.toNat ∧ (∀ j, 0 ≤ j → j < ct (hc g p) s.1.toNat → s.2 20008 (64 * p + j) = (fa (hc g p) (T g p) s.1.toNat).2 j) ∧ (∀ x, x ≠ p → s.2 20007 x = μ 20007 x) ∧ ∀ i, i < 64 * p ∨ 64 * p + 64 ≤ i → s.2 20008 i = μ 20008 i) (fun s => (nR g p - s.1).toNat) (fun r => Fr [20007, 20008] [] (pjX11_surveyAt_15 (.inl (0, mst μ1 20007 p 0))) (pjX11_surveyAt_15 (.inr r)) → Hp r g p ∧ (∀ x, x ≠ p → r 20007 x = μ 20007 x) ∧ ∀ i, i < 64 * p ∨ 64 * p + 64 ≤ i → r 20008 i = μ 20008 i) (nR g p - v3).toNat) := by
        intro a b a0 a1 b0 b1 ea eb
        have Ta := T_P hL hp a0 a1; have Tb := T_P hL hp b0 b1
        have skip : ¬hc g p v3 → Ev (some (Sum.inl (v3 + 1, μ3)) : Option ((Int × Mm) ⊕ Mm)) (Nx (fun s => (0 ≤ s.1 ∧ s.1 ≤ nR g p) ∧ s.2 20007 p = ct (hc g p) s.1.toNat ∧ (∀ j, 0 ≤ j → j < ct (hc g p) s.1.toNat → s.2 20008 (64 * p + j) = (fa (hc g p) (T g p) s.1.toNat).2 j) ∧ (∀ x, x ≠ p → s.2 20007 x = μ 20007 x) ∧ ∀ i, i < 64 * p ∨ 64 * p + 64 ≤ i → s.2 20008 i = μ 20008 i) (fun s => (nR g p - s.1).toNat) (fun r => Fr [20007, 20008] [] (pjX11_surveyAt_15 (.inl (0, mst μ1 20007 p 0))) (pjX11_surveyAt_15 (.inr r)) → Hp r g p ∧ (∀ x, x ≠ p → r 20007 x = μ 20007 x) ∧ ∀ i, i < 64 * p ∨ 64 * p + 64 ≤ i → r 20008 i = μ 20008 i) (nR g p - v3).toNat) := by
          intro hn
          rw [bi_f hn] at es
          refine Ev_in ⟨by dsimp only; omega, by dsimp only; omega, fun j j0 j1 => ?_, h4, h5⟩ (by dsimp only; omega)
          dsimp only at j1 ⊢
          rw [fa_s hj.1, sel_f hn]; exact h3 j j0 (by omega)
        unfold jX11_surveyAt_75
        simp (disch := omega) only [w32_eq, w64_eq, chk_T, chk_t, lt, lm, ob, Int.add_zero, Int.zero_add, true_and, and_true, if_true, if_false, K20000, K20001, K20002, K20003, K20004, K20005, K20006, K20007, K20008, K20009, K20010, K20011, K20012, K20013, K20014, K20015, K20016, K20017, K20018, K20019, N20001, N20002, N20003, N20004, N20005, N20006, N20007, N20008, N20009, N20010, N20011, N20012, N20013, N20014, N20015, N20016, N20017, N20018, N20019, Md_15 M3, Md_16 M3, Md_17 M3, t3, r_steep M3 G3 hL hp T1.1 Ta.1, r_steep M3 G3 hL hp T1.1 Tb.1]
        refine Ev_ite (fun q3 => skip ?_) (fun q3 => Ev_ite (fun q4 => ?_) (fun q4 => skip ?_))
        · intro z; have := z.2.1; rw [← ea] at this; omega
        · have hh : hc g p v3 := ⟨by omega, by rw [← ea]; omega, by rw [← eb]; exact q4⟩
          rw [bi_t hh] at es
          simp (disch := omega) only [w32_eq, w64_eq, chk_T, chk_t, lt, lm, ob, Int.add_zero, Int.zero_add, true_and, and_true, if_true, if_false, K20000, K20001, K20002, K20003, K20004, K20005, K20006, K20007, K20008, K20009, K20010, K20011, K20012, K20013, K20014, K20015, K20016, K20017, K20018, K20019, N20001, N20002, N20003, N20004, N20005, N20006, N20007, N20008, N20009, N20010, N20011, N20012, N20013, N20014, N20015, N20016, N20017, N20018, N20019, h2, Md_16 M3, mst_n]
          refine Ev_in ⟨by dsimp only; omega, ?_, fun j j0 j1 => ?_, fun x hx => ?_, fun i hi => ?_⟩ (by dsimp only; omega)
          · dsimp only; rw [mst_s, es]
          · dsimp only at j1 ⊢
            rw [fa_s hj.1, sel_t hh]
            unfold psh; dsimp only
            rw [fa_n, mst_n (by decide)]
            by_cases z : j = ct (hc g p) v3.toNat
            · rw [if_pos z, z, mst_s]
            · rw [if_neg z, mst_j (by omega)]; exact h3 j j0 (by omega)
          · dsimp only; rw [mst_j hx, mst_n (by decide)]; exact h4 x hx
          · dsimp only; rw [mst_n (by decide), mst_j (by omega)]; exact h5 i hi
        · intro z; have := z.2.2; rw [← eb] at this; omega
      have k2 : ∀ a : Int, 0 ≤ a → a < nR g p → a = pv g p v3 → Ev (jX11_surveyAt_51 20000 l p v3 a 20006 μ3) (Nx (fun s => (0 ≤ s.1 ∧ s.1 ≤ nR g p) ∧ s.2 20007 p = ct (hc g p) s.1.toNat ∧ (∀ j, 0 ≤ j → j < ct (hc g p) s.1.toNat → s.2 20008 (64 * p + j) = (fa (hc g p) (T g p) s.1.toNat).2 j) ∧ (∀ x, x ≠ p → s.2 20007 x = μ 20007 x) ∧ ∀ i, i < 64 * p ∨ 64 * p + 64 ≤ i → s.2 20008 i = μ 20008 i) (fun s => (nR g p - s.1).toNat) (fun r => Fr [20007, 20008] [] (pjX11_surveyAt_15 (.inl (0, mst μ1 20007 p 0))) (pjX11_surveyAt_15 (.inr r)) → Hp r g p ∧ (∀ x, x ≠ p → r 20007 x = μ 20007 x) ∧ ∀ i, i < 64 * p ∨ 64 * p + 64 ≤ i → r 20008 i = μ 20008 i) (nR g p - v3).toNat) := by
        intro a a0 a1 ea
        unfold jX11_surveyAt_51
        simp (disch := omega) only [w32_eq, w64_eq, chk_T, chk_t, lt, lm, ob, Int.add_zero, Int.zero_add, true_and, and_true, if_true, if_false, K20000, K20001, K20002, K20003, K20004, K20005, K20006, K20007, K20008, K20009, K20010, K20011, K20012, K20013, K20014, K20015, K20016, K20017, K20018, K20019, N20001, N20002, N20003, N20004, N20005, N20006, N20007, N20008, N20009, N20010, N20011, N20012, N20013, N20014, N20015, N20016, N20017, N20018, N20019, n3, Md_15 M3]
        refine Ev_ite (fun q3 => ?_) (fun q3 => ?_)
        · exact key a 0 a0 a1 (by omega) (by omega) ea (by unfold nx; rw [if_pos q3])
        · exact key a (v3 + 1) a0 a1 (by omega) (by omega) ea (by unfold nx; rw [if_neg q3])
      rw [Md_15 M3]
      refine Ev_ite (fun q3 => ?_) (fun q3 => ?_)
      · exact k2 (nR g p - 1) (by omega) (by omega) (by unfold pv; rw [if_pos q3])
      · exact k2 (v3 - 1) (by omega) (by omega) (by unfold pv; rw [if_neg q3])
theorem r_survey {μ : Mm} {l : Int} {g : Int → Int} (hM : Md μ) (hG : G μ l g) (hD : Dt μ) (hL : LdOk g) : Ev (fX11_survey 20000 l μ) (fun μ' => Fr [20006, 20007, 20008] [14] μ μ' ∧ ∀ p, Pl g p → Hp μ' g p) := by
  have nb := np_b hL
  suffices h : Ev (fX11_survey 20000 l μ) (fun μ' => ∀ p, Pl g p → Hp μ' g p) by
    obtain ⟨r, e, h1⟩ := h
    exact ⟨r, e, frfX11_survey e hM, h1⟩
  unfold fX11_survey
  refine Ev_bind (Ev_lopF (pj := pjX11_survey_2) (P := fun μ' => ∀ p, Pl g p → Hp μ' g p) (fun s t h hM => frsX11_survey_2 h hM) (by decide) hM (fun s => (0 ≤ s.1 ∧ s.1 ≤ np g) ∧ ∀ p, 0 ≤ p → p < s.1 → Hp s.2 g p) (fun s => (np g - s.1).toNat) ⟨by dsimp only; omega, fun p h0 h1 => by dsimp only at h1; omega⟩ (by unfold FU; dsimp only; omega) ?_) (fun r h => Ev_some h)
  rintro ⟨v2, μ1⟩ M1 F1 ⟨h1, h2⟩
  replace M1 : Md μ1 := M1
  replace F1 : Fr [20006, 20007, 20008] [14] μ μ1 := F1
  have G1 := hG.fr F1 (by decide)
  have D1 := hD.fr F1 (by decide) (by decide) (by decide)
  dsimp only at h1 h2 ⊢
  unfold sX11_survey_2
  dsimp only
  simp (disch := omega) only [w32_eq, w64_eq, chk_T, chk_t, lt, lm, ob, Int.add_zero, Int.zero_add, true_and, and_true, if_true, if_false, K20000, K20001, K20002, K20003, K20004, K20005, K20006, K20007, K20008, K20009, K20010, K20011, K20012, K20013, K20014, K20015, K20016, K20017, K20018, K20019, N20001, N20002, N20003, N20004, N20005, N20006, N20007, N20008, N20009, N20010, N20011, N20012, N20013, N20014, N20015, N20016, N20017, N20018, N20019, r_placesOf M1 G1 hL]
  refine Ev_ite (fun q => Ev_out (fun _ => ?_)) (fun q => ?_)
  · intro p hp; exact h2 p hp.1 (by have := hp.2; omega)
  · refine Ev_bind (r_surveyAt M1 G1 D1 hL (p := v2) ⟨h1.1, by omega⟩) (fun μ2 ⟨_, hh, k1, k2⟩ => ?_)
    refine Ev_in ⟨by dsimp only; omega, fun p h0 h3 => ?_⟩ (by dsimp only; omega)
    dsimp only at h3 ⊢
    by_cases z : p = v2
    · subst z; exact hh
    · have hb := hN_b hL (p := p) ⟨h0, by omega⟩
      have := h2 p h0 (by omega)
      exact ⟨(k1 p z).trans this.1, fun j j0 j1 => (k2 _ (by omega)).trans (this.2 j j0 j1)⟩
