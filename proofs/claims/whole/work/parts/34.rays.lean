/-! ===== rays, tops, humps: what they are ===== -/
noncomputable def sel {α : Type} (c : Prop) (x y : α) : α := @ite α c (Classical.propDecidable c) x y
theorem sel_t {α : Type} {c : Prop} {x y : α} (h : c) : sel c x y = x := by unfold sel; rw [if_pos h]
theorem sel_f {α : Type} {c : Prop} {x y : α} (h : ¬c) : sel c x y = y := by unfold sel; rw [if_neg h]
def psh (a : Int × (Int → Int)) (v : Int) : Int × (Int → Int) := (a.1 + 1, fun j => if j = a.1 then v else a.2 j)
/-- the values of those of 0 .. n - 1 that c holds for, in order -/
noncomputable def fa (c : Int → Prop) (v : Int → Int) : Nat → Int × (Int → Int)
  | 0 => (0, fun _ => 0)
  | n + 1 => sel (c n) (psh (fa c v n) (v n)) (fa c v n)
theorem fa_n (c : Int → Prop) (v : Int → Int) : ∀ n : Nat, (fa c v n).1 = ct c n
  | 0 => rfl
  | n + 1 => by
    unfold fa ct
    by_cases h : c n
    · rw [sel_t h, bi_t h]; show (fa c v n).1 + 1 = _; rw [fa_n c v n]
    · rw [sel_f h, bi_f h, fa_n c v n, Int.add_zero]
theorem ct_mono (c : Int → Prop) : ∀ n m : Nat, n ≤ m → ct c n ≤ ct c m
  | n, 0, h => by have : n = 0 := by omega
                  subst this; exact Int.le_refl _
  | n, m + 1, h => by
    by_cases q : n = m + 1
    · subst q; exact Int.le_refl _
    · have := ct_mono c n m (by omega)
      show ct c n ≤ ct c m + bi (c m)
      rcases bi_b (c m) with e | e <;> omega
theorem fa_keep (c : Int → Prop) (v : Int → Int) : ∀ n m : Nat, n ≤ m → ∀ j, j < ct c n → (fa c v m).2 j = (fa c v n).2 j
  | n, 0, h, j, hj => by have : n = 0 := by omega
                         subst this; rfl
  | n, m + 1, h, j, hj => by
    by_cases q : n = m + 1
    · subst q; rfl
    · have e := fa_keep c v n m (by omega) j hj
      have := ct_mono c n m (by omega)
      rw [← e]
      show (sel (c m) (psh (fa c v m) (v m)) (fa c v m)).2 j = _
      by_cases h : c m
      · rw [sel_t h]; unfold psh; dsimp only; rw [fa_n]; rw [if_neg (by omega)]
      · rw [sel_f h]
theorem fa_v {c : Int → Prop} {v : Int → Int} {n i : Nat} (h : i < n) (hc : c i) : (fa c v n).2 (ct c i) = v i := by
  have e : ct c (i + 1) = ct c i + 1 := by show ct c i + bi (c i) = _; rw [bi_t hc]
  rw [fa_keep c v (i + 1) n h (ct c i) (by omega)]
  show (sel (c i) (psh (fa c v i) (v i)) (fa c v i)).2 _ = _
  rw [sel_t hc]; unfold psh; dsimp only; rw [fa_n, if_pos rfl]
theorem fa_vi {c : Int → Prop} {v : Int → Int} {n : Nat} {i : Int} (h0 : 0 ≤ i) (h : i < n) (hc : c i) : (fa c v n).2 (ct c i.toNat) = v i := by
  have e : ((i.toNat : Nat) : Int) = i := Int.toNat_of_nonneg h0
  have := fa_v (c := c) (v := v) (n := n) (i := i.toNat) (by omega) (by rw [e]; exact hc)
  rw [this, e]
/-- each of them is one of them -/
theorem fa_of (c : Int → Prop) (v : Int → Int) : ∀ (n : Nat) (j : Int), 0 ≤ j → j < ct c n → ∃ i : Int, 0 ≤ i ∧ i < n ∧ c i ∧ ct c i.toNat = j ∧ (fa c v n).2 j = v i
  | 0, j, h0, h => by unfold ct at h; omega
  | n + 1, j, h0, h => by
    by_cases q : j < ct c n
    · obtain ⟨i, a, b, d, e, f⟩ := fa_of c v n j h0 q
      exact ⟨i, a, by omega, d, e, by rw [fa_keep c v n (n + 1) (by omega) j q]; exact f⟩
    · by_cases hc : c n
      · have e : ct c (n + 1) = ct c n + 1 := by show ct c n + bi (c n) = _; rw [bi_t hc]
        have e2 : j = ct c n := by omega
        refine ⟨n, by omega, by omega, hc, by rw [Int.toNat_natCast]; exact e2.symm, ?_⟩
        rw [e2]; exact fa_v (by omega) hc
      · have e : ct c (n + 1) = ct c n := by show ct c n + bi (c n) = _; rw [bi_f hc, Int.add_zero]
        omega
theorem fa_c {c d : Int → Prop} {v w : Int → Int} : ∀ n : Nat, (∀ i : Int, 0 ≤ i → i < n → (c i ↔ d i) ∧ v i = w i) → fa c v n = fa d w n
  | 0, _ => rfl
  | n + 1, h => by
    unfold fa
    have e := h n (by omega) (by omega)
    rw [fa_c n (fun i a b => h i a (by omega)), e.2, propext e.1]
/-- going up the count is going up -/
theorem ct_lt {c : Int → Prop} {i j : Int} (h0 : 0 ≤ i) (h : i < j) (hc : c i) : ct c i.toNat < ct c j.toNat := by
  have e := ct_s (P := c) h0
  rw [bi_t hc] at e
  have := ct_mono c (i + 1).toNat j.toNat (by omega)
  omega
theorem ct_inj {c : Int → Prop} {i j : Int} (h0 : 0 ≤ i) (h1 : 0 ≤ j) (hi : c i) (hj : c j) (e : ct c i.toNat = ct c j.toNat) : i = j := by
  rcases Int.lt_trichotomy i j with q | q | q
  · have := ct_lt h0 q hi; omega
  · exact q
  · have := ct_lt h1 q hj; omega
theorem ct_sub {c d : Int → Prop} : ∀ n : Nat, (∀ i : Int, 0 ≤ i → i < n → c i → d i) → ct c n ≤ ct d n
  | 0, _ => Int.le_refl _
  | n + 1, h => by
    have := ct_sub n (fun i a b => h i a (by omega))
    unfold ct
    rcases Classical.em (c n) with q | q
    · rw [bi_t q, bi_t (h n (by omega) (by omega) q)]; omega
    · rw [bi_f q]; rcases bi_b (d n) with e | e <;> omega
def iX (g : Int → Int) (p k t : Int) : Int := cX g p + t * dE k
def iY (g : Int → Int) (p k t : Int) : Int := cY g p + t * dS k
/-- the t-th place of ray k is in the land -/
def iL (g : Int → Int) (p k t : Int) : Prop := (0 ≤ iX g p k t ∧ iX g p k t < g 0) ∧ (0 ≤ iY g p k t ∧ iY g p k t < g 1)
/-- and not in haze -/
def iR (g : Int → Int) (p k t : Int) : Prop := iL g p k t ∧ t * t * dU k ≤ g 4
def rP (g : Int → Int) (p k t : Int) : Int := at0 g (iX g p k t) (iY g p k t)
theorem rP_P {g : Int → Int} {p k t : Int} (h : iL g p k t) : Pl g (rP g p k t) := at_P h.1.1 h.1.2 h.2.1 h.2.2
theorem rP_X {g : Int → Int} {p k t : Int} (h : iL g p k t) : cX g (rP g p k t) = cX g p + t * dE k := at_X h.1.1 h.1.2
theorem rP_Y {g : Int → Int} {p k t : Int} (h : iL g p k t) : cY g (rP g p k t) = cY g p + t * dS k := at_Y h.1.1 h.1.2
theorem rP_E {g : Int → Int} {p k t : Int} (h : iL g p k t) : zE g p (rP g p k t) = t * dE k := by unfold zE; rw [rP_X h]; omega
theorem rP_S {g : Int → Int} {p k t : Int} (h : iL g p k t) : zS g p (rP g p k t) = t * dS k := by unfold zS; rw [rP_Y h]; omega
theorem rP_F {g : Int → Int} {p k t : Int} (h : iL g p k t) : zF g p (rP g p k t) = t * t * dU k := by
  unfold zF dU; rw [rP_E h, rP_S h, Int.mul_add]; simp only [Int.mul_assoc, Int.mul_left_comm, Int.mul_comm]
theorem sc_bt {s t x : Int} (h0 : 0 ≤ s) (h1 : s ≤ t) : (0 ≤ s * x ∧ s * x ≤ t * x) ∨ (t * x ≤ s * x ∧ s * x ≤ 0) := by
  rcases Int.le_total 0 x with h | h
  · exact .inl ⟨Int.mul_nonneg h0 h, Int.mul_le_mul_of_nonneg_right h1 h⟩
  · exact .inr ⟨Int.mul_le_mul_of_nonpos_right h1 h, Int.mul_nonpos_of_nonneg_of_nonpos h0 h⟩
theorem iL_mono {g : Int → Int} {p k s t : Int} (hL : LdOk g) (hp : Pl g p) (h : iL g p k t) (h0 : 0 ≤ s) (h1 : s ≤ t) : iL g p k s := by
  have b1 := cX_b hL p; have b2 := cY_b hL hp
  have c1 := sc_bt (x := dE k) h0 h1; have c2 := sc_bt (x := dS k) h0 h1
  unfold iL iX iY at *
  omega
theorem tt_mono {s t : Int} (h0 : 0 ≤ s) (h1 : s ≤ t) : s * s ≤ t * t := Int.mul_le_mul h1 h1 h0 (by omega)
theorem iR_mono {g : Int → Int} {p k s t : Int} (hL : LdOk g) (hp : Pl g p) (hk : 0 ≤ k ∧ k < 336) (h : iR g p k t) (h0 : 0 ≤ s) (h1 : s ≤ t) : iR g p k s := by
  refine ⟨iL_mono hL hp h.1 h0 h1, ?_⟩
  have := Int.mul_le_mul_of_nonneg_right (tt_mono h0 h1) (Int.le_of_lt (dU_b hk.1 hk.2).1)
  have := h.2; omega
theorem ab_ge {t x : Int} (ht : 0 ≤ t) (hx : x ≠ 0) : t ≤ t * x ∨ t * x ≤ -t := by
  rcases Int.lt_trichotomy x 0 with h | h | h
  · right; have := Int.mul_le_mul_of_nonneg_left (show x ≤ -1 by omega) ht; omega
  · omega
  · left; have := Int.mul_le_mul_of_nonneg_left (show 1 ≤ x by omega) ht; omega
theorem iL_11 {g : Int → Int} {p k t : Int} (hL : LdOk g) (hp : Pl g p) (hk : 0 ≤ k ∧ k < 336) (ht : 0 ≤ t) (h : iL g p k t) : t ≤ 11 := by
  have b1 := cX_b hL p; have b2 := cY_b hL hp; have w := hL.w; have d := hL.d
  unfold iL iX iY at h
  rcases d_n hk.1 hk.2 with q | q
  · have := ab_ge ht q; omega
  · have := ab_ge ht q; omega
theorem rP_n {g : Int → Int} {p k t : Int} (hk : 0 ≤ k ∧ k < 336) (ht : 0 < t) (h : iL g p k t) : 0 < zF g p (rP g p k t) := by
  rw [rP_F h]; exact Int.mul_pos (Int.mul_pos ht ht) (dU_b hk.1 hk.2).1
theorem zF_self {g : Int → Int} {p : Int} : zF g p p = 0 := by unfold zF zE zS; simp
theorem rP_ne {g : Int → Int} {p k t : Int} (hk : 0 ≤ k ∧ k < 336) (ht : 0 < t) (h : iL g p k t) : rP g p k t ≠ p := by
  intro e; have := rP_n hk ht h; rw [e, zF_self] at this; omega
/-- the ray on which q lies, and the how manyth it is there -/
def rK (g : Int → Int) (p q : Int) : Int := dK (zE g p q) (zS g p q)
def rT (g : Int → Int) (p q : Int) : Int := Int.gcd (zE g p q) (zS g p q)
theorem rK_ok {g : Int → Int} {p q : Int} (hL : LdOk g) (hp : Pl g p) (hq : Pl g q) (hn : p ≠ q) : (0 ≤ rK g p q ∧ rK g p q < 336) ∧ 0 < rT g p q ∧ iL g p (rK g p q) (rT g p q) ∧ rP g p (rK g p q) (rT g p q) = q := by
  have h1 := zE_b hL p q; have h2 := zS_b hL hp hq
  have hne : zE g p q ≠ 0 ∨ zS g p q ≠ 0 := by
    apply Classical.byContradiction; intro h
    have := zF_p (g := g) hn
    unfold zF at this
    rw [show zE g p q = 0 by omega, show zS g p q = 0 by omega] at this
    exact absurd this (by decide)
  obtain ⟨hk, e1, e2⟩ := dK_ok h1.1 h1.2 h2.1 h2.2 hne
  have ht : 0 < rT g p q := by
    unfold rT
    have : Int.gcd (zE g p q) (zS g p q) ≠ 0 := by
      intro h; rw [Int.gcd_eq_zero_iff] at h; omega
    omega
  have hx : iX g p (rK g p q) (rT g p q) = cX g q := by
    unfold iX rT rK; rw [← e1]; unfold zE; omega
  have hy : iY g p (rK g p q) (rT g p q) = cY g q := by
    unfold iY rT rK; rw [← e2]; unfold zS; omega
  refine ⟨hk, ht, ?_, ?_⟩
  · have := cX_b hL q; have := cY_b hL hq
    unfold iL; rw [hx, hy]; omega
  · unfold rP; rw [hx, hy]; exact at_c q
theorem gcd_sc {t x y : Int} (ht : 0 < t) (h : Int.gcd x y = 1) : (Int.gcd (t * x) (t * y) : Int) = t := by
  rw [Int.gcd_mul_left, h, Nat.mul_one]; omega
theorem d_inj {i j : Int} (h0 : 0 ≤ i) (h1 : i < 336) (h2 : 0 ≤ j) (h3 : j < 336) (e1 : dE i = dE j) (e2 : dS i = dS j) : i = j := by
  rcases Int.lt_trichotomy i j with q | q | q
  · have := (d_sort h0 q h3).1; rw [e1, e2, erl_rf] at this; cases this
  · exact q
  · have := (d_sort h2 q h1).1; rw [e1, e2, erl_rf] at this; cases this
/-- a place lies on one ray only -/
theorem rP_u {g : Int → Int} {p k t : Int} (hk : 0 ≤ k ∧ k < 336) (ht : 0 < t) (h : iL g p k t) (hL : LdOk g) (hp : Pl g p) : rK g p (rP g p k t) = k ∧ rT g p (rP g p k t) = t := by
  have ht' : rT g p (rP g p k t) = t := by
    unfold rT; rw [rP_E h, rP_S h]; exact gcd_sc ht (d_b hk.1 hk.2).2.2
  refine ⟨?_, ht'⟩
  have hq := rP_P h
  obtain ⟨hk2, ht2, hi2, e2⟩ := rK_ok hL hp hq (fun e => rP_ne hk ht h e.symm)
  have a1 := rP_E h; have a2 := rP_S h
  have b1 := rP_E hi2; have b2 := rP_S hi2
  rw [e2, ht'] at b1 b2
  have c1 : dE k = dE (rK g p (rP g p k t)) := Int.eq_of_mul_eq_mul_left (show t ≠ 0 by omega) (a1.symm.trans b1)
  have c2 : dS k = dS (rK g p (rP g p k t)) := Int.eq_of_mul_eq_mul_left (show t ≠ 0 by omega) (a2.symm.trans b2)
  exact (d_inj hk.1 hk.2 hk2.1 hk2.2 c1 c2).symm
/-- the steepest of the first n places of a ray: the top so far -/
noncomputable def tN (g : Int → Int) (p k : Int) : Nat → Int
  | 0 => -1
  | n + 1 => sel (iR g p k ((n : Int) + 1) ∧ (tN g p k n < 0 ∨ 0 < zT g p (rP g p k ((n : Int) + 1)) (tN g p k n))) (rP g p k ((n : Int) + 1)) (tN g p k n)
theorem zT_self {g : Int → Int} {p q : Int} : zT g p q q = 0 := by unfold zT; omega
theorem tN_ok {g : Int → Int} {p k : Int} (hL : LdOk g) (hp : Pl g p) (hk : 0 ≤ k ∧ k < 336) : ∀ n : Nat, (tN g p k n = -1 ∧ ∀ t : Int, 1 ≤ t → t ≤ n → ¬iR g p k t) ∨ ∃ s : Int, 1 ≤ s ∧ s ≤ n ∧ iR g p k s ∧ tN g p k n = rP g p k s ∧ ∀ t : Int, 1 ≤ t → t ≤ n → iR g p k t → 0 ≤ zT g p (rP g p k s) (rP g p k t) ∧ (t < s → 0 < zT g p (rP g p k s) (rP g p k t))
  | 0 => .inl ⟨rfl, fun t h1 h2 => by omega⟩
  | n + 1 => by
    have ih := tN_ok hL hp hk n
    unfold tN
    by_cases hr : iR g p k ((n : Int) + 1)
    · rcases ih with ⟨e, h⟩ | ⟨s, s1, s2, s3, e, h⟩
      · rw [sel_t ⟨hr, .inl (by omega)⟩]
        refine .inr ⟨(n : Int) + 1, by omega, by omega, hr, rfl, fun t h1 h2 h3 => ?_⟩
        by_cases q : t ≤ n
        · exact absurd h3 (h t h1 q)
        · have : t = (n : Int) + 1 := by omega
          subst this; rw [zT_self]; omega
      · have f1 := rP_n hk (show 0 < (n : Int) + 1 by omega) hr.1
        have f2 := rP_n hk (show 0 < s by omega) s3.1
        have hP := (rP_P s3.1).1
        by_cases q : 0 < zT g p (rP g p k ((n : Int) + 1)) (tN g p k n)
        · rw [sel_t ⟨hr, .inr q⟩]
          refine .inr ⟨(n : Int) + 1, by omega, by omega, hr, rfl, fun t h1 h2 h3 => ?_⟩
          by_cases q2 : t ≤ n
          · have f3 := rP_n hk (show 0 < t by omega) h3.1
            rw [e] at q
            have := zT_tr f1 f2 f3 (by omega) (h t h1 q2 h3).1
            exact ⟨this.1, fun _ => this.2 (.inl q)⟩
          · have : t = (n : Int) + 1 := by omega
            subst this; rw [zT_self]; omega
        · rw [sel_f (fun z => by rcases z.2 with z | z <;> omega)]
          refine .inr ⟨s, s1, by omega, s3, e, fun t h1 h2 h3 => ?_⟩
          by_cases q2 : t ≤ n
          · exact h t h1 q2 h3
          · have : t = (n : Int) + 1 := by omega
            subst this
            rw [e, zT_a] at q; omega
    · rw [sel_f (fun z => hr z.1)]
      rcases ih with ⟨e, h⟩ | ⟨s, s1, s2, s3, e, h⟩
      · refine .inl ⟨e, fun t h1 h2 => ?_⟩
        by_cases q : t ≤ n
        · exact h t h1 q
        · have : t = (n : Int) + 1 := by omega
          subst this; exact hr
      · refine .inr ⟨s, s1, by omega, s3, e, fun t h1 h2 h3 => ?_⟩
        by_cases q : t ≤ n
        · exact h t h1 q h3
        · have : t = (n : Int) + 1 := by omega
          subst this; exact absurd h3 hr
/-- the t-th place of a ray is seen -/
def sR (g : Int → Int) (p k t : Int) : Prop := iR g p k t ∧ ∀ s, 0 < s → s < t → zT g p (rP g p k s) (rP g p k t) < 0
theorem sR_tN {g : Int → Int} {p k : Int} (hL : LdOk g) (hp : Pl g p) (hk : 0 ≤ k ∧ k < 336) {n : Nat} (hr : iR g p k ((n : Int) + 1)) : sR g p k ((n : Int) + 1) ↔ (tN g p k n < 0 ∨ 0 < zT g p (rP g p k ((n : Int) + 1)) (tN g p k n)) := by
  have f1 := rP_n hk (show 0 < (n : Int) + 1 by omega) hr.1
  constructor
  · intro h
    rcases tN_ok hL hp hk n with ⟨e, _⟩ | ⟨s, s1, s2, s3, e, _⟩
    · left; omega
    · right; rw [e, zT_a]; have := h.2 s (by omega) (by omega); omega
  · intro h
    refine ⟨hr, fun t h1 h2 => ?_⟩
    have ht := iR_mono hL hp hk hr (show 0 ≤ t by omega) (by omega)
    rcases tN_ok hL hp hk n with ⟨e, hn⟩ | ⟨s, s1, s2, s3, e, hs⟩
    · exact absurd ht (hn t (by omega) (by omega))
    · have hP := (rP_P s3.1).1
      rw [e] at h
      have := zT_tr f1 (rP_n hk (show 0 < s by omega) s3.1) (rP_n hk h1 ht.1) (by omega) (hs t (by omega) (by omega) ht).1
      rw [zT_a]; have := this.2 (.inl (by omega)); omega
/-- p sees q -/
def zSeen (g : Int → Int) (p q : Int) : Prop := sR g p (rK g p q) (rT g p q)
noncomputable def tp (g : Int → Int) (p k : Int) : Int := tN g p k 11
def cT (g : Int → Int) (p k : Int) : Prop := iR g p k 1
theorem tN_stop {g : Int → Int} {p k : Int} (hL : LdOk g) (hp : Pl g p) (hk : 0 ≤ k ∧ k < 336) {n : Nat} (h : ¬iR g p k ((n : Int) + 1)) : ∀ m : Nat, n ≤ m → tN g p k m = tN g p k n
  | 0, hm => by have : n = 0 := by omega
                subst this; rfl
  | m + 1, hm => by
    by_cases q : n = m + 1
    · subst q; rfl
    · have := tN_stop hL hp hk h m (by omega)
      rw [← this]
      show sel _ _ _ = _
      exact sel_f (fun z => h (iR_mono hL hp hk z.1 (by omega) (by omega)))
theorem tp_ok {g : Int → Int} {p k : Int} (hL : LdOk g) (hp : Pl g p) (hk : 0 ≤ k ∧ k < 336) : (0 ≤ tp g p k ↔ cT g p k) ∧ (cT g p k → ∃ s, 0 < s ∧ iR g p k s ∧ tp g p k = rP g p k s ∧ sR g p k s ∧ ∀ t, s < t → ¬sR g p k t) ∧ -1 ≤ tp g p k := by
  unfold tp
  rcases tN_ok hL hp hk 11 with ⟨e, h⟩ | ⟨s, s1, s2, s3, e, h⟩
  · have := h 1 (by omega) (by omega)
    refine ⟨⟨fun q => by omega, fun q => absurd q this⟩, fun q => absurd q this, by omega⟩
  · have h1 : cT g p k := iR_mono hL hp hk s3 (by omega) s1
    have hP := (rP_P s3.1).1
    refine ⟨⟨fun _ => h1, fun _ => by omega⟩, fun _ => ⟨s, by omega, s3, e, ⟨s3, fun t h1 h2 => ?_⟩, fun t h1 h2 => ?_⟩, by omega⟩
    · have ht := iR_mono hL hp hk s3 (show 0 ≤ t by omega) (by omega)
      rw [zT_a]; have := (h t (by omega) (by omega) ht).2 h2; omega
    · have h3 := h2.2 s (by omega) h1
      have h4 := h t (by omega) (iL_11 hL hp hk (by omega) h2.1.1) h2.1
      omega
/-- how many rays, and their tops in order -/
noncomputable def nR (g : Int → Int) (p : Int) : Int := ct (cT g p) 336
noncomputable def rI (g : Int → Int) (p j : Int) : Int := (fa (cT g p) (fun k => k) 336).2 j
noncomputable def T (g : Int → Int) (p j : Int) : Int := tp g p (rI g p j)
theorem fa_map {c : Int → Prop} {v : Int → Int} (f : Int → Int) {n : Nat} {j : Int} (h0 : 0 ≤ j) (h1 : j < ct c n) : (fa c (fun i => f (v i)) n).2 j = f ((fa c v n).2 j) := by
  obtain ⟨i, a, b, d, e, k⟩ := fa_of c v n j h0 h1
  rw [k, ← e]; exact fa_vi (v := fun i => f (v i)) a b d
theorem rI_ok {g : Int → Int} {p j : Int} (h0 : 0 ≤ j) (h1 : j < nR g p) : (0 ≤ rI g p j ∧ rI g p j < 336) ∧ cT g p (rI g p j) ∧ ct (cT g p) (rI g p j).toNat = j := by
  obtain ⟨i, a, b, d, e, k⟩ := fa_of (cT g p) (fun k => k) 336 j h0 h1
  unfold rI; rw [k]; exact ⟨⟨a, by omega⟩, d, e⟩
theorem rI_of {g : Int → Int} {p k : Int} (h0 : 0 ≤ k) (h1 : k < 336) (h : cT g p k) : rI g p (ct (cT g p) k.toNat) = k ∧ 0 ≤ ct (cT g p) k.toNat ∧ ct (cT g p) k.toNat < nR g p := by
  refine ⟨fa_vi (v := fun k => k) h0 (by omega) h, (ct_b _ _).1, ?_⟩
  have := ct_lt (j := 336) h0 h1 h
  exact this
theorem rI_lt {g : Int → Int} {p i j : Int} (h0 : 0 ≤ i) (h1 : i < j) (h2 : j < nR g p) : rI g p i < rI g p j := by
  have a := rI_ok h0 (Int.lt_trans h1 h2); have b := rI_ok (show 0 ≤ j by omega) h2
  apply Classical.byContradiction; intro q
  have := ct_mono (cT g p) (rI g p j).toNat (rI g p i).toNat (by omega)
  omega
theorem T_ok {g : Int → Int} {p j : Int} (hL : LdOk g) (hp : Pl g p) (h0 : 0 ≤ j) (h1 : j < nR g p) : ∃ s, 0 < s ∧ iR g p (rI g p j) s ∧ T g p j = rP g p (rI g p j) s ∧ sR g p (rI g p j) s ∧ ∀ t, s < t → ¬sR g p (rI g p j) t := by
  have a := rI_ok h0 h1
  exact (tp_ok hL hp a.1).2.1 a.2.1
theorem T_P {g : Int → Int} {p j : Int} (hL : LdOk g) (hp : Pl g p) (h0 : 0 ≤ j) (h1 : j < nR g p) : Pl g (T g p j) ∧ 0 < zF g p (T g p j) ∧ T g p j ≠ p := by
  obtain ⟨s, h, hr, e, _⟩ := T_ok hL hp h0 h1
  have hk := (rI_ok h0 h1).1
  rw [e]; exact ⟨rP_P hr.1, rP_n hk h hr.1, rP_ne hk h hr.1⟩
def cntL (f : Int × Int → Bool) : List (Int × Int) → Nat
  | [] => 0
  | d :: r => (if f d then 1 else 0) + cntL f r
theorem cntL_app (f : Int × Int → Bool) : ∀ (a : List (Int × Int)) (d : Int × Int), cntL f (a ++ [d]) = cntL f a + (if f d then 1 else 0)
  | [], d => by simp [cntL]
  | x :: r, d => by simp [cntL, cntL_app f r d]; omega
theorem ct_cntL {P : Int → Prop} {f : Int × Int → Bool} (l : List (Int × Int)) (h : ∀ i : Nat, (hi : i < l.length) → P i → f l[i] = true) : ∀ n : Nat, n ≤ l.length → ct P n ≤ cntL f (l.take n)
  | 0, _ => by simp [ct, cntL]
  | n + 1, hn => by
    have ih := ct_cntL l h n (by omega)
    have hn' : n < l.length := by omega
    rw [List.take_succ_eq_append_getElem hn', cntL_app]
    unfold ct
    rcases Classical.em (P n) with q | q
    · rw [bi_t q, h n hn' q]; simp; omega
    · rw [bi_f q]; split <;> omega
def inBox (n : Nat) (d : Int × Int) : Bool := decide (-((n / 12 : Nat) : Int) ≤ d.1) && decide (d.1 ≤ 11 - ((n / 12 : Nat) : Int)) && decide (-((n % 12 : Nat) : Int) ≤ d.2) && decide (d.2 ≤ 11 - ((n % 12 : Nat) : Int))
theorem box_90 : upTo (fun n => Nat.ble (cntL (inBox n) dTab) 90) 144 = true := by decide +kernel
theorem nR_b {g : Int → Int} {p : Int} (hL : LdOk g) (hp : Pl g p) : 0 ≤ nR g p ∧ nR g p ≤ 90 := by
  refine ⟨(ct_b _ _).1, ?_⟩
  have b1 := cX_b hL p; have b2 := cY_b hL hp; have w := hL.w; have d := hL.d
  have hn : (12 * cX g p + cY g p).toNat < 144 := by omega
  have h := upTo_e box_90 hn
  have h' := Nat.le_of_ble_eq_true h
  have := ct_cntL (P := cT g p) (f := inBox (12 * cX g p + cY g p).toNat) dTab (fun i hi hc => by
    have e : dAt (i : Int) = dTab[i] := by
      unfold dAt; rw [Int.toNat_natCast, List.getD_eq_getElem?_getD, List.getElem?_eq_getElem hi]; rfl
    have e1 : dE (i : Int) = dTab[i].1 := by unfold dE; rw [e]
    have e2 : dS (i : Int) = dTab[i].2 := by unfold dS; rw [e]
    have hL1 := hc.1
    unfold iL iX iY at hL1
    rw [e1, e2] at hL1
    have q1 : ((12 * cX g p + cY g p).toNat / 12 : Nat) = cX g p := by omega
    have q2 : ((12 * cX g p + cY g p).toNat % 12 : Nat) = cY g p := by omega
    unfold inBox; rw [q1, q2]
    simp only [Bool.and_eq_true, decide_eq_true_eq]
    omega) 336 (by rw [dTab_len]; omega)
  rw [List.take_of_length_le (by rw [dTab_len]; omega)] at this
  unfold nR; omega
/-! humps -/
noncomputable def pv (g : Int → Int) (p j : Int) : Int := if j = 0 then nR g p - 1 else j - 1
noncomputable def nx (g : Int → Int) (p j : Int) : Int := if j + 1 = nR g p then 0 else j + 1
def hc (g : Int → Int) (p j : Int) : Prop := 2 < nR g p ∧ 0 < zT g p (T g p j) (T g p (pv g p j)) ∧ 0 ≤ zT g p (T g p j) (T g p (nx g p j))
noncomputable def hN (g : Int → Int) (p : Int) : Int := ct (hc g p) (nR g p).toNat
noncomputable def hI (g : Int → Int) (p j : Int) : Int := (fa (hc g p) (fun k => k) (nR g p).toNat).2 j
noncomputable def hT (g : Int → Int) (p j : Int) : Int := T g p (hI g p j)
theorem ct_half {c : Int → Prop} {m : Int} (h : ∀ i : Int, 0 ≤ i → i + 1 < m → c i → ¬c (i + 1)) : ∀ n : Nat, (n : Int) ≤ m → 2 * ct c n ≤ n + 1 ∧ (2 * ct c n = n + 1 → 0 < n ∧ c ((n : Int) - 1))
  | 0, _ => by simp [ct]
  | n + 1, hm => by
    have ih := ct_half h n (by omega)
    unfold ct
    rcases Classical.em (c n) with q | q
    · rw [bi_t q]
      have e1 : ((n + 1 : Nat) : Int) - 1 = n := by omega
      refine ⟨?_, fun _ => ⟨by omega, by rw [e1]; exact q⟩⟩
      apply Classical.byContradiction; intro z
      have h2 := ih.2 (by omega)
      have := h ((n : Int) - 1) (by omega) (by omega) h2.2
      rw [Int.sub_add_cancel] at this
      exact this q
    · rw [bi_f q]; omega
theorem hN_b {g : Int → Int} {p : Int} (hL : LdOk g) (hp : Pl g p) : 0 ≤ hN g p ∧ hN g p ≤ 45 ∧ hN g p ≤ nR g p := by
  have b := nR_b hL hp
  have c := ct_b (hc g p) (nR g p).toNat
  have := ct_half (c := hc g p) (m := nR g p) (fun i h0 h1 hi hj => by
    have h3 := hi.2.2; have h4 := hj.2.1
    unfold nx at h3; unfold pv at h4
    rw [if_neg (by omega)] at h3; rw [if_neg (by omega), Int.add_sub_cancel, zT_a] at h4
    omega) (nR g p).toNat (by omega)
  unfold hN; omega
theorem hI_ok {g : Int → Int} {p j : Int} (hL : LdOk g) (hp : Pl g p) (h0 : 0 ≤ j) (h1 : j < hN g p) : (0 ≤ hI g p j ∧ hI g p j < nR g p) ∧ hc g p (hI g p j) ∧ ct (hc g p) (hI g p j).toNat = j := by
  have b := nR_b hL hp
  obtain ⟨i, a, b, d, e, k⟩ := fa_of (hc g p) (fun k => k) (nR g p).toNat j h0 h1
  unfold hI; rw [k]; exact ⟨⟨a, by omega⟩, d, e⟩
theorem hT_P {g : Int → Int} {p j : Int} (hL : LdOk g) (hp : Pl g p) (h0 : 0 ≤ j) (h1 : j < hN g p) : Pl g (hT g p j) ∧ 0 < zF g p (hT g p j) ∧ hT g p j ≠ p := by
  have a := hI_ok hL hp h0 h1
  exact T_P hL hp a.1.1 a.1.2
theorem hI_lt {g : Int → Int} {p i j : Int} (hL : LdOk g) (hp : Pl g p) (h0 : 0 ≤ i) (h1 : i < j) (h2 : j < hN g p) : hI g p i < hI g p j := by
  have a := hI_ok hL hp h0 (Int.lt_trans h1 h2); have b := hI_ok hL hp (show 0 ≤ j by omega) h2
  apply Classical.byContradiction; intro q
  have := ct_mono (hc g p) (hI g p j).toNat (hI g p i).toNat (by omega)
  omega
