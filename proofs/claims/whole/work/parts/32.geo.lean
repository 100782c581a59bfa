/-! ===== a land: what it is ===== -/
/-- 0 width, 1 depth, 2 eye, 3 bend, 4 haze, 5 things; 6 + p heights; 150 + 4 k: tower?, place, from, to -/
def LdOk (g : Int → Int) : Prop := (2 ≤ g 0 ∧ g 0 ≤ 12) ∧ (2 ≤ g 1 ∧ g 1 ≤ 12) ∧ (0 ≤ g 2 ∧ g 2 ≤ 9) ∧ (0 ≤ g 3 ∧ g 3 ≤ 99) ∧ (1 ≤ g 4 ∧ g 4 ≤ 999) ∧ (0 ≤ g 5 ∧ g 5 ≤ 12) ∧ (∀ p, 0 ≤ p → p < 144 → 0 ≤ g (6 + p) ∧ g (6 + p) ≤ 999) ∧ (∀ k, 0 ≤ k → k < g 5 → (g (150 + 4 * k) = 0 ∨ g (150 + 4 * k) = 1) ∧ (0 ≤ g (151 + 4 * k) ∧ g (151 + 4 * k) < g 0 * g 1) ∧ (0 ≤ g (152 + 4 * k) ∧ g (152 + 4 * k) ≤ g (153 + 4 * k) ∧ g (153 + 4 * k) ≤ 99))
def np (g : Int → Int) : Int := g 0 * g 1
def Pl (g : Int → Int) (p : Int) : Prop := 0 ≤ p ∧ p < np g
def cX (g : Int → Int) (p : Int) : Int := p % g 0
def cY (g : Int → Int) (p : Int) : Int := p / g 0
def zE (g : Int → Int) (p q : Int) : Int := cX g q - cX g p
def zS (g : Int → Int) (p q : Int) : Int := cY g q - cY g p
def zF (g : Int → Int) (p q : Int) : Int := zE g p q * zE g p q + zS g p q * zS g p q
def zR (g : Int → Int) (p q : Int) : Int := g (6 + q) - g 3 * zF g p q / 100 - g (6 + p) - g 2
def zQ (x : Int) : Int := x * (if 0 ≤ x then x else -x)
def zV (g : Int → Int) (p q : Int) : Int := zQ (zR g p q)
/-- x steeper than y from p: above 0 -/
def zT (g : Int → Int) (p x y : Int) : Int := zV g p x * zF g p y - zV g p y * zF g p x
theorem LdOk.w {g : Int → Int} (h : LdOk g) : 2 ≤ g 0 ∧ g 0 ≤ 12 := h.1
theorem LdOk.d {g : Int → Int} (h : LdOk g) : 2 ≤ g 1 ∧ g 1 ≤ 12 := h.2.1
theorem LdOk.e {g : Int → Int} (h : LdOk g) : 0 ≤ g 2 ∧ g 2 ≤ 9 := h.2.2.1
theorem LdOk.b {g : Int → Int} (h : LdOk g) : 0 ≤ g 3 ∧ g 3 ≤ 99 := h.2.2.2.1
theorem LdOk.h {g : Int → Int} (h : LdOk g) : 1 ≤ g 4 ∧ g 4 ≤ 999 := h.2.2.2.2.1
theorem LdOk.t {g : Int → Int} (h : LdOk g) : 0 ≤ g 5 ∧ g 5 ≤ 12 := h.2.2.2.2.2.1
theorem LdOk.hh {g : Int → Int} (h : LdOk g) {p : Int} (h0 : 0 ≤ p) (h1 : p < 144) : 0 ≤ g (6 + p) ∧ g (6 + p) ≤ 999 := h.2.2.2.2.2.2.1 p h0 h1
theorem LdOk.tt {g : Int → Int} (h : LdOk g) {k : Int} (h0 : 0 ≤ k) (h1 : k < g 5) : (g (150 + 4 * k) = 0 ∨ g (150 + 4 * k) = 1) ∧ (0 ≤ g (151 + 4 * k) ∧ g (151 + 4 * k) < g 0 * g 1) ∧ (0 ≤ g (152 + 4 * k) ∧ g (152 + 4 * k) ≤ g (153 + 4 * k) ∧ g (153 + 4 * k) ≤ 99) := h.2.2.2.2.2.2.2 k h0 h1
theorem np_b {g : Int → Int} (hL : LdOk g) : 4 ≤ np g ∧ np g ≤ 144 := by
  have h1 := hL.w; have h2 := hL.d
  have := mul_le_of (show 0 ≤ g 0 by omega) h1.2 (show 0 ≤ g 1 by omega) h2.2
  have := mul_le_of (show (0 : Int) ≤ 2 by omega) h1.1 (show (0 : Int) ≤ 2 by omega) h2.1
  unfold np; omega
theorem Pl.i {g : Int → Int} {p : Int} (hL : LdOk g) (h : Pl g p) : 0 ≤ p ∧ p < 144 := by
  have := np_b hL; have := h.1; have := h.2; omega
theorem cX_b {g : Int → Int} (hL : LdOk g) (p : Int) : 0 ≤ cX g p ∧ cX g p < g 0 := by
  have h1 := hL.w
  exact ⟨Int.emod_nonneg p (by omega), Int.emod_lt_of_pos p (by omega)⟩
theorem cY_b {g : Int → Int} {p : Int} (hL : LdOk g) (h : Pl g p) : 0 ≤ cY g p ∧ cY g p < g 1 := by
  have h1 := hL.w
  refine ⟨Int.ediv_nonneg h.1 (by omega), ?_⟩
  apply Int.ediv_lt_of_lt_mul (by omega)
  rw [Int.mul_comm]; exact h.2
/-- the place in column x and row y -/
def at0 (g : Int → Int) (x y : Int) : Int := y * g 0 + x
theorem at_X {g : Int → Int} {x y : Int} (h0 : 0 ≤ x) (h1 : x < g 0) : cX g (at0 g x y) = x := by
  unfold cX at0
  rw [Int.add_comm, Int.add_mul_emod_self_right, Int.emod_eq_of_lt h0 h1]
theorem at_Y {g : Int → Int} {x y : Int} (h0 : 0 ≤ x) (h1 : x < g 0) : cY g (at0 g x y) = y := by
  unfold cY at0
  rw [Int.add_comm, Int.add_mul_ediv_right _ _ (by omega), Int.ediv_eq_zero_of_lt h0 h1, Int.zero_add]
theorem at_P {g : Int → Int} {x y : Int} (h0 : 0 ≤ x) (h1 : x < g 0) (h2 : 0 ≤ y) (h3 : y < g 1) : Pl g (at0 g x y) := by
  have h4 := Int.mul_nonneg h2 (show 0 ≤ g 0 by omega)
  have h5 := Int.mul_le_mul_of_nonneg_right (show y + 1 ≤ g 1 by omega) (show 0 ≤ g 0 by omega)
  rw [Int.add_mul, Int.one_mul, Int.mul_comm (g 1)] at h5
  unfold Pl np at0
  omega
theorem at_c {g : Int → Int} (p : Int) : at0 g (cX g p) (cY g p) = p := by
  unfold at0 cX cY
  have := Int.mul_ediv_add_emod p (g 0)
  rw [Int.mul_comm] at this; omega
theorem pl_ext {g : Int → Int} {p q : Int} (hx : cX g p = cX g q) (hy : cY g p = cY g q) : p = q := by
  rw [← at_c (g := g) p, ← at_c (g := g) q, hx, hy]
theorem zE_b {g : Int → Int} (hL : LdOk g) (p q : Int) : -11 ≤ zE g p q ∧ zE g p q ≤ 11 := by
  have h1 := hL.w; have := cX_b hL p; have := cX_b hL q
  unfold zE; omega
theorem zS_b {g : Int → Int} {p q : Int} (hL : LdOk g) (hp : Pl g p) (hq : Pl g q) : -11 ≤ zS g p q ∧ zS g p q ≤ 11 := by
  have h1 := hL.d; have := cY_b hL hp; have := cY_b hL hq
  unfold zS; omega
theorem zF_b {g : Int → Int} {p q : Int} (hL : LdOk g) (hp : Pl g p) (hq : Pl g q) : 0 ≤ zF g p q ∧ zF g p q ≤ 242 := by
  have h1 := zE_b hL p q; have h2 := zS_b hL hp hq
  have := sq_le h1.1 h1.2; have := sq_le h2.1 h2.2; have := sq_nn (zE g p q); have := sq_nn (zS g p q)
  unfold zF; omega
theorem zF_p {g : Int → Int} {p q : Int} (h : p ≠ q) : 0 < zF g p q := by
  have h1 := sq_nn (zE g p q); have h2 := sq_nn (zS g p q)
  apply Classical.byContradiction
  intro hn
  unfold zF at hn
  have e1 : zE g p q * zE g p q = 0 := by omega
  have e2 : zS g p q * zS g p q = 0 := by omega
  have e1 := (Int.mul_eq_zero.mp e1); have e2 := (Int.mul_eq_zero.mp e2)
  have e1 : zE g p q = 0 := by omega
  have e2 : zS g p q = 0 := by omega
  unfold zE at e1; unfold zS at e2
  exact h (pl_ext (g := g) (by omega) (by omega))
theorem zB_b {g : Int → Int} {p q : Int} (hL : LdOk g) (hp : Pl g p) (hq : Pl g q) : 0 ≤ g 3 * zF g p q ∧ g 3 * zF g p q ≤ 23958 := by
  have h1 := zF_b hL hp hq
  have h2 := hL.b
  exact ⟨mul_nn h2.1 h1.1, mul_le_of h2.1 h2.2 h1.1 h1.2⟩
theorem zR_b {g : Int → Int} {p q : Int} (hL : LdOk g) (hp : Pl g p) (hq : Pl g q) : -1247 ≤ zR g p q ∧ zR g p q ≤ 999 := by
  have h3 := zB_b hL hp hq
  have b1 := Pl.i hL hp; have b2 := Pl.i hL hq
  have h5 := hL.hh b1.1 b1.2; have h6 := hL.hh b2.1 b2.2; have h7 := hL.e
  unfold zR; omega
theorem zQ_b {x : Int} (h : -1247 ≤ x) (h2 : x ≤ 1247) : -1555009 ≤ zQ x ∧ zQ x ≤ 1555009 := by
  unfold zQ
  split
  · exact mul_ab (a := 1247) (b := 1247) h h2 (by omega) h2
  · exact mul_ab (a := 1247) (b := 1247) h h2 (by omega) (by omega)
theorem zQ_p {x : Int} : 0 < zQ x ↔ 0 < x := by
  unfold zQ
  split
  · constructor
    · intro h; apply Classical.byContradiction; intro q; have : x = 0 := by omega
      subst this; simp at h
    · intro h; exact Int.mul_pos h h
  · constructor
    · intro h; have := Int.mul_nonneg (show 0 ≤ -x by omega) (show 0 ≤ -x by omega); rw [Int.neg_mul] at this; omega
    · intro h; omega
theorem zQ_s {x : Int} (h : 0 ≤ x) : zQ x = x * x := by unfold zQ; rw [if_pos h]
theorem zV_b {g : Int → Int} {p q : Int} (hL : LdOk g) (hp : Pl g p) (hq : Pl g q) : -1555009 ≤ zV g p q ∧ zV g p q ≤ 1555009 := by
  have := zR_b hL hp hq; exact zQ_b (by omega) (by omega)
theorem zVF_b {g : Int → Int} {p q r : Int} (hL : LdOk g) (hp : Pl g p) (hq : Pl g q) (hr : Pl g r) : -376312178 ≤ zV g p q * zF g p r ∧ zV g p q * zF g p r ≤ 376312178 := by
  have h1 := zV_b hL hp hq; have h2 := zF_b hL hp hr
  exact mul_ab (a := 1555009) (b := 242) h1.1 h1.2 h2.1 h2.2
theorem zT_b {g : Int → Int} {p q r : Int} (hL : LdOk g) (hp : Pl g p) (hq : Pl g q) (hr : Pl g r) : -752624356 ≤ zT g p q r ∧ zT g p q r ≤ 752624356 := by
  have h1 := zVF_b hL hp hq hr; have h2 := zVF_b hL hp hr hq
  unfold zT; omega
theorem zT_a {g : Int → Int} {p q r : Int} : zT g p q r = - zT g p r q := by unfold zT; omega
/-- what is steeper than a steeper one is steeper -/
theorem zT_tr {g : Int → Int} {p x y z : Int} (hx : 0 < zF g p x) (hy : 0 < zF g p y) (hz : 0 < zF g p z) (h : 0 ≤ zT g p x y) (h2 : 0 ≤ zT g p y z) : 0 ≤ zT g p x z ∧ (0 < zT g p x y ∨ 0 < zT g p y z → 0 < zT g p x z) := by
  unfold zT at *
  generalize zV g p x = a at *; generalize zV g p y = b at *; generalize zV g p z = c at *
  generalize zF g p x = d at *; generalize zF g p y = e at *; generalize zF g p z = f at *
  have key : e * (a * f - c * d) = f * (a * e - b * d) + d * (b * f - c * e) := by
    simp only [Int.mul_sub, Int.sub_mul, Int.mul_assoc, Int.mul_left_comm, Int.mul_comm]; omega
  have k1 := Int.mul_nonneg (Int.le_of_lt hz) h
  have k2 := Int.mul_nonneg (Int.le_of_lt hx) h2
  constructor
  · apply Classical.byContradiction; intro hn
    have := Int.mul_neg_of_pos_of_neg hy (show a * f - c * d < 0 by omega)
    omega
  · intro hs
    have k3 : 0 < e * (a * f - c * d) := by
      rcases hs with hs | hs
      · have := Int.mul_pos hz hs; omega
      · have := Int.mul_pos hx hs; omega
    apply Classical.byContradiction; intro hn
    have := Int.mul_le_mul_of_nonneg_left (show a * f - c * d ≤ 0 by omega) (Int.le_of_lt hy)
    rw [Int.mul_zero] at this; omega
/-! ===== the reference's geometry ===== -/
/-- the reference holds the land g at l -/
def G (μ : Mm) (l : Int) (g : Int → Int) : Prop := (l = 710 ∨ l = 910) ∧ ∀ i, 0 ≤ i → i < 200 → μ 20001 (l + i) = g i
theorem G.rd {μ : Mm} {l : Int} {g : Int → Int} (h : G μ l g) {i : Int} (h0 : 0 ≤ i) (h1 : i < 200) : μ 20001 (l + i) = g i := h.2 i h0 h1
theorem G.r0 {μ : Mm} {l : Int} {g : Int → Int} (h : G μ l g) : μ 20001 l = g 0 := by
  have := h.2 0 (by omega) (by omega); rwa [Int.add_zero] at this
theorem r_eastOf {μ : Mm} {l p q : Int} {g : Int → Int} (hM : Md μ) (hG : G μ l g) (hL : LdOk g) (hp : Pl g p) (hq : Pl g q) : fX11_eastOf 20000 l p q μ = some (zE g p q) := by
  have h1 := hL.w; have hl := hG.1; have b1 := Pl.i hL hp; have b2 := Pl.i hL hq
  have hb := zE_b hL p q
  unfold zE cX at hb
  unfold fX11_eastOf zE cX
  simp (disch := omega) only [w32_eq, w64_eq, chk_T, chk_t, lt, lm, ob, Int.add_zero, Int.zero_add, true_and, and_true, if_true, if_false, K20000, K20001, K20002, K20003, K20004, K20005, K20006, K20007, K20008, K20009, K20010, K20011, K20012, K20013, K20014, K20015, K20016, K20017, K20018, K20019, N20001, N20002, N20003, N20004, N20005, N20006, N20007, N20008, N20009, N20010, N20011, N20012, N20013, N20014, N20015, N20016, N20017, N20018, N20019, Md_0 hM, Int.add_assoc, hG.rd, hG.r0, tmod_nn, ne_eq]
theorem r_southOf {μ : Mm} {l p q : Int} {g : Int → Int} (hM : Md μ) (hG : G μ l g) (hL : LdOk g) (hp : Pl g p) (hq : Pl g q) : fX11_southOf 20000 l p q μ = some (zS g p q) := by
  have h1 := hL.w; have hl := hG.1; have b1 := Pl.i hL hp; have b2 := Pl.i hL hq
  have hb := zS_b hL hp hq; have h2 := hL.d; have := cY_b hL hp; have := cY_b hL hq
  unfold zS cY at *
  unfold fX11_southOf
  simp (disch := omega) only [w32_eq, w64_eq, chk_T, chk_t, lt, lm, ob, Int.add_zero, Int.zero_add, true_and, and_true, if_true, if_false, K20000, K20001, K20002, K20003, K20004, K20005, K20006, K20007, K20008, K20009, K20010, K20011, K20012, K20013, K20014, K20015, K20016, K20017, K20018, K20019, N20001, N20002, N20003, N20004, N20005, N20006, N20007, N20008, N20009, N20010, N20011, N20012, N20013, N20014, N20015, N20016, N20017, N20018, N20019, Md_0 hM, Int.add_assoc, hG.rd, hG.r0, tdiv_nn, ne_eq]
theorem r_farOf {μ : Mm} {l p q : Int} {g : Int → Int} (hM : Md μ) (hG : G μ l g) (hL : LdOk g) (hp : Pl g p) (hq : Pl g q) : fX11_farOf 20000 l p q μ = some (zF g p q) := by
  have h1 := zE_b hL p q; have h2 := zS_b hL hp hq
  have := sq_le h1.1 h1.2; have := sq_le h2.1 h2.2; have := sq_nn (zE g p q); have := sq_nn (zS g p q)
  unfold fX11_farOf zF
  simp (disch := omega) only [w32_eq, w64_eq, chk_T, chk_t, lt, lm, ob, Int.add_zero, Int.zero_add, true_and, and_true, if_true, if_false, K20000, K20001, K20002, K20003, K20004, K20005, K20006, K20007, K20008, K20009, K20010, K20011, K20012, K20013, K20014, K20015, K20016, K20017, K20018, K20019, N20001, N20002, N20003, N20004, N20005, N20006, N20007, N20008, N20009, N20010, N20011, N20012, N20013, N20014, N20015, N20016, N20017, N20018, N20019, r_eastOf hM hG hL hp hq, r_southOf hM hG hL hp hq]
theorem r_riseOf {μ : Mm} {l p q : Int} {g : Int → Int} (hM : Md μ) (hG : G μ l g) (hL : LdOk g) (hp : Pl g p) (hq : Pl g q) : fX11_riseOf 20000 l p q μ = some (zR g p q) := by
  have hl := hG.1; have b1 := Pl.i hL hp; have b2 := Pl.i hL hq
  have h3 := zB_b hL hp hq; have h5 := hL.hh b1.1 b1.2; have h6 := hL.hh b2.1 b2.2; have h7 := hL.e
  unfold fX11_riseOf zR
  simp (disch := omega) only [w32_eq, w64_eq, chk_T, chk_t, lt, lm, ob, Int.add_zero, Int.zero_add, true_and, and_true, if_true, if_false, K20000, K20001, K20002, K20003, K20004, K20005, K20006, K20007, K20008, K20009, K20010, K20011, K20012, K20013, K20014, K20015, K20016, K20017, K20018, K20019, N20001, N20002, N20003, N20004, N20005, N20006, N20007, N20008, N20009, N20010, N20011, N20012, N20013, N20014, N20015, N20016, N20017, N20018, N20019, Md_0 hM, r_farOf hM hG hL hp hq, Int.add_assoc, hG.rd, tdiv_nn]
theorem r_steep {μ : Mm} {l p x y : Int} {g : Int → Int} (hM : Md μ) (hG : G μ l g) (hL : LdOk g) (hp : Pl g p) (hx : Pl g x) (hy : Pl g y) : fX11_steep 20000 l p x y μ = some (zT g p x y) := by
  have h1 := zVF_b hL hp hx hy; have h2 := zVF_b hL hp hy hx
  have h3 := zR_b hL hp hx; have h4 := zR_b hL hp hy
  have h5 := zV_b hL hp hx; have h6 := zV_b hL hp hy
  have e := r_farOf hM hG hL hp hx; have e2 := r_farOf hM hG hL hp hy
  unfold fX11_steep zT
  unfold zV zQ at *
  simp (disch := omega) only [w32_eq, w64_eq, chk_T, chk_t, lt, lm, ob, Int.add_zero, Int.zero_add, true_and, and_true, if_true, if_false, K20000, K20001, K20002, K20003, K20004, K20005, K20006, K20007, K20008, K20009, K20010, K20011, K20012, K20013, K20014, K20015, K20016, K20017, K20018, K20019, N20001, N20002, N20003, N20004, N20005, N20006, N20007, N20008, N20009, N20010, N20011, N20012, N20013, N20014, N20015, N20016, N20017, N20018, N20019, r_riseOf hM hG hL hp hx, r_riseOf hM hG hL hp hy, jX11_steep_38, jX11_steep_66, e, e2]
  split <;> split <;> (simp only [*, if_true, if_false] at *; simp (disch := omega) only [w32_eq, w64_eq, chk_T, chk_t, lt, lm, ob, Int.add_zero, Int.zero_add, true_and, and_true, if_true, if_false, K20000, K20001, K20002, K20003, K20004, K20005, K20006, K20007, K20008, K20009, K20010, K20011, K20012, K20013, K20014, K20015, K20016, K20017, K20018, K20019, N20001, N20002, N20003, N20004, N20005, N20006, N20007, N20008, N20009, N20010, N20011, N20012, N20013, N20014, N20015, N20016, N20017, N20018, N20019, ])
