/-! ===== where a sketch fits: what is asked, and the reference ===== -/
/-- how many of the first n, up to the first that isn't P -/
noncomputable def ld (P : Int → Prop) : Nat → Int
  | 0 => 0
  | n + 1 => sel (ld P n = n ∧ P n) ((n : Int) + 1) (ld P n)
theorem ld_ok (P : Int → Prop) : ∀ n : Nat, (0 ≤ ld P n ∧ ld P n ≤ n) ∧ (∀ i, 0 ≤ i → i < ld P n → P i) ∧ (ld P n < n → ¬P (ld P n))
  | 0 => ⟨by simp [ld], fun i a b => by simp [ld] at b; omega, fun h => by simp [ld] at h⟩
  | n + 1 => by
    obtain ⟨h1, h2, h3⟩ := ld_ok P n
    unfold ld
    by_cases z : ld P n = n ∧ P n
    · rw [sel_t z]
      refine ⟨by omega, fun i a b => ?_, fun h => by omega⟩
      by_cases e : i = n
      · subst e; exact z.2
      · exact h2 i a (by omega)
    · rw [sel_f z]
      refine ⟨by omega, h2, fun h => ?_⟩
      by_cases e : ld P n < n
      · exact h3 e
      · have e' : ld P n = n := by omega
        intro hp; rw [e'] at hp; exact z ⟨e', hp⟩
theorem ld_u {P : Int → Prop} {n : Nat} {r : Int} (h0 : 0 ≤ r ∧ r ≤ n) (h1 : ∀ i, 0 ≤ i → i < r → P i) (h2 : r < n → ¬P r) : r = ld P n := by
  obtain ⟨k0, k1, k2⟩ := ld_ok P n
  rcases Int.lt_trichotomy r (ld P n) with z | z | z
  · exact absurd (k1 r h0.1 z) (h2 (by omega))
  · exact z
  · exact absurd (h1 _ k0.1 z) (k2 (by omega))
theorem ld_c {P Q : Int → Prop} {n : Nat} (h : ∀ i : Int, 0 ≤ i → i < n → (P i ↔ Q i)) : ld P n = ld Q n := by
  obtain ⟨k0, k1, k2⟩ := ld_ok P n
  exact ld_u k0 (fun i a b => (h i a (by omega)).mp (k1 i a b)) (fun z w => k2 z ((h _ k0.1 z).mpr w))
/-- the greatest of f a .. f (a + n - 1), or 0 -/
noncomputable def my (f : Int → Int) (a : Int) : Nat → Int
  | 0 => 0
  | n + 1 => if f (a + n) ≤ my f a n then my f a n else f (a + n)
theorem my_ok (f : Int → Int) (a : Int) : ∀ n : Nat, 0 ≤ my f a n ∧ (∀ y, a ≤ y → y < a + n → f y ≤ my f a n) ∧ (my f a n = 0 ∨ ∃ y, a ≤ y ∧ y < a + n ∧ f y = my f a n)
  | 0 => ⟨Int.le_refl _, fun y h0 h1 => by omega, .inl rfl⟩
  | n + 1 => by
    obtain ⟨h1, h2, h3⟩ := my_ok f a n
    unfold my
    split
    · next z =>
      refine ⟨h1, fun y y0 y1 => ?_, ?_⟩
      · by_cases e : y = a + n
        · subst e; exact z
        · exact h2 y y0 (by omega)
      · rcases h3 with h3 | ⟨y, y0, y1, e⟩
        · exact .inl h3
        · exact .inr ⟨y, y0, by omega, e⟩
    · next z =>
      refine ⟨by omega, fun y y0 y1 => ?_, .inr ⟨a + n, by omega, by omega, rfl⟩⟩
      by_cases e : y = a + n
      · subst e; exact Int.le_refl _
      · have := h2 y y0 (by omega); omega
def cb (g s : Int → Int) (p : Int) : Prop := 0 < hN g p ∧ (s 0 = hN g p ∨ s 0 < hN g p ∧ s 3 = 1)
theorem cb_le {g s : Int → Int} {p : Int} (h : cb g s p) : s 0 ≤ hN g p := by rcases h.2 with e | e <;> omega
def hx (s : Int → Int) (m st i : Int) : Int := if s 4 = 1 then (st - i + m) % m else (st + i) % m
theorem hx_b {s : Int → Int} {m st i : Int} (hm : 0 < m) : 0 ≤ hx s m st i ∧ hx s m st i < m := by
  unfold hx; split
  · exact ⟨Int.emod_nonneg _ (by omega), Int.emod_lt_of_pos _ hm⟩
  · exact ⟨Int.emod_nonneg _ (by omega), Int.emod_lt_of_pos _ hm⟩
noncomputable def hl (g s : Int → Int) (p st i : Int) : Int := hT g p (hx s (hN g p) st i)
theorem hl_P {g s : Int → Int} {p st i : Int} (hL : LdOk g) (hp : Pl g p) (hm : 0 < hN g p) : Pl g (hl g s p st i) ∧ 0 < zF g p (hl g s p st i) ∧ hl g s p st i ≠ p := by
  have b := hx_b (s := s) (st := st) (i := i) hm
  exact hT_P hL hp b.1 b.2
noncomputable def aL (g s : Int → Int) (p st k i : Int) : Int := s (7 + i) * s (7 + i) * zR g p (hl g s p st k) * zR g p (hl g s p st k) * zF g p (hl g s p st i)
def ar (g s : Int → Int) (p st k i : Int) : Prop := (s 2 = 0 ∧ (s 1 < s (7 + i) - s (7 + k) → 0 < zT g p (hl g s p st i) (hl g s p st k)) ∧ (s 1 < s (7 + k) - s (7 + i) → zT g p (hl g s p st i) (hl g s p st k) < 0)) ∨ (s 2 ≠ 0 ∧ 0 < zR g p (hl g s p st i) ∧ 0 < zR g p (hl g s p st k) ∧ 100 * (aL g s p st k i - aL g s p st i k) ≤ s 1 * aL g s p st i k ∧ 100 * (aL g s p st i k - aL g s p st k i) ≤ s 1 * aL g s p st i k)
def btw (g : Int → Int) (p a q b : Int) : Prop := if erl (zE g p a) (zS g p a) (zE g p b) (zS g p b) = true then erl (zE g p a) (zS g p a) (zE g p q) (zS g p q) = true ∧ erl (zE g p q) (zS g p q) (zE g p b) (zS g p b) = true else erl (zE g p a) (zS g p a) (zE g p q) (zS g p q) = true ∨ erl (zE g p q) (zS g p q) (zE g p b) (zS g p b) = true
def lk (g : Int → Int) (p a b : Int) : Prop := ∃ k, 0 ≤ k ∧ k < g 5 ∧ lc g p k ∧ btw g p a (g (151 + 4 * k)) b
def mk (g s : Int → Int) (p st i y : Int) : Prop := (iand (s (19 + i)) 2 ≠ 0 → tw g (hl g s p st i) y) ∧ (iand (s (19 + i)) 4 ≠ 0 → ¬tw g (hl g s p st i) y) ∧ (iand (s (19 + i)) 1 ≠ 0 → i ≠ 0 → (s 4 = 1 → lk g p (hl g s p st i) (hl g s p st (i - 1))) ∧ (s 4 ≠ 1 → lk g p (hl g s p st (i - 1)) (hl g s p st i)))
def okk (g s : Int → Int) (p st y i : Int) : Prop := mk g s p st i y ∧ ∀ k, 0 ≤ k → k < i → ar g s p st k i
noncomputable def fI (g s : Int → Int) (p st y : Int) : Int := sel (cb g s p) (ld (okk g s p st y) (s 0).toNat) 0
noncomputable def fO (g s : Int → Int) (p st yr : Int) : Int := if yr < 0 then my (fI g s p st) (s 5) (s 6 - s 5 + 1).toNat else fI g s p st yr
/-- the least start from which it fits, or -1 -/
def FtA (g s : Int → Int) (p yr r : Int) : Prop := (cb g s p ∧ Fi (fun st => fO g s p st yr = s 0) (hN g p) r) ∨ (¬cb g s p ∧ r = -1)
theorem FtA_u {g s : Int → Int} {p yr r t : Int} (h : FtA g s p yr r) (k : FtA g s p yr t) : r = t := by
  rcases h with ⟨a, h⟩ | ⟨a, h⟩ <;> rcases k with ⟨c, k⟩ | ⟨c, k⟩
  · exact Fi_u h k
  · exact absurd a c
  · exact absurd c a
  · omega
section
variable {μ : Mm} {l z p st i k y : Int} {g s : Int → Int}
theorem r_canBe (hM : Md μ) (hS : Gs μ z s) (hO : SkOk s) (hL : LdOk g) (hp : Pl g p) (hH : Hp μ g p) : fX11_canBe 20000 z p μ = some (bi (cb g s p)) := by
  have bp := Pl.i hL hp; have hz := hS.1; have hb := hN_b hL hp
  unfold fX11_canBe
  simp (disch := omega) only [w32_eq, w64_eq, chk_T, chk_t, lt, lm, ob, Int.add_zero, Int.zero_add, true_and, and_true, if_true, if_false, K20000, K20001, K20002, K20003, K20004, K20005, K20006, K20007, K20008, K20009, K20010, K20011, K20012, K20013, K20014, K20015, K20016, K20017, K20018, K20019, N20001, N20002, N20003, N20004, N20005, N20006, N20007, N20008, N20009, N20010, N20011, N20012, N20013, N20014, N20015, N20016, N20017, N20018, N20019, Md_0 hM, Md_16 hM, hH.1, hS.rd, hS.r0]
  unfold cb
  by_cases h1 : hN g p ≤ 0
  · rw [if_pos h1, bi_f (by omega)]
  · rw [if_neg h1]
    by_cases h2 : s 0 = hN g p
    · rw [if_pos h2, bi_t ⟨by omega, .inl h2⟩]
    · rw [if_neg h2]
      by_cases h3 : hN g p ≤ s 0
      · rw [if_pos h3, bi_f (by omega)]
      · rw [if_neg h3]
        by_cases h4 : s 3 = 1
        · rw [if_pos h4, bi_t ⟨by omega, .inr ⟨by omega, h4⟩⟩]
        · rw [if_neg h4, bi_f (by omega)]
theorem r_hillOf (hM : Md μ) (hS : Gs μ z s) (hL : LdOk g) (hp : Pl g p) (hH : Hp μ g p) (hs : 0 ≤ st ∧ st < hN g p) (hi : 0 ≤ i ∧ i ≤ hN g p) : fX11_hillOf 20000 z p st i μ = some (hl g s p st i) := by
  have bp := Pl.i hL hp; have hz := hS.1; have hb := hN_b hL hp
  have key : ∀ e : Int, 0 ≤ e → jX11_hillOf_34 20000 p (hN g p) e μ = some (hT g p (e % hN g p)) := by
    intro e he
    have m0 := Int.emod_nonneg e (show hN g p ≠ 0 by omega); have m1 := Int.emod_lt_of_pos e (show 0 < hN g p by omega)
    have := hH.2 _ m0 m1
    unfold jX11_hillOf_34
    simp (disch := omega) only [w32_eq, w64_eq, chk_T, chk_t, lt, lm, ob, Int.add_zero, Int.zero_add, true_and, and_true, if_true, if_false, K20000, K20001, K20002, K20003, K20004, K20005, K20006, K20007, K20008, K20009, K20010, K20011, K20012, K20013, K20014, K20015, K20016, K20017, K20018, K20019, N20001, N20002, N20003, N20004, N20005, N20006, N20007, N20008, N20009, N20010, N20011, N20012, N20013, N20014, N20015, N20016, N20017, N20018, N20019, Md_17 hM, tmod_nn, this, ne_eq]
  unfold fX11_hillOf hl hx
  simp (disch := omega) only [w32_eq, w64_eq, chk_T, chk_t, lt, lm, ob, Int.add_zero, Int.zero_add, true_and, and_true, if_true, if_false, K20000, K20001, K20002, K20003, K20004, K20005, K20006, K20007, K20008, K20009, K20010, K20011, K20012, K20013, K20014, K20015, K20016, K20017, K20018, K20019, N20001, N20002, N20003, N20004, N20005, N20006, N20007, N20008, N20009, N20010, N20011, N20012, N20013, N20014, N20015, N20016, N20017, N20018, N20019, Md_0 hM, Md_16 hM, hH.1, hS.rd]
  by_cases h4 : s 4 = 1
  · rw [if_pos h4, if_pos h4, key _ (by omega)]
  · rw [if_neg h4, if_neg h4, key _ (by omega)]
theorem aL_b (hO : SkOk s) (hL : LdOk g) (hp : Pl g p) (hm : 0 < hN g p) (hi : 0 ≤ i ∧ i < s 0) (h1 : 0 < zR g p (hl g s p st k)) : 0 ≤ aL g s p st k i ∧ aL g s p st k i ≤ 2367115787640 ∧ (0 ≤ s (7 + i) * s (7 + i) ∧ s (7 + i) * s (7 + i) ≤ 9801) ∧ (0 ≤ s (7 + i) * s (7 + i) * zR g p (hl g s p st k) ∧ s (7 + i) * s (7 + i) * zR g p (hl g s p st k) ≤ 9791199) ∧ (0 ≤ s (7 + i) * s (7 + i) * zR g p (hl g s p st k) * zR g p (hl g s p st k) ∧ s (7 + i) * s (7 + i) * zR g p (hl g s p st k) * zR g p (hl g s p st k) ≤ 9781407801) := by
  have a := (hO.2.2.2.2.2.2 i hi.1 hi.2).1
  have P1 := hl_P (s := s) (st := st) (i := i) hL hp hm; have P2 := hl_P (s := s) (st := st) (i := k) hL hp hm
  have r := zR_b hL hp P2.1; have f := zF_b hL hp P1.1
  have m1 := mul_le_of (x := s (7 + i)) (y := s (7 + i)) (a := 99) (b := 99) (by omega) a.2 (by omega) a.2
  have m1' := mul_nn (x := s (7 + i)) (y := s (7 + i)) (by omega) (by omega)
  have m2 := mul_le_of (x := s (7 + i) * s (7 + i)) (y := zR g p (hl g s p st k)) (a := 9801) (b := 999) m1' (by omega) (by omega) r.2
  have m2' := mul_nn (x := s (7 + i) * s (7 + i)) (y := zR g p (hl g s p st k)) m1' (by omega)
  have m3 := mul_le_of (x := s (7 + i) * s (7 + i) * zR g p (hl g s p st k)) (y := zR g p (hl g s p st k)) (a := 9791199) (b := 999) m2' (by omega) (by omega) r.2
  have m3' := mul_nn (x := s (7 + i) * s (7 + i) * zR g p (hl g s p st k)) (y := zR g p (hl g s p st k)) m2' (by omega)
  have m4 := mul_le_of (x := s (7 + i) * s (7 + i) * zR g p (hl g s p st k) * zR g p (hl g s p st k)) (y := zF g p (hl g s p st i)) (a := 9781407801) (b := 242) m3' (by omega) f.1 f.2
  have m4' := mul_nn (x := s (7 + i) * s (7 + i) * zR g p (hl g s p st k) * zR g p (hl g s p st k)) (y := zF g p (hl g s p st i)) m3' f.1
  unfold aL
  omega
theorem r_areRight (hM : Md μ) (hG : G μ l g) (hS : Gs μ z s) (hO : SkOk s) (hL : LdOk g) (hp : Pl g p) (hH : Hp μ g p) (hc : cb g s p) (hs : 0 ≤ st ∧ st < hN g p) (hi : 0 ≤ i ∧ i < s 0) (hk : 0 ≤ k ∧ k < s 0) : fX11_areRight 20000 l z p st k i μ = some (bi (ar g s p st k i)) := by
  have bp := Pl.i hL hp; have hz := hS.1; have hb := hN_b hL hp; have le := cb_le hc; have o1 := hO.2.1; have o0 := hO.1
  have hm : 0 < hN g p := hc.1
  have P1 := hl_P (s := s) (st := st) (i := i) hL hp hm; have P2 := hl_P (s := s) (st := st) (i := k) hL hp hm
  have a := (hO.2.2.2.2.2.2 i hi.1 hi.2).1; have c := (hO.2.2.2.2.2.2 k hk.1 hk.2).1
  have e1 := hS.rd (i := 7 + i) (by omega) (by omega); have e2 := hS.rd (i := 7 + k) (by omega) (by omega)
  rw [← Int.add_assoc] at e1 e2
  have t := r_steep hM hG hL hp P1.1 P2.1
  unfold fX11_areRight
  simp (disch := omega) only [w32_eq, w64_eq, chk_T, chk_t, lt, lm, ob, Int.add_zero, Int.zero_add, true_and, and_true, if_true, if_false, K20000, K20001, K20002, K20003, K20004, K20005, K20006, K20007, K20008, K20009, K20010, K20011, K20012, K20013, K20014, K20015, K20016, K20017, K20018, K20019, N20001, N20002, N20003, N20004, N20005, N20006, N20007, N20008, N20009, N20010, N20011, N20012, N20013, N20014, N20015, N20016, N20017, N20018, N20019, Md_0 hM, r_hillOf hM hS hL hp hH hs (i := i) (by omega), r_hillOf hM hS hL hp hH hs (i := k) (by omega), e1, e2, hS.rd, t]
  by_cases h2 : s 2 = 0
  · rw [if_pos h2]
    by_cases q1 : s (7 + i) - s (7 + k) ≤ s 1
    · rw [if_pos q1]
      by_cases q2 : s (7 + k) - s (7 + i) ≤ s 1
      · rw [if_pos q2, bi_t (.inl ⟨h2, fun _ => by omega, fun _ => by omega⟩)]
      · rw [if_neg q2]
        by_cases q3 : 0 ≤ zT g p (hl g s p st i) (hl g s p st k)
        · rw [if_pos q3, bi_f]
          rintro (w | w)
          · have := w.2.2 (by omega); omega
          · exact w.1 h2
        · rw [if_neg q3, bi_t (.inl ⟨h2, fun _ => by omega, fun _ => by omega⟩)]
    · rw [if_neg q1]
      by_cases q3 : zT g p (hl g s p st i) (hl g s p st k) ≤ 0
      · rw [if_pos q3, bi_f]
        rintro (w | w)
        · have := w.2.1 (by omega); omega
        · exact w.1 h2
      · rw [if_neg q3, bi_t (.inl ⟨h2, fun _ => by omega, fun _ => by omega⟩)]
  · rw [if_neg h2, r_riseOf hM hG hL hp P1.1]
    simp only [ob]
    rw [r_riseOf hM hG hL hp P2.1]
    simp only [ob]
    by_cases q1 : zR g p (hl g s p st i) ≤ 0
    · rw [if_pos q1, bi_f]
      rintro (w | w)
      · exact h2 w.1
      · have := w.2.1; omega
    · rw [if_neg q1]
      by_cases q2 : 0 < zR g p (hl g s p st k)
      · have L := aL_b (st := st) (k := k) (i := i) hO hL hp hm hi q2
        have R := aL_b (st := st) (k := i) (i := k) hO hL hp hm hk (by omega)
        have gb := mul_le_of (x := s 1) (y := aL g s p st i k) (a := 99) (b := 2367115787640) o1.1 o1.2 R.1 R.2.1
        have gb' := mul_nn (x := s 1) (y := aL g s p st i k) o1.1 R.1
        have eL : s (7 + i) * s (7 + i) * zR g p (hl g s p st k) * zR g p (hl g s p st k) * zF g p (hl g s p st i) = aL g s p st k i := rfl
        have eR : s (7 + k) * s (7 + k) * zR g p (hl g s p st i) * zR g p (hl g s p st i) * zF g p (hl g s p st k) = aL g s p st i k := rfl
        rw [if_pos q2, r_farOf hM hG hL hp P1.1, r_farOf hM hG hL hp P2.1]
        simp (disch := omega) only [w32_eq, w64_eq, chk_T, chk_t, lt, lm, ob, Int.add_zero, Int.zero_add, true_and, and_true, if_true, if_false, K20000, K20001, K20002, K20003, K20004, K20005, K20006, K20007, K20008, K20009, K20010, K20011, K20012, K20013, K20014, K20015, K20016, K20017, K20018, K20019, N20001, N20002, N20003, N20004, N20005, N20006, N20007, N20008, N20009, N20010, N20011, N20012, N20013, N20014, N20015, N20016, N20017, N20018, N20019, eL, eR]
        have fin : ∀ w : Int, (w = aL g s p st k i - aL g s p st i k ∨ w = aL g s p st i k - aL g s p st k i) → 0 ≤ w → jX11_areRight_244 20000 z (aL g s p st i k) w μ = some (bi (ar g s p st k i)) := by
          intro w hw w0
          unfold jX11_areRight_244
          simp (disch := omega) only [w32_eq, w64_eq, chk_T, chk_t, lt, lm, ob, Int.add_zero, Int.zero_add, true_and, and_true, if_true, if_false, K20000, K20001, K20002, K20003, K20004, K20005, K20006, K20007, K20008, K20009, K20010, K20011, K20012, K20013, K20014, K20015, K20016, K20017, K20018, K20019, N20001, N20002, N20003, N20004, N20005, N20006, N20007, N20008, N20009, N20010, N20011, N20012, N20013, N20014, N20015, N20016, N20017, N20018, N20019, Md_0 hM, hS.rd]
          by_cases q3 : s 1 * aL g s p st i k < w * 100
          · rw [if_pos q3, bi_f]
            rintro (v | v)
            · exact h2 v.1
            · have v1 := v.2.2.2.1; have v2 := v.2.2.2.2; omega
          · rw [if_neg q3, bi_t (.inr ⟨h2, by omega, q2, by omega, by omega⟩)]
        by_cases q4 : aL g s p st i k ≤ aL g s p st k i
        · rw [if_pos q4]; exact fin _ (.inl rfl) (by omega)
        · rw [if_neg q4]; exact fin _ (.inr rfl) (by omega)
      · rw [if_neg q2, bi_f]
        rintro (w | w)
        · exact h2 w.1
        · have := w.2.2.1; omega
theorem r_isTower (hM : Md μ) (hG : G μ l g) (hL : LdOk g) (q y : Int) : fX11_isTower 20000 l q y μ = some (bi (tw g q y)) := by
  have hl := hG.1; have t := hL.t
  apply Ev.eq
  unfold fX11_isTower
  refine Ev_bind (Ev_lop (P := fun r => r = bi (tw g q y)) (fun s => (0 ≤ s.2 ∧ s.2 ≤ g 5) ∧ s.1 = bi (∃ k, 0 ≤ k ∧ k < s.2 ∧ g (150 + 4 * k) = 1 ∧ g (151 + 4 * k) = q ∧ g (152 + 4 * k) ≤ y ∧ y ≤ g (153 + 4 * k))) (fun s => (g 5 - s.2).toNat) ⟨(by first | omega | (dsimp only; omega) | (dsimp only)), ?_⟩ (by unfold FU; dsimp only; omega) ?_) (fun r h => ?_)
  · dsimp only; rw [bi_f]; rintro ⟨k, k0, k1, _⟩; omega
  · rintro ⟨v4, v5⟩ ⟨h1, h2⟩
    dsimp only at h1 h2 ⊢
    unfold sX11_isTower_6
    dsimp only
    simp (disch := omega) only [w32_eq, w64_eq, chk_T, chk_t, lt, lm, ob, Int.add_zero, Int.zero_add, true_and, and_true, if_true, if_false, K20000, K20001, K20002, K20003, K20004, K20005, K20006, K20007, K20008, K20009, K20010, K20011, K20012, K20013, K20014, K20015, K20016, K20017, K20018, K20019, N20001, N20002, N20003, N20004, N20005, N20006, N20007, N20008, N20009, N20010, N20011, N20012, N20013, N20014, N20015, N20016, N20017, N20018, N20019, Md_0 hM, hG.rd]
    refine Ev_ite (fun z => Ev_out ?_) (fun z => ?_)
    · rw [h2]; apply bi_c
      constructor
      · rintro ⟨k, k0, k1, w⟩; exact ⟨k, k0, by omega, w⟩
      · rintro ⟨k, k0, k1, w⟩; exact ⟨k, k0, by omega, w⟩
    · have nxt : ∀ c : Prop, (c ↔ (∃ k, 0 ≤ k ∧ k < v5 ∧ g (150 + 4 * k) = 1 ∧ g (151 + 4 * k) = q ∧ g (152 + 4 * k) ≤ y ∧ y ≤ g (153 + 4 * k)) ∨ (g (150 + 4 * v5) = 1 ∧ g (151 + 4 * v5) = q ∧ g (152 + 4 * v5) ≤ y ∧ y ≤ g (153 + 4 * v5))) → bi (∃ k, 0 ≤ k ∧ k < v5 + 1 ∧ g (150 + 4 * k) = 1 ∧ g (151 + 4 * k) = q ∧ g (152 + 4 * k) ≤ y ∧ y ≤ g (153 + 4 * k)) = bi c := by
        intro c hc; apply bi_c; rw [hc]
        constructor
        · rintro ⟨k, k0, k1, w⟩
          by_cases e : k = v5
          · subst e; exact .inr w
          · exact .inl ⟨k, k0, by omega, w⟩
        · rintro (⟨k, k0, k1, w⟩ | w)
          · exact ⟨k, k0, by omega, w⟩
          · exact ⟨v5, h1.1, by omega, w⟩
      have e0 := hG.rd (i := 150 + 4 * v5) (by omega) (by omega); have e1 := hG.rd (i := 151 + 4 * v5) (by omega) (by omega); have e2 := hG.rd (i := 152 + 4 * v5) (by omega) (by omega); have e3 := hG.rd (i := 153 + 4 * v5) (by omega) (by omega)
      rw [show l + (150 + 4 * v5) = l + 150 + 4 * v5 by omega] at e0; rw [show l + (151 + 4 * v5) = l + 150 + 4 * v5 + 1 by omega] at e1; rw [show l + (152 + 4 * v5) = l + 150 + 4 * v5 + 2 by omega] at e2; rw [show l + (153 + 4 * v5) = l + 150 + 4 * v5 + 3 by omega] at e3
      have one : v4 ≠ 0 → ∃ k, 0 ≤ k ∧ k < v5 ∧ g (150 + 4 * k) = 1 ∧ g (151 + 4 * k) = q ∧ g (152 + 4 * k) ≤ y ∧ y ≤ g (153 + 4 * k) := fun w => by
        apply Classical.byContradiction; intro h; exact w (h2.trans (bi_f h))
      have skip : v4 = 0 → ¬(g (150 + 4 * v5) = 1 ∧ g (151 + 4 * v5) = q ∧ g (152 + 4 * v5) ≤ y ∧ y ≤ g (153 + 4 * v5)) → bi (∃ k, 0 ≤ k ∧ k < v5 + 1 ∧ g (150 + 4 * k) = 1 ∧ g (151 + 4 * k) = q ∧ g (152 + 4 * k) ≤ y ∧ y ≤ g (153 + 4 * k)) = 0 := fun w n => by
        rw [nxt False ⟨fun h => h.elim, fun h => h.elim (fun h => bi_0.mp (h2.symm.trans w) h) n⟩, bi_f (fun h => h)]
      simp (disch := omega) only [w32_eq, w64_eq, chk_T, chk_t, lt, lm, ob, Int.add_zero, Int.zero_add, true_and, and_true, if_true, if_false, K20000, K20001, K20002, K20003, K20004, K20005, K20006, K20007, K20008, K20009, K20010, K20011, K20012, K20013, K20014, K20015, K20016, K20017, K20018, K20019, N20001, N20002, N20003, N20004, N20005, N20006, N20007, N20008, N20009, N20010, N20011, N20012, N20013, N20014, N20015, N20016, N20017, N20018, N20019, Md_0 hM, e0, e1, e2, e3, isIn_0]
      refine Ev_ite (fun w => Ev_ite (fun x0 => Ev_ite (fun x1 => Ev_ite (fun x2 => Ev_in ⟨(by first | omega | (dsimp only; omega) | (dsimp only)), ?_⟩ (by first | omega | (dsimp only; omega) | (dsimp only))) (fun x2 => Ev_in ⟨(by first | omega | (dsimp only; omega) | (dsimp only)), ?_⟩ (by first | omega | (dsimp only; omega) | (dsimp only)))) (fun x1 => Ev_in ⟨(by first | omega | (dsimp only; omega) | (dsimp only)), ?_⟩ (by first | omega | (dsimp only; omega) | (dsimp only)))) (fun x0 => Ev_in ⟨(by first | omega | (dsimp only; omega) | (dsimp only)), ?_⟩ (by first | omega | (dsimp only; omega) | (dsimp only)))) (fun w => Ev_in ⟨(by first | omega | (dsimp only; omega) | (dsimp only)), ?_⟩ (by first | omega | (dsimp only; omega) | (dsimp only)))
      · dsimp only; rw [skip w (fun h => x2 h.2.2)]
      · dsimp only; rw [nxt True ⟨fun _ => .inr ⟨x0, x1, by omega, by omega⟩, fun _ => trivial⟩, bi_t trivial]
      · dsimp only; rw [skip w (fun h => x1 h.2.1)]
      · dsimp only; rw [skip w (fun h => x0 h.1)]
      · dsimp only; rw [nxt True ⟨fun _ => .inl (one w), fun _ => trivial⟩, bi_t trivial]
  · have := bi_b (tw g q y)
    exact Ev_chk (by omega) (Ev_some h)
theorem r_isBetween {a q b : Int} (hM : Md μ) (hG : G μ l g) (hL : LdOk g) (hp : Pl g p) (ha : Pl g a) (hq : Pl g q) (hb : Pl g b) : fX11_isBetween 20000 l p a q b μ = some (bi (btw g p a q b)) := by
  have x1 := zE_b hL p a; have x2 := zE_b hL p q; have x3 := zE_b hL p b
  have y1 := zS_b hL hp ha; have y2 := zS_b hL hp hq; have y3 := zS_b hL hp hb
  have c1 := r_isEarlier (ax := zE g p a) (ay := zS g p a) (bx := zE g p q) (dy := zS g p q) (by omega) (by omega) (by omega) (by omega)
  have c2 := r_isEarlier (ax := zE g p q) (ay := zS g p q) (bx := zE g p b) (dy := zS g p b) (by omega) (by omega) (by omega) (by omega)
  have c3 := r_isEarlier (ax := zE g p a) (ay := zS g p a) (bx := zE g p b) (dy := zS g p b) (by omega) (by omega) (by omega) (by omega)
  unfold fX11_isBetween
  simp (disch := omega) only [w32_eq, w64_eq, chk_T, chk_t, lt, lm, ob, Int.add_zero, Int.zero_add, true_and, and_true, if_true, if_false, K20000, K20001, K20002, K20003, K20004, K20005, K20006, K20007, K20008, K20009, K20010, K20011, K20012, K20013, K20014, K20015, K20016, K20017, K20018, K20019, N20001, N20002, N20003, N20004, N20005, N20006, N20007, N20008, N20009, N20010, N20011, N20012, N20013, N20014, N20015, N20016, N20017, N20018, N20019, r_eastOf hM hG hL hp ha, r_eastOf hM hG hL hp hq, r_eastOf hM hG hL hp hb, r_southOf hM hG hL hp ha, r_southOf hM hG hL hp hq, r_southOf hM hG hL hp hb, c1, c2, c3, bi_if]
  unfold btw
  by_cases z3 : erl (zE g p a) (zS g p a) (zE g p b) (zS g p b) = true
  · rw [sel_t z3, if_pos z3]
    by_cases z1 : erl (zE g p a) (zS g p a) (zE g p q) (zS g p q) = true
    · rw [sel_t z1]
      by_cases z2 : erl (zE g p q) (zS g p q) (zE g p b) (zS g p b) = true
      · rw [sel_t z2, bi_t ⟨z1, z2⟩]
      · rw [sel_f z2, bi_f (fun w => z2 w.2)]
    · rw [sel_f z1, bi_f (fun w => z1 w.1)]
  · rw [sel_f z3, if_neg z3]
    by_cases z1 : erl (zE g p a) (zS g p a) (zE g p q) (zS g p q) = true
    · rw [sel_t z1, bi_t (.inl z1)]
    · rw [sel_f z1]
      by_cases z2 : erl (zE g p q) (zS g p q) (zE g p b) (zS g p b) = true
      · rw [sel_t z2, bi_t (.inr z2)]
      · rw [sel_f z2, bi_f (fun w => w.elim z1 z2)]
theorem r_isLake {a b : Int} (hM : Md μ) (hG : G μ l g) (hL : LdOk g) (hp : Pl g p) (ha : Pl g a) (hb : Pl g b) : fX11_isLake 20000 l p a b μ = some (bi (lk g p a b)) := by
  have hl := hG.1; have t := hL.t
  apply Ev.eq
  unfold fX11_isLake
  refine Ev_bind (Ev_lop (P := fun r => r = bi (lk g p a b)) (fun s => (0 ≤ s.2 ∧ s.2 ≤ g 5) ∧ s.1 = bi (∃ k, 0 ≤ k ∧ k < s.2 ∧ lc g p k ∧ btw g p a (g (151 + 4 * k)) b)) (fun s => (g 5 - s.2).toNat) ⟨(by first | omega | (dsimp only; omega) | (dsimp only)), ?_⟩ (by unfold FU; dsimp only; omega) ?_) (fun r h => ?_)
  · dsimp only; rw [bi_f]; rintro ⟨k, k0, k1, _⟩; omega
  · rintro ⟨v4, v5⟩ ⟨h1, h2⟩
    dsimp only at h1 h2 ⊢
    unfold sX11_isLake_6
    dsimp only
    simp (disch := omega) only [w32_eq, w64_eq, chk_T, chk_t, lt, lm, ob, Int.add_zero, Int.zero_add, true_and, and_true, if_true, if_false, K20000, K20001, K20002, K20003, K20004, K20005, K20006, K20007, K20008, K20009, K20010, K20011, K20012, K20013, K20014, K20015, K20016, K20017, K20018, K20019, N20001, N20002, N20003, N20004, N20005, N20006, N20007, N20008, N20009, N20010, N20011, N20012, N20013, N20014, N20015, N20016, N20017, N20018, N20019, Md_0 hM, hG.rd]
    refine Ev_ite (fun z => Ev_out ?_) (fun z => ?_)
    · rw [h2]; apply bi_c
      constructor
      · rintro ⟨k, k0, k1, w⟩; exact ⟨k, k0, by omega, w⟩
      · rintro ⟨k, k0, k1, w⟩; exact ⟨k, k0, by omega, w⟩
    · have tt := hL.tt h1.1 (show v5 < g 5 by omega)
      have hPl : Pl g (g (151 + 4 * v5)) := ⟨tt.2.1.1, tt.2.1.2⟩
      have nxt : ∀ c : Prop, (c ↔ (∃ k, 0 ≤ k ∧ k < v5 ∧ lc g p k ∧ btw g p a (g (151 + 4 * k)) b) ∨ (lc g p v5 ∧ btw g p a (g (151 + 4 * v5)) b)) → bi (∃ k, 0 ≤ k ∧ k < v5 + 1 ∧ lc g p k ∧ btw g p a (g (151 + 4 * k)) b) = bi c := by
        intro c hc; apply bi_c; rw [hc]
        constructor
        · rintro ⟨k, k0, k1, w⟩
          by_cases e : k = v5
          · subst e; exact .inr w
          · exact .inl ⟨k, k0, by omega, w⟩
        · rintro (⟨k, k0, k1, w⟩ | w)
          · exact ⟨k, k0, by omega, w⟩
          · exact ⟨v5, h1.1, by omega, w⟩
      have e0 := hG.rd (i := 150 + 4 * v5) (by omega) (by omega); have e1 := hG.rd (i := 151 + 4 * v5) (by omega) (by omega)
      rw [show l + (150 + 4 * v5) = l + 150 + 4 * v5 by omega] at e0; rw [show l + (151 + 4 * v5) = l + 150 + 4 * v5 + 1 by omega] at e1
      have one : v4 ≠ 0 → ∃ k, 0 ≤ k ∧ k < v5 ∧ lc g p k ∧ btw g p a (g (151 + 4 * k)) b := fun w => by
        apply Classical.byContradiction; intro h; exact w (h2.trans (bi_f h))
      have skip : v4 = 0 → ¬(lc g p v5 ∧ btw g p a (g (151 + 4 * v5)) b) → bi (∃ k, 0 ≤ k ∧ k < v5 + 1 ∧ lc g p k ∧ btw g p a (g (151 + 4 * k)) b) = 0 := fun w n => by
        rw [nxt False ⟨fun h => h.elim, fun h => h.elim (fun h => bi_0.mp (h2.symm.trans w) h) n⟩, bi_f (fun h => h)]
      simp (disch := omega) only [w32_eq, w64_eq, chk_T, chk_t, lt, lm, ob, Int.add_zero, Int.zero_add, true_and, and_true, if_true, if_false, K20000, K20001, K20002, K20003, K20004, K20005, K20006, K20007, K20008, K20009, K20010, K20011, K20012, K20013, K20014, K20015, K20016, K20017, K20018, K20019, N20001, N20002, N20003, N20004, N20005, N20006, N20007, N20008, N20009, N20010, N20011, N20012, N20013, N20014, N20015, N20016, N20017, N20018, N20019, Md_0 hM, e0, e1]
      refine Ev_ite (fun w => Ev_ite (fun x0 => Ev_ite (fun x1 => Ev_in ⟨(by first | omega | (dsimp only; omega) | (dsimp only)), ?_⟩ (by first | omega | (dsimp only; omega) | (dsimp only))) (fun x1 => ?_)) (fun x0 => Ev_in ⟨(by first | omega | (dsimp only; omega) | (dsimp only)), ?_⟩ (by first | omega | (dsimp only; omega) | (dsimp only)))) (fun w => Ev_in ⟨(by first | omega | (dsimp only; omega) | (dsimp only)), ?_⟩ (by first | omega | (dsimp only; omega) | (dsimp only)))
      · dsimp only; rw [skip w (fun h => h.1.2.2.1 x1)]
      · rw [r_isSeen hM hG hL hp hPl (Ne.symm x1)]
        simp only [ob, bi_if]
        by_cases x2 : zSeen g p (g (151 + 4 * v5))
        · rw [sel_t x2, r_isBetween hM hG hL hp ha hPl hb]
          simp only [ob, bi_if]
          by_cases x3 : btw g p a (g (151 + 4 * v5)) b
          · rw [sel_t x3]
            refine Ev_in ⟨(by first | omega | (dsimp only; omega) | (dsimp only)), ?_⟩ (by first | omega | (dsimp only; omega) | (dsimp only))
            dsimp only; rw [nxt True ⟨fun _ => .inr ⟨⟨x0, hPl, x1, x2⟩, x3⟩, fun _ => trivial⟩, bi_t trivial]
          · rw [sel_f x3]
            refine Ev_in ⟨(by first | omega | (dsimp only; omega) | (dsimp only)), ?_⟩ (by first | omega | (dsimp only; omega) | (dsimp only))
            dsimp only; rw [skip w (fun h => x3 h.2)]
        · rw [sel_f x2]
          refine Ev_in ⟨(by first | omega | (dsimp only; omega) | (dsimp only)), ?_⟩ (by first | omega | (dsimp only; omega) | (dsimp only))
          dsimp only; rw [skip w (fun h => x2 h.1.2.2.2)]
      · dsimp only; rw [skip w (fun h => x0 h.1.1)]
      · dsimp only; rw [nxt True ⟨fun _ => .inl (one w), fun _ => trivial⟩, bi_t trivial]
  · have := bi_b (lk g p a b)
    exact Ev_chk (by omega) (Ev_some h)
theorem r_isMarked (hM : Md μ) (hG : G μ l g) (hS : Gs μ z s) (hO : SkOk s) (hL : LdOk g) (hp : Pl g p) (hH : Hp μ g p) (hc : cb g s p) (hs : 0 ≤ st ∧ st < hN g p) (hi : 0 ≤ i ∧ i < s 0) : fX11_isMarked 20000 l z p st i y μ = some (bi (mk g s p st i y)) := by
  have bp := Pl.i hL hp; have hz := hS.1; have hb := hN_b hL hp; have le := cb_le hc; have o0 := hO.1
  have hm : 0 < hN g p := hc.1
  have P1 := hl_P (s := s) (st := st) (i := i) hL hp hm
  have e1 := hS.rd (i := 19 + i) (by omega) (by omega)
  rw [← Int.add_assoc] at e1
  have lake : (iand (s (19 + i)) 2 ≠ 0 → tw g (hl g s p st i) y) → (iand (s (19 + i)) 4 ≠ 0 → ¬tw g (hl g s p st i) y) → jX11_isMarked_66 20000 l z p st i (s (19 + i)) (hl g s p st i) μ = some (bi (mk g s p st i y)) := by
    intro t1 t2
    unfold jX11_isMarked_66
    by_cases h1 : iand (s (19 + i)) 1 = 0
    · rw [if_pos h1, bi_t ⟨t1, t2, fun w => absurd h1 w⟩]
    · rw [if_neg h1]
      by_cases h0 : i = 0
      · rw [if_pos h0, bi_t ⟨t1, t2, fun _ w => absurd h0 w⟩]
      · rw [if_neg h0]
        have P2 := hl_P (s := s) (st := st) (i := i - 1) hL hp hm
        simp (disch := omega) only [w32_eq, w64_eq, chk_T, chk_t, lt, lm, ob, Int.add_zero, Int.zero_add, true_and, and_true, if_true, if_false, K20000, K20001, K20002, K20003, K20004, K20005, K20006, K20007, K20008, K20009, K20010, K20011, K20012, K20013, K20014, K20015, K20016, K20017, K20018, K20019, N20001, N20002, N20003, N20004, N20005, N20006, N20007, N20008, N20009, N20010, N20011, N20012, N20013, N20014, N20015, N20016, N20017, N20018, N20019, Md_0 hM, r_hillOf hM hS hL hp hH hs (i := i - 1) (by omega), hS.rd]
        by_cases h4 : s 4 = 1
        · rw [if_pos h4, r_isLake hM hG hL hp P1.1 P2.1]
          have := bi_b (lk g p (hl g s p st i) (hl g s p st (i - 1)))
          simp only [ob]
          rw [chk_t (by omega)]
          congr 1; apply bi_c
          exact ⟨fun w => ⟨t1, t2, fun _ _ => ⟨fun _ => w, fun n => absurd h4 n⟩⟩, fun w => (w.2.2 h1 h0).1 h4⟩
        · rw [if_neg h4, r_isLake hM hG hL hp P2.1 P1.1]
          have := bi_b (lk g p (hl g s p st (i - 1)) (hl g s p st i))
          simp only [ob]
          rw [chk_t (by omega)]
          congr 1; apply bi_c
          exact ⟨fun w => ⟨t1, t2, fun _ _ => ⟨fun n => absurd n h4, fun _ => w⟩⟩, fun w => (w.2.2 h1 h0).2 h4⟩
  have bare : (iand (s (19 + i)) 2 ≠ 0 → tw g (hl g s p st i) y) → jX11_isMarked_45 20000 l z p st i y (s (19 + i)) (hl g s p st i) μ = some (bi (mk g s p st i y)) := by
    intro t1
    unfold jX11_isMarked_45
    by_cases h4 : iand (s (19 + i)) 4 = 0
    · rw [if_pos h4]; exact lake t1 (fun w => absurd h4 w)
    · rw [if_neg h4, chk_t K20000, r_isTower hM hG hL]
      simp only [ob, bi_if]
      by_cases t : tw g (hl g s p st i) y
      · rw [sel_t t, bi_f (fun w => w.2.1 h4 t)]
      · rw [sel_f t]; exact lake t1 (fun _ => t)
  unfold fX11_isMarked
  simp (disch := omega) only [w32_eq, w64_eq, chk_T, chk_t, lt, lm, ob, Int.add_zero, Int.zero_add, true_and, and_true, if_true, if_false, K20000, K20001, K20002, K20003, K20004, K20005, K20006, K20007, K20008, K20009, K20010, K20011, K20012, K20013, K20014, K20015, K20016, K20017, K20018, K20019, N20001, N20002, N20003, N20004, N20005, N20006, N20007, N20008, N20009, N20010, N20011, N20012, N20013, N20014, N20015, N20016, N20017, N20018, N20019, Md_0 hM, e1, r_hillOf hM hS hL hp hH hs (i := i) (by omega), r_isTower hM hG hL, bi_if]
  by_cases h2 : iand (s (19 + i)) 2 = 0
  · rw [if_pos h2]; exact bare (fun w => absurd h2 w)
  · rw [if_neg h2]
    by_cases t : tw g (hl g s p st i) y
    · rw [sel_t t]; exact bare (fun _ => t)
    · rw [sel_f t, bi_f (fun w => t (w.1 h2))]
theorem r_firstIn (hM : Md μ) (hG : G μ l g) (hS : Gs μ z s) (hO : SkOk s) (hL : LdOk g) (hp : Pl g p) (hH : Hp μ g p) (hs : 0 ≤ st ∧ st < hN g p) : fX11_firstIn 20000 l z p st y μ = some (fI g s p st y) := by
  have hz := hS.1; have o0 := hO.1
  apply Ev.eq
  unfold fX11_firstIn fI
  simp (disch := omega) only [w32_eq, w64_eq, chk_T, chk_t, lt, lm, ob, Int.add_zero, Int.zero_add, true_and, and_true, if_true, if_false, K20000, K20001, K20002, K20003, K20004, K20005, K20006, K20007, K20008, K20009, K20010, K20011, K20012, K20013, K20014, K20015, K20016, K20017, K20018, K20019, N20001, N20002, N20003, N20004, N20005, N20006, N20007, N20008, N20009, N20010, N20011, N20012, N20013, N20014, N20015, N20016, N20017, N20018, N20019, r_canBe hM hS hO hL hp hH, bi_if]
  by_cases hc : cb g s p
  · rw [sel_t hc, sel_t hc]
    refine Ev_bind (Ev_lop (P := fun x => (x = .inl () ∧ ∀ i, 0 ≤ i → i < s 0 → okk g s p st y i) ∨ ∃ r, x = .inr r ∧ (0 ≤ r ∧ r < s 0) ∧ (∀ i, 0 ≤ i → i < r → okk g s p st y i) ∧ ¬okk g s p st y r) (fun t => (0 ≤ t ∧ t ≤ s 0) ∧ ∀ i, 0 ≤ i → i < t → okk g s p st y i) (fun t => (s 0 - t).toNat) ⟨by omega, fun i a b => by omega⟩ (by unfold FU; omega) ?_) ?_
    · intro v6 ⟨h1, h2⟩
      unfold sX11_firstIn_14
      simp (disch := omega) only [w32_eq, w64_eq, chk_T, chk_t, lt, lm, ob, Int.add_zero, Int.zero_add, true_and, and_true, if_true, if_false, K20000, K20001, K20002, K20003, K20004, K20005, K20006, K20007, K20008, K20009, K20010, K20011, K20012, K20013, K20014, K20015, K20016, K20017, K20018, K20019, N20001, N20002, N20003, N20004, N20005, N20006, N20007, N20008, N20009, N20010, N20011, N20012, N20013, N20014, N20015, N20016, N20017, N20018, N20019, Md_0 hM, hS.r0]
      refine Ev_ite (fun w => Ev_out (.inl ⟨rfl, fun i a b => h2 i a (by omega)⟩)) (fun w => ?_)
      have hi : 0 ≤ v6 ∧ v6 < s 0 := by omega
      rw [r_isMarked hM hG hS hO hL hp hH hc hs hi]
      simp only [ob]
      refine Ev_bind (Ev_lop (P := fun r => r = bi (okk g s p st y v6)) (fun t => (0 ≤ t.2 ∧ t.2 ≤ v6) ∧ t.1 = bi (mk g s p st v6 y ∧ ∀ k, 0 ≤ k → k < t.2 → ar g s p st k v6)) (fun t => (v6 - t.2).toNat) ⟨(by first | omega | (dsimp only; omega) | (dsimp only)), ?_⟩ (by unfold FU; dsimp only; omega) ?_) (fun r h => ?_)
      · dsimp only; apply bi_c; exact ⟨fun w => ⟨w, fun k k0 k1 => by omega⟩, fun w => w.1⟩
      · rintro ⟨v7, v8⟩ ⟨k1, k2⟩
        dsimp only at k1 k2 ⊢
        unfold sX11_firstIn_43
        dsimp only
        refine Ev_ite (fun q => Ev_out ?_) (fun q => Ev_ite (fun q2 => Ev_out ?_) (fun q2 => ?_))
        · have e : v8 = v6 := by omega
          rw [e] at k2; exact k2
        · rw [q2, bi_f]; intro w; rw [q2] at k2
          exact bi_0.mp k2.symm ⟨w.1, fun k a b => w.2 k a (by omega)⟩
        · simp (disch := omega) only [w32_eq, w64_eq, chk_T, chk_t, lt, lm, ob, Int.add_zero, Int.zero_add, true_and, and_true, if_true, if_false, K20000, K20001, K20002, K20003, K20004, K20005, K20006, K20007, K20008, K20009, K20010, K20011, K20012, K20013, K20014, K20015, K20016, K20017, K20018, K20019, N20001, N20002, N20003, N20004, N20005, N20006, N20007, N20008, N20009, N20010, N20011, N20012, N20013, N20014, N20015, N20016, N20017, N20018, N20019, r_areRight hM hG hS hO hL hp hH hc hs hi (k := v8) (by omega)]
          have pr : mk g s p st v6 y ∧ ∀ k, 0 ≤ k → k < v8 → ar g s p st k v6 := by
            apply Classical.byContradiction; intro h; exact q2 (k2.trans (bi_f h))
          refine Ev_in ⟨(by first | omega | (dsimp only; omega) | (dsimp only)), ?_⟩ (by first | omega | (dsimp only; omega) | (dsimp only))
          dsimp only; apply bi_c
          constructor
          · intro w; refine ⟨pr.1, fun k a b => ?_⟩
            by_cases e : k = v8
            · subst e; exact w
            · exact pr.2 k a (by omega)
          · intro w; exact w.2 v8 k1.1 (by omega)
      · subst h
        rw [bi_if]
        by_cases ok : okk g s p st y v6
        · rw [sel_t ok]
          refine Ev_in ⟨by omega, fun i a b => ?_⟩ (by omega)
          by_cases e : i = v6
          · subst e; exact ok
          · exact h2 i a (by omega)
        · rw [sel_f ok]; exact Ev_out (.inr ⟨v6, rfl, hi, h2, ok⟩)
    · rintro x (⟨e, h⟩ | ⟨r, e, h1, h2, h3⟩)
      · subst e
        dsimp only
        simp (disch := omega) only [w32_eq, w64_eq, chk_T, chk_t, lt, lm, ob, Int.add_zero, Int.zero_add, true_and, and_true, if_true, if_false, K20000, K20001, K20002, K20003, K20004, K20005, K20006, K20007, K20008, K20009, K20010, K20011, K20012, K20013, K20014, K20015, K20016, K20017, K20018, K20019, N20001, N20002, N20003, N20004, N20005, N20006, N20007, N20008, N20009, N20010, N20011, N20012, N20013, N20014, N20015, N20016, N20017, N20018, N20019, Md_0 hM, hS.r0]
        exact Ev_some (ld_u (by omega) h (fun w => by omega))
      · subst e
        exact Ev_some (ld_u (by omega) h2 (fun _ => h3))
  · rw [sel_f hc, sel_f hc]; exact Ev_some rfl
end
