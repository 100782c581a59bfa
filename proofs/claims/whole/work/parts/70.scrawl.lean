/-! ===== scrawls ===== -/
def sd (seed : Int) : Nat → Int
  | 0 => seed
  | n + 1 => w32 (w32 (sd seed n * 1103515245) + 12345)
def sw1 (s : Int → Int) (seed e i : Int) : Int := 10 * s (7 + i) + (iushr (sd seed (i.toNat + 1)) 16).tmod (2 * e + 1) - e
def sw2 (y : Int) : Int := if y < 1 then 1 else if 99 < y then 99 else y
theorem sw2_b (y : Int) : 1 ≤ sw2 y ∧ sw2 y ≤ 99 := by unfold sw2; split; omega; split <;> omega
def sw (s : Int → Int) (seed e : Int) : Int → Int := fun x => if x = 1 then 2 * e else if 7 ≤ x ∧ x < 7 + s 0 then sw2 (sw1 s seed e (x - 7)) else s x
theorem sw_1 {s : Int → Int} {seed e : Int} : sw s seed e 1 = 2 * e := by unfold sw; rw [if_pos rfl]
theorem sw_h {s : Int → Int} {seed e i : Int} (h0 : 0 ≤ i) (h1 : i < s 0) : sw s seed e (7 + i) = sw2 (sw1 s seed e i) := by unfold sw; rw [if_neg (by omega), if_pos (by omega), show 7 + i - 7 = i by omega]
theorem sw_n {s : Int → Int} {seed e x : Int} (h : x ≠ 1) (h7 : x < 7 ∨ 7 + s 0 ≤ x) : sw s seed e x = s x := by unfold sw; rw [if_neg h, if_neg (by omega)]
theorem sw_0 {s : Int → Int} {seed e : Int} : sw s seed e 0 = s 0 := sw_n (by decide) (by omega)
theorem sw_ok {s : Int → Int} {seed e : Int} (h : SkOk s) (he : 0 ≤ e ∧ e ≤ 20) : SkOk (sw s seed e) := by
  obtain ⟨h0, h1, h2, h3, h4, h5, h6⟩ := h
  refine ⟨by rw [sw_0]; exact h0, by rw [sw_1]; omega, by rw [sw_n (by decide) (by omega)]; exact h2, by rw [sw_n (by decide) (by omega)]; exact h3, by rw [sw_n (by decide) (by omega)]; exact h4, by rw [sw_n (by decide) (by omega), sw_n (by decide) (by omega)]; exact h5, fun i i0 i1 => ?_⟩
  rw [sw_0] at i1
  rw [sw_h i0 i1, sw_n (x := 19 + i) (by omega) (by omega)]
  exact ⟨sw2_b _, (h6 i i0 i1).2⟩
theorem tm_b {x e : Int} (he : 0 ≤ e ∧ e ≤ 20) : -41 < x.tmod (2 * e + 1) ∧ x.tmod (2 * e + 1) < 41 := by
  have := Int.tmod_lt_of_pos x (b := 2 * e + 1) (by omega)
  have := Int.lt_tmod_of_pos x (b := 2 * e + 1) (by omega)
  omega
section
variable {μ : Mm} {s : Int → Int} {seed e : Int}
theorem c_scrawlOver (hS : Sk μ 290 s) (hB : SkB μ 290) (hO : SkOk s) (hT : ∀ i, 0 ≤ i → i < s 0 → s (7 + i) ≤ 99) (he : 0 ≤ e ∧ e ≤ 20) : Ev (fX6_scrawlOver 290 seed e μ) (fun μ' => Fw dR μ μ' ∧ Sk μ' 290 (sw s seed e) ∧ SkB μ' 290) := by
  obtain ⟨⟨kk, ⟨k1, n1⟩, ⟨k2, n2⟩⟩, ⟨f7, f8⟩, ⟨e0, e1, e2, e3, e4, e5, e6⟩, hs⟩ := hS
  have s0 := hO.1
  rw [show (290 : Int) + 1 = 291 by decide] at k1 n1 f7
  unfold fX6_scrawlOver
  simp (disch := omega) only [w32_eq, w64_eq, chk_T, chk_t, lt, lm, ob, Int.add_zero, Int.zero_add, true_and, and_true, if_true, if_false, ]
  refine Ev_bind (Ev_lop (P := fun μ' => Fw (fun x => x = 291) μ μ' ∧ ∀ i, 0 ≤ i → i < s 0 → μ' 291 i = sw2 (sw1 s seed e i)) (fun t => (0 ≤ t.2.1 ∧ t.2.1 ≤ s 0) ∧ t.1 = sd seed t.2.1.toNat ∧ Fw (fun x => x = 291) μ t.2.2 ∧ (∀ i, 0 ≤ i → i < t.2.1 → t.2.2 291 i = sw2 (sw1 s seed e i)) ∧ ∀ i, t.2.1 ≤ i → i < s 0 → t.2.2 291 i = s (7 + i)) (fun t => (s 0 - t.2.1).toNat) ⟨(by first | omega | (dsimp only; omega) | (dsimp only)), rfl, Fw.rf, fun i a c => by dsimp only at c; omega, fun i a c => (hs i a c).1⟩ (by unfold FU; dsimp only; omega) ?_) ?_
  · rintro ⟨v3, v5, μ1⟩ ⟨q1, q2, q3, q4, q5⟩
    dsimp only at q1 q2 q3 q4 q5 ⊢
    have r0 : μ1 290 = μ 290 := q3 290 (by decide)
    unfold sX6_scrawlOver_12
    dsimp only
    simp (disch := omega) only [w32_eq, w64_eq, chk_T, chk_t, lt, lm, ob, Int.add_zero, Int.zero_add, true_and, and_true, if_true, if_false, K290, r0, e0, f7]
    refine Ev_ite (fun w => Ev_out ⟨q3, fun i a c => q4 i a (by omega)⟩) (fun w => ?_)
    rw [if_neg (by omega), if_neg (by omega)]
    have hv := q5 v5 (Int.le_refl _) (by omega)
    have hy : w32 (w32 (v3 * 1103515245) + 12345) = sd seed (v5.toNat + 1) := by rw [q2]; rfl
    rw [hy]
    have tb := tm_b (x := iushr (sd seed (v5.toNat + 1)) 16) he
    have h7 := hT v5 q1.1 (by omega)
    have h7' := ((hO.2.2.2.2.2.2 v5 q1.1 (by omega)).1).1
    generalize hz : (iushr (sd seed (v5.toNat + 1)) 16).tmod (2 * e + 1) = z at *
    simp (disch := omega) only [w32_eq, w64_eq, chk_T, chk_t, lt, lm, ob, Int.add_zero, Int.zero_add, true_and, and_true, if_true, if_false, k1, n1, hv, hz]
    have ey : imin (imax (10 * s (7 + v5) + z - e) 1) 99 = sw2 (sw1 s seed e v5) := by
      unfold imin imax sw2 sw1; rw [hz]
      split <;> split <;> omega
    rw [ey]
    refine Ev_in ⟨(by first | omega | (dsimp only; omega) | (dsimp only)), ?_, q3.st rfl, fun i a c => ?_, fun i a c => ?_⟩ (by first | omega | (dsimp only; omega) | (dsimp only))
    · dsimp only; rw [show (v5 + 1).toNat = v5.toNat + 1 by omega]
    · dsimp only at c ⊢
      by_cases ei : i = v5
      · subst ei; rw [mst_s]
      · rw [mst_j ei]; exact q4 i a (by omega)
    · dsimp only at a ⊢
      rw [mst_j (by omega)]; exact q5 i (by omega) c
  · rintro μ1 ⟨f1, h1⟩
    have r0 : μ1 290 = μ 290 := f1 290 (by decide)
    have wo : ∀ i, i ≠ 1 → mst μ1 290 1 (2 * e) 290 i = μ 290 i := fun i hi => by rw [mst_j hi, r0]
    refine Ev_some ⟨(f1.mo (fun x hx => by unfold dR; omega)).st (by unfold dR; decide), ⟨⟨kk, ⟨k1, n1⟩, ⟨k2, n2⟩⟩, ⟨by rw [wo 7 (by decide)]; exact f7, by rw [wo 8 (by decide)]; exact f8⟩, ⟨?_, ?_, ?_, ?_, ?_, ?_, ?_⟩, fun i i0 i1 => ?_⟩, ?_, ?_, ?_⟩
    · rw [wo 0 (by decide), sw_0]; exact e0
    · rw [mst_s, sw_1]
    · rw [wo 2 (by decide), sw_n (by decide) (by omega)]; exact e2
    · rw [wo 3 (by decide), sw_n (by decide) (by omega)]; exact e3
    · rw [wo 4 (by decide), sw_n (by decide) (by omega)]; exact e4
    · rw [wo 5 (by decide), sw_n (by decide) (by omega)]; exact e5
    · rw [wo 6 (by decide), sw_n (by decide) (by omega)]; exact e6
    · rw [sw_0] at i1
      rw [sw_h i0 i1, sw_n (x := 19 + i) (by omega) (by omega), mst_n (by decide), mst_n (by decide)]
      refine ⟨h1 i i0 i1, ?_⟩
      rw [f1 _ (by decide)]; exact (hs i i0 i1).2
    · rw [wo 2 (by decide)]; exact hB.1
    · rw [wo 3 (by decide)]; exact hB.2.1
    · rw [wo 4 (by decide)]; exact hB.2.2
end
section
variable {μ : Mm} {p st n l z seed e : Int} {g : Int → Int}
theorem r_scrawls (hM : Md μ) (hG : G μ l g) (hL : LdOk g) (hp : Pl g p) (hH : Hp μ g p) (hs : 0 ≤ st ∧ st < hN g p) (hn : 1 ≤ n ∧ n ≤ 12 ∧ n ≤ hN g p) (hz : 1110 ≤ z ∧ z ≤ 4960) (he : 0 ≤ e ∧ e ≤ 20) : Ev (fX11_scrawls 20000 l p st n seed e z μ) (fun μ' => Fr [20001] [29] μ μ' ∧ Gs μ' z (sw (dw g p st n) seed e) ∧ ∀ x, x < z ∨ z + 32 ≤ x → μ' 20001 x = μ 20001 x) := by
  unfold fX11_scrawls
  simp (disch := omega) only [w32_eq, w64_eq, chk_T, chk_t, lt, lm, ob, Int.add_zero, Int.zero_add, true_and, and_true, if_true, if_false, K20000, K20001, K20002, K20003, K20004, K20005, K20006, K20007, K20008, K20009, K20010, K20011, K20012, K20013, K20014, K20015, K20016, K20017, K20018, K20019, N20001, N20002, N20003, N20004, N20005, N20006, N20007, N20008, N20009, N20010, N20011, N20012, N20013, N20014, N20015, N20016, N20017, N20018, N20019, ]
  refine Ev_bind (r_draws hM hG hL hp hH hs hn hz) (fun μ1 ⟨f1, S1, o1⟩ => ?_)
  have M1 := f1.md hM (by decide)
  have M2 : Md (mst μ1 20000 29 seed) := (Fr.fld (R := []) (L := [29]) rfl (by decide)).md M1 (by decide)
  have k0 : ∀ x, mst μ1 20000 29 seed 20001 x = μ1 20001 x := fun x => by rw [mst_n (by decide)]
  have f2 : Fr [20001] [29] μ (mst μ1 20000 29 seed) := (f1.mo (by decide) (by decide)).tr (Fr.fld rfl (by decide))
  have s9 : mst μ1 20000 29 seed 20000 29 = seed := by rw [mst_s]
  generalize mst μ1 20000 29 seed = μ2 at *
  refine Ev_bind (Ev_lopF (pj := pjX11_scrawls_20) (P := fun μ' => Fr [20001] [29] μ2 μ' ∧ (∀ i, 0 ≤ i → i < n → μ' 20001 (z + 7 + i) = sw2 (sw1 (dw g p st n) seed e i)) ∧ ∀ x, x < z + 7 ∨ z + 7 + n ≤ x → μ' 20001 x = μ1 20001 x) (fun s t h hM => frsX11_scrawls_20 h hM) (by decide) M2 (fun t => (0 ≤ t.1 ∧ t.1 ≤ n) ∧ t.2 20000 29 = sd seed t.1.toNat ∧ (∀ i, 0 ≤ i → i < t.1 → t.2 20001 (z + 7 + i) = sw2 (sw1 (dw g p st n) seed e i)) ∧ ∀ x, x < z + 7 ∨ z + 7 + t.1 ≤ x → t.2 20001 x = μ1 20001 x) (fun t => (n - t.1).toNat) ⟨(by first | omega | (dsimp only; omega) | (dsimp only)), s9, fun i a c => by dsimp only at c; omega, fun x _ => k0 x⟩ (by unfold FU; dsimp only; omega) ?_) ?_
  · rintro ⟨v8, μ3⟩ M3 F3 ⟨q1, q2, q3, q4⟩
    replace M3 : Md μ3 := M3
    dsimp only at q1 q2 q3 q4 ⊢
    unfold sX11_scrawls_20
    dsimp only
    refine Ev_ite (fun w => Ev_out (fun f => ⟨f, fun i a c => q3 i a (by omega), fun x hx => q4 x (by omega)⟩)) (fun w => ?_)
    have hy : w32 (w32 (sd seed v8.toNat * 1103515245) + 12345) = sd seed (v8.toNat + 1) := rfl
    have tb := tm_b (x := iushr (sd seed (v8.toNat + 1)) 16) he
    have db := dwT_b (g := g) (p := p) (st := st) (i := v8) (n := n) (by omega)
    have hv : μ3 20001 (z + 7 + v8) = dwT g p st n v8 := by
      rw [q4 _ (by omega), show z + 7 + v8 = z + (7 + v8) by omega, S1.rd (by omega) (by omega), dw_7 q1.1 (by omega)]
    have e0 : ∀ v, mst μ3 20000 29 v 20000 0 = 20001 := fun v => by rw [mst_j (by decide)]; exact Md_0 M3
    have e1 : ∀ v, mst μ3 20000 29 v 20001 = μ3 20001 := fun v => by rw [mst_n (by decide)]
    unfold fX11_drawn
    simp (disch := omega) only [w32_eq, w64_eq, chk_T, chk_t, lt, lm, ob, Int.add_zero, Int.zero_add, true_and, and_true, if_true, if_false, K20000, K20001, K20002, K20003, K20004, K20005, K20006, K20007, K20008, K20009, K20010, K20011, K20012, K20013, K20014, K20015, K20016, K20017, K20018, K20019, N20001, N20002, N20003, N20004, N20005, N20006, N20007, N20008, N20009, N20010, N20011, N20012, N20013, N20014, N20015, N20016, N20017, N20018, N20019, Md_0 M3, q2, hy, mst_s, e0]
    rw [hv]
    generalize hz' : (iushr (sd seed (v8.toNat + 1)) 16).tmod (2 * e + 1) = zz at *
    have fin : ∀ y, y = sw2 (sw1 (dw g p st n) seed e v8) → Ev (some (Sum.inl (v8 + 1, mst (mst μ3 20000 29 (sd seed (v8.toNat + 1))) 20001 (z + 7 + v8) y) : (Int × Mm) ⊕ Mm)) (Nx (fun t => (0 ≤ t.1 ∧ t.1 ≤ n) ∧ t.2 20000 29 = sd seed t.1.toNat ∧ (∀ i, 0 ≤ i → i < t.1 → t.2 20001 (z + 7 + i) = sw2 (sw1 (dw g p st n) seed e i)) ∧ ∀ x, x < z + 7 ∨ z + 7 + t.1 ≤ x → t.2 20001 x = μ1 20001 x) (fun t => (n - t.1).toNat) (fun r => Fr [20001] [29] (pjX11_scrawls_20 (.inl (0, μ2))) (pjX11_scrawls_20 (.inr r)) → Fr [20001] [29] μ2 r ∧ (∀ i, 0 ≤ i → i < n → r 20001 (z + 7 + i) = sw2 (sw1 (dw g p st n) seed e i)) ∧ ∀ x, x < z + 7 ∨ z + 7 + n ≤ x → r 20001 x = μ1 20001 x) (n - v8).toNat) := by
      intro y hy'
      refine Ev_in ⟨(by first | omega | (dsimp only; omega) | (dsimp only)), ?_, fun i a c => ?_, fun x hx => ?_⟩ (by first | omega | (dsimp only; omega) | (dsimp only))
      · dsimp only; rw [mst_n (by decide), mst_s, show (v8 + 1).toNat = v8.toNat + 1 by omega]
      · dsimp only at c ⊢
        by_cases ei : i = v8
        · subst ei; rw [mst_s]; exact hy'
        · rw [mst_j (by omega), e1]; exact q3 i a (by omega)
      · dsimp only at hx ⊢
        rw [mst_j (by omega), e1]; exact q4 x (by omega)
    have es : sw1 (dw g p st n) seed e v8 = 10 * dwT g p st n v8 + zz - e := by unfold sw1; rw [hz', dw_7 q1.1 (by omega)]
    try simp (disch := omega) only [w32_eq, w64_eq, chk_T, chk_t, lt, lm, ob, Int.add_zero, Int.zero_add, true_and, and_true, if_true, if_false, ]
    refine Ev_ite (fun w1 => Ev_ite (fun w2 => ?_) (fun w2 => ?_)) (fun w1 => ?_)
    · try simp (disch := omega) only [w32_eq, w64_eq, chk_T, chk_t, lt, lm, ob, Int.add_zero, Int.zero_add, true_and, and_true, if_true, if_false, e0]
      exact fin _ (by rw [es]; unfold sw2; rw [if_neg (by omega), if_neg (by omega)])
    · try simp (disch := omega) only [w32_eq, w64_eq, chk_T, chk_t, lt, lm, ob, Int.add_zero, Int.zero_add, true_and, and_true, if_true, if_false, e0]
      exact fin _ (by rw [es]; unfold sw2; rw [if_neg (by omega), if_pos (by omega)])
    · try simp (disch := omega) only [w32_eq, w64_eq, chk_T, chk_t, lt, lm, ob, Int.add_zero, Int.zero_add, true_and, and_true, if_true, if_false, e0]
      exact fin _ (by rw [es]; unfold sw2; rw [if_pos (by omega)])
  · rintro μ3 ⟨f3, h3, o3⟩
    have M3 := f3.md M2 (by decide)
    simp (disch := omega) only [w32_eq, w64_eq, chk_T, chk_t, lt, lm, ob, Int.add_zero, Int.zero_add, true_and, and_true, if_true, if_false, K20000, K20001, K20002, K20003, K20004, K20005, K20006, K20007, K20008, K20009, K20010, K20011, K20012, K20013, K20014, K20015, K20016, K20017, K20018, K20019, N20001, N20002, N20003, N20004, N20005, N20006, N20007, N20008, N20009, N20010, N20011, N20012, N20013, N20014, N20015, N20016, N20017, N20018, N20019, Md_0 M3]
    refine Ev_some ⟨(f2.tr f3).tr (Fr.row rfl rfl (by decide) (by decide)), ⟨hz, fun i a c => ?_⟩, fun x hx => ?_⟩
    · by_cases x1 : i = 1
      · subst x1; rw [mst_s, sw_1]
      · rw [mst_j (by omega)]
        by_cases x7 : 7 ≤ i ∧ i < 7 + n
        · have := h3 (i - 7) (by omega) (by omega)
          rw [show z + 7 + (i - 7) = z + i by omega] at this
          rw [this]
          have w := sw_h (s := dw g p st n) (seed := seed) (e := e) (i := i - 7) (by omega) (by rw [dw_0]; omega)
          rw [show 7 + (i - 7) = i by omega] at w
          exact w.symm
        · rw [o3 _ (by omega), S1.rd a c, sw_n x1 (by rw [dw_0]; omega)]
    · rw [mst_j (by omega), o3 x (by omega)]; exact o1 x hx
end
