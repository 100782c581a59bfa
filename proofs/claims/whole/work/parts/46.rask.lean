/-! ===== the reference answers: what is seen ===== -/
theorem Ev_cnt {step : (Int × Int) → Option ((Int × Int) ⊕ Int)} {P : Int → Prop} {n : Int} (h0 : 0 ≤ n) (hn : n < 1000000) (hs : ∀ i a, 0 ≤ i → i < n → 0 ≤ a → a ≤ i → Ev (step (a, i)) (fun t => t = .inl (a + bi (P i), i + 1))) (he : ∀ a, 0 ≤ a → a ≤ n → Ev (step (a, n)) (fun t => t = .inr a)) : Ev (lop step FU (0, 0)) (fun r => r = ct P n.toNat) := by
  refine Ev_lop (P := fun r => r = ct P n.toNat) (fun s => (0 ≤ s.2 ∧ s.2 ≤ n) ∧ s.1 = ct P s.2.toNat) (fun s => (n - s.2).toNat) ⟨(by first | omega | (dsimp only; omega) | (dsimp only)), rfl⟩ (by unfold FU; dsimp only; omega) ?_
  rintro ⟨a, i⟩ ⟨h1, h2⟩
  dsimp only at h1 h2 ⊢
  have cb := ct_b P i.toNat
  by_cases q : i < n
  · obtain ⟨t, e, ht⟩ := hs i a h1.1 q (by omega) (by omega)
    refine ⟨t, e, ?_⟩
    subst ht
    have es := ct_s (P := P) h1.1
    exact ⟨⟨(by first | omega | (dsimp only; omega) | (dsimp only)), by dsimp only; rw [es, h2]⟩, (by first | omega | (dsimp only; omega) | (dsimp only))⟩
  · have hi : i = n := by omega
    subst hi
    obtain ⟨t, e, ht⟩ := he a (by omega) (by omega)
    refine ⟨t, e, ?_⟩
    subst ht; exact h2
section
variable {μ : Mm} {b : Int → Int}
theorem rr_rise (hM : Md μ) (hb : μ 20001 = b) (hA : AOk b) (n p q : Int) : fX11_rise 20000 n p q μ = some (zzRise b n p q) := by
  have a0 := hA.1
  unfold fX11_rise zzRise
  simp (disch := omega) only [w32_eq, w64_eq, chk_T, chk_t, lt, lm, ob, Int.add_zero, Int.zero_add, true_and, and_true, if_true, if_false, K20000, K20001, K20002, K20003, K20004, K20005, K20006, K20007, K20008, K20009, K20010, K20011, K20012, K20013, K20014, K20015, K20016, K20017, K20018, K20019, N20001, N20002, N20003, N20004, N20005, N20006, N20007, N20008, N20009, N20010, N20011, N20012, N20013, N20014, N20015, N20016, N20017, N20018, N20019, r_areTwo hM hb hA, bi_if]
  by_cases z : isP b n p ∧ Pl (lg b n) q ∧ p ≠ q
  · have nn : n = 0 ∨ n = 1 := by have := z.1.1.1; have := z.1.1.2; omega
    have hD := hA.2.2.2.2.1 n z.1.1.1 z.1.1.2
    rw [sel_t z, sel_t z, r_placeOf nn]
    simp only [ob]
    rw [r_riseOf hM (G_lg hb nn) hD z.1.2 z.2.1]
    simp only [ob]
  · rw [sel_f z, sel_f z]
theorem rr_seen (hM : Md μ) (hb : μ 20001 = b) (hA : AOk b) (n p q : Int) : fX11_seen 20000 n p q μ = some (zzSeen b n p q) := by
  have a0 := hA.1
  unfold fX11_seen zzSeen
  simp (disch := omega) only [w32_eq, w64_eq, chk_T, chk_t, lt, lm, ob, Int.add_zero, Int.zero_add, true_and, and_true, if_true, if_false, K20000, K20001, K20002, K20003, K20004, K20005, K20006, K20007, K20008, K20009, K20010, K20011, K20012, K20013, K20014, K20015, K20016, K20017, K20018, K20019, N20001, N20002, N20003, N20004, N20005, N20006, N20007, N20008, N20009, N20010, N20011, N20012, N20013, N20014, N20015, N20016, N20017, N20018, N20019, r_areTwo hM hb hA, bi_if]
  by_cases z : isP b n p ∧ Pl (lg b n) q ∧ p ≠ q
  · have nn : n = 0 ∨ n = 1 := by have := z.1.1.1; have := z.1.1.2; omega
    have hD := hA.2.2.2.2.1 n z.1.1.1 z.1.1.2
    rw [sel_t z, sel_t z, r_placeOf nn]
    simp only [ob]
    rw [r_isSeen hM (G_lg hb nn) hD z.1.2 z.2.1 z.2.2]
    simp only [ob, bi_if]
    by_cases y : zSeen (lg b n) p q
    · rw [sel_t y, bi_t y]
    · rw [sel_f y, bi_f y]
  · rw [sel_f z, sel_f z]
/-- a question about one place -/
theorem r_at {α : Type} (hM : Md μ) (hb : μ 20001 = b) (hA : AOk b) {n p : Int} {x : Option α} {f : Int → Option α} {Q : α → Prop} (h0 : ¬isP b n p → Ev x Q) (h1 : isP b n p → LdOk (lg b n) → G μ (710 + 200 * n) (lg b n) → (n = 0 ∨ n = 1) → Ev (f (710 + 200 * n)) Q) : Ev (chk (KD 20000 = 11) ((fX11_isPlace 20000 n p μ).bind fun r2 => if r2 = 0 then x else (fX11_placeOf 0 n).bind f)) Q := by
  have a0 := hA.1
  simp (disch := omega) only [w32_eq, w64_eq, chk_T, chk_t, lt, lm, ob, Int.add_zero, Int.zero_add, true_and, and_true, if_true, if_false, K20000, K20001, K20002, K20003, K20004, K20005, K20006, K20007, K20008, K20009, K20010, K20011, K20012, K20013, K20014, K20015, K20016, K20017, K20018, K20019, N20001, N20002, N20003, N20004, N20005, N20006, N20007, N20008, N20009, N20010, N20011, N20012, N20013, N20014, N20015, N20016, N20017, N20018, N20019, r_isPlace hM hb hA, bi_if]
  by_cases z : isP b n p
  · have nn : n = 0 ∨ n = 1 := by have := z.1.1; have := z.1.2; omega
    have hD := hA.2.2.2.2.1 n z.1.1 z.1.2
    rw [sel_t z, r_placeOf nn]
    simp only [ob]
    exact h1 z hD (G_lg hb nn) nn
  · rw [sel_f z]; exact h0 z
theorem rr_ray (hM : Md μ) (hDt : Dt μ) (hb : μ 20001 = b) (hA : AOk b) (n p k : Int) : Ev (fX11_ray 20000 n p k μ) (fun r => r.1 = zzRay b n p k) := by
  unfold fX11_ray zzRay
  refine r_at hM hb hA (fun z => Ev_some (by rw [sel_f z])) (fun z hD hG nn => ?_)
  rw [sel_t z]
  refine Ev_bind (r_looks hM hG hDt hD z.2) (fun μ1 ⟨f1, n1, t1⟩ => ?_)
  have nb := nR_b hD z.2
  have M1 := f1.md hM (by decide)
  refine Ev_ite (fun e => Ev_some (by dsimp only; rw [if_pos e]; exact n1)) (fun e => ?_)
  rw [if_neg e]
  simp (disch := omega) only [w32_eq, w64_eq, chk_T, chk_t, lt, lm, ob, Int.add_zero, Int.zero_add, true_and, and_true, if_true, if_false, K20000, K20001, K20002, K20003, K20004, K20005, K20006, K20007, K20008, K20009, K20010, K20011, K20012, K20013, K20014, K20015, K20016, K20017, K20018, K20019, N20001, N20002, N20003, N20004, N20005, N20006, N20007, N20008, N20009, N20010, N20011, N20012, N20013, N20014, N20015, N20016, N20017, N20018, N20019, n1, Md_15 M1, isIn_0]
  by_cases y : 0 ≤ k ∧ k < nR (lg b n) p
  · rw [if_neg (by omega), sel_t y]
    exact Ev_some (t1 k y.1 y.2)
  · rw [if_pos (by omega), sel_f y]; exact Ev_some rfl
theorem rr_hump (hM : Md μ) (hDt : Dt μ) (hb : μ 20001 = b) (hA : AOk b) (n p k : Int) : Ev (fX11_hump 20000 n p k μ) (fun r => r.1 = zzHump b n p k) := by
  unfold fX11_hump zzHump
  refine r_at hM hb hA (fun z => Ev_some (by rw [sel_f z])) (fun z hD hG nn => ?_)
  rw [sel_t z]
  refine Ev_bind (r_surveyAt hM hG hDt hD z.2) (fun μ1 ⟨f1, h1, _⟩ => ?_)
  have nb := hN_b hD z.2; have bp := Pl.i hD z.2
  have M1 := f1.md hM (by decide)
  simp (disch := omega) only [w32_eq, w64_eq, chk_T, chk_t, lt, lm, ob, Int.add_zero, Int.zero_add, true_and, and_true, if_true, if_false, K20000, K20001, K20002, K20003, K20004, K20005, K20006, K20007, K20008, K20009, K20010, K20011, K20012, K20013, K20014, K20015, K20016, K20017, K20018, K20019, N20001, N20002, N20003, N20004, N20005, N20006, N20007, N20008, N20009, N20010, N20011, N20012, N20013, N20014, N20015, N20016, N20017, N20018, N20019, Md_16 M1, Md_17 M1, h1.1, isIn_0]
  refine Ev_ite (fun e => Ev_some (by dsimp only; rw [if_pos e])) (fun e => ?_)
  rw [if_neg e]
  by_cases y : 0 ≤ k ∧ k < hN (lg b n) p
  · rw [if_neg (by omega), sel_t y]
    exact Ev_some (h1.2 k y.1 y.2)
  · rw [if_pos (by omega), sel_f y]; exact Ev_some rfl
theorem rr_steeper (hM : Md μ) (hDt : Dt μ) (hb : μ 20001 = b) (hA : AOk b) (n p i k : Int) : Ev (fX11_steeper 20000 n p i k μ) (fun r => r.1 = zzSteeper b n p i k) := by
  unfold fX11_steeper zzSteeper
  refine r_at hM hb hA (fun z => Ev_some (by rw [sel_f (fun y => z y.1)])) (fun z hD hG nn => ?_)
  refine Ev_bind (r_surveyAt hM hG hDt hD z.2) (fun μ1 ⟨f1, h1, _⟩ => ?_)
  have nb := hN_b hD z.2; have bp := Pl.i hD z.2
  have M1 := f1.md hM (by decide)
  have G1 := hG.fr f1 (by decide)
  simp (disch := omega) only [w32_eq, w64_eq, chk_T, chk_t, lt, lm, ob, Int.add_zero, Int.zero_add, true_and, and_true, if_true, if_false, K20000, K20001, K20002, K20003, K20004, K20005, K20006, K20007, K20008, K20009, K20010, K20011, K20012, K20013, K20014, K20015, K20016, K20017, K20018, K20019, N20001, N20002, N20003, N20004, N20005, N20006, N20007, N20008, N20009, N20010, N20011, N20012, N20013, N20014, N20015, N20016, N20017, N20018, N20019, Md_16 M1, Md_17 M1, h1.1, isIn_0, r_placeOf nn]
  by_cases y : 0 ≤ i ∧ i < hN (lg b n) p
  · rw [if_neg (by omega)]
    by_cases x : 0 ≤ k ∧ k < hN (lg b n) p
    · rw [if_neg (by omega), sel_t ⟨z, y, x⟩]
      have A := hT_P hD z.2 y.1 y.2; have B := hT_P hD z.2 x.1 x.2
      simp (disch := omega) only [w32_eq, w64_eq, chk_T, chk_t, lt, lm, ob, Int.add_zero, Int.zero_add, true_and, and_true, if_true, if_false, K20000, K20001, K20002, K20003, K20004, K20005, K20006, K20007, K20008, K20009, K20010, K20011, K20012, K20013, K20014, K20015, K20016, K20017, K20018, K20019, N20001, N20002, N20003, N20004, N20005, N20006, N20007, N20008, N20009, N20010, N20011, N20012, N20013, N20014, N20015, N20016, N20017, N20018, N20019, h1.2 i y.1 y.2, h1.2 k x.1 x.2, r_steep M1 G1 hD z.2 A.1 B.1]
      unfold sg
      refine Ev_ite (fun e => ?_) (fun e => ?_)
      · rw [if_pos e]; refine Ev_ite (fun e2 => Ev_some ?_) (fun e2 => Ev_some ?_)
        · rw [if_pos e2]
        · rw [if_neg e2]
      · rw [if_neg e]; exact Ev_some rfl
    · rw [if_pos (by omega), sel_f (fun w => x w.2.2)]; exact Ev_some rfl
  · rw [if_pos (by omega), sel_f (fun w => y w.2.1)]; exact Ev_some rfl
theorem r_sees {n p : Int} (hM : Md μ) (hb : μ 20001 = b) (hA : AOk b) (z : isP b n p) : fX11_sees 20000 n p μ = some (cS (lg b n) p) := by
  apply Ev.eq
  unfold fX11_sees
  refine r_at hM hb hA (fun y => absurd z y) (fun z hD hG nn => ?_)
  have nb := np_b hD
  have e : ct (vS (lg b n) p) (np (lg b n)).toNat = cS (lg b n) p := ((ct_flat (c := vS (lg b n) p) (v := fun k => k) (a := (np (lg b n)).toNat) 144 (by omega) (fun i i0 i1 y => by have := y.1.2; omega)).1).symm
  rw [← e]
  refine Ev_bind (Ev_cnt (P := vS (lg b n) p) (n := np (lg b n)) (by omega) (by omega) (fun i a i0 i1 a0 a1 => ?_) (fun a a0 a1 => ?_)) (fun r h => Ev_some h)
  · unfold sX11_sees_23
    dsimp only
    simp (disch := omega) only [w32_eq, w64_eq, chk_T, chk_t, lt, lm, ob, Int.add_zero, Int.zero_add, true_and, and_true, if_true, if_false, K20000, K20001, K20002, K20003, K20004, K20005, K20006, K20007, K20008, K20009, K20010, K20011, K20012, K20013, K20014, K20015, K20016, K20017, K20018, K20019, N20001, N20002, N20003, N20004, N20005, N20006, N20007, N20008, N20009, N20010, N20011, N20012, N20013, N20014, N20015, N20016, N20017, N20018, N20019, r_placesOf hM hG hD]
    rw [if_neg (by omega)]
    have hi : Pl (lg b n) i := ⟨i0, i1⟩
    refine Ev_ite (fun y => Ev_some ?_) (fun y => ?_)
    · rw [bi_f (fun v => v.2.1 y), Int.add_zero]
    · rw [r_isSeen hM hG hD z.2 hi (Ne.symm y)]
      simp only [ob, bi_if]
      by_cases v : zSeen (lg b n) p i
      · rw [sel_t v, bi_t (c := vS (lg b n) p i) ⟨hi, y, v⟩]; exact Ev_some rfl
      · rw [sel_f v, bi_f (fun w => v w.2.2), Int.add_zero]; exact Ev_some rfl
  · unfold sX11_sees_23
    dsimp only
    simp (disch := omega) only [w32_eq, w64_eq, chk_T, chk_t, lt, lm, ob, Int.add_zero, Int.zero_add, true_and, and_true, if_true, if_false, K20000, K20001, K20002, K20003, K20004, K20005, K20006, K20007, K20008, K20009, K20010, K20011, K20012, K20013, K20014, K20015, K20016, K20017, K20018, K20019, N20001, N20002, N20003, N20004, N20005, N20006, N20007, N20008, N20009, N20010, N20011, N20012, N20013, N20014, N20015, N20016, N20017, N20018, N20019, r_placesOf hM hG hD]
    rw [if_pos (by omega)]; exact Ev_some rfl
theorem rr_sees (hM : Md μ) (hb : μ 20001 = b) (hA : AOk b) (n p : Int) : fX11_sees 20000 n p μ = some (zzSees b n p) := by
  unfold zzSees
  by_cases z : isP b n p
  · rw [sel_t z]; exact r_sees hM hb hA z
  · unfold fX11_sees
    simp (disch := omega) only [w32_eq, w64_eq, chk_T, chk_t, lt, lm, ob, Int.add_zero, Int.zero_add, true_and, and_true, if_true, if_false, K20000, K20001, K20002, K20003, K20004, K20005, K20006, K20007, K20008, K20009, K20010, K20011, K20012, K20013, K20014, K20015, K20016, K20017, K20018, K20019, N20001, N20002, N20003, N20004, N20005, N20006, N20007, N20008, N20009, N20010, N20011, N20012, N20013, N20014, N20015, N20016, N20017, N20018, N20019, r_isPlace hM hb hA, bi_if]
    rw [sel_f z, sel_f z]
theorem r_isL (hM : Md μ) (hb : μ 20001 = b) (hA : AOk b) (n : Int) : fX11_isOf 20000 0 n μ = some (bi (isL b n)) := by
  have a0 := hA.1
  exact r_isOf hM hb (by decide) (by decide) (by omega) (by omega)
theorem rr_most (hM : Md μ) (hb : μ 20001 = b) (hA : AOk b) (n : Int) : Ev (fX11_most 20000 n μ) (ZMost b n) := by
  have a0 := hA.1
  unfold fX11_most
  simp (disch := omega) only [w32_eq, w64_eq, chk_T, chk_t, lt, lm, ob, Int.add_zero, Int.zero_add, true_and, and_true, if_true, if_false, K20000, K20001, K20002, K20003, K20004, K20005, K20006, K20007, K20008, K20009, K20010, K20011, K20012, K20013, K20014, K20015, K20016, K20017, K20018, K20019, N20001, N20002, N20003, N20004, N20005, N20006, N20007, N20008, N20009, N20010, N20011, N20012, N20013, N20014, N20015, N20016, N20017, N20018, N20019, r_isL hM hb hA, bi_if]
  by_cases z : isL b n
  · have nn : n = 0 ∨ n = 1 := by have := z.1; have := z.2; omega
    have hD := hA.2.2.2.2.1 n z.1 z.2
    have hG := G_lg hb nn
    have nb := np_b hD
    have cb : ∀ p, 0 ≤ cS (lg b n) p := fun p => (ct_b _ _).1
    rw [sel_t z]
    refine Ev_bind (Ev_lop (P := Mx (lg b n) (np (lg b n))) (fun s => (0 ≤ s.2.2 ∧ s.2.2 ≤ np (lg b n)) ∧ (s.2.2 = 0 ∧ s.1 = 0 ∧ s.2.1 = -1 ∨ 0 < s.2.2 ∧ s.2.1 = cS (lg b n) s.1 ∧ Mx (lg b n) s.2.2 s.1)) (fun s => (np (lg b n) - s.2.2).toNat) ⟨(by first | omega | (dsimp only; omega) | (dsimp only)), .inl ⟨rfl, rfl, rfl⟩⟩ (by unfold FU; dsimp only; omega) ?_) (fun r h => Ev_some (.inl ⟨z, h⟩))
    rintro ⟨v2, v3, v4⟩ ⟨h1, h2⟩
    dsimp only at h1 h2 ⊢
    unfold sX11_most_18
    dsimp only
    simp (disch := omega) only [w32_eq, w64_eq, chk_T, chk_t, lt, lm, ob, Int.add_zero, Int.zero_add, true_and, and_true, if_true, if_false, K20000, K20001, K20002, K20003, K20004, K20005, K20006, K20007, K20008, K20009, K20010, K20011, K20012, K20013, K20014, K20015, K20016, K20017, K20018, K20019, N20001, N20002, N20003, N20004, N20005, N20006, N20007, N20008, N20009, N20010, N20011, N20012, N20013, N20014, N20015, N20016, N20017, N20018, N20019, r_placeOf nn, r_placesOf hM hG hD]
    refine Ev_ite (fun q => Ev_out ?_) (fun q => ?_)
    · rcases h2 with w | ⟨_, _, w⟩
      · omega
      · have e : v4 = np (lg b n) := by omega
        rw [e] at w; exact w
    · rw [r_sees hM hb hA (p := v4) ⟨z, by omega, by omega⟩]
      simp only [ob]
      have c4 := cb v4
      refine Ev_ite (fun y => Ev_in ⟨(by first | omega | (dsimp only; omega) | (dsimp only)), .inr ⟨(by first | omega | (dsimp only; omega) | (dsimp only)), rfl, ?_⟩⟩ (by first | omega | (dsimp only; omega) | (dsimp only))) (fun y => Ev_in ⟨(by first | omega | (dsimp only; omega) | (dsimp only)), .inr ?_⟩ (by first | omega | (dsimp only; omega) | (dsimp only)))
      · refine ⟨⟨(by first | omega | (dsimp only; omega) | (dsimp only)), (by first | omega | (dsimp only; omega) | (dsimp only))⟩, fun q a c => ?_, fun q a c => ?_⟩
        · dsimp only at c ⊢
          rcases h2 with w | ⟨_, w1, w⟩
          · omega
          · have := w.2.2 q a c; omega
        · dsimp only at c ⊢
          by_cases e : q = v4
          · subst e; exact Int.le_refl _
          · rcases h2 with w | ⟨_, w1, w⟩
            · omega
            · have := w.2.2 q a (by omega); omega
      · rcases h2 with w | ⟨w0, w1, w⟩
        · omega
        · have wb := w.1
          refine ⟨(by first | omega | (dsimp only; omega) | (dsimp only)), w1, ⟨(by first | omega | (dsimp only; omega) | (dsimp only)), (by first | omega | (dsimp only; omega) | (dsimp only))⟩, w.2.1, fun q a c => ?_⟩
          dsimp only at c ⊢
          by_cases e : q = v4
          · subst e; omega
          · exact w.2.2 q a (by omega)
  · rw [sel_f z]; exact Ev_some (.inr ⟨z, rfl⟩)
theorem rr_hidden (hM : Md μ) (hb : μ 20001 = b) (hA : AOk b) (n : Int) : fX11_hidden 20000 n μ = some (zzHidden b n) := by
  have a0 := hA.1
  apply Ev.eq
  unfold fX11_hidden zzHidden
  simp (disch := omega) only [w32_eq, w64_eq, chk_T, chk_t, lt, lm, ob, Int.add_zero, Int.zero_add, true_and, and_true, if_true, if_false, K20000, K20001, K20002, K20003, K20004, K20005, K20006, K20007, K20008, K20009, K20010, K20011, K20012, K20013, K20014, K20015, K20016, K20017, K20018, K20019, N20001, N20002, N20003, N20004, N20005, N20006, N20007, N20008, N20009, N20010, N20011, N20012, N20013, N20014, N20015, N20016, N20017, N20018, N20019, r_isL hM hb hA, bi_if]
  by_cases z : isL b n
  · have nn : n = 0 ∨ n = 1 := by have := z.1; have := z.2; omega
    have hD := hA.2.2.2.2.1 n z.1 z.2
    have hG := G_lg hb nn
    have nb := np_b hD
    rw [sel_t z, sel_t z]
    simp (disch := omega) only [w32_eq, w64_eq, chk_T, chk_t, lt, lm, ob, Int.add_zero, Int.zero_add, true_and, and_true, if_true, if_false, K20000, K20001, K20002, K20003, K20004, K20005, K20006, K20007, K20008, K20009, K20010, K20011, K20012, K20013, K20014, K20015, K20016, K20017, K20018, K20019, N20001, N20002, N20003, N20004, N20005, N20006, N20007, N20008, N20009, N20010, N20011, N20012, N20013, N20014, N20015, N20016, N20017, N20018, N20019, r_placeOf nn]
    refine Ev_bind (Ev_cnt (P := hid (lg b n)) (n := np (lg b n)) (by omega) (by omega) (fun q a q0 q1 a0 a1 => ?_) (fun a a0 a1 => ?_)) (fun r h => Ev_some h)
    · unfold sX11_hidden_22
      dsimp only
      simp (disch := omega) only [w32_eq, w64_eq, chk_T, chk_t, lt, lm, ob, Int.add_zero, Int.zero_add, true_and, and_true, if_true, if_false, K20000, K20001, K20002, K20003, K20004, K20005, K20006, K20007, K20008, K20009, K20010, K20011, K20012, K20013, K20014, K20015, K20016, K20017, K20018, K20019, N20001, N20002, N20003, N20004, N20005, N20006, N20007, N20008, N20009, N20010, N20011, N20012, N20013, N20014, N20015, N20016, N20017, N20018, N20019, r_placesOf hM hG hD]
      rw [if_neg (by omega)]
      have hq : Pl (lg b n) q := ⟨q0, q1⟩
      refine Ev_bind (Ev_lop (P := fun r => r = bi (¬hid (lg b n) q)) (fun s => (0 ≤ s.2 ∧ s.2 ≤ np (lg b n)) ∧ s.1 = bi (∃ p, 0 ≤ p ∧ p < s.2 ∧ vS (lg b n) p q)) (fun s => (np (lg b n) - s.2).toNat) ⟨(by first | omega | (dsimp only; omega) | (dsimp only)), ?_⟩ (by unfold FU; dsimp only; omega) ?_) (fun r h => ?_)
      · dsimp only; rw [bi_f]; rintro ⟨p, p0, p1, _⟩; omega
      · rintro ⟨v5, v6⟩ ⟨h1, h2⟩
        dsimp only at h1 h2 ⊢
        unfold sX11_hidden_38
        dsimp only
        simp (disch := omega) only [w32_eq, w64_eq, chk_T, chk_t, lt, lm, ob, Int.add_zero, Int.zero_add, true_and, and_true, if_true, if_false, K20000, K20001, K20002, K20003, K20004, K20005, K20006, K20007, K20008, K20009, K20010, K20011, K20012, K20013, K20014, K20015, K20016, K20017, K20018, K20019, N20001, N20002, N20003, N20004, N20005, N20006, N20007, N20008, N20009, N20010, N20011, N20012, N20013, N20014, N20015, N20016, N20017, N20018, N20019, r_placesOf hM hG hD]
        refine Ev_ite (fun y => Ev_out ?_) (fun y => Ev_ite (fun w => ?_) (fun w => Ev_out ?_))
        · rw [h2]; apply bi_c
          constructor
          · rintro ⟨p, p0, p1, v⟩ h; exact h ⟨p, ⟨p0, by omega⟩, v⟩
          · intro h; apply Classical.byContradiction; intro k; apply h; rintro ⟨p, pp, v⟩; exact k ⟨p, pp.1, by have := pp.2; omega, v⟩
        · have hno : ¬∃ p, 0 ≤ p ∧ p < v6 ∧ vS (lg b n) p q := bi_0.mp (h2.symm.trans w)
          have nxt : ∀ c : Prop, (c ↔ vS (lg b n) v6 q) → bi (∃ p, 0 ≤ p ∧ p < v6 + 1 ∧ vS (lg b n) p q) = bi c := by
            intro c hc; apply bi_c; rw [hc]
            constructor
            · rintro ⟨p, p0, p1, v⟩
              by_cases e : p = v6
              · subst e; exact v
              · exact absurd ⟨p, p0, by omega, v⟩ hno
            · intro v; exact ⟨v6, h1.1, by omega, v⟩
          refine Ev_ite (fun e => Ev_in ⟨(by first | omega | (dsimp only; omega) | (dsimp only)), ?_⟩ (by first | omega | (dsimp only; omega) | (dsimp only))) (fun e => ?_)
          · dsimp only; rw [nxt False ⟨fun h => h.elim, fun v => v.2.1 e.symm⟩, bi_f (fun h => h)]
          · rw [r_isSeen hM hG hD (p := v6) ⟨by omega, by omega⟩ hq e]
            simp only [ob, bi_if]
            by_cases v : zSeen (lg b n) v6 q
            · rw [sel_t v]
              refine Ev_in ⟨(by first | omega | (dsimp only; omega) | (dsimp only)), ?_⟩ (by first | omega | (dsimp only; omega) | (dsimp only))
              dsimp only; rw [nxt True ⟨fun _ => ⟨hq, Ne.symm e, v⟩, fun _ => trivial⟩, bi_t trivial]
            · rw [sel_f v]
              refine Ev_in ⟨(by first | omega | (dsimp only; omega) | (dsimp only)), ?_⟩ (by first | omega | (dsimp only; omega) | (dsimp only))
              dsimp only; rw [nxt False ⟨fun h => h.elim, fun w => v w.2.2⟩, bi_f (fun h => h)]
        · rw [h2] at w
          have : ∃ p, 0 ≤ p ∧ p < v6 ∧ vS (lg b n) p q := by
            apply Classical.byContradiction; intro k; exact w (bi_f k)
          rw [h2, bi_t this, bi_t]
          intro h; obtain ⟨p, p0, p1, v⟩ := this; exact h ⟨p, ⟨p0, by omega⟩, v⟩
      · subst h
        rw [bi_if]
        by_cases y : hid (lg b n) q
        · rw [sel_f (fun w => w y), bi_t y]; exact Ev_some rfl
        · rw [sel_t y, bi_f y, Int.add_zero]; exact Ev_some rfl
    · unfold sX11_hidden_22
      dsimp only
      simp (disch := omega) only [w32_eq, w64_eq, chk_T, chk_t, lt, lm, ob, Int.add_zero, Int.zero_add, true_and, and_true, if_true, if_false, K20000, K20001, K20002, K20003, K20004, K20005, K20006, K20007, K20008, K20009, K20010, K20011, K20012, K20013, K20014, K20015, K20016, K20017, K20018, K20019, N20001, N20002, N20003, N20004, N20005, N20006, N20007, N20008, N20009, N20010, N20011, N20012, N20013, N20014, N20015, N20016, N20017, N20018, N20019, r_placesOf hM hG hD]
      rw [if_pos (by omega)]; exact Ev_some rfl
  · rw [sel_f z, sel_f z]; exact Ev_some rfl
end
