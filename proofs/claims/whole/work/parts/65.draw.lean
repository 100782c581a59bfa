/-! ===== sketches drawn from a place ===== -/
noncomputable def dwT (g : Int → Int) (p st n i : Int) : Int := 1 + ct (fun k => zT g p (hT g p ((st + k) % hN g p)) (hT g p ((st + i) % hN g p)) < 0) n.toNat
noncomputable def dw (g : Int → Int) (p st n : Int) : Int → Int := fun x => if x = 0 then n else if x = 3 then (if n < hN g p then 1 else 0) else if x = 6 then 99 else if 7 ≤ x ∧ x < 7 + n then dwT g p st n (x - 7) else 0
theorem dw_0 {g : Int → Int} {p st n : Int} : dw g p st n 0 = n := by unfold dw; rw [if_pos rfl]
theorem dw_3 {g : Int → Int} {p st n : Int} : dw g p st n 3 = if n < hN g p then 1 else 0 := by unfold dw; rw [if_neg (by decide), if_pos rfl]
theorem dw_6 {g : Int → Int} {p st n : Int} : dw g p st n 6 = 99 := by unfold dw; rw [if_neg (by decide), if_neg (by decide), if_pos rfl]
theorem dw_7 {g : Int → Int} {p st n i : Int} (h0 : 0 ≤ i) (h1 : i < n) : dw g p st n (7 + i) = dwT g p st n i := by
  unfold dw; rw [if_neg (by omega), if_neg (by omega), if_neg (by omega), if_pos (by omega), show 7 + i - 7 = i by omega]
theorem dw_z {g : Int → Int} {p st n x : Int} (h0 : x ≠ 0) (h3 : x ≠ 3) (h6 : x ≠ 6) (h7 : x < 7 ∨ 7 + n ≤ x) : dw g p st n x = 0 := by
  unfold dw; rw [if_neg h0, if_neg h3, if_neg h6, if_neg (by omega)]
theorem dwT_b {g : Int → Int} {p st n i : Int} (hn : 0 ≤ n ∧ n ≤ 12) : 1 ≤ dwT g p st n i ∧ dwT g p st n i ≤ 13 := by
  have := ct_b (fun k => zT g p (hT g p ((st + k) % hN g p)) (hT g p ((st + i) % hN g p)) < 0) n.toNat
  unfold dwT; omega
theorem dw_ok {g : Int → Int} {p st n : Int} (hn : 1 ≤ n ∧ n ≤ 12) : SkOk (dw g p st n) := by
  unfold SkOk
  rw [dw_0, dw_3, dw_6, dw_z (x := 1) (by decide) (by decide) (by decide) (by omega), dw_z (x := 2) (by decide) (by decide) (by decide) (by omega), dw_z (x := 4) (by decide) (by decide) (by decide) (by omega), dw_z (x := 5) (by decide) (by decide) (by decide) (by omega)]
  refine ⟨hn, by omega, .inl rfl, ?_, .inl rfl, by omega, fun i i0 i1 => ?_⟩
  · split
    · exact .inr rfl
    · exact .inl rfl
  · have := dwT_b (g := g) (p := p) (st := st) (i := i) (n := n) (by omega)
    rw [dw_7 i0 i1, dw_z (x := 19 + i) (by omega) (by omega) (by omega) (by omega)]; omega
theorem emod_b {x m : Int} (hm : 0 < m) : 0 ≤ x % m ∧ x % m < m := ⟨Int.emod_nonneg _ (by omega), Int.emod_lt_of_pos _ hm⟩
section
variable {μ : Mm} {ln p st n l z : Int} {g : Int → Int}
theorem SkK_290 : SkK 290 := ⟨by decide, ⟨by decide, by decide⟩, by decide, by decide⟩
theorem K290 : KD 290 = 6 := by decide
def dR (x : Int) : Prop := 290 ≤ x ∧ x ≤ 292
theorem c_less {i : Int} (hL : Li μ ln g p) (hD : LdOk g) (hp : Pl g p) (e0 : μ 290 0 = n) (hs : 0 ≤ st ∧ st < hN g p) (hn : 1 ≤ n ∧ n ≤ 12 ∧ n ≤ hN g p) (hi : 0 ≤ i ∧ i < n) : fX6_lessSteep 290 ln st i μ = some (dwT g p st n i - 1) := by
  have hb := hN_b hD hp
  have hm : 0 < hN g p := by omega
  apply Ev.eq
  unfold fX6_lessSteep
  simp (disch := omega) only [w32_eq, w64_eq, chk_T, chk_t, lt, lm, ob, Int.add_zero, Int.zero_add, true_and, and_true, if_true, if_false, hL.1.k]
  rw [c_rayOfHump hL hD hp (k := st + i) (by omega) (by omega)]
  simp only [ob]
  have bi' := emod_b (x := st + i) hm
  have ri := (hI_ok hD hp bi'.1 bi'.2).1
  refine Ev_bind (Ev_cnt (P := fun k => zT g p (hT g p ((st + k) % hN g p)) (hT g p ((st + i) % hN g p)) < 0) (n := n) (by omega) (by omega) (fun k a k0 k1 a0 a1 => ?_) (fun a a0 a1 => ?_)) (fun r hr => Ev_some (by rw [hr]; unfold dwT; omega))
  · unfold sX6_lessSteep_15
    dsimp only
    have bk := emod_b (x := st + k) hm
    have rk := (hI_ok hD hp bk.1 bk.2).1
    simp (disch := omega) only [w32_eq, w64_eq, chk_T, chk_t, lt, lm, ob, Int.add_zero, Int.zero_add, true_and, and_true, if_true, if_false, K290, e0, hL.1.k, c_rayOfHump hL hD hp (k := st + k) (by omega) (by omega), c_weigh hL.1 hL.2.1 hL.2.2.2.1 hD hp rk ri]
    rw [if_neg (by omega)]
    have e1 : T g p (hI g p ((st + k) % hN g p)) = hT g p ((st + k) % hN g p) := rfl
    have e2 : T g p (hI g p ((st + i) % hN g p)) = hT g p ((st + i) % hN g p) := rfl
    rw [e1, e2]
    refine Ev_ite (fun w => ?_) (fun w => ?_)
    · rw [bi_f (fun v => by have := sg_lt.mpr v; omega), Int.add_zero]; exact Ev_some rfl
    · rw [bi_t (sg_lt.mp (by omega))]; exact Ev_some rfl
  · unfold sX6_lessSteep_15
    dsimp only
    simp (disch := omega) only [w32_eq, w64_eq, chk_T, chk_t, lt, lm, ob, Int.add_zero, Int.zero_add, true_and, and_true, if_true, if_false, K290, e0]
    rw [if_pos (by omega)]; exact Ev_some rfl
theorem c_drawFrom (hF : SkF μ 290) (hL : Li μ ln g p) (hD : LdOk g) (hp : Pl g p) (hs : 0 ≤ st ∧ st < hN g p) (hn : 1 ≤ n ∧ n ≤ 12 ∧ n ≤ hN g p) (dl : ln + 6 < 290 ∨ 292 < ln) : Ev (fX6_drawFrom 290 ln st n μ) (fun μ' => Fw dR μ μ' ∧ Sk μ' 290 (dw g p st n) ∧ SkB μ' 290) := by
  obtain ⟨f7, f8⟩ := hF
  have k1 : KD 291 = 12 := by decide
  have n1 : LN 291 = 12 := by decide
  have k2 : KD 292 = 12 := by decide
  have n2 : LN 292 = 12 := by decide
  have im : imin n 12 = n := by unfold imin; rw [if_neg (by omega)]
  unfold fX6_drawFrom fX6_clear
  simp (disch := omega) only [w32_eq, w64_eq, chk_T, chk_t, lt, lm, ob, Int.add_zero, Int.zero_add, true_and, and_true, if_true, if_false, K290, im]
  have fz : Fw dR μ (mst (mst (mst (mst (mst (mst (mst μ 290 0 0) 290 1 0) 290 2 0) 290 3 0) 290 4 0) 290 5 0) 290 6 99) := by
    repeat first
      | exact Fw.rf
      | apply Fw.st
      | (unfold dR; omega)
  have v0 : ∀ i, (mst (mst (mst (mst (mst (mst (mst μ 290 0 0) 290 1 0) 290 2 0) 290 3 0) 290 4 0) 290 5 0) 290 6 99) 290 i = if i = 6 then 99 else if 0 ≤ i ∧ i ≤ 5 then 0 else μ 290 i := by
    intro i
    by_cases w : 0 ≤ i ∧ i ≤ 6
    · have : i = 0 ∨ i = 1 ∨ i = 2 ∨ i = 3 ∨ i = 4 ∨ i = 5 ∨ i = 6 := by omega
      rcases this with e | e | e | e | e | e | e <;> (subst e; simp [mst])
    · rw [if_neg (by omega), if_neg (by omega)]; simp (disch := omega) only [mst_n, mst_s, mst_j, ]
  generalize mst (mst (mst (mst (mst (mst (mst μ 290 0 0) 290 1 0) 290 2 0) 290 3 0) 290 4 0) 290 5 0) 290 6 99 = μ1 at *
  have e8 : μ1 290 8 = 292 := by rw [v0, if_neg (by decide), if_neg (by decide)]; exact f8
  have e7 : μ1 290 7 = 291 := by rw [v0, if_neg (by decide), if_neg (by decide)]; exact f7
  rw [e8]
  refine Ev_bind (Q := fun μ2 => Fw (fun x => x = 292) μ1 μ2 ∧ ∀ i, 0 ≤ i → i < 12 → μ2 292 i = 0) ?_ ?_
  · refine Ev_bind (c_fill (a := 292) k2 (by rw [n2]; decide)) (fun μ2 ⟨f2, a2, _⟩ => Ev_some ⟨f2, fun i x y => a2 i x (by rw [n2]; exact y)⟩)
  · rintro μ2 ⟨f2, a2⟩
    have f02 : Fw dR μ μ2 := fz.tr (f2.mo (fun x hx => by unfold dR; omega))
    have r290 : μ2 290 = μ1 290 := f2 290 (by decide)
    have L2 : Li μ2 ln g p := hL.fw f02 (fun x a b => by unfold dR; omega)
    have e2 : mst μ2 290 0 n ln 2 = hN g p := by rw [mst_n (by omega)]; exact L2.2.2.1.2.1
    simp (disch := omega) only [w32_eq, w64_eq, chk_T, chk_t, lt, lm, ob, Int.add_zero, Int.zero_add, true_and, and_true, if_true, if_false, hL.1.k, e2]
    have main : ∀ h : Int, h = (if n < hN g p then 1 else 0) → Ev (jX6_drawFrom_28 290 ln st h 290 (mst μ2 290 0 n)) (fun μ' => Fw dR μ μ' ∧ Sk μ' 290 (dw g p st n) ∧ SkB μ' 290) := by
      intro h hh
      have h01 : h = 0 ∨ h = 1 := by rw [hh]; split <;> omega
      unfold jX6_drawFrom_28
      simp (disch := omega) only [w32_eq, w64_eq, chk_T, chk_t, lt, lm, ob, Int.add_zero, Int.zero_add, true_and, and_true, if_true, if_false, K290]
      have f03 : Fw dR μ (mst (mst μ2 290 0 n) 290 3 h) := (f02.st (by unfold dR; omega)).st (by unfold dR; omega)
      have w0 : mst (mst μ2 290 0 n) 290 3 h 290 0 = n := by simp (disch := omega) only [mst_n, mst_s, mst_j, ]
      have w3 : mst (mst μ2 290 0 n) 290 3 h 290 3 = h := by simp (disch := omega) only [mst_n, mst_s, mst_j, ]
      have wo : ∀ i, i ≠ 0 → i ≠ 3 → mst (mst μ2 290 0 n) 290 3 h 290 i = μ1 290 i := by intro i a c; rw [mst_j c, mst_j a, r290]
      have wm : mst (mst μ2 290 0 n) 290 3 h 292 = μ2 292 := by simp (disch := omega) only [mst_n, mst_s, mst_j, ]
      generalize mst (mst μ2 290 0 n) 290 3 h = μ3 at *
      refine Ev_bind (Ev_lop (P := fun μ' => Fw dR μ μ' ∧ Sk μ' 290 (dw g p st n) ∧ SkB μ' 290) (fun t => (0 ≤ t.1 ∧ t.1 ≤ n) ∧ Fw (fun x => x = 291) μ3 t.2 ∧ ∀ i, 0 ≤ i → i < t.1 → t.2 291 i = dwT g p st n i) (fun t => (n - t.1).toNat) ⟨(by first | omega | (dsimp only; omega) | (dsimp only)), Fw.rf, fun i a c => by dsimp only at c; omega⟩ (by unfold FU; dsimp only; omega) ?_) (fun r h => Ev_some h)
      rintro ⟨v4, μ4⟩ ⟨q1, q2, q3⟩
      dsimp only at q1 q2 q3 ⊢
      have r4 : μ4 290 = μ3 290 := q2 290 (by decide)
      have f04 : Fw dR μ μ4 := f03.tr (q2.mo (fun x hx => by unfold dR; omega))
      have L4 : Li μ4 ln g p := hL.fw f04 (fun x a b => by unfold dR; omega)
      have e40 : μ4 290 0 = n := by rw [r4]; exact w0
      have e47 : μ4 290 7 = 291 := by rw [r4, wo 7 (by decide) (by decide)]; exact e7
      unfold sX6_drawFrom_34
      dsimp only
      simp (disch := omega) only [w32_eq, w64_eq, chk_T, chk_t, lt, lm, ob, Int.add_zero, Int.zero_add, true_and, and_true, if_true, if_false, K290, e40]
      refine Ev_ite (fun w => Ev_out ⟨f04, ⟨SkK_290, ⟨e47, ?_⟩, ⟨?_, ?_, ?_, ?_, ?_, ?_, ?_⟩, fun i i0 i1 => ⟨?_, ?_⟩⟩, ?_, ?_, ?_⟩) (fun w => ?_)
      · rw [r4, wo 8 (by decide) (by decide)]; exact e8
      · rw [e40, dw_0]
      · rw [r4, wo 1 (by decide) (by decide), v0, if_neg (by decide), if_pos (by decide), dw_z (by decide) (by decide) (by decide) (by omega)]
      · rw [r4, wo 2 (by decide) (by decide), v0, if_neg (by decide), if_pos (by decide), dw_z (by decide) (by decide) (by decide) (by omega)]
      · rw [r4, w3, dw_3]; exact hh
      · rw [r4, wo 4 (by decide) (by decide), v0, if_neg (by decide), if_pos (by decide), dw_z (by decide) (by decide) (by decide) (by omega)]
      · rw [r4, wo 5 (by decide) (by decide), v0, if_neg (by decide), if_pos (by decide), dw_z (by decide) (by decide) (by decide) (by omega)]
      · rw [r4, wo 6 (by decide) (by decide), v0, if_pos rfl, dw_6]
      · rw [dw_0] at i1; rw [show (290 : Int) + 1 = 291 by decide, q3 i i0 (by omega), dw_7 i0 i1]
      · rw [dw_0] at i1; rw [show (290 : Int) + 2 = 292 by decide, q2 292 (by decide), wm, a2 i i0 (by omega), dw_z (by omega) (by omega) (by omega) (by omega)]
      · rw [r4, wo 2 (by decide) (by decide), v0, if_neg (by decide), if_pos (by decide)]; exact .inl rfl
      · rw [r4, w3]; exact h01
      · rw [r4, wo 4 (by decide) (by decide), v0, if_neg (by decide), if_pos (by decide)]; exact .inl rfl
      · have db := dwT_b (g := g) (p := p) (st := st) (i := v4) (n := n) (by omega)
        rw [c_less L4 hD hp e40 hs hn (i := v4) (by omega)]
        simp (disch := omega) only [w32_eq, w64_eq, chk_T, chk_t, lt, lm, ob, Int.add_zero, Int.zero_add, true_and, and_true, if_true, if_false, e47, k1, n1]
        refine Ev_in ⟨(by first | omega | (dsimp only; omega) | (dsimp only)), q2.st rfl, fun i a c => ?_⟩ (by first | omega | (dsimp only; omega) | (dsimp only))
        dsimp only at c ⊢
        by_cases e : i = v4
        · subst e; rw [mst_s]; omega
        · rw [mst_j e]; exact q3 i a (by omega)
    refine Ev_ite (fun w => main 0 ?_) (fun w => main 1 ?_)
    · rw [if_neg (by omega)]
    · rw [if_pos (by omega)]
end
