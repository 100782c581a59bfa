/-! ===== the constructors ===== -/
def fy : Nat → Int × Int × Int × Int
  | 0 => (0, 1, 1, 11)
  | k + 1 => ((fy k).2.2.1, (fy k).2.2.2, (if (fy k).2.2.2 ≤ 0 then 0 else (11 + (fy k).2.1).tdiv (fy k).2.2.2) * (fy k).2.2.1 - (fy k).1, (if (fy k).2.2.2 ≤ 0 then 0 else (11 + (fy k).2.1).tdiv (fy k).2.2.2) * (fy k).2.2.2 - (fy k).2.1)
def fyG (k : Nat) : Bool := decide ((fy k).1 = dE k ∧ -(fy k).2.1 = dS k) && decide ((-1000 ≤ (fy k).1 ∧ (fy k).1 ≤ 1000) ∧ (0 ≤ (fy k).2.1 ∧ (fy k).2.1 ≤ 1000) ∧ 0 < (fy k).2.2.2) && decide ((-1000 ≤ (11 + (fy k).2.1).tdiv (fy k).2.2.2 ∧ (11 + (fy k).2.1).tdiv (fy k).2.2.2 ≤ 1000) ∧ (-1000000 ≤ (11 + (fy k).2.1).tdiv (fy k).2.2.2 * (fy k).2.2.1 ∧ (11 + (fy k).2.1).tdiv (fy k).2.2.2 * (fy k).2.2.1 ≤ 1000000) ∧ (-1000000 ≤ (11 + (fy k).2.1).tdiv (fy k).2.2.2 * (fy k).2.2.2 ∧ (11 + (fy k).2.1).tdiv (fy k).2.2.2 * (fy k).2.2.2 ≤ 1000000))
theorem fy_all : upTo fyG 43 = true := by decide +kernel
def d2G (k : Nat) : Bool := decide (dE (43 + k : Nat) = -dS (84 - (43 + k : Nat)) ∧ dS (43 + k : Nat) = -dE (84 - (43 + k : Nat)))
theorem d2_all : upTo d2G 41 = true := by decide +kernel
def d3G (k : Nat) : Bool := decide (dE (84 + k : Nat) = -dS ((84 + k : Nat) - 84) ∧ dS (84 + k : Nat) = dE ((84 + k : Nat) - 84))
theorem d3_all : upTo d3G 252 = true := by decide +kernel
section
variable {μ μ' ν : Mm} {bb : Int}
theorem Ec_x {α : Type} {x : Option (α × Nat × Nat)} {r : α} {c n : Nat} {b b' : Int} {P : α → Int → Prop} (e : x = some (r, c, n)) (h : P r b') (h1 : (c : Int) + b' ≤ b) (h2 : (n : Int) + b' ≤ b) : Ec x b P := ⟨r, c, n, b', e, h, h1, h2⟩
theorem c_compass (hz : ∀ i, 231 < i → i ≤ 233 → μ 0 i = 0) : Ec (fX0_init 231 μ) bb (fun μ' b' => b' = bb - 700 ∧ Fw (fun x => x = 0 ∨ 231 ≤ x ∧ x ≤ 233) μ μ' ∧ (μ' 231 0 = 232 ∧ μ' 231 1 = 233) ∧ (∀ k, 0 ≤ k → k < 336 → μ' 232 k = dE k ∧ μ' 233 k = dS k) ∧ ∀ j, j < 231 ∨ 233 < j → μ' 0 j = μ 0 j) := by
  have z1 := hz 232 (by decide) (by decide); have z2 := hz 233 (by decide) (by decide)
  unfold fX0_init
  rw [chk_t (by decide), show (231 : Int) + 1 = 232 by decide, show (231 : Int) + 2 = 233 by decide, chk_t ⟨K232, N232, z1⟩]
  refine Ec_pay (b1 := bb - 340) ?_ (by omega) (by omega)
  simp only [lm]
  rw [chk_t K231]
  rw [chk_t ⟨K233, N233, by rw [mst_n (by decide), nw_z (by decide) (by decide)]; exact z2⟩]
  refine Ec_pay (b1 := bb - 700) ?_ (by omega) (by omega)
  have F0 : Fw (fun x => x = 0 ∨ 231 ≤ x ∧ x ≤ 233) μ (mst (mnw (mst (mnw μ 232) 231 0 232) 233) 231 1 233) := Fw.st (Fw.nw (Fw.st (Fw.nw Fw.rf (by omega) (by omega)) (by omega)) (by omega) (by omega)) (by omega)
  have g0 : mst (mnw (mst (mnw μ 232) 231 0 232) 233) 231 1 233 231 0 = 232 := by rw [mst_j (by decide), nw_n (by decide) (by decide), mst_s]
  have g1 : mst (mnw (mst (mnw μ 232) 231 0 232) 233) 231 1 233 231 1 = 233 := mst_s
  have o0 : ∀ j, j < 231 ∨ 233 < j → mst (mnw (mst (mnw μ 232) 231 0 232) 233) 231 1 233 0 j = μ 0 j := fun j hj => by rw [mst_n (by decide), nw_z (by decide) (by omega), mst_n (by decide), nw_z (by decide) (by omega)]
  generalize mst (mnw (mst (mnw μ 232) 231 0 232) 233) 231 1 233 = ν at *
  have L1 : Ev (lop (sX0_init_35 231) FU (0, 1, 1, 11, 0, ν)) (fun μ' => Fw (fun x => x = 232 ∨ x = 233) ν μ' ∧ ∀ k, 0 ≤ k → k < 43 → μ' 232 k = dE k ∧ μ' 233 k = dS k) := by
    refine Ev_lop (P := fun μ' => Fw (fun x => x = 232 ∨ x = 233) ν μ' ∧ ∀ k, 0 ≤ k → k < 43 → μ' 232 k = dE k ∧ μ' 233 k = dS k) (fun s => (0 ≤ s.2.2.2.2.1 ∧ s.2.2.2.2.1 ≤ 43) ∧ (s.1 = (fy s.2.2.2.2.1.toNat).1 ∧ s.2.1 = (fy s.2.2.2.2.1.toNat).2.1 ∧ s.2.2.1 = (fy s.2.2.2.2.1.toNat).2.2.1 ∧ s.2.2.2.1 = (fy s.2.2.2.2.1.toNat).2.2.2) ∧ Fw (fun x => x = 232 ∨ x = 233) ν s.2.2.2.2.2 ∧ ∀ k, 0 ≤ k → k < s.2.2.2.2.1 → s.2.2.2.2.2 232 k = dE k ∧ s.2.2.2.2.2 233 k = dS k) (fun s => (43 - s.2.2.2.2.1).toNat) ⟨by dsimp only; omega, ⟨rfl, rfl, rfl, rfl⟩, Fw.rf, fun k k0 k1 => by dsimp only at k1; omega⟩ (by unfold FU; dsimp only; omega) ?_
    rintro ⟨v1, v2, v3, v4, v5, ν1⟩ ⟨q1, ⟨e1, e2, e3, e4⟩, q3, q4⟩
    dsimp only at q1 e1 e2 e3 e4 q3 q4 ⊢
    unfold sX0_init_35
    dsimp only
    refine Ev_ite (fun w => Ev_out ⟨q3, fun k k0 k1 => q4 k k0 (by omega)⟩) (fun w => ?_)
    have r : ν1 231 = ν 231 := q3 231 (by decide)
    have hg : fyG v5.toNat = true := upTo_e fy_all (show v5.toNat < 43 by omega)
    unfold fyG at hg
    rw [Bool.and_eq_true, Bool.and_eq_true] at hg
    have h1 := of_decide_eq_true hg.1.1
    have h2 := of_decide_eq_true hg.1.2
    have h3 := of_decide_eq_true hg.2
    rw [Int.toNat_of_nonneg q1.1] at h1
    rw [← e1, ← e2] at h1
    rw [← e1, ← e2, ← e4] at h2
    rw [← e2, ← e3, ← e4] at h3
    have m1 : ∀ i v, mst ν1 232 i v 231 = ν 231 := fun i v => by rw [mst_n (by decide)]; exact r
    simp (disch := omega) only [w32_eq, w64_eq, chk_T, chk_t, lt, lm, ob, Int.add_zero, Int.zero_add, true_and, and_true, if_true, if_false, K231, r, g0, g1, K232, N232, K233, N233, m1]
    rw [if_neg (by omega)]
    unfold jX0_init_75
    generalize ht : (11 + v2).tdiv v4 = tt at *
    simp (disch := omega) only [w32_eq, w64_eq, chk_T, chk_t, lt, lm, ob, Int.add_zero, Int.zero_add, true_and, and_true, if_true, if_false, ht]
    have nx : (v5 + 1).toNat = v5.toNat + 1 := by omega
    refine Ev_in ⟨by dsimp only; omega, ?_, (q3.st (.inl rfl)).st (.inr rfl), fun k k0 k1 => ?_⟩ (by dsimp only; omega)
    · dsimp only
      rw [nx]
      show v3 = (fy v5.toNat).2.2.1 ∧ v4 = (fy v5.toNat).2.2.2 ∧ tt * v3 - v1 = (if (fy v5.toNat).2.2.2 ≤ 0 then 0 else (11 + (fy v5.toNat).2.1).tdiv (fy v5.toNat).2.2.2) * (fy v5.toNat).2.2.1 - (fy v5.toNat).1 ∧ tt * v4 - v2 = (if (fy v5.toNat).2.2.2 ≤ 0 then 0 else (11 + (fy v5.toNat).2.1).tdiv (fy v5.toNat).2.2.2) * (fy v5.toNat).2.2.2 - (fy v5.toNat).2.1
      rw [← e1, ← e2, ← e3, ← e4, if_neg (by omega), ht]
      exact ⟨rfl, rfl, rfl, rfl⟩
    · dsimp only at k1 ⊢
      rw [mst_n (by decide)]
      by_cases e : k = v5
      · subst e; rw [mst_s, mst_s]; exact ⟨h1.1, h1.2⟩
      · rw [mst_j e, mst_j e, mst_n (by decide)]; exact q4 k k0 (by omega)
  refine Ec_bindE L1 (fun ν1 ⟨f1, h1⟩ => ?_)
  have r1 : ν1 231 = ν 231 := f1 231 (by decide)
  have L2 : Ev (lop (sX0_init_116 231) FU (43, ν1)) (fun μ' => Fw (fun x => x = 232 ∨ x = 233) ν1 μ' ∧ ∀ k, 0 ≤ k → k < 84 → μ' 232 k = dE k ∧ μ' 233 k = dS k) := by
    refine Ev_lop (P := fun μ' => Fw (fun x => x = 232 ∨ x = 233) ν1 μ' ∧ ∀ k, 0 ≤ k → k < 84 → μ' 232 k = dE k ∧ μ' 233 k = dS k) (fun s => (43 ≤ s.1 ∧ s.1 ≤ 84) ∧ Fw (fun x => x = 232 ∨ x = 233) ν1 s.2 ∧ ∀ k, 0 ≤ k → k < s.1 → s.2 232 k = dE k ∧ s.2 233 k = dS k) (fun s => (84 - s.1).toNat) ⟨by dsimp only; omega, Fw.rf, h1⟩ (by unfold FU; dsimp only; omega) ?_
    rintro ⟨v5, ν2⟩ ⟨q1, q3, q4⟩
    dsimp only at q1 q3 q4 ⊢
    unfold sX0_init_116
    dsimp only
    refine Ev_ite (fun w => Ev_out ⟨q3, fun k k0 k1 => q4 k k0 (by omega)⟩) (fun w => ?_)
    have r : ν2 231 = ν 231 := (q3 231 (by decide)).trans r1
    have hg : d2G (v5 - 43).toNat = true := upTo_e d2_all (show (v5 - 43).toNat < 41 by omega)
    unfold d2G at hg
    have h2 := of_decide_eq_true hg
    rw [show ((43 + (v5 - 43).toNat : Nat) : Int) = v5 by omega] at h2
    have p := q4 (84 - v5) (by omega) (by omega)
    have db := d_b (k := 84 - v5) (by omega) (by omega)
    have m1 : ∀ i v, mst ν2 232 i v 231 = ν 231 := fun i v => by rw [mst_n (by decide)]; exact r
    have m2 : ∀ v, mst ν2 232 v5 v 232 (84 - v5) = dE (84 - v5) := fun v => by rw [mst_j (by omega)]; exact p.1
    simp (disch := omega) only [w32_eq, w64_eq, chk_T, chk_t, lt, lm, ob, Int.add_zero, Int.zero_add, true_and, and_true, if_true, if_false, K231, r, g0, g1, K232, N232, K233, N233, m1, p.2, m2]
    refine Ev_in ⟨by dsimp only; omega, (q3.st (.inl rfl)).st (.inr rfl), fun k k0 k1 => ?_⟩ (by dsimp only; omega)
    dsimp only at k1 ⊢
    rw [mst_n (by decide)]
    by_cases e : k = v5
    · subst e; rw [mst_s, mst_s]; exact ⟨h2.1.symm, h2.2.symm⟩
    · rw [mst_j e, mst_j e, mst_n (by decide)]; exact q4 k k0 (by omega)
  refine Ec_bindE L2 (fun ν3 ⟨f3, h3⟩ => ?_)
  have r3 : ν3 231 = ν 231 := (f3 231 (by decide)).trans r1
  have L3 : Ev (lop (sX0_init_169 231) FU (84, ν3)) (fun μ' => Fw (fun x => x = 232 ∨ x = 233) ν3 μ' ∧ ∀ k, 0 ≤ k → k < 336 → μ' 232 k = dE k ∧ μ' 233 k = dS k) := by
    refine Ev_lop (P := fun μ' => Fw (fun x => x = 232 ∨ x = 233) ν3 μ' ∧ ∀ k, 0 ≤ k → k < 336 → μ' 232 k = dE k ∧ μ' 233 k = dS k) (fun s => (84 ≤ s.1 ∧ s.1 ≤ 336) ∧ Fw (fun x => x = 232 ∨ x = 233) ν3 s.2 ∧ ∀ k, 0 ≤ k → k < s.1 → s.2 232 k = dE k ∧ s.2 233 k = dS k) (fun s => (336 - s.1).toNat) ⟨by dsimp only; omega, Fw.rf, h3⟩ (by unfold FU; dsimp only; omega) ?_
    rintro ⟨v5, ν2⟩ ⟨q1, q3, q4⟩
    dsimp only at q1 q3 q4 ⊢
    unfold sX0_init_169
    dsimp only
    refine Ev_ite (fun w => Ev_out ⟨q3, fun k k0 k1 => q4 k k0 (by omega)⟩) (fun w => ?_)
    have r : ν2 231 = ν 231 := (q3 231 (by decide)).trans r3
    have hg : d3G (v5 - 84).toNat = true := upTo_e d3_all (show (v5 - 84).toNat < 252 by omega)
    unfold d3G at hg
    have h2 := of_decide_eq_true hg
    rw [show ((84 + (v5 - 84).toNat : Nat) : Int) = v5 by omega] at h2
    have p := q4 (v5 - 84) (by omega) (by omega)
    have db := d_b (k := v5 - 84) (by omega) (by omega)
    have m1 : ∀ i v, mst ν2 232 i v 231 = ν 231 := fun i v => by rw [mst_n (by decide)]; exact r
    have m2 : ∀ v, mst ν2 232 v5 v 232 (v5 - 84) = dE (v5 - 84) := fun v => by rw [mst_j (by omega)]; exact p.1
    simp (disch := omega) only [w32_eq, w64_eq, chk_T, chk_t, lt, lm, ob, Int.add_zero, Int.zero_add, true_and, and_true, if_true, if_false, K231, r, g0, g1, K232, N232, K233, N233, m1, p.2, m2]
    refine Ev_in ⟨by dsimp only; omega, (q3.st (.inl rfl)).st (.inr rfl), fun k k0 k1 => ?_⟩ (by dsimp only; omega)
    dsimp only at k1 ⊢
    rw [mst_n (by decide)]
    by_cases e : k = v5
    · subst e; rw [mst_s, mst_s]; exact ⟨h2.1.symm, h2.2.symm⟩
    · rw [mst_j e, mst_j e, mst_n (by decide)]; exact q4 k k0 (by omega)
  refine Ec_bindE L3 (fun ν5 ⟨f5, h5⟩ => ?_)
  have fa := (f1.tr f3).tr f5
  refine Ec_some ⟨rfl, F0.tr (fa.mo (fun x hx => by omega)), ?_, h5, fun j hj => ?_⟩
  · rw [fa 231 (by decide)]; exact ⟨g0, g1⟩
  · rw [fa 0 (by decide)]; exact o0 j hj

theorem c_sight (hz : ∀ i, 230 < i → i ≤ 237 → μ 0 i = 0) : Ec (fX5_init 230 μ) bb (fun μ' b' => b' = bb - 2000 ∧ Fw (fun x => x = 0 ∨ 230 ≤ x ∧ x ≤ 237) μ μ' ∧ SiF μ' ∧ ∀ j, j < 230 ∨ 237 < j → μ' 0 j = μ 0 j) := by
  have z1 := hz 231 (by decide) (by decide)
  unfold fX5_init
  rw [chk_t (by decide), show (230 : Int) + 1 = 231 by decide, show (230 : Int) + 4 = 234 by decide, show (230 : Int) + 5 = 235 by decide, show (230 : Int) + 6 = 236 by decide, show (230 : Int) + 7 = 237 by decide, chk_t ⟨K231, z1⟩]
  refine Ec_pay (b1 := bb - 10) ?_ (by omega) (by omega)
  show Ec (chk _ ((fX0_init 231 (mnw μ 231)).bind _)) _ _
  rw [chk_t (by decide)]
  refine Ec_bind (c_compass (bb := bb - 10) (fun i i0 i1 => by rw [nw_z (by decide) (by omega)]; exact hz i (by omega) (by omega))) ?_
  rintro ν b1 ⟨hb, f1, c1, d1, o1⟩ cc nn
  refine ⟨_, rfl, ?_⟩
  have y : ∀ i, 233 < i → i ≤ 237 → ν 0 i = 0 := fun i i0 i1 => by rw [o1 i (by omega), nw_z (by decide) (by omega)]; exact hz i (by omega) (by omega)
  have y4 := y 234 (by decide) (by decide); have y5 := y 235 (by decide) (by decide); have y6 := y 236 (by decide) (by decide); have y7 := y 237 (by decide) (by decide)
  simp (disch := omega) only [w32_eq, w64_eq, chk_T, chk_t, lt, lm, ob, Int.add_zero, Int.zero_add, true_and, and_true, if_true, if_false, K230, K234, N234, K235, N235, K236, N236, K237, N237, mst_n, mst_s, mst_j, nw_n, nw_s, nw_z, ne_eq, y4, y5, y6, y7, py]
  refine ⟨_, _, _, bb - 2000, rfl, ⟨rfl, ?_, ⟨?_, ?_, ?_⟩, ?_⟩, by omega, by omega⟩
  · have fz : Fw (fun x => x = 0 ∨ 230 ≤ x ∧ x ≤ 237) μ ν := (Fw.nw (R := fun x => x = 0 ∨ 230 ≤ x ∧ x ≤ 237) (Fw.rf (μ := μ)) (a := 231) (by omega) (by omega)).tr (f1.mo (fun x hx => by omega))
    repeat first
      | exact fz
      | apply Fw.st
      | apply Fw.nw
      | omega
  · simp (disch := omega) only [mst_n, mst_s, mst_j, nw_n, nw_s, nw_z, ]; exact ⟨trivial, trivial, trivial, trivial, trivial⟩
  · simp (disch := omega) only [mst_n, mst_s, mst_j, nw_n, nw_s, nw_z, ]; exact c1
  · intro k k0 k1; simp (disch := omega) only [mst_n, mst_s, mst_j, nw_n, nw_s, nw_z, ]; exact d1 k k0 k1
  · intro j hj; simp (disch := omega) only [mst_n, mst_s, mst_j, nw_n, nw_s, nw_z, ]; rw [o1 j (by omega), nw_z (by decide) (by omega)]
theorem c_reader (hz : ∀ i, 200 < i → i < 230 → μ 0 i = 0) (hs : ∀ i, μ 200 i = 0) : Ec (fX3_init 200 μ) bb (fun μ' b' => b' = bb - 500 ∧ Fw (fun x => x = 0 ∨ 200 ≤ x ∧ x < 230) μ μ' ∧ RdI μ' ∧ ∀ j, j < 200 ∨ 230 ≤ j → μ' 0 j = μ 0 j) := by
  have z1 := hz 210 (by decide) (by decide)
  have k2 : SkK 220 := ⟨by decide, ⟨by decide, by decide⟩, by decide, by decide⟩
  unfold fX3_init
  rw [chk_t (by decide), show (200 : Int) + 1 = 201 by decide, show (200 : Int) + 10 = 210 by decide, show (200 : Int) + 20 = 220 by decide, chk_t ⟨K210, z1⟩]
  refine Ec_pay (b1 := bb - 20) ?_ (by omega) (by omega)
  show Ec (chk _ ((fX2_init 210 (mnw μ 210)).bind _)) _ _
  rw [chk_t (by decide)]
  obtain ⟨ν, e1, f1, F1, t1, o1⟩ := c_landInit (μ := mnw μ 210) (s := 210) (LaK_c (by omega)) (by decide) (fun i i0 i1 => by rw [nw_z (by decide) (by omega)]; exact hz i (by omega) (by omega))
  rw [e1]
  simp only [ob]
  refine Ec_pay (b1 := bb - 220) ?_ (by omega) (by omega)
  rw [chk_t K200]
  show Ec (chk (KD 220 = 6 ∧ mst ν 200 0 210 0 220 = 0) (pay 1 9 (chk _ ((fX6_init 220 (mnw (mst ν 200 0 210) 220)).bind _)))) _ _
  have y2 : ∀ i, 215 < i → i < 230 → mst ν 200 0 210 0 i = 0 := fun i i0 i1 => by rw [mst_n (by decide), o1 i (by omega), nw_z (by decide) (by omega)]; exact hz i (by omega) (by omega)
  rw [chk_t ⟨K220, y2 220 (by decide) (by decide)⟩]
  refine Ec_pay (b1 := bb - 230) ?_ (by omega) (by omega)
  rw [chk_t (by decide)]
  obtain ⟨ν2, e2, f2, F2, B2, o2⟩ := c_sketchInit (μ := mnw (mst ν 200 0 210) 220) (s := 220) k2 (by decide) (fun i i0 i1 => by rw [nw_z (by decide) (by omega)]; exact y2 i (by omega) (by omega)) (fun i => nw_s)
  rw [e2]
  simp only [ob]
  refine Ec_pay (b1 := bb - 300) ?_ (by omega) (by omega)
  have y3 : mst ν2 200 1 220 0 201 = 0 := by rw [mst_n (by decide), o2 201 (by omega), nw_z (by decide) (by decide), mst_n (by decide), o1 201 (by omega), nw_z (by decide) (by decide)]; exact hz 201 (by decide) (by decide)
  show Ec (chk (KD 201 = 12 ∧ LN 201 = 0 ∧ mst ν2 200 1 220 0 201 = 0) (pay 1 0 (some (mst (mnw (mst ν2 200 1 220) 201) 200 4 201, 0, 0)))) _ _
  rw [chk_t ⟨K201, N201, y3⟩]
  have fz1 : Fw (fun x => x = 0 ∨ 200 ≤ x ∧ x < 230) μ ν := (Fw.nw (R := fun x => x = 0 ∨ 200 ≤ x ∧ x < 230) (Fw.rf (μ := μ)) (a := 210) (by omega) (by omega)).tr (f1.mo (fun x hx => by omega))
  have fz2 : Fw (fun x => x = 0 ∨ 200 ≤ x ∧ x < 230) μ ν2 := (Fw.nw (R := fun x => x = 0 ∨ 200 ≤ x ∧ x < 230) (fz1.st (by omega)) (a := 220) (by omega) (by omega)).tr (f2.mo (fun x hx => by omega))
  have fz3 : Fw (fun x => x = 0 ∨ 200 ≤ x ∧ x < 230) μ (mst (mnw (mst ν2 200 1 220) 201) 200 4 201) := Fw.st (Fw.nw (Fw.st fz2 (by omega)) (by omega) (by omega)) (by omega)
  refine Ec_pay (b1 := bb - 500) (Ec_some ⟨rfl, fz3, ⟨?_, ⟨?_, fun k k0 k1 => .inl ?_⟩, ?_, ?_⟩, fun j hj => ?_⟩) (by omega) (by omega)
  · rw [mst_j (by decide), nw_n (by decide) (by decide), mst_j (by decide), f2 200 (by decide), nw_n (by decide) (by decide), mst_s, mst_j (by decide), nw_n (by decide) (by decide), mst_s]; exact ⟨rfl, rfl⟩
  · unfold LaF at F1 ⊢
    rw [mst_n (by decide), nw_n (by decide) (by decide), mst_n (by decide), f2 210 (by decide), nw_n (by decide) (by decide), mst_n (by decide)]; exact F1
  · rw [mst_n (by decide), nw_n (by decide) (by decide), mst_n (by decide), f2 213 (by decide), nw_n (by decide) (by decide), mst_n (by decide)]; exact t1 k
  · unfold SkF at F2 ⊢
    rw [mst_n (by decide), nw_n (by decide) (by decide), mst_n (by decide)]; exact F2
  · unfold SkB at B2 ⊢
    rw [mst_n (by decide), nw_n (by decide) (by decide), mst_n (by decide)]; exact B2
  · rw [mst_n (by decide), nw_z (by decide) (by omega), mst_n (by decide), o2 j (by omega), nw_z (by decide) (by omega), mst_n (by decide), o1 j (by omega), nw_z (by decide) (by omega)]
theorem K260 : LaK 260 := ⟨by decide, ⟨by decide, by decide⟩, ⟨by decide, by decide⟩, ⟨by decide, by decide⟩, ⟨by decide, by decide⟩, ⟨by decide, by decide⟩⟩
theorem K310 : LaK 310 := ⟨by decide, ⟨by decide, by decide⟩, ⟨by decide, by decide⟩, ⟨by decide, by decide⟩, ⟨by decide, by decide⟩, ⟨by decide, by decide⟩⟩
theorem K270 : SkK 270 := ⟨by decide, ⟨by decide, by decide⟩, by decide, by decide⟩
theorem K280 : LiK 280 := ⟨by decide, ⟨by decide, by decide⟩, ⟨by decide, by decide⟩, ⟨by decide, by decide⟩, ⟨by decide, by decide⟩, ⟨by decide, by decide⟩, ⟨by decide, by decide⟩⟩
theorem c_fitter (hz : ∀ i, 250 < i → i < 290 → μ 0 i = 0) : Ec (fX1_init 250 μ) bb (fun μ' b' => b' = bb - 1500 ∧ Fw (fun x => x = 0 ∨ 250 ≤ x ∧ x < 290) μ μ' ∧ FtF μ' ∧ ∀ j, j < 250 ∨ 290 ≤ j → μ' 0 j = μ 0 j) := by
  unfold fX1_init
  rw [chk_t (by decide), show (250 : Int) + 1 = 251 by decide, show (250 : Int) + 2 = 252 by decide, show (250 : Int) + 3 = 253 by decide, show (250 : Int) + 4 = 254 by decide, show (250 : Int) + 10 = 260 by decide, show (250 : Int) + 20 = 270 by decide, show (250 : Int) + 30 = 280 by decide, chk_t ⟨K260.1, hz 260 (by decide) (by decide)⟩]
  refine Ec_pay (b1 := bb - 20) ?_ (by omega) (by omega)
  show Ec (chk _ ((fX2_init 260 (mnw μ 260)).bind _)) _ _
  rw [chk_t (by decide)]
  obtain ⟨ν, e1, f1, F1, t1, o1⟩ := c_landInit (μ := mnw μ 260) (s := 260) K260 (by decide) (fun i i0 i1 => by rw [nw_z (by decide) (by omega)]; exact hz i (by omega) (by omega))
  rw [e1]
  simp only [ob]
  refine Ec_pay (b1 := bb - 220) ?_ (by omega) (by omega)
  rw [chk_t K250]
  have y1 : ∀ i, 265 < i → i < 290 ∨ i = 251 ∨ i = 252 ∨ i = 253 ∨ i = 254 → True := fun _ _ _ => trivial
  have v1 : ∀ i, (250 < i ∧ i < 260) ∨ (265 < i ∧ i < 290) → mst ν 250 0 260 0 i = 0 := fun i hi => by rw [mst_n (by decide), o1 i (by omega), nw_z (by decide) (by omega)]; exact hz i (by omega) (by omega)
  show Ec (chk (KD 270 = 6 ∧ mst ν 250 0 260 0 270 = 0) (pay 1 9 (chk _ ((fX6_init 270 (mnw (mst ν 250 0 260) 270)).bind _)))) _ _
  rw [chk_t ⟨K270.1, v1 270 (by omega)⟩]
  refine Ec_pay (b1 := bb - 230) ?_ (by omega) (by omega)
  rw [chk_t (by decide)]
  obtain ⟨ν2, e2, f2, F2, B2, o2⟩ := c_sketchInit (μ := mnw (mst ν 250 0 260) 270) (s := 270) K270 (by decide) (fun i i0 i1 => by rw [nw_z (by decide) (by omega)]; exact v1 i (by omega)) (fun i => nw_s)
  rw [e2]
  simp only [ob]
  refine Ec_pay (b1 := bb - 300) ?_ (by omega) (by omega)
  have v2 : ∀ i, (250 < i ∧ i < 260) ∨ (272 < i ∧ i < 290) → mst ν2 250 1 270 0 i = 0 := fun i hi => by rw [mst_n (by decide), o2 i (by omega), nw_z (by decide) (by omega)]; exact v1 i (by omega)
  show Ec (chk (KD 280 = 7 ∧ mst ν2 250 1 270 0 280 = 0) (pay 1 10 (chk _ ((fX7_init 280 (mnw (mst ν2 250 1 270) 280)).bind _)))) _ _
  rw [chk_t ⟨K280.1, v2 280 (by omega)⟩]
  refine Ec_pay (b1 := bb - 310) ?_ (by omega) (by omega)
  rw [chk_t (by decide)]
  obtain ⟨ν3, e3, f3, F3, _, o3⟩ := c_lineInit (μ := mnw (mst ν2 250 1 270) 280) (s := 280) K280 (by decide) (fun i i0 i1 => by rw [nw_z (by decide) (by omega)]; exact v2 i (by omega))
  rw [e3]
  simp only [ob]
  refine Ec_pay (b1 := bb - 700) ?_ (by omega) (by omega)
  have v3 : ∀ i, (250 < i ∧ i < 260) → mst ν3 250 2 280 0 i = 0 := fun i hi => by rw [mst_n (by decide), o3 i (by omega), nw_z (by decide) (by omega)]; exact v2 i (by omega)
  have fz1 : Fw (fun x => x = 0 ∨ 250 ≤ x ∧ x < 290) μ ν := (Fw.nw (R := fun x => x = 0 ∨ 250 ≤ x ∧ x < 290) (Fw.rf (μ := μ)) (a := 260) (by omega) (by omega)).tr (f1.mo (fun x hx => by omega))
  have fz2 : Fw (fun x => x = 0 ∨ 250 ≤ x ∧ x < 290) μ ν2 := (Fw.nw (R := fun x => x = 0 ∨ 250 ≤ x ∧ x < 290) (fz1.st (by omega)) (a := 270) (by omega) (by omega)).tr (f2.mo (fun x hx => by omega))
  have fz3 : Fw (fun x => x = 0 ∨ 250 ≤ x ∧ x < 290) μ (mst ν3 250 2 280) := ((Fw.nw (R := fun x => x = 0 ∨ 250 ≤ x ∧ x < 290) (fz2.st (by omega)) (a := 280) (by omega) (by omega)).tr (f3.mo (fun x hx => by omega))).st (by omega)
  have oz : ∀ j, j < 250 ∨ 290 ≤ j → mst ν3 250 2 280 0 j = μ 0 j := fun j hj => by rw [mst_n (by decide), o3 j (by omega), nw_z (by decide) (by omega), mst_n (by decide), o2 j (by omega), nw_z (by decide) (by omega), mst_n (by decide), o1 j (by omega), nw_z (by decide) (by omega)]
  have w1 := v3 251 (by decide); have w2 := v3 252 (by decide); have w3 := v3 253 (by decide); have w4 := v3 254 (by decide)
  simp only [lm]
  generalize mst ν3 250 2 280 = ν4 at *
  simp (disch := omega) only [w32_eq, w64_eq, chk_T, chk_t, lt, lm, ob, Int.add_zero, Int.zero_add, true_and, and_true, if_true, if_false, K251, N251, K252, N252, K253, N253, K254, N254, mst_n, mst_s, mst_j, nw_n, nw_s, nw_z, ne_eq, w1, w2, w3, w4, py]
  refine ⟨_, _, _, bb - 1500, rfl, ⟨rfl, ?_, ?_, ?_⟩, by omega, by omega⟩
  · repeat first
      | exact fz3
      | apply Fw.st
      | apply Fw.nw
      | omega
  · unfold FtF; simp (disch := omega) only [mst_n, mst_s, mst_j, nw_n, nw_s, nw_z, ]; exact ⟨trivial, trivial, trivial, trivial⟩
  · intro j hj; simp (disch := omega) only [mst_n, mst_s, mst_j, nw_n, nw_s, nw_z, ]; exact oz j hj
theorem c_walker (hz : ∀ i, 300 < i → i < 330 → μ 0 i = 0) : Ec (fX9_init 300 μ) bb (fun μ' b' => b' = bb - 1500 ∧ Fw (fun x => x = 0 ∨ 300 ≤ x ∧ x < 330) μ μ' ∧ WkF μ' ∧ ∀ j, j < 300 ∨ 330 ≤ j → μ' 0 j = μ 0 j) := by
  unfold fX9_init
  rw [chk_t (by decide), show (300 : Int) + 1 = 301 by decide, show (300 : Int) + 2 = 302 by decide, show (300 : Int) + 3 = 303 by decide, show (300 : Int) + 4 = 304 by decide, show (300 : Int) + 10 = 310 by decide, chk_t ⟨K310.1, hz 310 (by decide) (by decide)⟩]
  refine Ec_pay (b1 := bb - 20) ?_ (by omega) (by omega)
  show Ec (chk _ ((fX2_init 310 (mnw μ 310)).bind _)) _ _
  rw [chk_t (by decide)]
  obtain ⟨ν, e1, f1, F1, t1, o1⟩ := c_landInit (μ := mnw μ 310) (s := 310) K310 (by decide) (fun i i0 i1 => by rw [nw_z (by decide) (by omega)]; exact hz i (by omega) (by omega))
  rw [e1]
  simp only [ob]
  refine Ec_pay (b1 := bb - 220) ?_ (by omega) (by omega)
  rw [chk_t K300]
  have v1 : ∀ i, (300 < i ∧ i < 310) → mst ν 300 0 310 0 i = 0 := fun i hi => by rw [mst_n (by decide), o1 i (by omega), nw_z (by decide) (by omega)]; exact hz i (by omega) (by omega)
  have fz1 : Fw (fun x => x = 0 ∨ 300 ≤ x ∧ x < 330) μ (mst ν 300 0 310) := ((Fw.nw (R := fun x => x = 0 ∨ 300 ≤ x ∧ x < 330) (Fw.rf (μ := μ)) (a := 310) (by omega) (by omega)).tr (f1.mo (fun x hx => by omega))).st (by omega)
  have oz : ∀ j, j < 300 ∨ 330 ≤ j → mst ν 300 0 310 0 j = μ 0 j := fun j hj => by rw [mst_n (by decide), o1 j (by omega), nw_z (by decide) (by omega)]
  have w1 := v1 301 (by decide); have w2 := v1 302 (by decide); have w3 := v1 303 (by decide); have w4 := v1 304 (by decide)
  simp only [lm]
  generalize mst ν 300 0 310 = ν4 at *
  simp (disch := omega) only [w32_eq, w64_eq, chk_T, chk_t, lt, lm, ob, Int.add_zero, Int.zero_add, true_and, and_true, if_true, if_false, K301, N301, K302, N302, K303, N303, K304, N304, mst_n, mst_s, mst_j, nw_n, nw_s, nw_z, ne_eq, w1, w2, w3, w4, py]
  refine ⟨_, _, _, bb - 1500, rfl, ⟨rfl, ?_, ?_, ?_⟩, by omega, by omega⟩
  · repeat first
      | exact fz1
      | apply Fw.st
      | apply Fw.nw
      | omega
  · unfold WkF; simp (disch := omega) only [mst_n, mst_s, mst_j, nw_n, nw_s, nw_z, ]; exact ⟨trivial, trivial, trivial, trivial⟩
  · intro j hj; simp (disch := omega) only [mst_n, mst_s, mst_j, nw_n, nw_s, nw_z, ]; exact oz j hj
end
