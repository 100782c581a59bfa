/-! ===== states are made ===== -/
section
variable {μ μ' μ1 μ2 : Mm} {b b' : Int → Int} {vb vb' n k c t s L v bb : Int} {g g' : Int → Int} {ok : Prop}
theorem LaK_c (h : c = 1010 ∨ c = 1020 ∨ c = 1110 ∨ c = 1120 ∨ c = 1210 ∨ c = 1220 ∨ c = 1310 ∨ c = 1320 ∨ c = 210) : LaK c := by
  rcases h with e | e | e | e | e | e | e | e | e <;> (subst e; exact ⟨by decide, ⟨by decide, by decide⟩, ⟨by decide, by decide⟩, ⟨by decide, by decide⟩, ⟨by decide, by decide⟩, ⟨by decide, by decide⟩⟩)
theorem SkK_a : upTo (fun n => decide (KD (1040 + 10 * (n : Int)) = 6 ∧ (KD (1040 + 10 * (n : Int) + 1) = 12 ∧ LN (1040 + 10 * (n : Int) + 1) = 12) ∧ (KD (1040 + 10 * (n : Int) + 2) = 12 ∧ LN (1040 + 10 * (n : Int) + 2) = 12))) 4 = true ∧ upTo (fun n => decide (KD (1140 + 10 * (n : Int)) = 6 ∧ (KD (1140 + 10 * (n : Int) + 1) = 12 ∧ LN (1140 + 10 * (n : Int) + 1) = 12) ∧ (KD (1140 + 10 * (n : Int) + 2) = 12 ∧ LN (1140 + 10 * (n : Int) + 2) = 12))) 4 = true ∧ upTo (fun n => decide (KD (1240 + 10 * (n : Int)) = 6 ∧ (KD (1240 + 10 * (n : Int) + 1) = 12 ∧ LN (1240 + 10 * (n : Int) + 1) = 12) ∧ (KD (1240 + 10 * (n : Int) + 2) = 12 ∧ LN (1240 + 10 * (n : Int) + 2) = 12))) 4 = true ∧ upTo (fun n => decide (KD (1340 + 10 * (n : Int)) = 6 ∧ (KD (1340 + 10 * (n : Int) + 1) = 12 ∧ LN (1340 + 10 * (n : Int) + 1) = 12) ∧ (KD (1340 + 10 * (n : Int) + 2) = 12 ∧ LN (1340 + 10 * (n : Int) + 2) = 12))) 4 = true := by decide +kernel
theorem StK_c (h : c = 1000 ∨ c = 1100 ∨ c = 1200 ∨ c = 1300) : StK c := by
  have hl : ∀ n, 0 ≤ n → n < 2 → LaK (c + 10 + 10 * n) := fun n n0 n1 => LaK_c (by omega)
  have hs : ∀ n, 0 ≤ n → n < 4 → SkK (c + 40 + 10 * n) := fun n n0 n1 => by
    obtain ⟨x1, x2, x3, x4⟩ := SkK_a
    rcases h with e | e | e | e
    · have := of_decide_eq_true (upTo_e x1 (show n.toNat < 4 by omega))
      rw [Int.toNat_of_nonneg n0] at this; subst e; exact this
    · have := of_decide_eq_true (upTo_e x2 (show n.toNat < 4 by omega))
      rw [Int.toNat_of_nonneg n0] at this; subst e; exact this
    · have := of_decide_eq_true (upTo_e x3 (show n.toNat < 4 by omega))
      rw [Int.toNat_of_nonneg n0] at this; subst e; exact this
    · have := of_decide_eq_true (upTo_e x4 (show n.toNat < 4 by omega))
      rw [Int.toNat_of_nonneg n0] at this; subst e; exact this
  rcases h with e | e | e | e <;> (subst e; exact ⟨by decide, ⟨by decide, by decide⟩, ⟨by decide, by decide⟩, ⟨by decide, by decide⟩, hl, hs⟩)
theorem c_landInit (hK : LaK s) (h0 : 0 < s) (hz : ∀ i, s < i → i ≤ s + 5 → μ 0 i = 0) : ∃ μ', fX2_init s μ = some (μ', 5, 192) ∧ Fw (fun x => x = 0 ∨ s ≤ x ∧ x ≤ s + 5) μ μ' ∧ LaF μ' s ∧ (∀ i, μ' (s + 3) i = 0) ∧ ∀ j, j < s ∨ s + 5 < j → μ' 0 j = μ 0 j := by
  have z1 := hz (s + 1) (by omega) (by omega); have z2 := hz (s + 2) (by omega) (by omega); have z3 := hz (s + 3) (by omega) (by omega); have z4 := hz (s + 4) (by omega) (by omega); have z5 := hz (s + 5) (by omega) (by omega)
  obtain ⟨k, ⟨k1, n1⟩, ⟨k2, n2⟩, ⟨k3, n3⟩, ⟨k4, n4⟩, k5, n5⟩ := hK
  unfold fX2_init
  simp (disch := omega) only [w32_eq, w64_eq, chk_T, chk_t, lt, lm, ob, Int.add_zero, Int.zero_add, true_and, and_true, if_true, if_false, k, k1, n1, k2, n2, k3, n3, k4, n4, k5, n5, mst_n, mst_s, mst_j, nw_n, nw_s, nw_z, ne_eq, z1, z2, z3, z4, z5, py]
  refine ⟨_, rfl, ?_, ?_, ?_, ?_⟩
  · repeat first
      | exact Fw.rf
      | apply Fw.st
      | apply Fw.nw
      | omega
  · unfold LaF; simp (disch := omega) only [mst_n, mst_s, mst_j, nw_n, nw_s, nw_z, ]; exact ⟨trivial, trivial, trivial, trivial, trivial⟩
  · intro i; simp (disch := omega) only [mst_n, mst_s, mst_j, nw_n, nw_s, nw_z, ]
  · intro j hj; simp (disch := omega) only [mst_n, mst_s, mst_j, nw_n, nw_s, nw_z, ]
theorem c_sketchInit (hK : SkK s) (h0 : 0 < s) (hz : ∀ i, s < i → i ≤ s + 2 → μ 0 i = 0) (hs : ∀ i, μ s i = 0) : ∃ μ', fX6_init s μ = some (μ', 2, 24) ∧ Fw (fun x => x = 0 ∨ s ≤ x ∧ x ≤ s + 2) μ μ' ∧ SkF μ' s ∧ SkB μ' s ∧ ∀ j, j < s ∨ s + 2 < j → μ' 0 j = μ 0 j := by
  have z1 := hz (s + 1) (by omega) (by omega); have z2 := hz (s + 2) (by omega) (by omega)
  obtain ⟨k, ⟨k1, n1⟩, k2, n2⟩ := hK
  unfold fX6_init
  simp (disch := omega) only [w32_eq, w64_eq, chk_T, chk_t, lt, lm, ob, Int.add_zero, Int.zero_add, true_and, and_true, if_true, if_false, k, k1, n1, k2, n2, mst_n, mst_s, mst_j, nw_n, nw_s, nw_z, ne_eq, z1, z2, py]
  refine ⟨_, rfl, ?_, ?_, ?_, ?_⟩
  · repeat first
      | exact Fw.rf
      | apply Fw.st
      | apply Fw.nw
      | omega
  · unfold SkF; simp (disch := omega) only [mst_n, mst_s, mst_j, nw_n, nw_s, nw_z, ]; exact ⟨trivial, trivial⟩
  · unfold SkB; simp (disch := omega) only [mst_n, mst_s, mst_j, nw_n, nw_s, nw_z, hs]; exact ⟨.inl trivial, .inl trivial, .inl trivial⟩
  · intro j hj; simp (disch := omega) only [mst_n, mst_s, mst_j, nw_n, nw_s, nw_z, ]
theorem c_stInit (hK : StK s) (h0 : 0 < s) (hz : ∀ i, s < i → i < s + 100 → μ 0 i = 0) (hs : ∀ i, μ s i = 0) : Ec (fX8_init s μ) bb (fun μ' b' => b' = bb - 2000 ∧ Fw (fun x => x = 0 ∨ s ≤ x ∧ x < s + 100) μ μ' ∧ StF μ' s ∧ (μ' s 1 = 0 ∧ μ' s 2 = 0 ∧ μ' s 3 = -1 ∧ μ' s 4 = 0 ∧ μ' s 5 = 0) ∧ (∀ i, μ' (s + 1) i = 0) ∧ ∀ j, j < s ∨ s + 100 ≤ j → μ' 0 j = μ 0 j) := by
  have z1 := hz (s + 1) (by omega) (by omega); have z2 := hz (s + 2) (by omega) (by omega); have z3 := hz (s + 3) (by omega) (by omega)
  obtain ⟨k, ⟨k1, n1⟩, ⟨k2, n2⟩, ⟨k3, n3⟩, kl, ks⟩ := hK
  unfold fX8_init
  simp (disch := omega) only [w32_eq, w64_eq, chk_T, chk_t, lt, lm, ob, Int.add_zero, Int.zero_add, true_and, and_true, if_true, if_false, k, k1, n1, k2, n2, k3, n3, mst_n, mst_s, mst_j, nw_n, nw_s, nw_z, ne_eq, z1, z2, z3]
  have F0 : ∀ ν : Mm, ν = mst (mnw (mst (mnw (mst (mst (mnw μ (s + 1)) s 0 (s + 1)) s 3 (-1)) (s + 2)) s 6 (s + 2)) (s + 3)) s 7 (s + 3) → Fw (fun x => x = 0 ∨ s ≤ x ∧ x ≤ s + 3) μ ν ∧ (ν s 0 = s + 1 ∧ ν s 6 = s + 2 ∧ ν s 7 = s + 3) ∧ (ν s 1 = 0 ∧ ν s 2 = 0 ∧ ν s 3 = -1 ∧ ν s 4 = 0 ∧ ν s 5 = 0) ∧ (∀ i, ν (s + 1) i = 0) ∧ ∀ j, j < s ∨ s + 3 < j → ν 0 j = μ 0 j := by
    intro ν e
    subst e
    refine ⟨?_, ⟨?_, ?_, ?_⟩, ⟨?_, ?_, ?_, ?_, ?_⟩, fun i => ?_, fun j hj => ?_⟩
    · repeat first
        | exact Fw.rf
        | apply Fw.st
        | apply Fw.nw
        | omega
    · simp (disch := omega) only [mst_n, mst_s, mst_j, nw_n, nw_s, nw_z, ]
    · simp (disch := omega) only [mst_n, mst_s, mst_j, nw_n, nw_s, nw_z, ]
    · simp (disch := omega) only [mst_n, mst_s, mst_j, nw_n, nw_s, nw_z, ]
    · simp (disch := omega) only [mst_n, mst_s, mst_j, nw_n, nw_s, nw_z, ]; exact hs 1
    · simp (disch := omega) only [mst_n, mst_s, mst_j, nw_n, nw_s, nw_z, ]; exact hs 2
    · simp (disch := omega) only [mst_n, mst_s, mst_j, nw_n, nw_s, nw_z, ]
    · simp (disch := omega) only [mst_n, mst_s, mst_j, nw_n, nw_s, nw_z, ]; exact hs 4
    · simp (disch := omega) only [mst_n, mst_s, mst_j, nw_n, nw_s, nw_z, ]; exact hs 5
    · simp (disch := omega) only [mst_n, mst_s, mst_j, nw_n, nw_s, nw_z, ]
    · simp (disch := omega) only [mst_n, mst_s, mst_j, nw_n, nw_s, nw_z, ]
  have F1 := F0 _ rfl
  generalize mst (mnw (mst (mnw (mst (mst (mnw μ (s + 1)) s 0 (s + 1)) s 3 (-1)) (s + 2)) s 6 (s + 2)) (s + 3)) s 7 (s + 3) = ν at *
  clear F0
  obtain ⟨u1, ⟨u0, u6, u7⟩, u3, u4, u5⟩ := F1
  refine Ec_pay (b1 := bb - 700) (Ec_pay (b1 := bb - 702) (Ec_pay (b1 := bb - 706) ?_ (by omega) (by omega)) (by omega) (by omega)) (by omega) (by omega)
  refine Ec_bind (Ec_lop (P := fun μ' b' => b' = bb - 1206 ∧ Fw (fun x => x = 0 ∨ x = s + 2 ∨ s + 10 ≤ x ∧ x < s + 40) ν μ' ∧ (∀ n, 0 ≤ n → n < 2 → μ' (s + 2) n = s + 10 + 10 * n ∧ LaF μ' (s + 10 + 10 * n) ∧ ∀ i, μ' (s + 10 + 10 * n + 3) i = 0) ∧ ∀ j, j < s ∨ s + 30 ≤ j → μ' 0 j = μ 0 j) (fun q b' => (0 ≤ q.1 ∧ q.1 ≤ 2) ∧ b' = bb - 706 - 250 * q.1 ∧ Fw (fun x => x = 0 ∨ x = s + 2 ∨ s + 10 ≤ x ∧ x < s + 40) ν q.2 ∧ (∀ n, 0 ≤ n → n < q.1 → q.2 (s + 2) n = s + 10 + 10 * n ∧ LaF q.2 (s + 10 + 10 * n) ∧ ∀ i, q.2 (s + 10 + 10 * n + 3) i = 0) ∧ ∀ j, j < s ∨ s + 10 + 10 * q.1 ≤ j → q.2 0 j = μ 0 j) (fun q => (2 - q.1).toNat) ⟨(by first | omega | (dsimp only; omega) | (dsimp only)), by dsimp only; omega, Fw.rf, fun i a c => by dsimp only at c; omega, fun j hj => u5 j (by dsimp only at hj; omega)⟩ (by unfold FU; dsimp only; omega) ?_) ?_
  · rintro ⟨v1, μ1⟩ b1 ⟨q1, q2, q3, q4, q5⟩
    dsimp only at q1 q2 q3 q4 q5 ⊢
    unfold sX8_init_36
    dsimp only
    refine Ec_ite (fun w => Ec_outA ⟨by omega, q3, fun n n0 n1 => q4 n n0 (by omega), fun j hj => q5 j (by omega)⟩) (fun w => ?_)
    have kk := kl v1 q1.1 (by omega)
    have y0 : μ1 0 (s + 10 + 10 * v1) = 0 := (q5 _ (by omega)).trans (hz _ (by omega) (by omega))
    have a6 : μ1 s 6 = s + 2 := by rw [q3 s (by omega)]; exact u6
    simp (disch := omega) only [w32_eq, w64_eq, chk_T, chk_t, lt, lm, ob, Int.add_zero, Int.zero_add, true_and, and_true, if_true, if_false, k, kk.1, y0, ne_eq, a6, k2, n2]
    have hz' : ∀ i, s + 10 + 10 * v1 < i → i ≤ s + 10 + 10 * v1 + 5 → mnw μ1 (s + 10 + 10 * v1) 0 i = 0 := by
      intro i i0 i1; rw [nw_z (by omega) (by omega), q5 _ (by omega)]; exact hz i (by omega) (by omega)
    obtain ⟨μ3, e3, f3, F3, t3, o3⟩ := c_landInit kk (by omega) hz'
    rw [e3]
    simp (disch := omega) only [w32_eq, w64_eq, chk_T, chk_t, lt, lm, ob, Int.add_zero, Int.zero_add, true_and, and_true, if_true, if_false]
    refine Ec_pay (b1 := b1 - 20) (Ec_pay (b1 := b1 - 250) ?_ (by omega) (by omega)) (by omega) (by omega)
    have fA : Fw (fun x => x = 0 ∨ x = s + 2 ∨ s + 10 + 10 * v1 ≤ x ∧ x ≤ s + 10 + 10 * v1 + 5) μ1 (mst μ3 (s + 2) v1 (s + 10 + 10 * v1)) := ((Fw.nw (R := fun x => x = 0 ∨ x = s + 2 ∨ s + 10 + 10 * v1 ≤ x ∧ x ≤ s + 10 + 10 * v1 + 5) (Fw.rf (μ := μ1)) (a := s + 10 + 10 * v1) (by omega) (by omega)).tr (f3.mo (fun x hx => by omega))).st (by omega)
    refine Ec_inA ⟨(by first | omega | (dsimp only; omega) | (dsimp only)), by dsimp only; omega, q3.tr (fA.mo (fun x hx => by omega)), fun n n0 n1 => ?_, fun j hj => ?_⟩ (by first | omega | (dsimp only; omega) | (dsimp only))
    · dsimp only at n1 ⊢
      by_cases e : n = v1
      · subst e
        unfold LaF at F3 ⊢
        rw [mst_s, mst_n (by omega), mst_n (by omega)]
        exact ⟨rfl, F3, t3⟩
      · have o := q4 n n0 (by omega)
        unfold LaF at o ⊢
        rw [fA (s + 10 + 10 * n) (by omega), fA (s + 10 + 10 * n + 3) (by omega), mst_j e, f3 (s + 2) (by omega), nw_n (by omega) (by omega)]; exact o
    · dsimp only at hj ⊢
      rw [mst_n (by omega), o3 j (by omega), nw_z (by omega) (by omega)]; exact q5 j (by omega)
  · rintro μ3 b3 ⟨hb3, w1, w2, w3⟩ cc nn
    refine ⟨_, rfl, ?_⟩
    refine Ec_bind (Ec_lop (P := fun μ' b' => b' = bb - 2000 ∧ Fw (fun x => x = 0 ∨ x = s + 3 ∨ s + 40 ≤ x ∧ x < s + 80) μ3 μ' ∧ (∀ n, 0 ≤ n → n < 4 → μ' (s + 3) n = s + 40 + 10 * n ∧ SkF μ' (s + 40 + 10 * n) ∧ SkB μ' (s + 40 + 10 * n)) ∧ ∀ j, j < s ∨ s + 100 ≤ j → μ' 0 j = μ 0 j) (fun q b' => (0 ≤ q.1 ∧ q.1 ≤ 4) ∧ b' = bb - 1206 - 100 * q.1 ∧ Fw (fun x => x = 0 ∨ x = s + 3 ∨ s + 40 ≤ x ∧ x < s + 80) μ3 q.2 ∧ (∀ n, 0 ≤ n → n < q.1 → q.2 (s + 3) n = s + 40 + 10 * n ∧ SkF q.2 (s + 40 + 10 * n) ∧ SkB q.2 (s + 40 + 10 * n)) ∧ ∀ j, j < s ∨ s + 40 + 10 * q.1 ≤ j → q.2 0 j = μ 0 j) (fun q => (4 - q.1).toNat) ⟨(by first | omega | (dsimp only; omega) | (dsimp only)), by dsimp only; omega, Fw.rf, fun i a c => by dsimp only at c; omega, fun j hj => w3 j (by dsimp only at hj; omega)⟩ (by unfold FU; dsimp only; omega) ?_) ?_
    · rintro ⟨v1, μ1⟩ b1 ⟨q1, q2, q3, q4, q5⟩
      dsimp only at q1 q2 q3 q4 q5 ⊢
      unfold sX8_init_62
      dsimp only
      refine Ec_ite (fun w => ?_) (fun w => ?_)
      · have : v1 = 4 := by omega
        refine ⟨_, 0, 0, bb - 2000, rfl, ⟨rfl, q3, fun n n0 n1 => q4 n n0 (by omega), fun j hj => q5 j (by omega)⟩, by omega, by omega⟩
      · have kk := ks v1 q1.1 (by omega)
        have y0 : μ1 0 (s + 40 + 10 * v1) = 0 := (q5 _ (by omega)).trans (hz _ (by omega) (by omega))
        have a7 : μ1 s 7 = s + 3 := by rw [q3 s (by omega), w1 s (by omega)]; exact u7
        simp (disch := omega) only [w32_eq, w64_eq, chk_T, chk_t, lt, lm, ob, Int.add_zero, Int.zero_add, true_and, and_true, if_true, if_false, k, kk.1, y0, ne_eq, a7, k3, n3]
        have hz' : ∀ i, s + 40 + 10 * v1 < i → i ≤ s + 40 + 10 * v1 + 2 → mnw μ1 (s + 40 + 10 * v1) 0 i = 0 := by
          intro i i0 i1; rw [nw_z (by omega) (by omega), q5 _ (by omega)]; exact hz i (by omega) (by omega)
        obtain ⟨μ5, e3, f3, F3, t3, o3⟩ := c_sketchInit kk (by omega) hz' (fun i => nw_s)
        rw [e3]
        simp (disch := omega) only [w32_eq, w64_eq, chk_T, chk_t, lt, lm, ob, Int.add_zero, Int.zero_add, true_and, and_true, if_true, if_false]
        refine Ec_pay (b1 := b1 - 20) (Ec_pay (b1 := b1 - 100) ?_ (by omega) (by omega)) (by omega) (by omega)
        have fA : Fw (fun x => x = 0 ∨ x = s + 3 ∨ s + 40 + 10 * v1 ≤ x ∧ x ≤ s + 40 + 10 * v1 + 2) μ1 (mst μ5 (s + 3) v1 (s + 40 + 10 * v1)) := ((Fw.nw (R := fun x => x = 0 ∨ x = s + 3 ∨ s + 40 + 10 * v1 ≤ x ∧ x ≤ s + 40 + 10 * v1 + 2) (Fw.rf (μ := μ1)) (a := s + 40 + 10 * v1) (by omega) (by omega)).tr (f3.mo (fun x hx => by omega))).st (by omega)
        refine Ec_inA ⟨(by first | omega | (dsimp only; omega) | (dsimp only)), by dsimp only; omega, q3.tr (fA.mo (fun x hx => by omega)), fun n n0 n1 => ?_, fun j hj => ?_⟩ (by first | omega | (dsimp only; omega) | (dsimp only))
        · dsimp only at n1 ⊢
          by_cases e : n = v1
          · subst e
            unfold SkF at F3 ⊢
            unfold SkB at t3 ⊢
            rw [mst_s, mst_n (by omega)]
            exact ⟨rfl, F3, t3⟩
          · have o := q4 n n0 (by omega)
            unfold SkF SkB at o ⊢
            rw [fA (s + 40 + 10 * n) (by omega), mst_j e, f3 (s + 3) (by omega), nw_n (by omega) (by omega)]; exact o
        · dsimp only at hj ⊢
          rw [mst_n (by omega), o3 j (by omega), nw_z (by omega) (by omega)]; exact q5 j (by omega)
    · rintro μ4 b4 ⟨hb4, x1, x2, x3⟩ cc nn
      refine ⟨_, rfl, ?_⟩
      have r : μ4 s = ν s := (x1 s (by omega)).trans (w1 s (by omega))
      dsimp only
      refine Ec_some ⟨hb4, ?_, ⟨by rw [r]; exact ⟨u0, u6, u7⟩, fun n n0 n1 => ?_, x2⟩, by rw [r]; exact u3, ?_, x3⟩
      · exact ((u1.mo (fun x hx => by omega)).tr (w1.mo (fun x hx => by omega))).tr (x1.mo (fun x hx => by omega))
      · have o := w2 n n0 n1
        unfold LaF at o ⊢
        rw [x1 (s + 2) (by omega), x1 (s + 10 + 10 * n) (by omega), x1 (s + 10 + 10 * n + 3) (by omega)]
        exact ⟨o.1, o.2.1, fun i _ _ => .inl (o.2.2 i)⟩
      · intro i; rw [x1 (s + 1) (by omega), w1 (s + 1) (by omega)]; exact u4 i
end
