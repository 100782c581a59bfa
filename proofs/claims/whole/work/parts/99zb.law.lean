/-! ===== the law's steps ===== -/
def lawI (Ls : Nat) : Int × Mm → Int → Prop := fun t b => b = Bd t.2 ∧ LI t.2 t.1 ∧ 0 ≤ t.1 ∧ t.1 ≤ (Ls : Int) + 9
def lawE : Mm → Int → Prop := fun _ b => 0 ≤ b
def lawM (Ls : Nat) : Int × Mm → Nat := fun t => ((Ls : Int) + 9 - t.1).toNat
section
variable {Ls : Nat} {xs : Nat → Int32} {μ μ2 : Mm} {v3 b1 : Int}
theorem Bd_nn (μ : Mm) : 0 ≤ Bd μ := by
  have s0 : ∀ n, 0 ≤ sb μ n := fun n => by
    unfold sb; split
    · decide
    · exact (ct_b _ 144).1
  have i0 : ∀ k, 0 ≤ ib μ k := fun k => by unfold ib; split <;> decide
  have := s0 0; have := s0 1; have := i0 0; have := i0 1; have := i0 2
  unfold Bd; omega
theorem law_fin (hL : Ls ≤ 4608) (h0 : 0 ≤ v3) (h9 : v3 + 9 ≤ (Ls : Int)) (h : LI μ2 (v3 + 9)) (hb : b1 = Bd μ2) : Ec (some ((Sum.inl (v3 + 9, μ2) : (Int × Mm) ⊕ Mm), 0, 0)) b1 (NxA (lawI Ls) (lawM Ls) lawE (lawM Ls (v3, μ))) := Ec_inA ⟨hb, h, by dsimp only; omega, by dsimp only; omega⟩ (by unfold lawM; dsimp only; omega)
set_option maxRecDepth 4000 in
theorem st_feed (hL : Ls ≤ 4608) (h : LI μ v3) (h0 : 0 ≤ v3) (h9 : v3 + 9 ≤ (Ls : Int)) : Ec (jL_law_224 Ls xs 100 20000 v3 μ) (Bd μ) (NxA (lawI Ls) (lawM Ls) lawE (lawM Ls (v3, μ))) := by
  unfold jL_law_224
  simp (disch := omega) only [w32_eq, w64_eq, chk_T, chk_t, lt, lm, ob, Int.add_zero, Int.zero_add, true_and, and_true, if_true, if_false, K100, K20000]
  refine Ec_bindE (w_feed (vb' := v3 + 9) h (by omega) (R32_i _) (R32_i _) (R32_i _) (R32_i _) (R32_i _)) ?_
  rintro ⟨r, μ1⟩ hW
  obtain ⟨⟨r2, μ2⟩, e, h1, h2, h3⟩ := hW
  dsimp only at e h1 h2 h3 ⊢
  rw [e]
  simp only [ob]
  rw [if_pos h1]
  exact law_fin hL h0 h9 h2 h3
set_option maxRecDepth 4000 in
theorem st_end (hL : Ls ≤ 4608) (h : LI μ v3) (h0 : 0 ≤ v3) (h9 : v3 + 9 ≤ (Ls : Int)) : Ec (jL_law_287 Ls xs 100 20000 v3 μ) (Bd μ) (NxA (lawI Ls) (lawM Ls) lawE (lawM Ls (v3, μ))) := by
  unfold jL_law_287
  simp (disch := omega) only [w32_eq, w64_eq, chk_T, chk_t, lt, lm, ob, Int.add_zero, Int.zero_add, true_and, and_true, if_true, if_false, K100, K20000]
  refine Ec_bindE (w_end (vb' := v3 + 9) h (by omega) _) ?_
  rintro ⟨r, μ1⟩ hW
  obtain ⟨⟨r2, μ2⟩, e, h1, h2, h3⟩ := hW
  dsimp only at e h1 h2 h3 ⊢
  rw [e]
  simp only [ob]
  rw [if_pos h1]
  exact law_fin hL h0 h9 h2 h3
set_option maxRecDepth 4000 in
theorem st_text (hL : Ls ≤ 4608) (h : LI μ v3) (h0 : 0 ≤ v3) (h9 : v3 + 9 ≤ (Ls : Int)) : Ec (jL_law_310 Ls xs 100 20000 v3 μ) (Bd μ) (NxA (lawI Ls) (lawM Ls) lawE (lawM Ls (v3, μ))) := by
  unfold jL_law_310
  simp (disch := omega) only [w32_eq, w64_eq, chk_T, chk_t, lt, lm, ob, Int.add_zero, Int.zero_add, true_and, and_true, if_true, if_false, K100, K20000]
  refine Ec_bindE (w_text (vb' := v3 + 9) h (by omega) (by omega) _ _) ?_
  rintro ⟨r, μ1⟩ hW
  obtain ⟨⟨r2, μ2⟩, e, h1, h2, h3⟩ := hW
  dsimp only at e h1 h2 h3 ⊢
  rw [e]
  simp only [ob]
  rw [if_pos h1]
  exact law_fin hL h0 h9 h2 h3
set_option maxRecDepth 4000 in
theorem st_fault (hL : Ls ≤ 4608) (h : LI μ v3) (h0 : 0 ≤ v3) (h9 : v3 + 9 ≤ (Ls : Int)) : Ec (jL_law_343 Ls xs 100 20000 v3 μ) (Bd μ) (NxA (lawI Ls) (lawM Ls) lawE (lawM Ls (v3, μ))) := by
  unfold jL_law_343
  simp (disch := omega) only [w32_eq, w64_eq, chk_T, chk_t, lt, lm, ob, Int.add_zero, Int.zero_add, true_and, and_true, if_true, if_false, K100, K20000]
  rw [q_fault h.nw ((xs (v3 + 1).toNat).toInt), rr_fault h.md rfl ((xs (v3 + 1).toNat).toInt)]
  simp only [ob, if_true]
  exact law_fin hL h0 h9 (LI_v h (by omega)) rfl
set_option maxRecDepth 4000 in
theorem st_land (hL : Ls ≤ 4608) (h : LI μ v3) (h0 : 0 ≤ v3) (h9 : v3 + 9 ≤ (Ls : Int)) : Ec (jL_law_366 Ls xs 100 20000 v3 μ) (Bd μ) (NxA (lawI Ls) (lawM Ls) lawE (lawM Ls (v3, μ))) := by
  unfold jL_law_366
  simp (disch := omega) only [w32_eq, w64_eq, chk_T, chk_t, lt, lm, ob, Int.add_zero, Int.zero_add, true_and, and_true, if_true, if_false, K100, K20000]
  rw [q_land h.nw ((xs (v3 + 1).toNat).toInt) (R32_i _), rr_land h.md rfl h.ok ((xs (v3 + 1).toNat).toInt) (R32_i _)]
  simp only [ob, if_true]
  exact law_fin hL h0 h9 (LI_v h (by omega)) rfl
set_option maxRecDepth 4000 in
theorem st_height (hL : Ls ≤ 4608) (h : LI μ v3) (h0 : 0 ≤ v3) (h9 : v3 + 9 ≤ (Ls : Int)) : Ec (jL_law_399 Ls xs 100 20000 v3 μ) (Bd μ) (NxA (lawI Ls) (lawM Ls) lawE (lawM Ls (v3, μ))) := by
  unfold jL_law_399
  simp (disch := omega) only [w32_eq, w64_eq, chk_T, chk_t, lt, lm, ob, Int.add_zero, Int.zero_add, true_and, and_true, if_true, if_false, K100, K20000]
  rw [q_height h.nw ((xs (v3 + 1).toNat).toInt) ((xs (v3 + 2).toNat).toInt), rr_height h.md rfl h.ok ((xs (v3 + 1).toNat).toInt) ((xs (v3 + 2).toNat).toInt)]
  simp only [ob, if_true]
  exact law_fin hL h0 h9 (LI_v h (by omega)) rfl
set_option maxRecDepth 4000 in
theorem st_mend (hL : Ls ≤ 4608) (h : LI μ v3) (h0 : 0 ≤ v3) (h9 : v3 + 9 ≤ (Ls : Int)) : Ec (jL_law_432 Ls xs 100 20000 v3 μ) (Bd μ) (NxA (lawI Ls) (lawM Ls) lawE (lawM Ls (v3, μ))) := by
  unfold jL_law_432
  simp (disch := omega) only [w32_eq, w64_eq, chk_T, chk_t, lt, lm, ob, Int.add_zero, Int.zero_add, true_and, and_true, if_true, if_false, K100, K20000]
  refine Ec_bindE (w_mend (vb' := v3 + 9) h (by omega) (by omega) _ _ _) ?_
  rintro ⟨r, μ1⟩ hW
  obtain ⟨⟨r2, μ2⟩, e, h1, h2, h3⟩ := hW
  dsimp only at e h1 h2 h3 ⊢
  rw [e]
  simp only [ob]
  rw [if_pos h1]
  exact law_fin hL h0 h9 h2 h3
set_option maxRecDepth 4000 in
theorem st_sketch (hL : Ls ≤ 4608) (h : LI μ v3) (h0 : 0 ≤ v3) (h9 : v3 + 9 ≤ (Ls : Int)) : Ec (jL_law_475 Ls xs 100 20000 v3 μ) (Bd μ) (NxA (lawI Ls) (lawM Ls) lawE (lawM Ls (v3, μ))) := by
  unfold jL_law_475
  simp (disch := omega) only [w32_eq, w64_eq, chk_T, chk_t, lt, lm, ob, Int.add_zero, Int.zero_add, true_and, and_true, if_true, if_false, K100, K20000]
  rw [q_sketch h.nw ((xs (v3 + 1).toNat).toInt) (R32_i _), rr_sketch h.md rfl h.ok ((xs (v3 + 1).toNat).toInt) (R32_i _)]
  simp only [ob, if_true]
  exact law_fin hL h0 h9 (LI_v h (by omega)) rfl
set_option maxRecDepth 4000 in
theorem st_rise (hL : Ls ≤ 4608) (h : LI μ v3) (h0 : 0 ≤ v3) (h9 : v3 + 9 ≤ (Ls : Int)) : Ec (jL_law_508 Ls xs 100 20000 v3 μ) (Bd μ) (NxA (lawI Ls) (lawM Ls) lawE (lawM Ls (v3, μ))) := by
  unfold jL_law_508
  simp (disch := omega) only [w32_eq, w64_eq, chk_T, chk_t, lt, lm, ob, Int.add_zero, Int.zero_add, true_and, and_true, if_true, if_false, K100, K20000]
  rw [q_rise h.nw ((xs (v3 + 1).toNat).toInt) ((xs (v3 + 2).toNat).toInt) ((xs (v3 + 3).toNat).toInt), rr_rise h.md rfl h.ok ((xs (v3 + 1).toNat).toInt) ((xs (v3 + 2).toNat).toInt) ((xs (v3 + 3).toNat).toInt)]
  simp only [ob, if_true]
  exact law_fin hL h0 h9 (LI_v h (by omega)) rfl
set_option maxRecDepth 4000 in
theorem st_seen (hL : Ls ≤ 4608) (h : LI μ v3) (h0 : 0 ≤ v3) (h9 : v3 + 9 ≤ (Ls : Int)) : Ec (jL_law_551 Ls xs 100 20000 v3 μ) (Bd μ) (NxA (lawI Ls) (lawM Ls) lawE (lawM Ls (v3, μ))) := by
  unfold jL_law_551
  simp (disch := omega) only [w32_eq, w64_eq, chk_T, chk_t, lt, lm, ob, Int.add_zero, Int.zero_add, true_and, and_true, if_true, if_false, K100, K20000]
  refine Ec_bind (w_seen (vb' := v3 + 9) h (by omega) _ _ _) ?_
  rintro ⟨r, μ1⟩ b1 hW c n
  refine ⟨_, rfl, ?_⟩
  obtain ⟨r2, e, h1, h2, h3⟩ := hW
  dsimp only at e h1 h2 h3 ⊢
  try simp (disch := omega) only [w32_eq, w64_eq, chk_T, chk_t, lt, lm, ob, Int.add_zero, Int.zero_add, true_and, and_true, if_true, if_false, K100, K20000]
  rw [e]
  simp only [ob]
  rw [if_pos h1]
  exact law_fin hL h0 h9 h2 h3
set_option maxRecDepth 4000 in
theorem st_ray (hL : Ls ≤ 4608) (h : LI μ v3) (h0 : 0 ≤ v3) (h9 : v3 + 9 ≤ (Ls : Int)) : Ec (jL_law_594 Ls xs 100 20000 v3 μ) (Bd μ) (NxA (lawI Ls) (lawM Ls) lawE (lawM Ls (v3, μ))) := by
  unfold jL_law_594
  simp (disch := omega) only [w32_eq, w64_eq, chk_T, chk_t, lt, lm, ob, Int.add_zero, Int.zero_add, true_and, and_true, if_true, if_false, K100, K20000]
  refine Ec_bind (w_ray (vb' := v3 + 9) h (by omega) _ _ _) ?_
  rintro ⟨r, μ1⟩ b1 hW c n
  refine ⟨_, rfl, ?_⟩
  obtain ⟨⟨r2, μ2⟩, e, h1, h2, h3⟩ := hW
  dsimp only at e h1 h2 h3 ⊢
  try simp (disch := omega) only [w32_eq, w64_eq, chk_T, chk_t, lt, lm, ob, Int.add_zero, Int.zero_add, true_and, and_true, if_true, if_false, K100, K20000]
  rw [e]
  simp only [ob]
  rw [if_pos h1]
  exact law_fin hL h0 h9 h2 h3
set_option maxRecDepth 4000 in
theorem st_hump (hL : Ls ≤ 4608) (h : LI μ v3) (h0 : 0 ≤ v3) (h9 : v3 + 9 ≤ (Ls : Int)) : Ec (jL_law_637 Ls xs 100 20000 v3 μ) (Bd μ) (NxA (lawI Ls) (lawM Ls) lawE (lawM Ls (v3, μ))) := by
  unfold jL_law_637
  simp (disch := omega) only [w32_eq, w64_eq, chk_T, chk_t, lt, lm, ob, Int.add_zero, Int.zero_add, true_and, and_true, if_true, if_false, K100, K20000]
  refine Ec_bind (w_hump (vb' := v3 + 9) h (by omega) _ _ _) ?_
  rintro ⟨r, μ1⟩ b1 hW c n
  refine ⟨_, rfl, ?_⟩
  obtain ⟨⟨r2, μ2⟩, e, h1, h2, h3⟩ := hW
  dsimp only at e h1 h2 h3 ⊢
  try simp (disch := omega) only [w32_eq, w64_eq, chk_T, chk_t, lt, lm, ob, Int.add_zero, Int.zero_add, true_and, and_true, if_true, if_false, K100, K20000]
  rw [e]
  simp only [ob]
  rw [if_pos h1]
  exact law_fin hL h0 h9 h2 h3
set_option maxRecDepth 4000 in
theorem st_steeper (hL : Ls ≤ 4608) (h : LI μ v3) (h0 : 0 ≤ v3) (h9 : v3 + 9 ≤ (Ls : Int)) : Ec (jL_law_680 Ls xs 100 20000 v3 μ) (Bd μ) (NxA (lawI Ls) (lawM Ls) lawE (lawM Ls (v3, μ))) := by
  unfold jL_law_680
  simp (disch := omega) only [w32_eq, w64_eq, chk_T, chk_t, lt, lm, ob, Int.add_zero, Int.zero_add, true_and, and_true, if_true, if_false, K100, K20000]
  refine Ec_bind (w_steeper (vb' := v3 + 9) h (by omega) _ _ _ _) ?_
  rintro ⟨r, μ1⟩ b1 hW c n
  refine ⟨_, rfl, ?_⟩
  obtain ⟨⟨r2, μ2⟩, e, h1, h2, h3⟩ := hW
  dsimp only at e h1 h2 h3 ⊢
  try simp (disch := omega) only [w32_eq, w64_eq, chk_T, chk_t, lt, lm, ob, Int.add_zero, Int.zero_add, true_and, and_true, if_true, if_false, K100, K20000]
  rw [e]
  simp only [ob]
  rw [if_pos h1]
  exact law_fin hL h0 h9 h2 h3
set_option maxRecDepth 4000 in
theorem st_first (hL : Ls ≤ 4608) (h : LI μ v3) (h0 : 0 ≤ v3) (h9 : v3 + 9 ≤ (Ls : Int)) : Ec (jL_law_733 Ls xs 100 20000 v3 μ) (Bd μ) (NxA (lawI Ls) (lawM Ls) lawE (lawM Ls (v3, μ))) := by
  unfold jL_law_733
  simp (disch := omega) only [w32_eq, w64_eq, chk_T, chk_t, lt, lm, ob, Int.add_zero, Int.zero_add, true_and, and_true, if_true, if_false, K100, K20000]
  refine Ec_bind (w_first (vb' := v3 + 9) h (by omega) _ _ _ _ _) ?_
  rintro ⟨r, μ1⟩ b1 hW c n
  refine ⟨_, rfl, ?_⟩
  obtain ⟨⟨r2, μ2⟩, e, h1, h2, h3⟩ := hW
  dsimp only at e h1 h2 h3 ⊢
  try simp (disch := omega) only [w32_eq, w64_eq, chk_T, chk_t, lt, lm, ob, Int.add_zero, Int.zero_add, true_and, and_true, if_true, if_false, K100, K20000]
  rw [e]
  simp only [ob]
  rw [if_pos h1]
  exact law_fin hL h0 h9 h2 h3
set_option maxRecDepth 4000 in
theorem st_fits (hL : Ls ≤ 4608) (h : LI μ v3) (h0 : 0 ≤ v3) (h9 : v3 + 9 ≤ (Ls : Int)) : Ec (jL_law_796 Ls xs 100 20000 v3 μ) (Bd μ) (NxA (lawI Ls) (lawM Ls) lawE (lawM Ls (v3, μ))) := by
  unfold jL_law_796
  simp (disch := omega) only [w32_eq, w64_eq, chk_T, chk_t, lt, lm, ob, Int.add_zero, Int.zero_add, true_and, and_true, if_true, if_false, K100, K20000]
  refine Ec_bind (w_fits (vb' := v3 + 9) h (by omega) _ _ _ _) ?_
  rintro ⟨r, μ1⟩ b1 hW c n
  refine ⟨_, rfl, ?_⟩
  obtain ⟨⟨r2, μ2⟩, e, h1, h2, h3⟩ := hW
  dsimp only at e h1 h2 h3 ⊢
  try simp (disch := omega) only [w32_eq, w64_eq, chk_T, chk_t, lt, lm, ob, Int.add_zero, Int.zero_add, true_and, and_true, if_true, if_false, K100, K20000]
  rw [e]
  simp only [ob]
  rw [if_pos h1]
  exact law_fin hL h0 h9 h2 h3
set_option maxRecDepth 4000 in
theorem st_where (hL : Ls ≤ 4608) (h : LI μ v3) (h0 : 0 ≤ v3) (h9 : v3 + 9 ≤ (Ls : Int)) : Ec (jL_law_849 Ls xs 100 20000 v3 μ) (Bd μ) (NxA (lawI Ls) (lawM Ls) lawE (lawM Ls (v3, μ))) := by
  unfold jL_law_849
  simp (disch := omega) only [w32_eq, w64_eq, chk_T, chk_t, lt, lm, ob, Int.add_zero, Int.zero_add, true_and, and_true, if_true, if_false, K100, K20000]
  refine Ec_bind (w_where (vb' := v3 + 9) h (by omega) _ _ _ _) ?_
  rintro ⟨r, μ1⟩ b1 hW c n
  refine ⟨_, rfl, ?_⟩
  obtain ⟨⟨r2, μ2⟩, e, h1, h2, h3⟩ := hW
  dsimp only at e h1 h2 h3 ⊢
  try simp (disch := omega) only [w32_eq, w64_eq, chk_T, chk_t, lt, lm, ob, Int.add_zero, Int.zero_add, true_and, and_true, if_true, if_false, K100, K20000]
  rw [e]
  simp only [ob]
  rw [if_pos h1]
  exact law_fin hL h0 h9 h2 h3
set_option maxRecDepth 4000 in
theorem st_hills (hL : Ls ≤ 4608) (h : LI μ v3) (h0 : 0 ≤ v3) (h9 : v3 + 9 ≤ (Ls : Int)) : Ec (jL_law_902 Ls xs 100 20000 v3 μ) (Bd μ) (NxA (lawI Ls) (lawM Ls) lawE (lawM Ls (v3, μ))) := by
  unfold jL_law_902
  simp (disch := omega) only [w32_eq, w64_eq, chk_T, chk_t, lt, lm, ob, Int.add_zero, Int.zero_add, true_and, and_true, if_true, if_false, K100, K20000]
  refine Ec_bind (w_hills (vb' := v3 + 9) h (by omega) _ _ _ _) ?_
  rintro ⟨r, μ1⟩ b1 hW c n
  refine ⟨_, rfl, ?_⟩
  obtain ⟨⟨r2, μ2⟩, e, h1, h2, h3⟩ := hW
  dsimp only at e h1 h2 h3 ⊢
  try simp (disch := omega) only [w32_eq, w64_eq, chk_T, chk_t, lt, lm, ob, Int.add_zero, Int.zero_add, true_and, and_true, if_true, if_false, K100, K20000]
  rw [e]
  simp only [ob]
  rw [if_pos h1]
  exact law_fin hL h0 h9 h2 h3
set_option maxRecDepth 4000 in
theorem st_sure (hL : Ls ≤ 4608) (h : LI μ v3) (h0 : 0 ≤ v3) (h9 : v3 + 9 ≤ (Ls : Int)) : Ec (jL_law_955 Ls xs 100 20000 v3 μ) (Bd μ) (NxA (lawI Ls) (lawM Ls) lawE (lawM Ls (v3, μ))) := by
  unfold jL_law_955
  simp (disch := omega) only [w32_eq, w64_eq, chk_T, chk_t, lt, lm, ob, Int.add_zero, Int.zero_add, true_and, and_true, if_true, if_false, K100, K20000]
  refine Ec_bind (w_sure (vb' := v3 + 9) h (by omega) _ _ _) ?_
  rintro ⟨r, μ1⟩ b1 hW c n
  refine ⟨_, rfl, ?_⟩
  obtain ⟨⟨r2, μ2⟩, e, h1, h2, h3⟩ := hW
  dsimp only at e h1 h2 h3 ⊢
  try simp (disch := omega) only [w32_eq, w64_eq, chk_T, chk_t, lt, lm, ob, Int.add_zero, Int.zero_add, true_and, and_true, if_true, if_false, K100, K20000]
  rw [e]
  simp only [ob]
  rw [if_pos h1]
  exact law_fin hL h0 h9 h2 h3
set_option maxRecDepth 4000 in
theorem st_bars (hL : Ls ≤ 4608) (h : LI μ v3) (h0 : 0 ≤ v3) (h9 : v3 + 9 ≤ (Ls : Int)) : Ec (jL_law_998 Ls xs 100 20000 v3 μ) (Bd μ) (NxA (lawI Ls) (lawM Ls) lawE (lawM Ls (v3, μ))) := by
  unfold jL_law_998
  simp (disch := omega) only [w32_eq, w64_eq, chk_T, chk_t, lt, lm, ob, Int.add_zero, Int.zero_add, true_and, and_true, if_true, if_false, K100, K20000]
  refine Ec_bind (w_bars (vb' := v3 + 9) h (by omega) _ _ _) ?_
  rintro ⟨r, μ1⟩ b1 hW c n
  refine ⟨_, rfl, ?_⟩
  obtain ⟨⟨r2, μ2⟩, e, h1, h2, h3⟩ := hW
  dsimp only at e h1 h2 h3 ⊢
  try simp (disch := omega) only [w32_eq, w64_eq, chk_T, chk_t, lt, lm, ob, Int.add_zero, Int.zero_add, true_and, and_true, if_true, if_false, K100, K20000]
  rw [e]
  simp only [ob]
  rw [if_pos h1]
  exact law_fin hL h0 h9 h2 h3
set_option maxRecDepth 4000 in
theorem st_doubt (hL : Ls ≤ 4608) (h : LI μ v3) (h0 : 0 ≤ v3) (h9 : v3 + 9 ≤ (Ls : Int)) : Ec (jL_law_1041 Ls xs 100 20000 v3 μ) (Bd μ) (NxA (lawI Ls) (lawM Ls) lawE (lawM Ls (v3, μ))) := by
  unfold jL_law_1041
  simp (disch := omega) only [w32_eq, w64_eq, chk_T, chk_t, lt, lm, ob, Int.add_zero, Int.zero_add, true_and, and_true, if_true, if_false, K100, K20000]
  refine Ec_bind (w_doubt (vb' := v3 + 9) h (by omega) _ _) ?_
  rintro ⟨r, μ1⟩ b1 hW c n
  refine ⟨_, rfl, ?_⟩
  obtain ⟨⟨r2, μ2⟩, e, h1, h2, h3⟩ := hW
  dsimp only at e h1 h2 h3 ⊢
  try simp (disch := omega) only [w32_eq, w64_eq, chk_T, chk_t, lt, lm, ob, Int.add_zero, Int.zero_add, true_and, and_true, if_true, if_false, K100, K20000]
  rw [e]
  simp only [ob]
  rw [if_pos h1]
  exact law_fin hL h0 h9 h2 h3
set_option maxRecDepth 4000 in
theorem st_since (hL : Ls ≤ 4608) (h : LI μ v3) (h0 : 0 ≤ v3) (h9 : v3 + 9 ≤ (Ls : Int)) : Ec (jL_law_1074 Ls xs 100 20000 v3 μ) (Bd μ) (NxA (lawI Ls) (lawM Ls) lawE (lawM Ls (v3, μ))) := by
  unfold jL_law_1074
  simp (disch := omega) only [w32_eq, w64_eq, chk_T, chk_t, lt, lm, ob, Int.add_zero, Int.zero_add, true_and, and_true, if_true, if_false, K100, K20000]
  by_cases z3 : (xs (v3 + 3).toNat).toInt = 0
  · rw [if_pos z3]
    unfold jL_law_1098
    simp (disch := omega) only [w32_eq, w64_eq, chk_T, chk_t, lt, lm, ob, Int.add_zero, Int.zero_add, true_and, and_true, if_true, if_false, K100, K20000]
    refine Ec_bind (w_since (vb' := v3 + 9) h (by omega) _ _ _) ?_
    rintro ⟨r, μ1⟩ b1 hW c n
    refine ⟨_, rfl, ?_⟩
    obtain ⟨⟨r2, μ2⟩, e, h1, h2, h3⟩ := hW
    dsimp only at e h1 h2 h3 ⊢
    try simp (disch := omega) only [w32_eq, w64_eq, chk_T, chk_t, lt, lm, ob, Int.add_zero, Int.zero_add, true_and, and_true, if_true, if_false, K100, K20000]
    rw [if_pos z3]
    unfold jL_law_1125
    simp (disch := omega) only [w32_eq, w64_eq, chk_T, chk_t, lt, lm, ob, Int.add_zero, Int.zero_add, true_and, and_true, if_true, if_false, K100, K20000]
    rw [e]
    simp only [ob]
    rw [if_pos h1]
    exact law_fin hL h0 h9 h2 h3
  · rw [if_neg z3]
    unfold jL_law_1098
    simp (disch := omega) only [w32_eq, w64_eq, chk_T, chk_t, lt, lm, ob, Int.add_zero, Int.zero_add, true_and, and_true, if_true, if_false, K100, K20000]
    refine Ec_bind (w_since (vb' := v3 + 9) h (by omega) _ _ _) ?_
    rintro ⟨r, μ1⟩ b1 hW c n
    refine ⟨_, rfl, ?_⟩
    obtain ⟨⟨r2, μ2⟩, e, h1, h2, h3⟩ := hW
    dsimp only at e h1 h2 h3 ⊢
    try simp (disch := omega) only [w32_eq, w64_eq, chk_T, chk_t, lt, lm, ob, Int.add_zero, Int.zero_add, true_and, and_true, if_true, if_false, K100, K20000]
    rw [if_neg z3]
    unfold jL_law_1125
    simp (disch := omega) only [w32_eq, w64_eq, chk_T, chk_t, lt, lm, ob, Int.add_zero, Int.zero_add, true_and, and_true, if_true, if_false, K100, K20000]
    rw [e]
    simp only [ob]
    rw [if_pos h1]
    exact law_fin hL h0 h9 h2 h3
set_option maxRecDepth 4000 in
theorem st_pairs (hL : Ls ≤ 4608) (h : LI μ v3) (h0 : 0 ≤ v3) (h9 : v3 + 9 ≤ (Ls : Int)) : Ec (jL_law_1133 Ls xs 100 20000 v3 μ) (Bd μ) (NxA (lawI Ls) (lawM Ls) lawE (lawM Ls (v3, μ))) := by
  unfold jL_law_1133
  simp (disch := omega) only [w32_eq, w64_eq, chk_T, chk_t, lt, lm, ob, Int.add_zero, Int.zero_add, true_and, and_true, if_true, if_false, K100, K20000]
  refine Ec_bind (w_pairs (vb' := v3 + 9) h (by omega) _ _ _ _) ?_
  rintro ⟨r, μ1⟩ b1 hW c n
  refine ⟨_, rfl, ?_⟩
  obtain ⟨⟨r2, μ2⟩, e, h1, h2, h3⟩ := hW
  dsimp only at e h1 h2 h3 ⊢
  try simp (disch := omega) only [w32_eq, w64_eq, chk_T, chk_t, lt, lm, ob, Int.add_zero, Int.zero_add, true_and, and_true, if_true, if_false, K100, K20000]
  rw [e]
  simp only [ob]
  rw [if_pos h1]
  exact law_fin hL h0 h9 h2 h3
set_option maxRecDepth 4000 in
theorem st_way (hL : Ls ≤ 4608) (h : LI μ v3) (h0 : 0 ≤ v3) (h9 : v3 + 9 ≤ (Ls : Int)) : Ec (jL_law_1186 Ls xs 100 20000 v3 μ) (Bd μ) (NxA (lawI Ls) (lawM Ls) lawE (lawM Ls (v3, μ))) := by
  unfold jL_law_1186
  simp (disch := omega) only [w32_eq, w64_eq, chk_T, chk_t, lt, lm, ob, Int.add_zero, Int.zero_add, true_and, and_true, if_true, if_false, K100, K20000]
  refine Ec_bind (w_way (vb' := v3 + 9) h (by omega) _ _ _ _) ?_
  rintro ⟨r, μ1⟩ b1 hW c n
  refine ⟨_, rfl, ?_⟩
  obtain ⟨⟨r2, μ2⟩, e, h1, h2, h3⟩ := hW
  dsimp only at e h1 h2 h3 ⊢
  try simp (disch := omega) only [w32_eq, w64_eq, chk_T, chk_t, lt, lm, ob, Int.add_zero, Int.zero_add, true_and, and_true, if_true, if_false, K100, K20000]
  rw [e]
  simp only [ob]
  rw [if_pos h1]
  exact law_fin hL h0 h9 h2 h3
set_option maxRecDepth 4000 in
theorem st_draw (hL : Ls ≤ 4608) (h : LI μ v3) (h0 : 0 ≤ v3) (h9 : v3 + 9 ≤ (Ls : Int)) : Ec (jL_law_1239 Ls xs 100 20000 v3 μ) (Bd μ) (NxA (lawI Ls) (lawM Ls) lawE (lawM Ls (v3, μ))) := by
  unfold jL_law_1239
  simp (disch := omega) only [w32_eq, w64_eq, chk_T, chk_t, lt, lm, ob, Int.add_zero, Int.zero_add, true_and, and_true, if_true, if_false, K100, K20000]
  refine Ec_bind (w_draw (vb' := v3 + 9) h (by omega) _ _ _ _ _) ?_
  rintro ⟨r, μ1⟩ b1 hW c n
  refine ⟨_, rfl, ?_⟩
  obtain ⟨⟨r2, μ2⟩, e, h1, h2, h3⟩ := hW
  dsimp only at e h1 h2 h3 ⊢
  try simp (disch := omega) only [w32_eq, w64_eq, chk_T, chk_t, lt, lm, ob, Int.add_zero, Int.zero_add, true_and, and_true, if_true, if_false, K100, K20000]
  rw [e]
  simp only [ob]
  rw [if_pos h1]
  exact law_fin hL h0 h9 h2 h3
set_option maxRecDepth 4000 in
theorem st_rivals (hL : Ls ≤ 4608) (h : LI μ v3) (h0 : 0 ≤ v3) (h9 : v3 + 9 ≤ (Ls : Int)) : Ec (jL_law_1302 Ls xs 100 20000 v3 μ) (Bd μ) (NxA (lawI Ls) (lawM Ls) lawE (lawM Ls (v3, μ))) := by
  unfold jL_law_1302
  simp (disch := omega) only [w32_eq, w64_eq, chk_T, chk_t, lt, lm, ob, Int.add_zero, Int.zero_add, true_and, and_true, if_true, if_false, K100, K20000]
  refine Ec_bind (w_rivals (vb' := v3 + 9) h (by omega) _ _ _ _) ?_
  rintro ⟨r, μ1⟩ b1 hW c n
  refine ⟨_, rfl, ?_⟩
  obtain ⟨⟨r2, μ2⟩, e, h1, h2, h3⟩ := hW
  dsimp only at e h1 h2 h3 ⊢
  try simp (disch := omega) only [w32_eq, w64_eq, chk_T, chk_t, lt, lm, ob, Int.add_zero, Int.zero_add, true_and, and_true, if_true, if_false, K100, K20000]
  rw [e]
  simp only [ob]
  rw [if_pos h1]
  exact law_fin hL h0 h9 h2 h3
set_option maxRecDepth 4000 in
theorem st_known (hL : Ls ≤ 4608) (h : LI μ v3) (h0 : 0 ≤ v3) (h9 : v3 + 9 ≤ (Ls : Int)) : Ec (jL_law_1355 Ls xs 100 20000 v3 μ) (Bd μ) (NxA (lawI Ls) (lawM Ls) lawE (lawM Ls (v3, μ))) := by
  unfold jL_law_1355
  simp (disch := omega) only [w32_eq, w64_eq, chk_T, chk_t, lt, lm, ob, Int.add_zero, Int.zero_add, true_and, and_true, if_true, if_false, K100, K20000]
  refine Ec_bind (w_known (vb' := v3 + 9) h (by omega) _ _) ?_
  rintro ⟨r, μ1⟩ b1 hW c n
  refine ⟨_, rfl, ?_⟩
  obtain ⟨⟨r2, μ2⟩, e, h1, h2, h3⟩ := hW
  dsimp only at e h1 h2 h3 ⊢
  try simp (disch := omega) only [w32_eq, w64_eq, chk_T, chk_t, lt, lm, ob, Int.add_zero, Int.zero_add, true_and, and_true, if_true, if_false, K100, K20000]
  rw [e]
  simp only [ob]
  rw [if_pos h1]
  exact law_fin hL h0 h9 h2 h3
set_option maxRecDepth 4000 in
theorem st_sees (hL : Ls ≤ 4608) (h : LI μ v3) (h0 : 0 ≤ v3) (h9 : v3 + 9 ≤ (Ls : Int)) : Ec (jL_law_1388 Ls xs 100 20000 v3 μ) (Bd μ) (NxA (lawI Ls) (lawM Ls) lawE (lawM Ls (v3, μ))) := by
  unfold jL_law_1388
  simp (disch := omega) only [w32_eq, w64_eq, chk_T, chk_t, lt, lm, ob, Int.add_zero, Int.zero_add, true_and, and_true, if_true, if_false, K100, K20000]
  refine Ec_bind (w_sees (vb' := v3 + 9) h (by omega) _ _) ?_
  rintro ⟨r, μ1⟩ b1 hW c n
  refine ⟨_, rfl, ?_⟩
  obtain ⟨r2, e, h1, h2, h3⟩ := hW
  dsimp only at e h1 h2 h3 ⊢
  try simp (disch := omega) only [w32_eq, w64_eq, chk_T, chk_t, lt, lm, ob, Int.add_zero, Int.zero_add, true_and, and_true, if_true, if_false, K100, K20000]
  rw [e]
  simp only [ob]
  rw [if_pos h1]
  exact law_fin hL h0 h9 h2 h3
set_option maxRecDepth 4000 in
theorem st_most (hL : Ls ≤ 4608) (h : LI μ v3) (h0 : 0 ≤ v3) (h9 : v3 + 9 ≤ (Ls : Int)) : Ec (jL_law_1421 Ls xs 100 20000 v3 μ) (Bd μ) (NxA (lawI Ls) (lawM Ls) lawE (lawM Ls (v3, μ))) := by
  unfold jL_law_1421
  simp (disch := omega) only [w32_eq, w64_eq, chk_T, chk_t, lt, lm, ob, Int.add_zero, Int.zero_add, true_and, and_true, if_true, if_false, K100, K20000]
  refine Ec_bind (w_most (vb' := v3 + 9) h (by omega) _) ?_
  rintro ⟨r, μ1⟩ b1 hW c n
  refine ⟨_, rfl, ?_⟩
  obtain ⟨r2, e, h1, h2, h3⟩ := hW
  dsimp only at e h1 h2 h3 ⊢
  try simp (disch := omega) only [w32_eq, w64_eq, chk_T, chk_t, lt, lm, ob, Int.add_zero, Int.zero_add, true_and, and_true, if_true, if_false, K100, K20000]
  rw [e]
  simp only [ob]
  rw [if_pos h1]
  exact law_fin hL h0 h9 h2 h3
set_option maxRecDepth 4000 in
theorem st_lacks (hL : Ls ≤ 4608) (h : LI μ v3) (h0 : 0 ≤ v3) (h9 : v3 + 9 ≤ (Ls : Int)) : Ec (jL_law_1444 Ls xs 100 20000 v3 μ) (Bd μ) (NxA (lawI Ls) (lawM Ls) lawE (lawM Ls (v3, μ))) := by
  unfold jL_law_1444
  simp (disch := omega) only [w32_eq, w64_eq, chk_T, chk_t, lt, lm, ob, Int.add_zero, Int.zero_add, true_and, and_true, if_true, if_false, K100, K20000]
  refine Ec_bindE (w_lacks (vb' := v3 + 9) h (by omega) _ _ _ _) ?_
  rintro ⟨r, μ1⟩ hW
  obtain ⟨⟨r2, μ2⟩, e, h1, h2, h3⟩ := hW
  dsimp only at e h1 h2 h3 ⊢
  rw [e]
  simp only [ob]
  rw [if_pos h1]
  exact law_fin hL h0 h9 h2 h3
set_option maxRecDepth 4000 in
theorem st_shift (hL : Ls ≤ 4608) (h : LI μ v3) (h0 : 0 ≤ v3) (h9 : v3 + 9 ≤ (Ls : Int)) : Ec (jL_law_1497 Ls xs 100 20000 v3 μ) (Bd μ) (NxA (lawI Ls) (lawM Ls) lawE (lawM Ls (v3, μ))) := by
  unfold jL_law_1497
  simp (disch := omega) only [w32_eq, w64_eq, chk_T, chk_t, lt, lm, ob, Int.add_zero, Int.zero_add, true_and, and_true, if_true, if_false, K100, K20000]
  refine Ec_bind (w_shift (vb' := v3 + 9) h (by omega) _ _ _) ?_
  rintro ⟨r, μ1⟩ b1 hW c n
  refine ⟨_, rfl, ?_⟩
  obtain ⟨⟨r2, μ2⟩, e, h1, h2, h3⟩ := hW
  dsimp only at e h1 h2 h3 ⊢
  try simp (disch := omega) only [w32_eq, w64_eq, chk_T, chk_t, lt, lm, ob, Int.add_zero, Int.zero_add, true_and, and_true, if_true, if_false, K100, K20000]
  rw [e]
  simp only [ob]
  rw [if_pos h1]
  exact law_fin hL h0 h9 h2 h3
set_option maxRecDepth 4000 in
theorem st_stretch (hL : Ls ≤ 4608) (h : LI μ v3) (h0 : 0 ≤ v3) (h9 : v3 + 9 ≤ (Ls : Int)) : Ec (jL_law_1540 Ls xs 100 20000 v3 μ) (Bd μ) (NxA (lawI Ls) (lawM Ls) lawE (lawM Ls (v3, μ))) := by
  unfold jL_law_1540
  simp (disch := omega) only [w32_eq, w64_eq, chk_T, chk_t, lt, lm, ob, Int.add_zero, Int.zero_add, true_and, and_true, if_true, if_false, K100, K20000]
  by_cases z5 : (xs (v3 + 5).toNat).toInt = 0
  · rw [if_pos z5]
    unfold jL_law_1574
    simp (disch := omega) only [w32_eq, w64_eq, chk_T, chk_t, lt, lm, ob, Int.add_zero, Int.zero_add, true_and, and_true, if_true, if_false, K100, K20000]
    by_cases z6 : (xs (v3 + 6).toNat).toInt = 0
    · rw [if_pos z6]
      unfold jL_law_1588
      simp (disch := omega) only [w32_eq, w64_eq, chk_T, chk_t, lt, lm, ob, Int.add_zero, Int.zero_add, true_and, and_true, if_true, if_false, K100, K20000]
      refine Ec_bind (w_stretch (vb' := v3 + 9) h (by omega) _ _ _ _ _ _) ?_
      rintro ⟨r, μ1⟩ b1 hW c n
      refine ⟨_, rfl, ?_⟩
      obtain ⟨⟨r2, μ2⟩, e, h1, h2, h3⟩ := hW
      dsimp only at e h1 h2 h3 ⊢
      try simp (disch := omega) only [w32_eq, w64_eq, chk_T, chk_t, lt, lm, ob, Int.add_zero, Int.zero_add, true_and, and_true, if_true, if_false, K100, K20000]
      rw [if_pos z5]
      unfold jL_law_1625
      simp (disch := omega) only [w32_eq, w64_eq, chk_T, chk_t, lt, lm, ob, Int.add_zero, Int.zero_add, true_and, and_true, if_true, if_false, K100, K20000]
      rw [if_pos z6]
      unfold jL_law_1639
      simp (disch := omega) only [w32_eq, w64_eq, chk_T, chk_t, lt, lm, ob, Int.add_zero, Int.zero_add, true_and, and_true, if_true, if_false, K100, K20000]
      rw [e]
      simp only [ob]
      rw [if_pos h1]
      exact law_fin hL h0 h9 h2 h3
    · rw [if_neg z6]
      unfold jL_law_1588
      simp (disch := omega) only [w32_eq, w64_eq, chk_T, chk_t, lt, lm, ob, Int.add_zero, Int.zero_add, true_and, and_true, if_true, if_false, K100, K20000]
      refine Ec_bind (w_stretch (vb' := v3 + 9) h (by omega) _ _ _ _ _ _) ?_
      rintro ⟨r, μ1⟩ b1 hW c n
      refine ⟨_, rfl, ?_⟩
      obtain ⟨⟨r2, μ2⟩, e, h1, h2, h3⟩ := hW
      dsimp only at e h1 h2 h3 ⊢
      try simp (disch := omega) only [w32_eq, w64_eq, chk_T, chk_t, lt, lm, ob, Int.add_zero, Int.zero_add, true_and, and_true, if_true, if_false, K100, K20000]
      rw [if_pos z5]
      unfold jL_law_1625
      simp (disch := omega) only [w32_eq, w64_eq, chk_T, chk_t, lt, lm, ob, Int.add_zero, Int.zero_add, true_and, and_true, if_true, if_false, K100, K20000]
      rw [if_neg z6]
      unfold jL_law_1639
      simp (disch := omega) only [w32_eq, w64_eq, chk_T, chk_t, lt, lm, ob, Int.add_zero, Int.zero_add, true_and, and_true, if_true, if_false, K100, K20000]
      rw [e]
      simp only [ob]
      rw [if_pos h1]
      exact law_fin hL h0 h9 h2 h3
  · rw [if_neg z5]
    unfold jL_law_1574
    simp (disch := omega) only [w32_eq, w64_eq, chk_T, chk_t, lt, lm, ob, Int.add_zero, Int.zero_add, true_and, and_true, if_true, if_false, K100, K20000]
    by_cases z6 : (xs (v3 + 6).toNat).toInt = 0
    · rw [if_pos z6]
      unfold jL_law_1588
      simp (disch := omega) only [w32_eq, w64_eq, chk_T, chk_t, lt, lm, ob, Int.add_zero, Int.zero_add, true_and, and_true, if_true, if_false, K100, K20000]
      refine Ec_bind (w_stretch (vb' := v3 + 9) h (by omega) _ _ _ _ _ _) ?_
      rintro ⟨r, μ1⟩ b1 hW c n
      refine ⟨_, rfl, ?_⟩
      obtain ⟨⟨r2, μ2⟩, e, h1, h2, h3⟩ := hW
      dsimp only at e h1 h2 h3 ⊢
      try simp (disch := omega) only [w32_eq, w64_eq, chk_T, chk_t, lt, lm, ob, Int.add_zero, Int.zero_add, true_and, and_true, if_true, if_false, K100, K20000]
      rw [if_neg z5]
      unfold jL_law_1625
      simp (disch := omega) only [w32_eq, w64_eq, chk_T, chk_t, lt, lm, ob, Int.add_zero, Int.zero_add, true_and, and_true, if_true, if_false, K100, K20000]
      rw [if_pos z6]
      unfold jL_law_1639
      simp (disch := omega) only [w32_eq, w64_eq, chk_T, chk_t, lt, lm, ob, Int.add_zero, Int.zero_add, true_and, and_true, if_true, if_false, K100, K20000]
      rw [e]
      simp only [ob]
      rw [if_pos h1]
      exact law_fin hL h0 h9 h2 h3
    · rw [if_neg z6]
      unfold jL_law_1588
      simp (disch := omega) only [w32_eq, w64_eq, chk_T, chk_t, lt, lm, ob, Int.add_zero, Int.zero_add, true_and, and_true, if_true, if_false, K100, K20000]
      refine Ec_bind (w_stretch (vb' := v3 + 9) h (by omega) _ _ _ _ _ _) ?_
      rintro ⟨r, μ1⟩ b1 hW c n
      refine ⟨_, rfl, ?_⟩
      obtain ⟨⟨r2, μ2⟩, e, h1, h2, h3⟩ := hW
      dsimp only at e h1 h2 h3 ⊢
      try simp (disch := omega) only [w32_eq, w64_eq, chk_T, chk_t, lt, lm, ob, Int.add_zero, Int.zero_add, true_and, and_true, if_true, if_false, K100, K20000]
      rw [if_neg z5]
      unfold jL_law_1625
      simp (disch := omega) only [w32_eq, w64_eq, chk_T, chk_t, lt, lm, ob, Int.add_zero, Int.zero_add, true_and, and_true, if_true, if_false, K100, K20000]
      rw [if_neg z6]
      unfold jL_law_1639
      simp (disch := omega) only [w32_eq, w64_eq, chk_T, chk_t, lt, lm, ob, Int.add_zero, Int.zero_add, true_and, and_true, if_true, if_false, K100, K20000]
      rw [e]
      simp only [ob]
      rw [if_pos h1]
      exact law_fin hL h0 h9 h2 h3
set_option maxRecDepth 4000 in
theorem st_wrong (hL : Ls ≤ 4608) (h : LI μ v3) (h0 : 0 ≤ v3) (h9 : v3 + 9 ≤ (Ls : Int)) : Ec (jL_law_1647 Ls xs 100 20000 v3 μ) (Bd μ) (NxA (lawI Ls) (lawM Ls) lawE (lawM Ls (v3, μ))) := by
  unfold jL_law_1647
  simp (disch := omega) only [w32_eq, w64_eq, chk_T, chk_t, lt, lm, ob, Int.add_zero, Int.zero_add, true_and, and_true, if_true, if_false, K100, K20000]
  refine Ec_bind (w_wrong (vb' := v3 + 9) h (by omega) _ _ _ _) ?_
  rintro ⟨r, μ1⟩ b1 hW c n
  refine ⟨_, rfl, ?_⟩
  obtain ⟨⟨r2, μ2⟩, e, h1, h2, h3⟩ := hW
  dsimp only at e h1 h2 h3 ⊢
  try simp (disch := omega) only [w32_eq, w64_eq, chk_T, chk_t, lt, lm, ob, Int.add_zero, Int.zero_add, true_and, and_true, if_true, if_false, K100, K20000]
  rw [e]
  simp only [ob]
  rw [if_pos h1]
  exact law_fin hL h0 h9 h2 h3
set_option maxRecDepth 4000 in
theorem st_nearest (hL : Ls ≤ 4608) (h : LI μ v3) (h0 : 0 ≤ v3) (h9 : v3 + 9 ≤ (Ls : Int)) : Ec (jL_law_1700 Ls xs 100 20000 v3 μ) (Bd μ) (NxA (lawI Ls) (lawM Ls) lawE (lawM Ls (v3, μ))) := by
  unfold jL_law_1700
  simp (disch := omega) only [w32_eq, w64_eq, chk_T, chk_t, lt, lm, ob, Int.add_zero, Int.zero_add, true_and, and_true, if_true, if_false, K100, K20000]
  by_cases z3 : (xs (v3 + 3).toNat).toInt = 0
  · rw [if_pos z3]
    unfold jL_law_1724
    simp (disch := omega) only [w32_eq, w64_eq, chk_T, chk_t, lt, lm, ob, Int.add_zero, Int.zero_add, true_and, and_true, if_true, if_false, K100, K20000]
    refine Ec_bind (w_nearest (vb' := v3 + 9) h (by omega) _ _ _) ?_
    rintro ⟨r, μ1⟩ b1 hW c n
    refine ⟨_, rfl, ?_⟩
    obtain ⟨⟨r2, μ2⟩, e, h1, h2, h3⟩ := hW
    dsimp only at e h1 h2 h3 ⊢
    try simp (disch := omega) only [w32_eq, w64_eq, chk_T, chk_t, lt, lm, ob, Int.add_zero, Int.zero_add, true_and, and_true, if_true, if_false, K100, K20000]
    rw [if_pos z3]
    unfold jL_law_1751
    simp (disch := omega) only [w32_eq, w64_eq, chk_T, chk_t, lt, lm, ob, Int.add_zero, Int.zero_add, true_and, and_true, if_true, if_false, K100, K20000]
    rw [e]
    simp only [ob]
    rw [if_pos h1]
    exact law_fin hL h0 h9 h2 h3
  · rw [if_neg z3]
    unfold jL_law_1724
    simp (disch := omega) only [w32_eq, w64_eq, chk_T, chk_t, lt, lm, ob, Int.add_zero, Int.zero_add, true_and, and_true, if_true, if_false, K100, K20000]
    refine Ec_bind (w_nearest (vb' := v3 + 9) h (by omega) _ _ _) ?_
    rintro ⟨r, μ1⟩ b1 hW c n
    refine ⟨_, rfl, ?_⟩
    obtain ⟨⟨r2, μ2⟩, e, h1, h2, h3⟩ := hW
    dsimp only at e h1 h2 h3 ⊢
    try simp (disch := omega) only [w32_eq, w64_eq, chk_T, chk_t, lt, lm, ob, Int.add_zero, Int.zero_add, true_and, and_true, if_true, if_false, K100, K20000]
    rw [if_neg z3]
    unfold jL_law_1751
    simp (disch := omega) only [w32_eq, w64_eq, chk_T, chk_t, lt, lm, ob, Int.add_zero, Int.zero_add, true_and, and_true, if_true, if_false, K100, K20000]
    rw [e]
    simp only [ob]
    rw [if_pos h1]
    exact law_fin hL h0 h9 h2 h3
set_option maxRecDepth 4000 in
theorem st_scrawl (hL : Ls ≤ 4608) (h : LI μ v3) (h0 : 0 ≤ v3) (h9 : v3 + 9 ≤ (Ls : Int)) : Ec (jL_law_1759 Ls xs 100 20000 v3 μ) (Bd μ) (NxA (lawI Ls) (lawM Ls) lawE (lawM Ls (v3, μ))) := by
  unfold jL_law_1759
  simp (disch := omega) only [w32_eq, w64_eq, chk_T, chk_t, lt, lm, ob, Int.add_zero, Int.zero_add, true_and, and_true, if_true, if_false, K100, K20000]
  refine Ec_bind (w_scrawl (vb' := v3 + 9) h (by omega) _ _ _ _ _ _ _) ?_
  rintro ⟨r, μ1⟩ b1 hW c n
  refine ⟨_, rfl, ?_⟩
  obtain ⟨⟨r2, μ2⟩, e, h1, h2, h3⟩ := hW
  dsimp only at e h1 h2 h3 ⊢
  try simp (disch := omega) only [w32_eq, w64_eq, chk_T, chk_t, lt, lm, ob, Int.add_zero, Int.zero_add, true_and, and_true, if_true, if_false, K100, K20000]
  rw [e]
  simp only [ob]
  rw [if_pos h1]
  exact law_fin hL h0 h9 h2 h3
set_option maxRecDepth 4000 in
theorem st_found (hL : Ls ≤ 4608) (h : LI μ v3) (h0 : 0 ≤ v3) (h9 : v3 + 9 ≤ (Ls : Int)) : Ec (jL_law_1846 Ls xs 100 20000 v3 μ) (Bd μ) (NxA (lawI Ls) (lawM Ls) lawE (lawM Ls (v3, μ))) := by
  unfold jL_law_1846
  simp (disch := omega) only [w32_eq, w64_eq, chk_T, chk_t, lt, lm, ob, Int.add_zero, Int.zero_add, true_and, and_true, if_true, if_false, K100, K20000]
  by_cases z8 : (xs (v3 + 8).toNat).toInt = 0
  · rw [if_pos z8]
    unfold jL_law_1898
    simp (disch := omega) only [w32_eq, w64_eq, chk_T, chk_t, lt, lm, ob, Int.add_zero, Int.zero_add, true_and, and_true, if_true, if_false, K100, K20000]
    refine Ec_bind (w_found (vb' := v3 + 9) h (by omega) _ _ _ _ _ _ _ _) ?_
    rintro ⟨r, μ1⟩ b1 hW c n
    refine ⟨_, rfl, ?_⟩
    obtain ⟨⟨r2, μ2⟩, e, h1, h2, h3⟩ := hW
    dsimp only at e h1 h2 h3 ⊢
    try simp (disch := omega) only [w32_eq, w64_eq, chk_T, chk_t, lt, lm, ob, Int.add_zero, Int.zero_add, true_and, and_true, if_true, if_false, K100, K20000]
    rw [if_pos z8]
    unfold jL_law_1953
    simp (disch := omega) only [w32_eq, w64_eq, chk_T, chk_t, lt, lm, ob, Int.add_zero, Int.zero_add, true_and, and_true, if_true, if_false, K100, K20000]
    rw [e]
    simp only [ob]
    rw [if_pos h1]
    exact law_fin hL h0 h9 h2 h3
  · rw [if_neg z8]
    unfold jL_law_1898
    simp (disch := omega) only [w32_eq, w64_eq, chk_T, chk_t, lt, lm, ob, Int.add_zero, Int.zero_add, true_and, and_true, if_true, if_false, K100, K20000]
    refine Ec_bind (w_found (vb' := v3 + 9) h (by omega) _ _ _ _ _ _ _ _) ?_
    rintro ⟨r, μ1⟩ b1 hW c n
    refine ⟨_, rfl, ?_⟩
    obtain ⟨⟨r2, μ2⟩, e, h1, h2, h3⟩ := hW
    dsimp only at e h1 h2 h3 ⊢
    try simp (disch := omega) only [w32_eq, w64_eq, chk_T, chk_t, lt, lm, ob, Int.add_zero, Int.zero_add, true_and, and_true, if_true, if_false, K100, K20000]
    rw [if_neg z8]
    unfold jL_law_1953
    simp (disch := omega) only [w32_eq, w64_eq, chk_T, chk_t, lt, lm, ob, Int.add_zero, Int.zero_add, true_and, and_true, if_true, if_false, K100, K20000]
    rw [e]
    simp only [ob]
    rw [if_pos h1]
    exact law_fin hL h0 h9 h2 h3
set_option maxRecDepth 4000 in
theorem st_differs (hL : Ls ≤ 4608) (h : LI μ v3) (h0 : 0 ≤ v3) (h9 : v3 + 9 ≤ (Ls : Int)) : Ec (jL_law_1961 Ls xs 100 20000 v3 μ) (Bd μ) (NxA (lawI Ls) (lawM Ls) lawE (lawM Ls (v3, μ))) := by
  unfold jL_law_1961
  simp (disch := omega) only [w32_eq, w64_eq, chk_T, chk_t, lt, lm, ob, Int.add_zero, Int.zero_add, true_and, and_true, if_true, if_false, K100, K20000]
  refine Ec_bind (w_differs (vb' := v3 + 9) h (by omega) _ _ _) ?_
  rintro ⟨r, μ1⟩ b1 hW c n
  refine ⟨_, rfl, ?_⟩
  obtain ⟨⟨r2, μ2⟩, e, h1, h2, h3⟩ := hW
  dsimp only at e h1 h2 h3 ⊢
  try simp (disch := omega) only [w32_eq, w64_eq, chk_T, chk_t, lt, lm, ob, Int.add_zero, Int.zero_add, true_and, and_true, if_true, if_false, K100, K20000]
  rw [e]
  simp only [ob]
  rw [if_pos h1]
  exact law_fin hL h0 h9 h2 h3
set_option maxRecDepth 4000 in
theorem st_hidden (hL : Ls ≤ 4608) (h : LI μ v3) (h0 : 0 ≤ v3) (h9 : v3 + 9 ≤ (Ls : Int)) : Ec (jL_law_2004 Ls xs 100 20000 v3 μ) (Bd μ) (NxA (lawI Ls) (lawM Ls) lawE (lawM Ls (v3, μ))) := by
  unfold jL_law_2004
  simp (disch := omega) only [w32_eq, w64_eq, chk_T, chk_t, lt, lm, ob, Int.add_zero, Int.zero_add, true_and, and_true, if_true, if_false, K100, K20000]
  refine Ec_bind (w_hidden (vb' := v3 + 9) h (by omega) _) ?_
  rintro ⟨r, μ1⟩ b1 hW c n
  refine ⟨_, rfl, ?_⟩
  obtain ⟨r2, e, h1, h2, h3⟩ := hW
  dsimp only at e h1 h2 h3 ⊢
  try simp (disch := omega) only [w32_eq, w64_eq, chk_T, chk_t, lt, lm, ob, Int.add_zero, Int.zero_add, true_and, and_true, if_true, if_false, K100, K20000]
  rw [e]
  simp only [ob]
  rw [if_pos h1]
  exact law_fin hL h0 h9 h2 h3
set_option maxRecDepth 4000 in
theorem st_guards (hL : Ls ≤ 4608) (h : LI μ v3) (h0 : 0 ≤ v3) (h9 : v3 + 9 ≤ (Ls : Int)) : Ec (jL_law_2027 Ls xs 100 20000 v3 μ) (Bd μ) (NxA (lawI Ls) (lawM Ls) lawE (lawM Ls (v3, μ))) := by
  unfold jL_law_2027
  simp (disch := omega) only [w32_eq, w64_eq, chk_T, chk_t, lt, lm, ob, Int.add_zero, Int.zero_add, true_and, and_true, if_true, if_false, K100, K20000]
  refine Ec_bind (w_guards (vb' := v3 + 9) h (by omega) _ _) ?_
  rintro ⟨r, μ1⟩ b1 hW c n
  refine ⟨_, rfl, ?_⟩
  obtain ⟨⟨r2, μ2⟩, e, h1, h2, h3⟩ := hW
  dsimp only at e h1 h2 h3 ⊢
  try simp (disch := omega) only [w32_eq, w64_eq, chk_T, chk_t, lt, lm, ob, Int.add_zero, Int.zero_add, true_and, and_true, if_true, if_false, K100, K20000]
  rw [e]
  simp only [ob]
  rw [if_pos h1]
  exact law_fin hL h0 h9 h2 h3
set_option maxRecDepth 4000 in
theorem st_sneak (hL : Ls ≤ 4608) (h : LI μ v3) (h0 : 0 ≤ v3) (h9 : v3 + 9 ≤ (Ls : Int)) : Ec (jL_law_2060 Ls xs 100 20000 v3 μ) (Bd μ) (NxA (lawI Ls) (lawM Ls) lawE (lawM Ls (v3, μ))) := by
  unfold jL_law_2060
  simp (disch := omega) only [w32_eq, w64_eq, chk_T, chk_t, lt, lm, ob, Int.add_zero, Int.zero_add, true_and, and_true, if_true, if_false, K100, K20000]
  refine Ec_bind (w_sneak (vb' := v3 + 9) h (by omega) _ _ _ _) ?_
  rintro ⟨r, μ1⟩ b1 hW c n
  refine ⟨_, rfl, ?_⟩
  obtain ⟨⟨r2, μ2⟩, e, h1, h2, h3⟩ := hW
  dsimp only at e h1 h2 h3 ⊢
  try simp (disch := omega) only [w32_eq, w64_eq, chk_T, chk_t, lt, lm, ob, Int.add_zero, Int.zero_add, true_and, and_true, if_true, if_false, K100, K20000]
  rw [e]
  simp only [ob]
  rw [if_pos h1]
  exact law_fin hL h0 h9 h2 h3
set_option maxRecDepth 4000 in
theorem st_proud (hL : Ls ≤ 4608) (h : LI μ v3) (h0 : 0 ≤ v3) (h9 : v3 + 9 ≤ (Ls : Int)) : Ec (jL_law_2113 Ls xs 100 20000 v3 μ) (Bd μ) (NxA (lawI Ls) (lawM Ls) lawE (lawM Ls (v3, μ))) := by
  unfold jL_law_2113
  simp (disch := omega) only [w32_eq, w64_eq, chk_T, chk_t, lt, lm, ob, Int.add_zero, Int.zero_add, true_and, and_true, if_true, if_false, K100, K20000]
  refine Ec_bindE (w_proud (vb' := v3 + 9) h (by omega) _ _) ?_
  rintro ⟨r, μ1⟩ hW
  obtain ⟨⟨r2, μ2⟩, e, h1, h2, h3⟩ := hW
  dsimp only at e h1 h2 h3 ⊢
  rw [e]
  simp only [ob]
  rw [if_pos h1]
  exact law_fin hL h0 h9 h2 h3
set_option maxRecDepth 4000 in
theorem st_peaks (hL : Ls ≤ 4608) (h : LI μ v3) (h0 : 0 ≤ v3) (h9 : v3 + 9 ≤ (Ls : Int)) : Ec (jL_law_2146 Ls xs 100 20000 v3 μ) (Bd μ) (NxA (lawI Ls) (lawM Ls) lawE (lawM Ls (v3, μ))) := by
  unfold jL_law_2146
  simp (disch := omega) only [w32_eq, w64_eq, chk_T, chk_t, lt, lm, ob, Int.add_zero, Int.zero_add, true_and, and_true, if_true, if_false, K100, K20000]
  rw [q_peaks h.nw ((xs (v3 + 1).toNat).toInt), rr_peaks h.md rfl h.ok ((xs (v3 + 1).toNat).toInt)]
  simp only [ob, if_true]
  exact law_fin hL h0 h9 (LI_v h (by omega)) rfl
set_option maxRecDepth 4000 in
theorem st_count (hL : Ls ≤ 4608) (h : LI μ v3) (h0 : 0 ≤ v3) (h9 : v3 + 9 ≤ (Ls : Int)) : Ec (jL_law_2169 Ls xs 100 20000 v3 μ) (Bd μ) (NxA (lawI Ls) (lawM Ls) lawE (lawM Ls (v3, μ))) := by
  unfold jL_law_2169
  simp (disch := omega) only [w32_eq, w64_eq, chk_T, chk_t, lt, lm, ob, Int.add_zero, Int.zero_add, true_and, and_true, if_true, if_false, K100, K20000]
  rw [q_count h.nw ((xs (v3 + 1).toNat).toInt), rr_count h.md rfl ((xs (v3 + 1).toNat).toInt)]
  simp only [ob, if_true]
  exact law_fin hL h0 h9 (LI_v h (by omega)) rfl
set_option maxRecDepth 4000 in
theorem st_image (hL : Ls ≤ 4608) (h : LI μ v3) (h0 : 0 ≤ v3) (h9 : v3 + 9 ≤ (Ls : Int)) : Ec (jL_law_2192 Ls xs 100 20000 v3 μ) (Bd μ) (NxA (lawI Ls) (lawM Ls) lawE (lawM Ls (v3, μ))) := by
  unfold jL_law_2192
  simp (disch := omega) only [w32_eq, w64_eq, chk_T, chk_t, lt, lm, ob, Int.add_zero, Int.zero_add, true_and, and_true, if_true, if_false, K100, K20000]
  refine Ec_bind (w_image (vb' := v3 + 9) h (by omega) _) ?_
  rintro ⟨r, μ1⟩ b1 hW c n
  refine ⟨_, rfl, ?_⟩
  obtain ⟨⟨r2, μ2⟩, e, h1, h2, h3⟩ := hW
  dsimp only at e h1 h2 h3 ⊢
  try simp (disch := omega) only [w32_eq, w64_eq, chk_T, chk_t, lt, lm, ob, Int.add_zero, Int.zero_add, true_and, and_true, if_true, if_false, K100, K20000]
  rw [e]
  simp only [ob]
  rw [if_pos h1]
  exact law_fin hL h0 h9 h2 h3
set_option maxRecDepth 4000 in
theorem st_again (hL : Ls ≤ 4608) (h : LI μ v3) (h0 : 0 ≤ v3) (h9 : v3 + 9 ≤ (Ls : Int)) : Ec (jL_law_2215 Ls xs 100 20000 v3 μ) (Bd μ) (NxA (lawI Ls) (lawM Ls) lawE (lawM Ls (v3, μ))) := by
  unfold jL_law_2215
  simp (disch := omega) only [w32_eq, w64_eq, chk_T, chk_t, lt, lm, ob, Int.add_zero, Int.zero_add, true_and, and_true, if_true, if_false, K100, K20000]
  refine Ec_bindE (w_again (vb' := v3 + 9) h (by omega) (by omega) _) ?_
  rintro ⟨r, μ1⟩ hW
  obtain ⟨⟨r2, μ2⟩, e, h1, h2, h3⟩ := hW
  dsimp only at e h1 h2 h3 ⊢
  rw [e]
  simp only [ob]
  rw [if_pos h1]
  exact law_fin hL h0 h9 h2 h3
end
