def mX0_init : MI := (RX0, cX0_init, 9, none, "<init>", 1, 16, fun _ _ _ => True)
theorem cwX0_init : CWd yX0_init mX0_init 0 := ⟨ki_X0, kk_X0_init, ⟨by decide, by decide⟩, rfl⟩
def dtX0_init_0 : List (Nat × Instr × Nat) := [(0, .aload_n 0, 1), (1, .invokespecial 1, 3), (4, .aload_n 0, 1), (5, .sipush 336, 3), (8, .newarray .int, 2), (10, .putfield 9, 3), (13, .aload_n 0, 1), (14, .sipush 336, 3), (17, .newarray .int, 2), (19, .putfield 13, 3), (22, .iconst 0, 1), (23, .istore_n 1, 1), (24, .iconst 1, 1), (25, .istore_n 2, 1), (26, .iconst 1, 1), (27, .istore_n 3, 1), (28, .bipush 11, 2), (30, .istore 4, 2), (32, .iconst 0, 1), (33, .istore 5, 2), (35, .iload 5, 2), (37, .bipush 42, 2), (39, .if_icmp .gt 73, 3), (42, .aload_n 0, 1), (43, .getfield 9, 3), (46, .iload 5, 2), (48, .iload_n 1, 1), (49, .iastore, 1), (50, .aload_n 0, 1), (51, .getfield 13, 3), (54, .iload 5, 2), (56, .iload_n 2, 1), (57, .ineg, 1), (58, .iastore, 1), (59, .iload 4, 2), (61, .ifCond .le 13, 3), (64, .bipush 11, 2), (66, .iload_n 2, 1), (67, .iadd, 1), (68, .iload 4, 2), (70, .idiv, 1), (71, .goto 4, 3), (74, .iconst 0, 1), (75, .istore 6, 2), (77, .iload 6, 2), (79, .iload_n 3, 1), (80, .imul, 1), (81, .iload_n 1, 1), (82, .isub, 1), (83, .istore 7, 2), (85, .iload 6, 2), (87, .iload 4, 2), (89, .imul, 1), (90, .iload_n 2, 1), (91, .isub, 1), (92, .istore 8, 2), (94, .iload_n 3, 1), (95, .istore_n 1, 1), (96, .iload 4, 2), (98, .istore_n 2, 1), (99, .iload 7, 2), (101, .istore_n 3, 1), (102, .iload 8, 2), (104, .istore 4, 2)]
theorem ddX0_init_0 : (dtX0_init_0.all fun e => decide (decode mX0_init.2.1 e.1 = .ok (e.2.1, e.2.2))) = true := by decide +kernel
theorem daX0_init_0 (j : Nat) {pc n : Nat} {i : Instr} (h : dtX0_init_0[j]? = some (pc, i, n)) : decode mX0_init.2.1 pc = .ok (i, n) := dec_of (c := mX0_init.2.1) ddX0_init_0 h
def dtX0_init_1 : List (Nat × Instr × Nat) := [(106, .iinc 5 1, 3), (109, .goto (-74), 3), (112, .bipush 43, 2), (114, .istore 5, 2), (116, .iload 5, 2), (118, .bipush 84, 2), (120, .if_icmp .ge 45, 3), (123, .aload_n 0, 1), (124, .getfield 9, 3), (127, .iload 5, 2), (129, .aload_n 0, 1), (130, .getfield 13, 3), (133, .bipush 84, 2), (135, .iload 5, 2), (137, .isub, 1), (138, .iaload, 1), (139, .ineg, 1), (140, .iastore, 1), (141, .aload_n 0, 1), (142, .getfield 13, 3), (145, .iload 5, 2), (147, .aload_n 0, 1), (148, .getfield 9, 3), (151, .bipush 84, 2), (153, .iload 5, 2), (155, .isub, 1), (156, .iaload, 1), (157, .ineg, 1), (158, .iastore, 1), (159, .iinc 5 1, 3), (162, .goto (-46), 3), (165, .bipush 84, 2), (167, .istore 5, 2), (169, .iload 5, 2), (171, .sipush 336, 3), (174, .if_icmp .ge 44, 3), (177, .aload_n 0, 1), (178, .getfield 9, 3), (181, .iload 5, 2), (183, .aload_n 0, 1), (184, .getfield 13, 3), (187, .iload 5, 2), (189, .bipush 84, 2), (191, .isub, 1), (192, .iaload, 1), (193, .ineg, 1), (194, .iastore, 1), (195, .aload_n 0, 1), (196, .getfield 13, 3), (199, .iload 5, 2), (201, .aload_n 0, 1), (202, .getfield 9, 3), (205, .iload 5, 2), (207, .bipush 84, 2), (209, .isub, 1), (210, .iaload, 1), (211, .iastore, 1), (212, .iinc 5 1, 3), (215, .goto (-46), 3), (218, .return_, 1)]
theorem ddX0_init_1 : (dtX0_init_1.all fun e => decide (decode mX0_init.2.1 e.1 = .ok (e.2.1, e.2.2))) = true := by decide +kernel
theorem daX0_init_1 (j : Nat) {pc n : Nat} {i : Instr} (h : dtX0_init_1[j]? = some (pc, i, n)) : decode mX0_init.2.1 pc = .ok (i, n) := dec_of (c := mX0_init.2.1) ddX0_init_1 h
def jX0_init_75 (v0 v1 v2 v3 v4 v5 s0 : Int) (μ : Mm) : Option ((Int × Int × Int × Int × Int × Mm) ⊕ Mm) :=
  lt (w32 ((w32 (s0 * v3)) - v1)) fun y1 =>
  lt (w32 ((w32 (s0 * v4)) - v2)) fun y2 =>
  some (.inl (v3, v4, y1, y2, w32 (v5 + 1), μ))
def zX0_init_35 (l : Launch) (F : FI) (v0 : Int) (k n : Nat) : (Int × Int × Int × Int × Int × Mm) ⊕ Mm → Prop
  | .inl (v1, v2, v3, v4, v5, μ) => GM l mX0_init F k n 35 [(0, (3, v0)), (1, (0, v1)), (2, (0, v2)), (3, (0, v3)), (4, (0, v4)), (5, (0, v5))] [] μ
  | .inr μ => GM l mX0_init F k n 112 [(0, (3, v0))] [] μ
def sX0_init_35 (v0 : Int) : (Int × Int × Int × Int × Int × Mm) → Option ((Int × Int × Int × Int × Int × Mm) ⊕ Mm) := fun (v1, v2, v3, v4, v5, μ) =>
  if 42 < v5 then
    some (.inr μ)
  else
    chk (KD v0 = 0) (
    chk (KD (μ v0 0) = 12 ∧ 0 ≤ v5 ∧ v5 < LN (μ v0 0)) (
    lm (mst μ (μ v0 0) v5 v1) fun μ6 =>
    chk (KD (μ6 v0 1) = 12 ∧ v5 < LN (μ6 v0 1)) (
    lm (mst μ6 (μ6 v0 1) v5 (w32 (-v2))) fun μ8 =>
    if v4 ≤ 0 then
      jX0_init_75 v0 v1 v2 v3 v4 v5 0 μ8
    else
      chk (v4 ≠ 0) (
      jX0_init_75 v0 v1 v2 v3 v4 v5 (w32 ((w32 (11 + v2)).tdiv v4)) μ8))))
def zX0_init_116 (l : Launch) (F : FI) (v0 : Int) (k n : Nat) : (Int × Mm) ⊕ Mm → Prop
  | .inl (v5, μ) => GM l mX0_init F k n 116 [(0, (3, v0)), (5, (0, v5))] [] μ
  | .inr μ => GM l mX0_init F k n 165 [(0, (3, v0))] [] μ
def sX0_init_116 (v0 : Int) : (Int × Mm) → Option ((Int × Mm) ⊕ Mm) := fun (v5, μ) =>
  if 84 ≤ v5 then
    some (.inr μ)
  else
    chk (KD v0 = 0) (
    chk (KD (μ v0 1) = 12 ∧ 0 ≤ w32 (84 - v5) ∧ w32 (84 - v5) < LN (μ v0 1)) (
    chk (KD (μ v0 0) = 12 ∧ 0 ≤ v5 ∧ v5 < LN (μ v0 0)) (
    lm (mst μ (μ v0 0) v5 (w32 (-(μ (μ v0 1) (w32 (84 - v5)))))) fun μ15 =>
    chk (KD (μ15 v0 0) = 12 ∧ w32 (84 - v5) < LN (μ15 v0 0)) (
    chk (KD (μ15 v0 1) = 12 ∧ v5 < LN (μ15 v0 1)) (
    lm (mst μ15 (μ15 v0 1) v5 (w32 (-(μ15 (μ15 v0 0) (w32 (84 - v5)))))) fun μ18 =>
    some (.inl (w32 (v5 + 1), μ18)))))))
def zX0_init_169 (l : Launch) (F : FI) (v0 : Int) (k n : Nat) : (Int × Mm) ⊕ Mm → Prop
  | .inl (v5, μ) => GM l mX0_init F k n 169 [(0, (3, v0)), (5, (0, v5))] [] μ
  | .inr μ => GM l mX0_init F k n 218 [] [] μ
def sX0_init_169 (v0 : Int) : (Int × Mm) → Option ((Int × Mm) ⊕ Mm) := fun (v5, μ) =>
  if 336 ≤ v5 then
    some (.inr μ)
  else
    chk (KD v0 = 0) (
    chk (KD (μ v0 1) = 12 ∧ 0 ≤ w32 (v5 - 84) ∧ w32 (v5 - 84) < LN (μ v0 1)) (
    chk (KD (μ v0 0) = 12 ∧ 0 ≤ v5 ∧ v5 < LN (μ v0 0)) (
    lm (mst μ (μ v0 0) v5 (w32 (-(μ (μ v0 1) (w32 (v5 - 84)))))) fun μ23 =>
    chk (KD (μ23 v0 0) = 12 ∧ w32 (v5 - 84) < LN (μ23 v0 0)) (
    chk (KD (μ23 v0 1) = 12 ∧ v5 < LN (μ23 v0 1)) (
    lm (mst μ23 (μ23 v0 1) v5 (μ23 (μ23 v0 0) (w32 (v5 - 84)))) fun μ26 =>
    some (.inl (w32 (v5 + 1), μ26)))))))
def fX0_init (v0 : Int) (μ : Mm) : Option (Mm × Nat × Nat) :=
  chk (v0 ≠ 0) (
  chk (KD (v0 + 1) = 12 ∧ LN (v0 + 1) = 336 ∧ μ 0 (v0 + 1) = 0) (
  pay 1 336 (
  lm (mnw μ (v0 + 1)) fun μ30 =>
  chk (KD v0 = 0) (
  lm (mst μ30 v0 0 (v0 + 1)) fun μ32 =>
  chk (KD (v0 + 2) = 12 ∧ LN (v0 + 2) = 336 ∧ μ32 0 (v0 + 2) = 0) (
  pay 1 336 (
  lm (mnw μ32 (v0 + 2)) fun μ35 =>
  lm (mst μ35 v0 1 (v0 + 2)) fun μ36 =>
  (lop (sX0_init_35 v0) FU (0, 1, 1, 11, 0, μ36)).bind fun μ_38 =>
    (lop (sX0_init_116 v0) FU (43, μ_38)).bind fun μ_40 =>
      (lop (sX0_init_169 v0) FU (84, μ_40)).bind fun μ_42 =>
        some (μ_42, 0, 0)))))))
set_option maxRecDepth 20000 in
theorem gX0_init_75 (l : Launch) {F : FI} {v0 v1 v2 v3 v4 v5 s0 : Int} {μ : Mm} {t : ((Int × Int × Int × Int × Int × Mm) ⊕ Mm)} {k n : Nat} (h : jX0_init_75 v0 v1 v2 v3 v4 v5 s0 μ = some t) (hK : zX0_init_35 l F v0 k n t) : GM l mX0_init F k n 75 [(0, (3, v0)), (1, (0, v1)), (2, (0, v2)), (3, (0, v3)), (4, (0, v4)), (5, (0, v5))] [(0, s0)] μ := by
  unfold jX0_init_75 at h
  refine GM_istore (L' := [(6, (0, s0)), (0, (3, v0)), (1, (0, v1)), (2, (0, v2)), (3, (0, v3)), (4, (0, v4)), (5, (0, v5))]) (pc := 75) (daX0_init_0 43 rfl) (Nat.le_of_ble_eq_true rfl) rfl ?_
  refine GM_iload (pc := 77) 0 rfl (daX0_init_0 44 rfl) ?_
  refine GM_iload_n (pc := 79) 4 rfl (daX0_init_0 45 rfl) rfl ?_
  refine GM_imul (pc := 80) (daX0_init_0 46 rfl) ?_
  refine GM_iload_n (pc := 81) 2 rfl (daX0_init_0 47 rfl) rfl ?_
  refine GM_isub (pc := 82) (daX0_init_0 48 rfl) ?_
  obtain ⟨y1, hy1, h⟩ := lt_inv h
  refine GM_top hy1 ?_
  refine GM_istore (L' := [(7, (0, y1)), (6, (0, s0)), (0, (3, v0)), (1, (0, v1)), (2, (0, v2)), (3, (0, v3)), (4, (0, v4)), (5, (0, v5))]) (pc := 83) (daX0_init_0 49 rfl) (Nat.le_of_ble_eq_true rfl) rfl ?_
  refine GM_iload (pc := 85) 1 rfl (daX0_init_0 50 rfl) ?_
  refine GM_iload (pc := 87) 6 rfl (daX0_init_0 51 rfl) ?_
  refine GM_imul (pc := 89) (daX0_init_0 52 rfl) ?_
  refine GM_iload_n (pc := 90) 4 rfl (daX0_init_0 53 rfl) rfl ?_
  refine GM_isub (pc := 91) (daX0_init_0 54 rfl) ?_
  obtain ⟨y2, hy2, h⟩ := lt_inv h
  refine GM_top hy2 ?_
  refine GM_istore (L' := [(8, (0, y2)), (7, (0, y1)), (6, (0, s0)), (0, (3, v0)), (1, (0, v1)), (2, (0, v2)), (3, (0, v3)), (4, (0, v4)), (5, (0, v5))]) (pc := 92) (daX0_init_0 55 rfl) (Nat.le_of_ble_eq_true rfl) rfl ?_
  refine GM_iload_n (pc := 94) 6 rfl (daX0_init_0 56 rfl) rfl ?_
  refine GM_istore_n (L' := [(1, (0, v3)), (8, (0, y2)), (7, (0, y1)), (6, (0, s0)), (0, (3, v0)), (2, (0, v2)), (3, (0, v3)), (4, (0, v4)), (5, (0, v5))]) (pc := 95) (daX0_init_0 57 rfl) rfl (Nat.le_of_ble_eq_true rfl) rfl ?_
  refine GM_iload (pc := 96) 7 rfl (daX0_init_0 58 rfl) ?_
  refine GM_istore_n (L' := [(2, (0, v4)), (1, (0, v3)), (8, (0, y2)), (7, (0, y1)), (6, (0, s0)), (0, (3, v0)), (3, (0, v3)), (4, (0, v4)), (5, (0, v5))]) (pc := 98) (daX0_init_0 59 rfl) rfl (Nat.le_of_ble_eq_true rfl) rfl ?_
  refine GM_iload (pc := 99) 3 rfl (daX0_init_0 60 rfl) ?_
  refine GM_istore_n (L' := [(3, (0, y1)), (2, (0, v4)), (1, (0, v3)), (8, (0, y2)), (7, (0, y1)), (6, (0, s0)), (0, (3, v0)), (4, (0, v4)), (5, (0, v5))]) (pc := 101) (daX0_init_0 61 rfl) rfl (Nat.le_of_ble_eq_true rfl) rfl ?_
  refine GM_iload (pc := 102) 3 rfl (daX0_init_0 62 rfl) ?_
  refine GM_istore (L' := [(4, (0, y2)), (3, (0, y1)), (2, (0, v4)), (1, (0, v3)), (8, (0, y2)), (7, (0, y1)), (6, (0, s0)), (0, (3, v0)), (5, (0, v5))]) (pc := 104) (daX0_init_0 63 rfl) (Nat.le_of_ble_eq_true rfl) rfl ?_
  refine GM_iinc (L' := [(5, (0, w32 (v5 + 1))), (4, (0, y2)), (3, (0, y1)), (2, (0, v4)), (1, (0, v3)), (8, (0, y2)), (7, (0, y1)), (6, (0, s0)), (0, (3, v0))]) (pc := 106) 8 rfl (daX0_init_1 0 rfl) (Nat.le_of_ble_eq_true rfl) rfl ?_
  refine GM_goto (pc := 109) 35 (daX0_init_1 1 rfl) rfl ?_
  refine GM_pick [8, 4, 3, 2, 1, 0] rfl ?_
  cases h
  exact hK
set_option maxRecDepth 20000 in
theorem qX0_init_35 (l : Launch) (F : FI) (v0 : Int) (k n : Nat) : ∀ (q : (Int × Int × Int × Int × Int × Mm)) (t : ((Int × Int × Int × Int × Int × Mm) ⊕ Mm)), sX0_init_35 v0 q = some t → zX0_init_35 l F v0 k n t → zX0_init_35 l F v0 k n (.inl q) := by
  intro q t h hK
  obtain ⟨v1, v2, v3, v4, v5, μ⟩ := q
  unfold sX0_init_35 at h
  try dsimp only at h
  show GM l mX0_init F k n 35 [(0, (3, v0)), (1, (0, v1)), (2, (0, v2)), (3, (0, v3)), (4, (0, v4)), (5, (0, v5))] [] μ
  refine GM_iload (pc := 35) 5 rfl (daX0_init_0 20 rfl) ?_
  refine GM_bipush (pc := 37) 42 (daX0_init_0 21 rfl) rfl (R32_b rfl) ?_
  refine GM_icmp_gt (pc := 39) 112 (daX0_init_0 22 rfl) rfl (fun c3 => ?_) (fun c3 => ?_)
  · skip
    rw [if_pos c3] at h
    refine GM_pick [0] rfl ?_
    cases h
    exact hK
  · skip
    rw [if_neg c3] at h
    refine GM_aload_n (pc := 42) 0 rfl (daX0_init_0 23 rfl) rfl ?_
    obtain ⟨hc4, h⟩ := chk_inv h
    refine GM_getf (pc := 43) 0 0 3 0 kf_X0_9 (Nat.le_of_ble_eq_true rfl) (Nat.le_of_ble_eq_true rfl) rfl (daX0_init_0 24 rfl) hc4 rfl ?_
    refine GM_iload (pc := 46) 5 rfl (daX0_init_0 25 rfl) ?_
    refine GM_iload_n (pc := 48) 1 rfl (daX0_init_0 26 rfl) rfl ?_
    obtain ⟨hc5, h⟩ := chk_inv h
    obtain ⟨μ6, hμ6, h⟩ := lm_inv h
    refine GM_iast (pc := 49) (daX0_init_0 27 rfl) hc5.1 hc5.2.1 hc5.2.2 ?_
    refine GM_mem hμ6 ?_
    refine GM_aload_n (pc := 50) 0 rfl (daX0_init_0 28 rfl) rfl ?_
    refine GM_getf (pc := 51) 0 1 3 1 kf_X0_13 (Nat.le_of_ble_eq_true rfl) (Nat.le_of_ble_eq_true rfl) rfl (daX0_init_0 29 rfl) hc4 rfl ?_
    refine GM_iload (pc := 54) 5 rfl (daX0_init_0 30 rfl) ?_
    refine GM_iload_n (pc := 56) 2 rfl (daX0_init_0 31 rfl) rfl ?_
    refine GM_ineg (pc := 57) (daX0_init_0 32 rfl) ?_
    obtain ⟨hc7, h⟩ := chk_inv h
    obtain ⟨μ8, hμ8, h⟩ := lm_inv h
    refine GM_iast (pc := 58) (daX0_init_0 33 rfl) hc7.1 hc5.2.1 hc7.2 ?_
    refine GM_mem hμ8 ?_
    refine GM_iload (pc := 59) 4 rfl (daX0_init_0 34 rfl) ?_
    refine GM_if_le (pc := 61) 74 (daX0_init_0 35 rfl) rfl (fun c9 => ?_) (fun c9 => ?_)
    · skip
      rw [if_pos c9] at h
      refine GM_iconst (pc := 74) 0 (daX0_init_0 42 rfl) rfl (R32_b rfl) ?_
      exact gX0_init_75 l h hK
    · skip
      rw [if_neg c9] at h
      refine GM_bipush (pc := 64) 11 (daX0_init_0 36 rfl) rfl (R32_b rfl) ?_
      refine GM_iload_n (pc := 66) 2 rfl (daX0_init_0 37 rfl) rfl ?_
      refine GM_iadd (pc := 67) (daX0_init_0 38 rfl) ?_
      refine GM_iload (pc := 68) 4 rfl (daX0_init_0 39 rfl) ?_
      obtain ⟨hc10, h⟩ := chk_inv h
      refine GM_idiv (pc := 70) (daX0_init_0 40 rfl) hc10 ?_
      refine GM_goto (pc := 71) 75 (daX0_init_0 41 rfl) rfl ?_
      exact gX0_init_75 l h hK
set_option maxRecDepth 20000 in
theorem qX0_init_116 (l : Launch) (F : FI) (v0 : Int) (k n : Nat) : ∀ (q : (Int × Mm)) (t : ((Int × Mm) ⊕ Mm)), sX0_init_116 v0 q = some t → zX0_init_116 l F v0 k n t → zX0_init_116 l F v0 k n (.inl q) := by
  intro q t h hK
  obtain ⟨v5, μ⟩ := q
  unfold sX0_init_116 at h
  try dsimp only at h
  show GM l mX0_init F k n 116 [(0, (3, v0)), (5, (0, v5))] [] μ
  refine GM_iload (pc := 116) 1 rfl (daX0_init_1 4 rfl) ?_
  refine GM_bipush (pc := 118) 84 (daX0_init_1 5 rfl) rfl (R32_b rfl) ?_
  refine GM_icmp_ge (pc := 120) 165 (daX0_init_1 6 rfl) rfl (fun c11 => ?_) (fun c11 => ?_)
  · skip
    rw [if_pos c11] at h
    refine GM_pick [0] rfl ?_
    cases h
    exact hK
  · skip
    rw [if_neg c11] at h
    refine GM_aload_n (pc := 123) 0 rfl (daX0_init_1 7 rfl) rfl ?_
    obtain ⟨hc12, h⟩ := chk_inv h
    refine GM_getf (pc := 124) 0 0 3 0 kf_X0_9 (Nat.le_of_ble_eq_true rfl) (Nat.le_of_ble_eq_true rfl) rfl (daX0_init_1 8 rfl) hc12 rfl ?_
    refine GM_iload (pc := 127) 1 rfl (daX0_init_1 9 rfl) ?_
    refine GM_aload_n (pc := 129) 0 rfl (daX0_init_1 10 rfl) rfl ?_
    refine GM_getf (pc := 130) 0 1 3 1 kf_X0_13 (Nat.le_of_ble_eq_true rfl) (Nat.le_of_ble_eq_true rfl) rfl (daX0_init_1 11 rfl) hc12 rfl ?_
    refine GM_bipush (pc := 133) 84 (daX0_init_1 12 rfl) rfl (R32_b rfl) ?_
    refine GM_iload (pc := 135) 1 rfl (daX0_init_1 13 rfl) ?_
    refine GM_isub (pc := 137) (daX0_init_1 14 rfl) ?_
    obtain ⟨hc13, h⟩ := chk_inv h
    refine GM_iald (pc := 138) (daX0_init_1 15 rfl) hc13.1 hc13.2.1 hc13.2.2 ?_
    refine GM_ineg (pc := 139) (daX0_init_1 16 rfl) ?_
    obtain ⟨hc14, h⟩ := chk_inv h
    obtain ⟨μ15, hμ15, h⟩ := lm_inv h
    refine GM_iast (pc := 140) (daX0_init_1 17 rfl) hc14.1 hc14.2.1 hc14.2.2 ?_
    refine GM_mem hμ15 ?_
    refine GM_aload_n (pc := 141) 0 rfl (daX0_init_1 18 rfl) rfl ?_
    refine GM_getf (pc := 142) 0 1 3 1 kf_X0_13 (Nat.le_of_ble_eq_true rfl) (Nat.le_of_ble_eq_true rfl) rfl (daX0_init_1 19 rfl) hc12 rfl ?_
    refine GM_iload (pc := 145) 1 rfl (daX0_init_1 20 rfl) ?_
    refine GM_aload_n (pc := 147) 0 rfl (daX0_init_1 21 rfl) rfl ?_
    refine GM_getf (pc := 148) 0 0 3 0 kf_X0_9 (Nat.le_of_ble_eq_true rfl) (Nat.le_of_ble_eq_true rfl) rfl (daX0_init_1 22 rfl) hc12 rfl ?_
    refine GM_bipush (pc := 151) 84 (daX0_init_1 23 rfl) rfl (R32_b rfl) ?_
    refine GM_iload (pc := 153) 1 rfl (daX0_init_1 24 rfl) ?_
    refine GM_isub (pc := 155) (daX0_init_1 25 rfl) ?_
    obtain ⟨hc16, h⟩ := chk_inv h
    refine GM_iald (pc := 156) (daX0_init_1 26 rfl) hc16.1 hc13.2.1 hc16.2 ?_
    refine GM_ineg (pc := 157) (daX0_init_1 27 rfl) ?_
    obtain ⟨hc17, h⟩ := chk_inv h
    obtain ⟨μ18, hμ18, h⟩ := lm_inv h
    refine GM_iast (pc := 158) (daX0_init_1 28 rfl) hc17.1 hc14.2.1 hc17.2 ?_
    refine GM_mem hμ18 ?_
    refine GM_iinc (L' := [(5, (0, w32 (v5 + 1))), (0, (3, v0))]) (pc := 159) 1 rfl (daX0_init_1 29 rfl) (Nat.le_of_ble_eq_true rfl) rfl ?_
    refine GM_goto (pc := 162) 116 (daX0_init_1 30 rfl) rfl ?_
    refine GM_pick [1, 0] rfl ?_
    cases h
    exact hK
set_option maxRecDepth 20000 in
theorem qX0_init_169 (l : Launch) (F : FI) (v0 : Int) (k n : Nat) : ∀ (q : (Int × Mm)) (t : ((Int × Mm) ⊕ Mm)), sX0_init_169 v0 q = some t → zX0_init_169 l F v0 k n t → zX0_init_169 l F v0 k n (.inl q) := by
  intro q t h hK
  obtain ⟨v5, μ⟩ := q
  unfold sX0_init_169 at h
  try dsimp only at h
  show GM l mX0_init F k n 169 [(0, (3, v0)), (5, (0, v5))] [] μ
  refine GM_iload (pc := 169) 1 rfl (daX0_init_1 33 rfl) ?_
  refine GM_sipush (pc := 171) 336 (daX0_init_1 34 rfl) rfl (R32_b rfl) ?_
  refine GM_icmp_ge (pc := 174) 218 (daX0_init_1 35 rfl) rfl (fun c19 => ?_) (fun c19 => ?_)
  · skip
    rw [if_pos c19] at h
    refine GM_pick [] rfl ?_
    cases h
    exact hK
  · skip
    rw [if_neg c19] at h
    refine GM_aload_n (pc := 177) 0 rfl (daX0_init_1 36 rfl) rfl ?_
    obtain ⟨hc20, h⟩ := chk_inv h
    refine GM_getf (pc := 178) 0 0 3 0 kf_X0_9 (Nat.le_of_ble_eq_true rfl) (Nat.le_of_ble_eq_true rfl) rfl (daX0_init_1 37 rfl) hc20 rfl ?_
    refine GM_iload (pc := 181) 1 rfl (daX0_init_1 38 rfl) ?_
    refine GM_aload_n (pc := 183) 0 rfl (daX0_init_1 39 rfl) rfl ?_
    refine GM_getf (pc := 184) 0 1 3 1 kf_X0_13 (Nat.le_of_ble_eq_true rfl) (Nat.le_of_ble_eq_true rfl) rfl (daX0_init_1 40 rfl) hc20 rfl ?_
    refine GM_iload (pc := 187) 1 rfl (daX0_init_1 41 rfl) ?_
    refine GM_bipush (pc := 189) 84 (daX0_init_1 42 rfl) rfl (R32_b rfl) ?_
    refine GM_isub (pc := 191) (daX0_init_1 43 rfl) ?_
    obtain ⟨hc21, h⟩ := chk_inv h
    refine GM_iald (pc := 192) (daX0_init_1 44 rfl) hc21.1 hc21.2.1 hc21.2.2 ?_
    refine GM_ineg (pc := 193) (daX0_init_1 45 rfl) ?_
    obtain ⟨hc22, h⟩ := chk_inv h
    obtain ⟨μ23, hμ23, h⟩ := lm_inv h
    refine GM_iast (pc := 194) (daX0_init_1 46 rfl) hc22.1 hc22.2.1 hc22.2.2 ?_
    refine GM_mem hμ23 ?_
    refine GM_aload_n (pc := 195) 0 rfl (daX0_init_1 47 rfl) rfl ?_
    refine GM_getf (pc := 196) 0 1 3 1 kf_X0_13 (Nat.le_of_ble_eq_true rfl) (Nat.le_of_ble_eq_true rfl) rfl (daX0_init_1 48 rfl) hc20 rfl ?_
    refine GM_iload (pc := 199) 1 rfl (daX0_init_1 49 rfl) ?_
    refine GM_aload_n (pc := 201) 0 rfl (daX0_init_1 50 rfl) rfl ?_
    refine GM_getf (pc := 202) 0 0 3 0 kf_X0_9 (Nat.le_of_ble_eq_true rfl) (Nat.le_of_ble_eq_true rfl) rfl (daX0_init_1 51 rfl) hc20 rfl ?_
    refine GM_iload (pc := 205) 1 rfl (daX0_init_1 52 rfl) ?_
    refine GM_bipush (pc := 207) 84 (daX0_init_1 53 rfl) rfl (R32_b rfl) ?_
    refine GM_isub (pc := 209) (daX0_init_1 54 rfl) ?_
    obtain ⟨hc24, h⟩ := chk_inv h
    refine GM_iald (pc := 210) (daX0_init_1 55 rfl) hc24.1 hc21.2.1 hc24.2 ?_
    obtain ⟨hc25, h⟩ := chk_inv h
    obtain ⟨μ26, hμ26, h⟩ := lm_inv h
    refine GM_iast (pc := 211) (daX0_init_1 56 rfl) hc25.1 hc22.2.1 hc25.2 ?_
    refine GM_mem hμ26 ?_
    refine GM_iinc (L' := [(5, (0, w32 (v5 + 1))), (0, (3, v0))]) (pc := 212) 1 rfl (daX0_init_1 57 rfl) (Nat.le_of_ble_eq_true rfl) rfl ?_
    refine GM_goto (pc := 215) 169 (daX0_init_1 58 rfl) rfl ?_
    refine GM_pick [1, 0] rfl ?_
    cases h
    exact hK
set_option maxRecDepth 20000 in
theorem gX0_init_0 (l : Launch) {F : FI} {v0 : Int} {μ : Mm} {t : Mm} {c0 n0 k n : Nat} (h : fX0_init v0 μ = some (t, c0, n0)) (hK : F.1 = [] ∧ F.2.1 = t) : GM l mX0_init F (c0 + k) (n0 + n) 0 [(0, (3, v0))] [] μ := by
  unfold fX0_init at h
  refine GM_aload_n (pc := 0) 0 rfl (daX0_init_0 0 rfl) rfl ?_
  obtain ⟨hc27, h⟩ := chk_inv h
  refine GM_objInit (pc := 1) km_X0_1 kv__java_lang_Object__init____V_ kk_obj (daX0_init_0 1 rfl) hc27 ⟨Nat.le_of_ble_eq_true rfl, Nat.le_of_ble_eq_true rfl⟩ ?_
  refine GM_aload_n (pc := 4) 0 rfl (daX0_init_0 2 rfl) rfl ?_
  refine GM_sipush (pc := 5) 336 (daX0_init_0 3 rfl) rfl (R32_b rfl) ?_
  obtain ⟨hc28, h⟩ := chk_inv h
  obtain ⟨c29, n29, hp, e1, e2⟩ := pay_inv h
  subst e1 e2
  replace h := hp
  clear hp
  rw [Nat.add_assoc, Nat.add_assoc]
  obtain ⟨μ30, hμ30, h⟩ := lm_inv h
  refine GM_newi (pc := 8) (N := 336) (v0 + 1) (daX0_init_0 4 rfl) hc28.1 hc28.2.1 (Nat.le_of_ble_eq_true rfl) hc28.2.2 ?_
  refine GM_mem hμ30 ?_
  obtain ⟨hc31, h⟩ := chk_inv h
  obtain ⟨μ32, hμ32, h⟩ := lm_inv h
  refine GM_putF (pc := 10) 0 0 3 kf_X0_9 (Nat.le_of_ble_eq_true rfl) (Nat.le_of_ble_eq_true rfl) rfl rfl rfl rfl (daX0_init_0 5 rfl) hc31 (fun q => absurd q (by decide)) ?_
  refine GM_mem hμ32 ?_
  refine GM_aload_n (pc := 13) 0 rfl (daX0_init_0 6 rfl) rfl ?_
  refine GM_sipush (pc := 14) 336 (daX0_init_0 7 rfl) rfl (R32_b rfl) ?_
  obtain ⟨hc33, h⟩ := chk_inv h
  obtain ⟨c34, n34, hp, e1, e2⟩ := pay_inv h
  subst e1 e2
  replace h := hp
  clear hp
  rw [Nat.add_assoc, Nat.add_assoc]
  obtain ⟨μ35, hμ35, h⟩ := lm_inv h
  refine GM_newi (pc := 17) (N := 336) (v0 + 2) (daX0_init_0 8 rfl) hc33.1 hc33.2.1 (Nat.le_of_ble_eq_true rfl) hc33.2.2 ?_
  refine GM_mem hμ35 ?_
  obtain ⟨μ36, hμ36, h⟩ := lm_inv h
  refine GM_putF (pc := 19) 0 1 3 kf_X0_13 (Nat.le_of_ble_eq_true rfl) (Nat.le_of_ble_eq_true rfl) rfl rfl rfl rfl (daX0_init_0 9 rfl) hc31 (fun q => absurd q (by decide)) ?_
  refine GM_mem hμ36 ?_
  refine GM_iconst (pc := 22) 0 (daX0_init_0 10 rfl) rfl (R32_b rfl) ?_
  refine GM_istore_n (L' := [(1, (0, 0)), (0, (3, v0))]) (pc := 23) (daX0_init_0 11 rfl) rfl (Nat.le_of_ble_eq_true rfl) rfl ?_
  refine GM_iconst (pc := 24) 1 (daX0_init_0 12 rfl) rfl (R32_b rfl) ?_
  refine GM_istore_n (L' := [(2, (0, 1)), (1, (0, 0)), (0, (3, v0))]) (pc := 25) (daX0_init_0 13 rfl) rfl (Nat.le_of_ble_eq_true rfl) rfl ?_
  refine GM_iconst (pc := 26) 1 (daX0_init_0 14 rfl) rfl (R32_b rfl) ?_
  refine GM_istore_n (L' := [(3, (0, 1)), (2, (0, 1)), (1, (0, 0)), (0, (3, v0))]) (pc := 27) (daX0_init_0 15 rfl) rfl (Nat.le_of_ble_eq_true rfl) rfl ?_
  refine GM_bipush (pc := 28) 11 (daX0_init_0 16 rfl) rfl (R32_b rfl) ?_
  refine GM_istore (L' := [(4, (0, 11)), (3, (0, 1)), (2, (0, 1)), (1, (0, 0)), (0, (3, v0))]) (pc := 30) (daX0_init_0 17 rfl) (Nat.le_of_ble_eq_true rfl) rfl ?_
  refine GM_iconst (pc := 32) 0 (daX0_init_0 18 rfl) rfl (R32_b rfl) ?_
  refine GM_istore (L' := [(5, (0, 0)), (4, (0, 11)), (3, (0, 1)), (2, (0, 1)), (1, (0, 0)), (0, (3, v0))]) (pc := 33) (daX0_init_0 19 rfl) (Nat.le_of_ble_eq_true rfl) rfl ?_
  refine GM_pick [5, 4, 3, 2, 1, 0] rfl ?_
  obtain ⟨x37, hqx37, h⟩ := Option.bind_eq_some_iff.mp h
  refine lop_ind (zX0_init_35 l F v0 (c34 + k) (n34 + n)) (qX0_init_35 l F v0 (c34 + k) (n34 + n)) FU _ x37 hqx37 ?_
  obtain ⟨μ_38, hqq⟩ : ∃ z, z = x37 := ⟨x37, rfl⟩
  subst hqq
  show GM l mX0_init F (c34 + k) (n34 + n) 112 [(0, (3, v0))] [] μ_38
  refine GM_bipush (pc := 112) 43 (daX0_init_1 2 rfl) rfl (R32_b rfl) ?_
  refine GM_istore (L' := [(5, (0, 43)), (0, (3, v0))]) (pc := 114) (daX0_init_1 3 rfl) (Nat.le_of_ble_eq_true rfl) rfl ?_
  refine GM_pick [1, 0] rfl ?_
  obtain ⟨x39, hqx39, h⟩ := Option.bind_eq_some_iff.mp h
  refine lop_ind (zX0_init_116 l F v0 (c34 + k) (n34 + n)) (qX0_init_116 l F v0 (c34 + k) (n34 + n)) FU _ x39 hqx39 ?_
  obtain ⟨μ_40, hqq⟩ : ∃ z, z = x39 := ⟨x39, rfl⟩
  subst hqq
  show GM l mX0_init F (c34 + k) (n34 + n) 165 [(0, (3, v0))] [] μ_40
  refine GM_bipush (pc := 165) 84 (daX0_init_1 31 rfl) rfl (R32_b rfl) ?_
  refine GM_istore (L' := [(5, (0, 84)), (0, (3, v0))]) (pc := 167) (daX0_init_1 32 rfl) (Nat.le_of_ble_eq_true rfl) rfl ?_
  refine GM_pick [1, 0] rfl ?_
  obtain ⟨x41, hqx41, h⟩ := Option.bind_eq_some_iff.mp h
  refine lop_ind (zX0_init_169 l F v0 (c34 + k) (n34 + n)) (qX0_init_169 l F v0 (c34 + k) (n34 + n)) FU _ x41 hqx41 ?_
  obtain ⟨μ_42, hqq⟩ : ∃ z, z = x41 := ⟨x41, rfl⟩
  subst hqq
  show GM l mX0_init F (c34 + k) (n34 + n) 218 [] [] μ_42
  cases h
  exact GM_vret (pc := 218) (daX0_init_1 59 rfl) rfl hK
theorem tX0_init (l : Launch) {v0 : Int} {μ : Mm} {t : Mm} {c0 n0 : Nat} (h : fX0_init v0 μ = some (t, c0, n0)) : Ct l yX0_init mX0_init [(3, v0)] μ ([], t, c0, n0) :=
  Ct_of (by decide +kernel) rfl rfl (Nat.le_of_ble_eq_true rfl) (fun _ _ _ => trivial) (gX0_init_0 (k := 0) (n := 0) l h ⟨rfl, rfl⟩)
def mX6_init : MI := (RX6, cX6_init, 1, none, "<init>", 1, 16, fun _ _ _ => True)
theorem cwX6_init : CWd yX6_init mX6_init 0 := ⟨ki_X6, kk_X6_init, ⟨by decide, by decide⟩, rfl⟩
def dtX6_init_0 : List (Nat × Instr × Nat) := [(0, .aload_n 0, 1), (1, .invokespecial 3, 3), (4, .aload_n 0, 1), (5, .bipush 99, 2), (7, .putfield 9, 3), (10, .aload_n 0, 1), (11, .bipush 12, 2), (13, .newarray .int, 2), (15, .putfield 15, 3), (18, .aload_n 0, 1), (19, .bipush 12, 2), (21, .newarray .int, 2), (23, .putfield 19, 3), (26, .return_, 1)]
theorem ddX6_init_0 : (dtX6_init_0.all fun e => decide (decode mX6_init.2.1 e.1 = .ok (e.2.1, e.2.2))) = true := by decide +kernel
theorem daX6_init_0 (j : Nat) {pc n : Nat} {i : Instr} (h : dtX6_init_0[j]? = some (pc, i, n)) : decode mX6_init.2.1 pc = .ok (i, n) := dec_of (c := mX6_init.2.1) ddX6_init_0 h
def fX6_init (v0 : Int) (μ : Mm) : Option (Mm × Nat × Nat) :=
  chk (v0 ≠ 0) (
  chk (KD v0 = 6) (
  lm (mst μ v0 6 99) fun μ3 =>
  chk (KD (v0 + 1) = 12 ∧ LN (v0 + 1) = 12 ∧ μ3 0 (v0 + 1) = 0) (
  pay 1 12 (
  lm (mnw μ3 (v0 + 1)) fun μ6 =>
  lm (mst μ6 v0 7 (v0 + 1)) fun μ7 =>
  chk (KD (v0 + 2) = 12 ∧ LN (v0 + 2) = 12 ∧ μ7 0 (v0 + 2) = 0) (
  pay 1 12 (
  lm (mnw μ7 (v0 + 2)) fun μ10 =>
  lm (mst μ10 v0 8 (v0 + 2)) fun μ11 =>
  some (μ11, 0, 0)))))))
set_option maxRecDepth 20000 in
theorem gX6_init_0 (l : Launch) {F : FI} {v0 : Int} {μ : Mm} {t : Mm} {c0 n0 k n : Nat} (h : fX6_init v0 μ = some (t, c0, n0)) (hK : F.1 = [] ∧ F.2.1 = t) : GM l mX6_init F (c0 + k) (n0 + n) 0 [(0, (3, v0))] [] μ := by
  unfold fX6_init at h
  refine GM_aload_n (pc := 0) 0 rfl (daX6_init_0 0 rfl) rfl ?_
  obtain ⟨hc1, h⟩ := chk_inv h
  refine GM_objInit (pc := 1) km_X6_3 kv__java_lang_Object__init____V_ kk_obj (daX6_init_0 1 rfl) hc1 ⟨Nat.le_of_ble_eq_true rfl, Nat.le_of_ble_eq_true rfl⟩ ?_
  refine GM_aload_n (pc := 4) 0 rfl (daX6_init_0 2 rfl) rfl ?_
  refine GM_bipush (pc := 5) 99 (daX6_init_0 3 rfl) rfl (R32_b rfl) ?_
  obtain ⟨hc2, h⟩ := chk_inv h
  obtain ⟨μ3, hμ3, h⟩ := lm_inv h
  refine GM_putf (pc := 7) 6 6 0 kf_X6_9 (Nat.le_of_ble_eq_true rfl) (Nat.le_of_ble_eq_true rfl) rfl rfl (daX6_init_0 4 rfl) hc2 (fun q => absurd q (by decide)) ?_
  refine GM_mem hμ3 ?_
  refine GM_aload_n (pc := 10) 0 rfl (daX6_init_0 5 rfl) rfl ?_
  refine GM_bipush (pc := 11) 12 (daX6_init_0 6 rfl) rfl (R32_b rfl) ?_
  obtain ⟨hc4, h⟩ := chk_inv h
  obtain ⟨c5, n5, hp, e1, e2⟩ := pay_inv h
  subst e1 e2
  replace h := hp
  clear hp
  rw [Nat.add_assoc, Nat.add_assoc]
  obtain ⟨μ6, hμ6, h⟩ := lm_inv h
  refine GM_newi (pc := 13) (N := 12) (v0 + 1) (daX6_init_0 7 rfl) hc4.1 hc4.2.1 (Nat.le_of_ble_eq_true rfl) hc4.2.2 ?_
  refine GM_mem hμ6 ?_
  obtain ⟨μ7, hμ7, h⟩ := lm_inv h
  refine GM_putF (pc := 15) 6 7 3 kf_X6_15 (Nat.le_of_ble_eq_true rfl) (Nat.le_of_ble_eq_true rfl) rfl rfl rfl rfl (daX6_init_0 8 rfl) hc2 (fun q => absurd q (by decide)) ?_
  refine GM_mem hμ7 ?_
  refine GM_aload_n (pc := 18) 0 rfl (daX6_init_0 9 rfl) rfl ?_
  refine GM_bipush (pc := 19) 12 (daX6_init_0 10 rfl) rfl (R32_b rfl) ?_
  obtain ⟨hc8, h⟩ := chk_inv h
  obtain ⟨c9, n9, hp, e1, e2⟩ := pay_inv h
  subst e1 e2
  replace h := hp
  clear hp
  rw [Nat.add_assoc, Nat.add_assoc]
  obtain ⟨μ10, hμ10, h⟩ := lm_inv h
  refine GM_newi (pc := 21) (N := 12) (v0 + 2) (daX6_init_0 11 rfl) hc8.1 hc8.2.1 (Nat.le_of_ble_eq_true rfl) hc8.2.2 ?_
  refine GM_mem hμ10 ?_
  obtain ⟨μ11, hμ11, h⟩ := lm_inv h
  refine GM_putF (pc := 23) 6 8 3 kf_X6_19 (Nat.le_of_ble_eq_true rfl) (Nat.le_of_ble_eq_true rfl) rfl rfl rfl rfl (daX6_init_0 12 rfl) hc2 (fun q => absurd q (by decide)) ?_
  refine GM_mem hμ11 ?_
  cases h
  exact GM_vret (pc := 26) (daX6_init_0 13 rfl) rfl hK
theorem tX6_init (l : Launch) {v0 : Int} {μ : Mm} {t : Mm} {c0 n0 : Nat} (h : fX6_init v0 μ = some (t, c0, n0)) : Ct l yX6_init mX6_init [(3, v0)] μ ([], t, c0, n0) :=
  Ct_of (by decide +kernel) rfl rfl (Nat.le_of_ble_eq_true rfl) (fun _ _ _ => trivial) (gX6_init_0 (k := 0) (n := 0) l h ⟨rfl, rfl⟩)
def mX6_clear : MI := (RX6, cX6_clear, 1, none, "clear", 1, 23, fun _ _ _ => True)
theorem cwX6_clear : CWd yX6_clear mX6_clear 0 := ⟨ki_X6, kk_X6_clear, ⟨by decide, by decide⟩, rfl⟩
def dtX6_clear_0 : List (Nat × Instr × Nat) := [(0, .aload_n 0, 1), (1, .iconst 0, 1), (2, .putfield 22, 3), (5, .aload_n 0, 1), (6, .iconst 0, 1), (7, .putfield 25, 3), (10, .aload_n 0, 1), (11, .iconst 0, 1), (12, .putfield 28, 3), (15, .aload_n 0, 1), (16, .iconst 0, 1), (17, .putfield 32, 3), (20, .aload_n 0, 1), (21, .iconst 0, 1), (22, .putfield 35, 3), (25, .aload_n 0, 1), (26, .iconst 0, 1), (27, .putfield 38, 3), (30, .aload_n 0, 1), (31, .bipush 99, 2), (33, .putfield 9, 3), (36, .aload_n 0, 1), (37, .getfield 19, 3), (40, .iconst 0, 1), (41, .invokestatic 41, 3), (44, .return_, 1)]
theorem ddX6_clear_0 : (dtX6_clear_0.all fun e => decide (decode mX6_clear.2.1 e.1 = .ok (e.2.1, e.2.2))) = true := by decide +kernel
theorem daX6_clear_0 (j : Nat) {pc n : Nat} {i : Instr} (h : dtX6_clear_0[j]? = some (pc, i, n)) : decode mX6_clear.2.1 pc = .ok (i, n) := dec_of (c := mX6_clear.2.1) ddX6_clear_0 h
def fX6_clear (v0 : Int) (μ : Mm) : Option Mm :=
  chk (KD v0 = 6) (
  lm (mst μ v0 0 0) fun μ2 =>
  lm (mst μ2 v0 1 0) fun μ3 =>
  lm (mst μ3 v0 2 0) fun μ4 =>
  lm (mst μ4 v0 3 0) fun μ5 =>
  lm (mst μ5 v0 4 0) fun μ6 =>
  lm (mst μ6 v0 5 0) fun μ7 =>
  lm (mst μ7 v0 6 99) fun μ8 =>
  (fJ7_fill_53178 (μ8 v0 8) 0 μ8).bind fun μ9 =>
  some μ9)
set_option maxRecDepth 20000 in
theorem gX6_clear_0 (l : Launch) {F : FI} {v0 : Int} {μ : Mm} {t : Mm} (h : fX6_clear v0 μ = some t) (hK : F.1 = [] ∧ F.2.1 = t) : GM l mX6_clear F 0 0 0 [(0, (3, v0))] [] μ := by
  unfold fX6_clear at h
  refine GM_aload_n (pc := 0) 0 rfl (daX6_clear_0 0 rfl) rfl ?_
  refine GM_iconst (pc := 1) 0 (daX6_clear_0 1 rfl) rfl (R32_b rfl) ?_
  obtain ⟨hc1, h⟩ := chk_inv h
  obtain ⟨μ2, hμ2, h⟩ := lm_inv h
  refine GM_putf (pc := 2) 6 0 0 kf_X6_22 (Nat.le_of_ble_eq_true rfl) (Nat.le_of_ble_eq_true rfl) rfl rfl (daX6_clear_0 2 rfl) hc1 (fun q => absurd q (by decide)) ?_
  refine GM_mem hμ2 ?_
  refine GM_aload_n (pc := 5) 0 rfl (daX6_clear_0 3 rfl) rfl ?_
  refine GM_iconst (pc := 6) 0 (daX6_clear_0 4 rfl) rfl (R32_b rfl) ?_
  obtain ⟨μ3, hμ3, h⟩ := lm_inv h
  refine GM_putf (pc := 7) 6 1 0 kf_X6_25 (Nat.le_of_ble_eq_true rfl) (Nat.le_of_ble_eq_true rfl) rfl rfl (daX6_clear_0 5 rfl) hc1 (fun q => absurd q (by decide)) ?_
  refine GM_mem hμ3 ?_
  refine GM_aload_n (pc := 10) 0 rfl (daX6_clear_0 6 rfl) rfl ?_
  refine GM_iconst (pc := 11) 0 (daX6_clear_0 7 rfl) rfl (R32_b rfl) ?_
  obtain ⟨μ4, hμ4, h⟩ := lm_inv h
  refine GM_putf (pc := 12) 6 2 0 kf_X6_28 (Nat.le_of_ble_eq_true rfl) (Nat.le_of_ble_eq_true rfl) rfl rfl (daX6_clear_0 8 rfl) hc1 (fun _ => Or.inl rfl) ?_
  refine GM_mem hμ4 ?_
  refine GM_aload_n (pc := 15) 0 rfl (daX6_clear_0 9 rfl) rfl ?_
  refine GM_iconst (pc := 16) 0 (daX6_clear_0 10 rfl) rfl (R32_b rfl) ?_
  obtain ⟨μ5, hμ5, h⟩ := lm_inv h
  refine GM_putf (pc := 17) 6 3 0 kf_X6_32 (Nat.le_of_ble_eq_true rfl) (Nat.le_of_ble_eq_true rfl) rfl rfl (daX6_clear_0 11 rfl) hc1 (fun _ => Or.inl rfl) ?_
  refine GM_mem hμ5 ?_
  refine GM_aload_n (pc := 20) 0 rfl (daX6_clear_0 12 rfl) rfl ?_
  refine GM_iconst (pc := 21) 0 (daX6_clear_0 13 rfl) rfl (R32_b rfl) ?_
  obtain ⟨μ6, hμ6, h⟩ := lm_inv h
  refine GM_putf (pc := 22) 6 4 0 kf_X6_35 (Nat.le_of_ble_eq_true rfl) (Nat.le_of_ble_eq_true rfl) rfl rfl (daX6_clear_0 14 rfl) hc1 (fun _ => Or.inl rfl) ?_
  refine GM_mem hμ6 ?_
  refine GM_aload_n (pc := 25) 0 rfl (daX6_clear_0 15 rfl) rfl ?_
  refine GM_iconst (pc := 26) 0 (daX6_clear_0 16 rfl) rfl (R32_b rfl) ?_
  obtain ⟨μ7, hμ7, h⟩ := lm_inv h
  refine GM_putf (pc := 27) 6 5 0 kf_X6_38 (Nat.le_of_ble_eq_true rfl) (Nat.le_of_ble_eq_true rfl) rfl rfl (daX6_clear_0 17 rfl) hc1 (fun q => absurd q (by decide)) ?_
  refine GM_mem hμ7 ?_
  refine GM_aload_n (pc := 30) 0 rfl (daX6_clear_0 18 rfl) rfl ?_
  refine GM_bipush (pc := 31) 99 (daX6_clear_0 19 rfl) rfl (R32_b rfl) ?_
  obtain ⟨μ8, hμ8, h⟩ := lm_inv h
  refine GM_putf (pc := 33) 6 6 0 kf_X6_9 (Nat.le_of_ble_eq_true rfl) (Nat.le_of_ble_eq_true rfl) rfl rfl (daX6_clear_0 20 rfl) hc1 (fun q => absurd q (by decide)) ?_
  refine GM_mem hμ8 ?_
  refine GM_aload_n (pc := 36) 0 rfl (daX6_clear_0 21 rfl) rfl ?_
  refine GM_getf (pc := 37) 6 8 3 8 kf_X6_19 (Nat.le_of_ble_eq_true rfl) (Nat.le_of_ble_eq_true rfl) rfl (daX6_clear_0 22 rfl) hc1 rfl ?_
  refine GM_iconst (pc := 40) 0 (daX6_clear_0 23 rfl) rfl (R32_b rfl) ?_
  obtain ⟨μ9, hf9, h⟩ := Option.bind_eq_some_iff.mp h
  refine GM_callS0 (pc := 41) [(3, μ8 v0 8), (0, 0)] (tJ7_fill_53178 l hf9) cwJ7_fill_53178 ks_J7_fill_53178 km_X6_41 ⟨Nat.le_of_ble_eq_true rfl, Nat.le_of_ble_eq_true rfl⟩ (Nat.le_of_ble_eq_true rfl) (Nat.le_of_ble_eq_true rfl) (daX6_clear_0 24 rfl) ?_
  cases h
  exact GM_vret (pc := 44) (daX6_clear_0 25 rfl) rfl hK
theorem tX6_clear (l : Launch) {v0 : Int} {μ : Mm} {t : Mm} (h : fX6_clear v0 μ = some t) : Ct l yX6_clear mX6_clear [(3, v0)] μ ([], t, 0, 0) :=
  Ct_of (by decide +kernel) rfl rfl (Nat.le_of_ble_eq_true rfl) (fun _ _ _ => trivial) (gX6_clear_0 l h ⟨rfl, rfl⟩)
def mX6_take : MI := (RX6, cX6_take, 2, none, "take", 1, 60, fun _ _ _ => True)
theorem cwX6_take : CWd yX6_take mX6_take 1 := ⟨ki_X6, kk_X6_take, ⟨by decide, by decide⟩, rfl⟩
def dtX6_take_0 : List (Nat × Instr × Nat) := [(0, .aload_n 0, 1), (1, .aload_n 1, 1), (2, .getfield 22, 3), (5, .putfield 22, 3), (8, .aload_n 0, 1), (9, .aload_n 1, 1), (10, .getfield 25, 3), (13, .putfield 25, 3), (16, .aload_n 0, 1), (17, .aload_n 1, 1), (18, .getfield 28, 3), (21, .putfield 28, 3), (24, .aload_n 0, 1), (25, .aload_n 1, 1), (26, .getfield 32, 3), (29, .putfield 32, 3), (32, .aload_n 0, 1), (33, .aload_n 1, 1), (34, .getfield 35, 3), (37, .putfield 35, 3), (40, .aload_n 0, 1), (41, .aload_n 1, 1), (42, .getfield 38, 3), (45, .putfield 38, 3), (48, .aload_n 0, 1), (49, .aload_n 1, 1), (50, .getfield 9, 3), (53, .putfield 9, 3), (56, .aload_n 1, 1), (57, .getfield 15, 3), (60, .iconst 0, 1), (61, .aload_n 0, 1), (62, .getfield 15, 3), (65, .iconst 0, 1), (66, .bipush 12, 2), (68, .invokestatic 47, 3), (71, .aload_n 1, 1), (72, .getfield 19, 3), (75, .iconst 0, 1), (76, .aload_n 0, 1), (77, .getfield 19, 3), (80, .iconst 0, 1), (81, .bipush 12, 2), (83, .invokestatic 47, 3), (86, .return_, 1)]
theorem ddX6_take_0 : (dtX6_take_0.all fun e => decide (decode mX6_take.2.1 e.1 = .ok (e.2.1, e.2.2))) = true := by decide +kernel
theorem daX6_take_0 (j : Nat) {pc n : Nat} {i : Instr} (h : dtX6_take_0[j]? = some (pc, i, n)) : decode mX6_take.2.1 pc = .ok (i, n) := dec_of (c := mX6_take.2.1) ddX6_take_0 h
def fX6_take (v0 v1 : Int) (μ : Mm) : Option Mm :=
  chk (KD v1 = 6) (
  chk (KD v0 = 6) (
  lm (mst μ v0 0 (μ v1 0)) fun μ3 =>
  lm (mst μ3 v0 1 (μ3 v1 1)) fun μ4 =>
  chk ((μ4 v1 2 = 0 ∨ μ4 v1 2 = 1)) (
  lm (mst μ4 v0 2 (μ4 v1 2)) fun μ6 =>
  chk ((μ6 v1 3 = 0 ∨ μ6 v1 3 = 1)) (
  lm (mst μ6 v0 3 (μ6 v1 3)) fun μ8 =>
  chk ((μ8 v1 4 = 0 ∨ μ8 v1 4 = 1)) (
  lm (mst μ8 v0 4 (μ8 v1 4)) fun μ10 =>
  lm (mst μ10 v0 5 (μ10 v1 5)) fun μ11 =>
  lm (mst μ11 v0 6 (μ11 v1 6)) fun μ12 =>
  chk (KD (μ12 v1 7) = 12 ∧ KD (μ12 v0 7) = 12 ∧ ((0 : Int) ≤ 0 ∧ (0 : Int) ≤ 0 ∧ (0 : Int) ≤ 12) ∧ 0 + 12 ≤ LN (μ12 v1 7) ∧ 0 + 12 ≤ LN (μ12 v0 7)) (
  lm (mcp μ12 (μ12 v1 7) 0 (μ12 v0 7) 0 12) fun μ14 =>
  chk (KD (μ14 v1 8) = 12 ∧ KD (μ14 v0 8) = 12 ∧ 0 + 12 ≤ LN (μ14 v1 8) ∧ 0 + 12 ≤ LN (μ14 v0 8)) (
  lm (mcp μ14 (μ14 v1 8) 0 (μ14 v0 8) 0 12) fun μ16 =>
  some μ16)))))))
set_option maxRecDepth 20000 in
theorem gX6_take_0 (l : Launch) {F : FI} {v0 v1 : Int} {μ : Mm} {t : Mm} (h : fX6_take v0 v1 μ = some t) (hK : F.1 = [] ∧ F.2.1 = t) : GM l mX6_take F 0 0 0 [(0, (3, v0)), (1, (3, v1))] [] μ := by
  unfold fX6_take at h
  refine GM_aload_n (pc := 0) 0 rfl (daX6_take_0 0 rfl) rfl ?_
  refine GM_aload_n (pc := 1) 1 rfl (daX6_take_0 1 rfl) rfl ?_
  obtain ⟨hc1, h⟩ := chk_inv h
  refine GM_getf (pc := 2) 6 0 0 0 kf_X6_22 (Nat.le_of_ble_eq_true rfl) (Nat.le_of_ble_eq_true rfl) rfl (daX6_take_0 2 rfl) hc1 rfl ?_
  obtain ⟨hc2, h⟩ := chk_inv h
  obtain ⟨μ3, hμ3, h⟩ := lm_inv h
  refine GM_putf (pc := 5) 6 0 0 kf_X6_22 (Nat.le_of_ble_eq_true rfl) (Nat.le_of_ble_eq_true rfl) rfl rfl (daX6_take_0 3 rfl) hc2 (fun q => absurd q (by decide)) ?_
  refine GM_mem hμ3 ?_
  refine GM_aload_n (pc := 8) 0 rfl (daX6_take_0 4 rfl) rfl ?_
  refine GM_aload_n (pc := 9) 1 rfl (daX6_take_0 5 rfl) rfl ?_
  refine GM_getf (pc := 10) 6 1 0 1 kf_X6_25 (Nat.le_of_ble_eq_true rfl) (Nat.le_of_ble_eq_true rfl) rfl (daX6_take_0 6 rfl) hc1 rfl ?_
  obtain ⟨μ4, hμ4, h⟩ := lm_inv h
  refine GM_putf (pc := 13) 6 1 0 kf_X6_25 (Nat.le_of_ble_eq_true rfl) (Nat.le_of_ble_eq_true rfl) rfl rfl (daX6_take_0 7 rfl) hc2 (fun q => absurd q (by decide)) ?_
  refine GM_mem hμ4 ?_
  refine GM_aload_n (pc := 16) 0 rfl (daX6_take_0 8 rfl) rfl ?_
  refine GM_aload_n (pc := 17) 1 rfl (daX6_take_0 9 rfl) rfl ?_
  refine GM_getf (pc := 18) 6 2 0 2 kf_X6_28 (Nat.le_of_ble_eq_true rfl) (Nat.le_of_ble_eq_true rfl) rfl (daX6_take_0 10 rfl) hc1 rfl ?_
  obtain ⟨hc5, h⟩ := chk_inv h
  obtain ⟨μ6, hμ6, h⟩ := lm_inv h
  refine GM_putf (pc := 21) 6 2 0 kf_X6_28 (Nat.le_of_ble_eq_true rfl) (Nat.le_of_ble_eq_true rfl) rfl rfl (daX6_take_0 11 rfl) hc2 (fun _ => hc5) ?_
  refine GM_mem hμ6 ?_
  refine GM_aload_n (pc := 24) 0 rfl (daX6_take_0 12 rfl) rfl ?_
  refine GM_aload_n (pc := 25) 1 rfl (daX6_take_0 13 rfl) rfl ?_
  refine GM_getf (pc := 26) 6 3 0 3 kf_X6_32 (Nat.le_of_ble_eq_true rfl) (Nat.le_of_ble_eq_true rfl) rfl (daX6_take_0 14 rfl) hc1 rfl ?_
  obtain ⟨hc7, h⟩ := chk_inv h
  obtain ⟨μ8, hμ8, h⟩ := lm_inv h
  refine GM_putf (pc := 29) 6 3 0 kf_X6_32 (Nat.le_of_ble_eq_true rfl) (Nat.le_of_ble_eq_true rfl) rfl rfl (daX6_take_0 15 rfl) hc2 (fun _ => hc7) ?_
  refine GM_mem hμ8 ?_
  refine GM_aload_n (pc := 32) 0 rfl (daX6_take_0 16 rfl) rfl ?_
  refine GM_aload_n (pc := 33) 1 rfl (daX6_take_0 17 rfl) rfl ?_
  refine GM_getf (pc := 34) 6 4 0 4 kf_X6_35 (Nat.le_of_ble_eq_true rfl) (Nat.le_of_ble_eq_true rfl) rfl (daX6_take_0 18 rfl) hc1 rfl ?_
  obtain ⟨hc9, h⟩ := chk_inv h
  obtain ⟨μ10, hμ10, h⟩ := lm_inv h
  refine GM_putf (pc := 37) 6 4 0 kf_X6_35 (Nat.le_of_ble_eq_true rfl) (Nat.le_of_ble_eq_true rfl) rfl rfl (daX6_take_0 19 rfl) hc2 (fun _ => hc9) ?_
  refine GM_mem hμ10 ?_
  refine GM_aload_n (pc := 40) 0 rfl (daX6_take_0 20 rfl) rfl ?_
  refine GM_aload_n (pc := 41) 1 rfl (daX6_take_0 21 rfl) rfl ?_
  refine GM_getf (pc := 42) 6 5 0 5 kf_X6_38 (Nat.le_of_ble_eq_true rfl) (Nat.le_of_ble_eq_true rfl) rfl (daX6_take_0 22 rfl) hc1 rfl ?_
  obtain ⟨μ11, hμ11, h⟩ := lm_inv h
  refine GM_putf (pc := 45) 6 5 0 kf_X6_38 (Nat.le_of_ble_eq_true rfl) (Nat.le_of_ble_eq_true rfl) rfl rfl (daX6_take_0 23 rfl) hc2 (fun q => absurd q (by decide)) ?_
  refine GM_mem hμ11 ?_
  refine GM_aload_n (pc := 48) 0 rfl (daX6_take_0 24 rfl) rfl ?_
  refine GM_aload_n (pc := 49) 1 rfl (daX6_take_0 25 rfl) rfl ?_
  refine GM_getf (pc := 50) 6 6 0 6 kf_X6_9 (Nat.le_of_ble_eq_true rfl) (Nat.le_of_ble_eq_true rfl) rfl (daX6_take_0 26 rfl) hc1 rfl ?_
  obtain ⟨μ12, hμ12, h⟩ := lm_inv h
  refine GM_putf (pc := 53) 6 6 0 kf_X6_9 (Nat.le_of_ble_eq_true rfl) (Nat.le_of_ble_eq_true rfl) rfl rfl (daX6_take_0 27 rfl) hc2 (fun q => absurd q (by decide)) ?_
  refine GM_mem hμ12 ?_
  refine GM_aload_n (pc := 56) 1 rfl (daX6_take_0 28 rfl) rfl ?_
  refine GM_getf (pc := 57) 6 7 3 7 kf_X6_15 (Nat.le_of_ble_eq_true rfl) (Nat.le_of_ble_eq_true rfl) rfl (daX6_take_0 29 rfl) hc1 rfl ?_
  refine GM_iconst (pc := 60) 0 (daX6_take_0 30 rfl) rfl (R32_b rfl) ?_
  refine GM_aload_n (pc := 61) 0 rfl (daX6_take_0 31 rfl) rfl ?_
  refine GM_getf (pc := 62) 6 7 3 7 kf_X6_15 (Nat.le_of_ble_eq_true rfl) (Nat.le_of_ble_eq_true rfl) rfl (daX6_take_0 32 rfl) hc2 rfl ?_
  refine GM_iconst (pc := 65) 0 (daX6_take_0 33 rfl) rfl (R32_b rfl) ?_
  refine GM_bipush (pc := 66) 12 (daX6_take_0 34 rfl) rfl (R32_b rfl) ?_
  obtain ⟨hc13, h⟩ := chk_inv h
  obtain ⟨μ14, hμ14, h⟩ := lm_inv h
  refine GM_copyi (pc := 68) km_X6_47 ks__java_lang_System_arraycopy__Ljava_lang_Object_ILjava_lang_Object_II_V_ ki_J10 kt_arraycopy (daX6_take_0 35 rfl) ⟨Nat.le_of_ble_eq_true rfl, Nat.le_of_ble_eq_true rfl⟩ hc13.1 hc13.2.1 hc13.2.2.1 hc13.2.2.2.1 hc13.2.2.2.2 ?_
  refine GM_mem hμ14 ?_
  refine GM_aload_n (pc := 71) 1 rfl (daX6_take_0 36 rfl) rfl ?_
  refine GM_getf (pc := 72) 6 8 3 8 kf_X6_19 (Nat.le_of_ble_eq_true rfl) (Nat.le_of_ble_eq_true rfl) rfl (daX6_take_0 37 rfl) hc1 rfl ?_
  refine GM_iconst (pc := 75) 0 (daX6_take_0 38 rfl) rfl (R32_b rfl) ?_
  refine GM_aload_n (pc := 76) 0 rfl (daX6_take_0 39 rfl) rfl ?_
  refine GM_getf (pc := 77) 6 8 3 8 kf_X6_19 (Nat.le_of_ble_eq_true rfl) (Nat.le_of_ble_eq_true rfl) rfl (daX6_take_0 40 rfl) hc2 rfl ?_
  refine GM_iconst (pc := 80) 0 (daX6_take_0 41 rfl) rfl (R32_b rfl) ?_
  refine GM_bipush (pc := 81) 12 (daX6_take_0 42 rfl) rfl (R32_b rfl) ?_
  obtain ⟨hc15, h⟩ := chk_inv h
  obtain ⟨μ16, hμ16, h⟩ := lm_inv h
  refine GM_copyi (pc := 83) km_X6_47 ks__java_lang_System_arraycopy__Ljava_lang_Object_ILjava_lang_Object_II_V_ ki_J10 kt_arraycopy (daX6_take_0 43 rfl) ⟨Nat.le_of_ble_eq_true rfl, Nat.le_of_ble_eq_true rfl⟩ hc15.1 hc15.2.1 hc13.2.2.1 hc15.2.2.1 hc15.2.2.2 ?_
  refine GM_mem hμ16 ?_
  cases h
  exact GM_vret (pc := 86) (daX6_take_0 44 rfl) rfl hK
theorem tX6_take (l : Launch) {v0 v1 : Int} {μ : Mm} {t : Mm} (h : fX6_take v0 v1 μ = some t) : Ct l yX6_take mX6_take [(3, v0), (3, v1)] μ ([], t, 0, 0) :=
  Ct_of (by decide +kernel) rfl rfl (Nat.le_of_ble_eq_true rfl) (fun _ _ _ => trivial) (gX6_take_0 l h ⟨rfl, rfl⟩)
def mX6_hasHump : MI := (RX6, cX6_hasHump, 2, (some .boolean), "hasHump", 0, 0, fun _ _ _ => True)
theorem cwX6_hasHump : CWd yX6_hasHump mX6_hasHump 1 := ⟨ki_X6, kk_X6_hasHump, ⟨by decide, by decide⟩, rfl⟩
def dtX6_hasHump_0 : List (Nat × Instr × Nat) := [(0, .iload_n 1, 1), (1, .ifCond .lt 21, 3), (4, .iload_n 1, 1), (5, .aload_n 0, 1), (6, .getfield 22, 3), (9, .if_icmp .ge 13, 3), (12, .iload_n 1, 1), (13, .bipush 12, 2), (15, .if_icmp .ge 7, 3), (18, .iconst 1, 1), (19, .goto 4, 3), (22, .iconst 0, 1), (23, .ireturn, 1)]
theorem ddX6_hasHump_0 : (dtX6_hasHump_0.all fun e => decide (decode mX6_hasHump.2.1 e.1 = .ok (e.2.1, e.2.2))) = true := by decide +kernel
theorem daX6_hasHump_0 (j : Nat) {pc n : Nat} {i : Instr} (h : dtX6_hasHump_0[j]? = some (pc, i, n)) : decode mX6_hasHump.2.1 pc = .ok (i, n) := dec_of (c := mX6_hasHump.2.1) ddX6_hasHump_0 h
def fX6_hasHump (v0 v1 : Int) (μ : Mm) : Option Int :=
  if v1 < 0 then
    some 0
  else
    chk (KD v0 = 6) (
    if μ v0 0 ≤ v1 then
      some 0
    else
      if 12 ≤ v1 then
        some 0
      else
        some 1)
set_option maxRecDepth 20000 in
theorem gX6_hasHump_0 (l : Launch) {F : FI} {v0 v1 : Int} {μ : Mm} {t : Int} (h : fX6_hasHump v0 v1 μ = some t) (hK : F.1 = [(0, t)] ∧ F.2.1 = μ) : GM l mX6_hasHump F 0 0 0 [(0, (3, v0)), (1, (0, v1))] [] μ := by
  unfold fX6_hasHump at h
  refine GM_iload_n (pc := 0) 1 rfl (daX6_hasHump_0 0 rfl) rfl ?_
  refine GM_if_lt (pc := 1) 22 (daX6_hasHump_0 1 rfl) rfl (fun c1 => ?_) (fun c1 => ?_)
  · skip
    rw [if_pos c1] at h
    refine GM_iconst (pc := 22) 0 (daX6_hasHump_0 11 rfl) rfl (R32_b rfl) ?_
    cases h
    exact GM_zret (pc := 23) (daX6_hasHump_0 12 rfl) rfl (Or.inl rfl) hK
  · skip
    rw [if_neg c1] at h
    refine GM_iload_n (pc := 4) 1 rfl (daX6_hasHump_0 2 rfl) rfl ?_
    refine GM_aload_n (pc := 5) 0 rfl (daX6_hasHump_0 3 rfl) rfl ?_
    obtain ⟨hc2, h⟩ := chk_inv h
    refine GM_getf (pc := 6) 6 0 0 0 kf_X6_22 (Nat.le_of_ble_eq_true rfl) (Nat.le_of_ble_eq_true rfl) rfl (daX6_hasHump_0 4 rfl) hc2 rfl ?_
    refine GM_icmp_ge (pc := 9) 22 (daX6_hasHump_0 5 rfl) rfl (fun c3 => ?_) (fun c3 => ?_)
    · skip
      rw [if_pos c3] at h
      refine GM_iconst (pc := 22) 0 (daX6_hasHump_0 11 rfl) rfl (R32_b rfl) ?_
      cases h
      exact GM_zret (pc := 23) (daX6_hasHump_0 12 rfl) rfl (Or.inl rfl) hK
    · skip
      rw [if_neg c3] at h
      refine GM_iload_n (pc := 12) 1 rfl (daX6_hasHump_0 6 rfl) rfl ?_
      refine GM_bipush (pc := 13) 12 (daX6_hasHump_0 7 rfl) rfl (R32_b rfl) ?_
      refine GM_icmp_ge (pc := 15) 22 (daX6_hasHump_0 8 rfl) rfl (fun c4 => ?_) (fun c4 => ?_)
      · skip
        rw [if_pos c4] at h
        refine GM_iconst (pc := 22) 0 (daX6_hasHump_0 11 rfl) rfl (R32_b rfl) ?_
        cases h
        exact GM_zret (pc := 23) (daX6_hasHump_0 12 rfl) rfl (Or.inl rfl) hK
      · skip
        rw [if_neg c4] at h
        refine GM_iconst (pc := 18) 1 (daX6_hasHump_0 9 rfl) rfl (R32_b rfl) ?_
        refine GM_goto (pc := 19) 23 (daX6_hasHump_0 10 rfl) rfl ?_
        cases h
        exact GM_zret (pc := 23) (daX6_hasHump_0 12 rfl) rfl (Or.inr rfl) hK
theorem tX6_hasHump (l : Launch) {v0 v1 : Int} {μ : Mm} {t : Int} (h : fX6_hasHump v0 v1 μ = some t) : Ct l yX6_hasHump mX6_hasHump [(3, v0), (0, v1)] μ ([(0, t)], μ, 0, 0) :=
  Ct_of (by decide +kernel) rfl rfl (Nat.le_of_ble_eq_true rfl) (fun _ _ _ => trivial) (gX6_hasHump_0 l h ⟨rfl, rfl⟩)
def mX6_tellHump : MI := (RX6, cX6_tellHump, 2, (some .int), "tellHump", 1, 21, fun _ _ _ => True)
theorem cwX6_tellHump : CWd yX6_tellHump mX6_tellHump 1 := ⟨ki_X6, kk_X6_tellHump, ⟨by decide, by decide⟩, rfl⟩
def dtX6_tellHump_0 : List (Nat × Instr × Nat) := [(0, .aload_n 0, 1), (1, .iload_n 1, 1), (2, .bipush 10, 2), (4, .isub, 1), (5, .invokevirtual 53, 3), (8, .ifCond .eq 13, 3), (11, .aload_n 0, 1), (12, .getfield 15, 3), (15, .iload_n 1, 1), (16, .bipush 10, 2), (18, .isub, 1), (19, .iaload, 1), (20, .ireturn, 1), (21, .aload_n 0, 1), (22, .iload_n 1, 1), (23, .bipush 30, 2), (25, .isub, 1), (26, .invokevirtual 53, 3), (29, .ifCond .eq 15, 3), (32, .aload_n 0, 1), (33, .getfield 19, 3), (36, .iload_n 1, 1), (37, .bipush 30, 2), (39, .isub, 1), (40, .iaload, 1), (41, .goto 4, 3), (44, .iconst (-1), 1), (45, .ireturn, 1)]
theorem ddX6_tellHump_0 : (dtX6_tellHump_0.all fun e => decide (decode mX6_tellHump.2.1 e.1 = .ok (e.2.1, e.2.2))) = true := by decide +kernel
theorem daX6_tellHump_0 (j : Nat) {pc n : Nat} {i : Instr} (h : dtX6_tellHump_0[j]? = some (pc, i, n)) : decode mX6_tellHump.2.1 pc = .ok (i, n) := dec_of (c := mX6_tellHump.2.1) ddX6_tellHump_0 h
def fX6_tellHump (v0 v1 : Int) (μ : Mm) : Option Int :=
  chk (KD v0 = 6) (
  (fX6_hasHump v0 (w32 (v1 - 10)) μ).bind fun r2 =>
  if r2 = 0 then
    (fX6_hasHump v0 (w32 (v1 - 30)) μ).bind fun r4 =>
    if r4 = 0 then
      some (-1)
    else
      chk (KD (μ v0 8) = 12 ∧ 0 ≤ w32 (v1 - 30) ∧ w32 (v1 - 30) < LN (μ v0 8)) (
      some (μ (μ v0 8) (w32 (v1 - 30))))
  else
    chk (KD (μ v0 7) = 12 ∧ 0 ≤ w32 (v1 - 10) ∧ w32 (v1 - 10) < LN (μ v0 7)) (
    some (μ (μ v0 7) (w32 (v1 - 10)))))
set_option maxRecDepth 20000 in
theorem gX6_tellHump_0 (l : Launch) {F : FI} {v0 v1 : Int} {μ : Mm} {t : Int} (h : fX6_tellHump v0 v1 μ = some t) (hK : F.1 = [(0, t)] ∧ F.2.1 = μ) : GM l mX6_tellHump F 0 0 0 [(0, (3, v0)), (1, (0, v1))] [] μ := by
  unfold fX6_tellHump at h
  refine GM_aload_n (pc := 0) 0 rfl (daX6_tellHump_0 0 rfl) rfl ?_
  refine GM_iload_n (pc := 1) 1 rfl (daX6_tellHump_0 1 rfl) rfl ?_
  refine GM_bipush (pc := 2) 10 (daX6_tellHump_0 2 rfl) rfl (R32_b rfl) ?_
  refine GM_isub (pc := 4) (daX6_tellHump_0 3 rfl) ?_
  obtain ⟨hc1, h⟩ := chk_inv h
  obtain ⟨r2, hf2, h⟩ := Option.bind_eq_some_iff.mp h
  refine GM_callV0 (pc := 5) [(0, w32 (v1 - 10))] (tX6_hasHump l hf2) cwX6_hasHump 6 (Nat.le_of_ble_eq_true rfl) rfl kv_X6_hasHump ke_X6_hasHump km_X6_53 hc1 ⟨Nat.le_of_ble_eq_true rfl, Nat.le_of_ble_eq_true rfl⟩ (Nat.le_of_ble_eq_true rfl) (Nat.le_of_ble_eq_true rfl) (daX6_tellHump_0 4 rfl) ?_
  refine GM_if_eq (pc := 8) 21 (daX6_tellHump_0 5 rfl) rfl (fun c3 => ?_) (fun c3 => ?_)
  · skip
    rw [if_pos c3] at h
    refine GM_aload_n (pc := 21) 0 rfl (daX6_tellHump_0 13 rfl) rfl ?_
    refine GM_iload_n (pc := 22) 1 rfl (daX6_tellHump_0 14 rfl) rfl ?_
    refine GM_bipush (pc := 23) 30 (daX6_tellHump_0 15 rfl) rfl (R32_b rfl) ?_
    refine GM_isub (pc := 25) (daX6_tellHump_0 16 rfl) ?_
    obtain ⟨r4, hf4, h⟩ := Option.bind_eq_some_iff.mp h
    refine GM_callV0 (pc := 26) [(0, w32 (v1 - 30))] (tX6_hasHump l hf4) cwX6_hasHump 6 (Nat.le_of_ble_eq_true rfl) rfl kv_X6_hasHump ke_X6_hasHump km_X6_53 hc1 ⟨Nat.le_of_ble_eq_true rfl, Nat.le_of_ble_eq_true rfl⟩ (Nat.le_of_ble_eq_true rfl) (Nat.le_of_ble_eq_true rfl) (daX6_tellHump_0 17 rfl) ?_
    refine GM_if_eq (pc := 29) 44 (daX6_tellHump_0 18 rfl) rfl (fun c5 => ?_) (fun c5 => ?_)
    · skip
      rw [if_pos c5] at h
      refine GM_iconst (pc := 44) (-1) (daX6_tellHump_0 26 rfl) rfl (R32_b rfl) ?_
      cases h
      exact GM_iret (pc := 45) (daX6_tellHump_0 27 rfl) rfl hK
    · skip
      rw [if_neg c5] at h
      refine GM_aload_n (pc := 32) 0 rfl (daX6_tellHump_0 19 rfl) rfl ?_
      refine GM_getf (pc := 33) 6 8 3 8 kf_X6_19 (Nat.le_of_ble_eq_true rfl) (Nat.le_of_ble_eq_true rfl) rfl (daX6_tellHump_0 20 rfl) hc1 rfl ?_
      refine GM_iload_n (pc := 36) 1 rfl (daX6_tellHump_0 21 rfl) rfl ?_
      refine GM_bipush (pc := 37) 30 (daX6_tellHump_0 22 rfl) rfl (R32_b rfl) ?_
      refine GM_isub (pc := 39) (daX6_tellHump_0 23 rfl) ?_
      obtain ⟨hc6, h⟩ := chk_inv h
      refine GM_iald (pc := 40) (daX6_tellHump_0 24 rfl) hc6.1 hc6.2.1 hc6.2.2 ?_
      refine GM_goto (pc := 41) 45 (daX6_tellHump_0 25 rfl) rfl ?_
      cases h
      exact GM_iret (pc := 45) (daX6_tellHump_0 27 rfl) rfl hK
  · skip
    rw [if_neg c3] at h
    refine GM_aload_n (pc := 11) 0 rfl (daX6_tellHump_0 6 rfl) rfl ?_
    refine GM_getf (pc := 12) 6 7 3 7 kf_X6_15 (Nat.le_of_ble_eq_true rfl) (Nat.le_of_ble_eq_true rfl) rfl (daX6_tellHump_0 7 rfl) hc1 rfl ?_
    refine GM_iload_n (pc := 15) 1 rfl (daX6_tellHump_0 8 rfl) rfl ?_
    refine GM_bipush (pc := 16) 10 (daX6_tellHump_0 9 rfl) rfl (R32_b rfl) ?_
    refine GM_isub (pc := 18) (daX6_tellHump_0 10 rfl) ?_
    obtain ⟨hc7, h⟩ := chk_inv h
    refine GM_iald (pc := 19) (daX6_tellHump_0 11 rfl) hc7.1 hc7.2.1 hc7.2.2 ?_
    cases h
    exact GM_iret (pc := 20) (daX6_tellHump_0 12 rfl) rfl hK
theorem tX6_tellHump (l : Launch) {v0 v1 : Int} {μ : Mm} {t : Int} (h : fX6_tellHump v0 v1 μ = some t) : Ct l yX6_tellHump mX6_tellHump [(3, v0), (0, v1)] μ ([(0, t)], μ, 0, 0) :=
  Ct_of (by decide +kernel) rfl rfl (Nat.le_of_ble_eq_true rfl) (fun _ _ _ => trivial) (gX6_tellHump_0 l h ⟨rfl, rfl⟩)
def mX6_isMarked : MI := (RX6, cX6_isMarked, 3, (some .boolean), "isMarked", 0, 0, fun _ _ _ => True)
theorem cwX6_isMarked : CWd yX6_isMarked mX6_isMarked 2 := ⟨ki_X6, kk_X6_isMarked, ⟨by decide, by decide⟩, rfl⟩
def dtX6_isMarked_0 : List (Nat × Instr × Nat) := [(0, .iload_n 1, 1), (1, .ifCond .lt 32, 3), (4, .iload_n 1, 1), (5, .aload_n 0, 1), (6, .getfield 22, 3), (9, .if_icmp .ge 24, 3), (12, .iload_n 1, 1), (13, .bipush 12, 2), (15, .if_icmp .ge 18, 3), (18, .aload_n 0, 1), (19, .getfield 19, 3), (22, .iload_n 1, 1), (23, .iaload, 1), (24, .iload_n 2, 1), (25, .iand, 1), (26, .ifCond .eq 7, 3), (29, .iconst 1, 1), (30, .goto 4, 3), (33, .iconst 0, 1), (34, .ireturn, 1)]
theorem ddX6_isMarked_0 : (dtX6_isMarked_0.all fun e => decide (decode mX6_isMarked.2.1 e.1 = .ok (e.2.1, e.2.2))) = true := by decide +kernel
theorem daX6_isMarked_0 (j : Nat) {pc n : Nat} {i : Instr} (h : dtX6_isMarked_0[j]? = some (pc, i, n)) : decode mX6_isMarked.2.1 pc = .ok (i, n) := dec_of (c := mX6_isMarked.2.1) ddX6_isMarked_0 h
def fX6_isMarked (v0 v1 v2 : Int) (μ : Mm) : Option Int :=
  if v1 < 0 then
    some 0
  else
    chk (KD v0 = 6) (
    if μ v0 0 ≤ v1 then
      some 0
    else
      if 12 ≤ v1 then
        some 0
      else
        chk (KD (μ v0 8) = 12 ∧ 0 ≤ v1 ∧ v1 < LN (μ v0 8)) (
        if iand (μ (μ v0 8) v1) v2 = 0 then
          some 0
        else
          some 1))
set_option maxRecDepth 20000 in
theorem gX6_isMarked_0 (l : Launch) {F : FI} {v0 v1 v2 : Int} {μ : Mm} {t : Int} (h : fX6_isMarked v0 v1 v2 μ = some t) (hK : F.1 = [(0, t)] ∧ F.2.1 = μ) : GM l mX6_isMarked F 0 0 0 [(0, (3, v0)), (1, (0, v1)), (2, (0, v2))] [] μ := by
  unfold fX6_isMarked at h
  refine GM_iload_n (pc := 0) 1 rfl (daX6_isMarked_0 0 rfl) rfl ?_
  refine GM_if_lt (pc := 1) 33 (daX6_isMarked_0 1 rfl) rfl (fun c1 => ?_) (fun c1 => ?_)
  · skip
    rw [if_pos c1] at h
    refine GM_iconst (pc := 33) 0 (daX6_isMarked_0 18 rfl) rfl (R32_b rfl) ?_
    cases h
    exact GM_zret (pc := 34) (daX6_isMarked_0 19 rfl) rfl (Or.inl rfl) hK
  · skip
    rw [if_neg c1] at h
    refine GM_iload_n (pc := 4) 1 rfl (daX6_isMarked_0 2 rfl) rfl ?_
    refine GM_aload_n (pc := 5) 0 rfl (daX6_isMarked_0 3 rfl) rfl ?_
    obtain ⟨hc2, h⟩ := chk_inv h
    refine GM_getf (pc := 6) 6 0 0 0 kf_X6_22 (Nat.le_of_ble_eq_true rfl) (Nat.le_of_ble_eq_true rfl) rfl (daX6_isMarked_0 4 rfl) hc2 rfl ?_
    refine GM_icmp_ge (pc := 9) 33 (daX6_isMarked_0 5 rfl) rfl (fun c3 => ?_) (fun c3 => ?_)
    · skip
      rw [if_pos c3] at h
      refine GM_iconst (pc := 33) 0 (daX6_isMarked_0 18 rfl) rfl (R32_b rfl) ?_
      cases h
      exact GM_zret (pc := 34) (daX6_isMarked_0 19 rfl) rfl (Or.inl rfl) hK
    · skip
      rw [if_neg c3] at h
      refine GM_iload_n (pc := 12) 1 rfl (daX6_isMarked_0 6 rfl) rfl ?_
      refine GM_bipush (pc := 13) 12 (daX6_isMarked_0 7 rfl) rfl (R32_b rfl) ?_
      refine GM_icmp_ge (pc := 15) 33 (daX6_isMarked_0 8 rfl) rfl (fun c4 => ?_) (fun c4 => ?_)
      · skip
        rw [if_pos c4] at h
        refine GM_iconst (pc := 33) 0 (daX6_isMarked_0 18 rfl) rfl (R32_b rfl) ?_
        cases h
        exact GM_zret (pc := 34) (daX6_isMarked_0 19 rfl) rfl (Or.inl rfl) hK
      · skip
        rw [if_neg c4] at h
        refine GM_aload_n (pc := 18) 0 rfl (daX6_isMarked_0 9 rfl) rfl ?_
        refine GM_getf (pc := 19) 6 8 3 8 kf_X6_19 (Nat.le_of_ble_eq_true rfl) (Nat.le_of_ble_eq_true rfl) rfl (daX6_isMarked_0 10 rfl) hc2 rfl ?_
        refine GM_iload_n (pc := 22) 1 rfl (daX6_isMarked_0 11 rfl) rfl ?_
        obtain ⟨hc5, h⟩ := chk_inv h
        refine GM_iald (pc := 23) (daX6_isMarked_0 12 rfl) hc5.1 hc5.2.1 hc5.2.2 ?_
        refine GM_iload_n (pc := 24) 2 rfl (daX6_isMarked_0 13 rfl) rfl ?_
        refine GM_iand (pc := 25) (daX6_isMarked_0 14 rfl) ?_
        refine GM_if_eq (pc := 26) 33 (daX6_isMarked_0 15 rfl) rfl (fun c6 => ?_) (fun c6 => ?_)
        · skip
          rw [if_pos c6] at h
          refine GM_iconst (pc := 33) 0 (daX6_isMarked_0 18 rfl) rfl (R32_b rfl) ?_
          cases h
          exact GM_zret (pc := 34) (daX6_isMarked_0 19 rfl) rfl (Or.inl rfl) hK
        · skip
          rw [if_neg c6] at h
          refine GM_iconst (pc := 29) 1 (daX6_isMarked_0 16 rfl) rfl (R32_b rfl) ?_
          refine GM_goto (pc := 30) 34 (daX6_isMarked_0 17 rfl) rfl ?_
          cases h
          exact GM_zret (pc := 34) (daX6_isMarked_0 19 rfl) rfl (Or.inr rfl) hK
theorem tX6_isMarked (l : Launch) {v0 v1 v2 : Int} {μ : Mm} {t : Int} (h : fX6_isMarked v0 v1 v2 μ = some t) : Ct l yX6_isMarked mX6_isMarked [(3, v0), (0, v1), (0, v2)] μ ([(0, t)], μ, 0, 0) :=
  Ct_of (by decide +kernel) rfl rfl (Nat.le_of_ble_eq_true rfl) (fun _ _ _ => trivial) (gX6_isMarked_0 l h ⟨rfl, rfl⟩)
def mX6_asksForYears : MI := (RX6, cX6_asksForYears, 2, (some .boolean), "asksForYears", 1, 22, fun _ _ _ => True)
theorem cwX6_asksForYears : CWd yX6_asksForYears mX6_asksForYears 0 := ⟨ki_X6, kk_X6_asksForYears, ⟨by decide, by decide⟩, rfl⟩
def dtX6_asksForYears_0 : List (Nat × Instr × Nat) := [(0, .iconst 0, 1), (1, .istore_n 1, 1), (2, .iload_n 1, 1), (3, .aload_n 0, 1), (4, .getfield 22, 3), (7, .if_icmp .ge 21, 3), (10, .aload_n 0, 1), (11, .iload_n 1, 1), (12, .bipush 6, 2), (14, .invokevirtual 57, 3), (17, .ifCond .eq 5, 3), (20, .iconst 1, 1), (21, .ireturn, 1), (22, .iinc 1 1, 3), (25, .goto (-23), 3), (28, .iconst 0, 1), (29, .ireturn, 1)]
theorem ddX6_asksForYears_0 : (dtX6_asksForYears_0.all fun e => decide (decode mX6_asksForYears.2.1 e.1 = .ok (e.2.1, e.2.2))) = true := by decide +kernel
theorem daX6_asksForYears_0 (j : Nat) {pc n : Nat} {i : Instr} (h : dtX6_asksForYears_0[j]? = some (pc, i, n)) : decode mX6_asksForYears.2.1 pc = .ok (i, n) := dec_of (c := mX6_asksForYears.2.1) ddX6_asksForYears_0 h
def zX6_asksForYears_2 (l : Launch) (F : FI) (v0 : Int) (μ : Mm) (k n : Nat) : Int ⊕ (Unit ⊕ Unit) → Prop
  | .inl v1 => GM l mX6_asksForYears F k n 2 [(0, (3, v0)), (1, (0, v1))] [] μ
  | .inr (.inl ()) => GM l mX6_asksForYears F k n 28 [] [] μ
  | .inr (.inr ()) => GM l mX6_asksForYears F k n 20 [] [] μ
def sX6_asksForYears_2 (v0 : Int) (μ : Mm) : Int → Option (Int ⊕ (Unit ⊕ Unit)) := fun v1 =>
  chk (KD v0 = 6) (
  if μ v0 0 ≤ v1 then
    some (.inr (.inl ()))
  else
    (fX6_isMarked v0 v1 6 μ).bind fun r3 =>
    if r3 = 0 then
      some (.inl (w32 (v1 + 1)))
    else
      some (.inr (.inr ())))
def fX6_asksForYears (v0 : Int) (μ : Mm) : Option Int :=
  (lop (sX6_asksForYears_2 v0 μ) FU 0).bind fun x5 =>
    match x5 with
    | (.inl ()) =>
        some 0
    | (.inr ()) =>
        some 1
set_option maxRecDepth 20000 in
theorem qX6_asksForYears_2 (l : Launch) (F : FI) (v0 : Int) (μ : Mm) (k n : Nat) : ∀ (q : Int) (t : (Int ⊕ (Unit ⊕ Unit))), sX6_asksForYears_2 v0 μ q = some t → zX6_asksForYears_2 l F v0 μ k n t → zX6_asksForYears_2 l F v0 μ k n (.inl q) := by
  intro q t h hK
  obtain ⟨v1, hqq⟩ : ∃ z, z = q := ⟨q, rfl⟩
  subst hqq
  unfold sX6_asksForYears_2 at h
  try dsimp only at h
  show GM l mX6_asksForYears F k n 2 [(0, (3, v0)), (1, (0, v1))] [] μ
  refine GM_iload_n (pc := 2) 1 rfl (daX6_asksForYears_0 2 rfl) rfl ?_
  refine GM_aload_n (pc := 3) 0 rfl (daX6_asksForYears_0 3 rfl) rfl ?_
  obtain ⟨hc1, h⟩ := chk_inv h
  refine GM_getf (pc := 4) 6 0 0 0 kf_X6_22 (Nat.le_of_ble_eq_true rfl) (Nat.le_of_ble_eq_true rfl) rfl (daX6_asksForYears_0 4 rfl) hc1 rfl ?_
  refine GM_icmp_ge (pc := 7) 28 (daX6_asksForYears_0 5 rfl) rfl (fun c2 => ?_) (fun c2 => ?_)
  · skip
    rw [if_pos c2] at h
    refine GM_pick [] rfl ?_
    cases h
    exact hK
  · skip
    rw [if_neg c2] at h
    refine GM_aload_n (pc := 10) 0 rfl (daX6_asksForYears_0 6 rfl) rfl ?_
    refine GM_iload_n (pc := 11) 1 rfl (daX6_asksForYears_0 7 rfl) rfl ?_
    refine GM_bipush (pc := 12) 6 (daX6_asksForYears_0 8 rfl) rfl (R32_b rfl) ?_
    obtain ⟨r3, hf3, h⟩ := Option.bind_eq_some_iff.mp h
    refine GM_callV0 (pc := 14) [(0, v1), (0, 6)] (tX6_isMarked l hf3) cwX6_isMarked 6 (Nat.le_of_ble_eq_true rfl) rfl kv_X6_isMarked ke_X6_isMarked km_X6_57 hc1 ⟨Nat.le_of_ble_eq_true rfl, Nat.le_of_ble_eq_true rfl⟩ (Nat.le_of_ble_eq_true rfl) (Nat.le_of_ble_eq_true rfl) (daX6_asksForYears_0 9 rfl) ?_
    refine GM_if_eq (pc := 17) 22 (daX6_asksForYears_0 10 rfl) rfl (fun c4 => ?_) (fun c4 => ?_)
    · skip
      rw [if_pos c4] at h
      refine GM_iinc (L' := [(1, (0, w32 (v1 + 1))), (0, (3, v0))]) (pc := 22) 1 rfl (daX6_asksForYears_0 13 rfl) (Nat.le_of_ble_eq_true rfl) rfl ?_
      refine GM_goto (pc := 25) 2 (daX6_asksForYears_0 14 rfl) rfl ?_
      refine GM_pick [1, 0] rfl ?_
      cases h
      exact hK
    · skip
      rw [if_neg c4] at h
      refine GM_pick [] rfl ?_
      cases h
      exact hK
set_option maxRecDepth 20000 in
theorem gX6_asksForYears_0 (l : Launch) {F : FI} {v0 : Int} {μ : Mm} {t : Int} (h : fX6_asksForYears v0 μ = some t) (hK : F.1 = [(0, t)] ∧ F.2.1 = μ) : GM l mX6_asksForYears F 0 0 0 [(0, (3, v0))] [] μ := by
  unfold fX6_asksForYears at h
  refine GM_iconst (pc := 0) 0 (daX6_asksForYears_0 0 rfl) rfl (R32_b rfl) ?_
  refine GM_istore_n (L' := [(1, (0, 0)), (0, (3, v0))]) (pc := 1) (daX6_asksForYears_0 1 rfl) rfl (Nat.le_of_ble_eq_true rfl) rfl ?_
  refine GM_pick [1, 0] rfl ?_
  obtain ⟨x5, hqx5, h⟩ := Option.bind_eq_some_iff.mp h
  refine lop_ind (zX6_asksForYears_2 l F v0 μ 0 0) (qX6_asksForYears_2 l F v0 μ 0 0) FU _ x5 hqx5 ?_
  rcases x5 with _ | _
  · dsimp only at h
    show GM l mX6_asksForYears F 0 0 28 [] [] μ
    refine GM_iconst (pc := 28) 0 (daX6_asksForYears_0 15 rfl) rfl (R32_b rfl) ?_
    cases h
    exact GM_zret (pc := 29) (daX6_asksForYears_0 16 rfl) rfl (Or.inl rfl) hK
  · dsimp only at h
    show GM l mX6_asksForYears F 0 0 20 [] [] μ
    refine GM_iconst (pc := 20) 1 (daX6_asksForYears_0 11 rfl) rfl (R32_b rfl) ?_
    cases h
    exact GM_zret (pc := 21) (daX6_asksForYears_0 12 rfl) rfl (Or.inr rfl) hK
theorem tX6_asksForYears (l : Launch) {v0 : Int} {μ : Mm} {t : Int} (h : fX6_asksForYears v0 μ = some t) : Ct l yX6_asksForYears mX6_asksForYears [(3, v0)] μ ([(0, t)], μ, 0, 0) :=
  Ct_of (by decide +kernel) rfl rfl (Nat.le_of_ble_eq_true rfl) (fun _ _ _ => trivial) (gX6_asksForYears_0 l h ⟨rfl, rfl⟩)
def mX7_hasHump : MI := (RX7, cX7_hasHump, 2, (some .boolean), "hasHump", 0, 0, fun _ _ _ => True)
theorem cwX7_hasHump : CWd yX7_hasHump mX7_hasHump 1 := ⟨ki_X7, kk_X7_hasHump, ⟨by decide, by decide⟩, rfl⟩
def dtX7_hasHump_0 : List (Nat × Instr × Nat) := [(0, .iload_n 1, 1), (1, .ifCond .lt 21, 3), (4, .iload_n 1, 1), (5, .aload_n 0, 1), (6, .getfield 35, 3), (9, .if_icmp .ge 13, 3), (12, .iload_n 1, 1), (13, .bipush 45, 2), (15, .if_icmp .ge 7, 3), (18, .iconst 1, 1), (19, .goto 4, 3), (22, .iconst 0, 1), (23, .ireturn, 1)]
theorem ddX7_hasHump_0 : (dtX7_hasHump_0.all fun e => decide (decode mX7_hasHump.2.1 e.1 = .ok (e.2.1, e.2.2))) = true := by decide +kernel
theorem daX7_hasHump_0 (j : Nat) {pc n : Nat} {i : Instr} (h : dtX7_hasHump_0[j]? = some (pc, i, n)) : decode mX7_hasHump.2.1 pc = .ok (i, n) := dec_of (c := mX7_hasHump.2.1) ddX7_hasHump_0 h
def fX7_hasHump (v0 v1 : Int) (μ : Mm) : Option Int :=
  if v1 < 0 then
    some 0
  else
    chk (KD v0 = 7) (
    if μ v0 2 ≤ v1 then
      some 0
    else
      if 45 ≤ v1 then
        some 0
      else
        some 1)
set_option maxRecDepth 20000 in
theorem gX7_hasHump_0 (l : Launch) {F : FI} {v0 v1 : Int} {μ : Mm} {t : Int} (h : fX7_hasHump v0 v1 μ = some t) (hK : F.1 = [(0, t)] ∧ F.2.1 = μ) : GM l mX7_hasHump F 0 0 0 [(0, (3, v0)), (1, (0, v1))] [] μ := by
  unfold fX7_hasHump at h
  refine GM_iload_n (pc := 0) 1 rfl (daX7_hasHump_0 0 rfl) rfl ?_
  refine GM_if_lt (pc := 1) 22 (daX7_hasHump_0 1 rfl) rfl (fun c1 => ?_) (fun c1 => ?_)
  · skip
    rw [if_pos c1] at h
    refine GM_iconst (pc := 22) 0 (daX7_hasHump_0 11 rfl) rfl (R32_b rfl) ?_
    cases h
    exact GM_zret (pc := 23) (daX7_hasHump_0 12 rfl) rfl (Or.inl rfl) hK
  · skip
    rw [if_neg c1] at h
    refine GM_iload_n (pc := 4) 1 rfl (daX7_hasHump_0 2 rfl) rfl ?_
    refine GM_aload_n (pc := 5) 0 rfl (daX7_hasHump_0 3 rfl) rfl ?_
    obtain ⟨hc2, h⟩ := chk_inv h
    refine GM_getf (pc := 6) 7 2 0 2 kf_X7_35 (Nat.le_of_ble_eq_true rfl) (Nat.le_of_ble_eq_true rfl) rfl (daX7_hasHump_0 4 rfl) hc2 rfl ?_
    refine GM_icmp_ge (pc := 9) 22 (daX7_hasHump_0 5 rfl) rfl (fun c3 => ?_) (fun c3 => ?_)
    · skip
      rw [if_pos c3] at h
      refine GM_iconst (pc := 22) 0 (daX7_hasHump_0 11 rfl) rfl (R32_b rfl) ?_
      cases h
      exact GM_zret (pc := 23) (daX7_hasHump_0 12 rfl) rfl (Or.inl rfl) hK
    · skip
      rw [if_neg c3] at h
      refine GM_iload_n (pc := 12) 1 rfl (daX7_hasHump_0 6 rfl) rfl ?_
      refine GM_bipush (pc := 13) 45 (daX7_hasHump_0 7 rfl) rfl (R32_b rfl) ?_
      refine GM_icmp_ge (pc := 15) 22 (daX7_hasHump_0 8 rfl) rfl (fun c4 => ?_) (fun c4 => ?_)
      · skip
        rw [if_pos c4] at h
        refine GM_iconst (pc := 22) 0 (daX7_hasHump_0 11 rfl) rfl (R32_b rfl) ?_
        cases h
        exact GM_zret (pc := 23) (daX7_hasHump_0 12 rfl) rfl (Or.inl rfl) hK
      · skip
        rw [if_neg c4] at h
        refine GM_iconst (pc := 18) 1 (daX7_hasHump_0 9 rfl) rfl (R32_b rfl) ?_
        refine GM_goto (pc := 19) 23 (daX7_hasHump_0 10 rfl) rfl ?_
        cases h
        exact GM_zret (pc := 23) (daX7_hasHump_0 12 rfl) rfl (Or.inr rfl) hK
theorem tX7_hasHump (l : Launch) {v0 v1 : Int} {μ : Mm} {t : Int} (h : fX7_hasHump v0 v1 μ = some t) : Ct l yX7_hasHump mX7_hasHump [(3, v0), (0, v1)] μ ([(0, t)], μ, 0, 0) :=
  Ct_of (by decide +kernel) rfl rfl (Nat.le_of_ble_eq_true rfl) (fun _ _ _ => trivial) (gX7_hasHump_0 l h ⟨rfl, rfl⟩)
def mX7_rayOfHump : MI := (RX7, cX7_rayOfHump, 3, (some .int), "rayOfHump", 1, 21, fun _ _ _ => True)
theorem cwX7_rayOfHump : CWd yX7_rayOfHump mX7_rayOfHump 1 := ⟨ki_X7, kk_X7_rayOfHump, ⟨by decide, by decide⟩, rfl⟩
def dtX7_rayOfHump_0 : List (Nat × Instr × Nat) := [(0, .iload_n 1, 1), (1, .aload_n 0, 1), (2, .getfield 35, 3), (5, .if_icmp .lt 12, 3), (8, .iload_n 1, 1), (9, .aload_n 0, 1), (10, .getfield 35, 3), (13, .isub, 1), (14, .goto 4, 3), (17, .iload_n 1, 1), (18, .istore_n 2, 1), (19, .aload_n 0, 1), (20, .iload_n 2, 1), (21, .invokevirtual 41, 3), (24, .ifCond .eq 12, 3), (27, .aload_n 0, 1), (28, .getfield 25, 3), (31, .iload_n 2, 1), (32, .iaload, 1), (33, .goto 4, 3), (36, .iconst 0, 1), (37, .ireturn, 1)]
theorem ddX7_rayOfHump_0 : (dtX7_rayOfHump_0.all fun e => decide (decode mX7_rayOfHump.2.1 e.1 = .ok (e.2.1, e.2.2))) = true := by decide +kernel
theorem daX7_rayOfHump_0 (j : Nat) {pc n : Nat} {i : Instr} (h : dtX7_rayOfHump_0[j]? = some (pc, i, n)) : decode mX7_rayOfHump.2.1 pc = .ok (i, n) := dec_of (c := mX7_rayOfHump.2.1) ddX7_rayOfHump_0 h
def jX7_rayOfHump_18 (v0 s0 : Int) (μ : Mm) : Option Int :=
  chk (KD v0 = 7) (
  (fX7_hasHump v0 s0 μ).bind fun r2 =>
  if r2 = 0 then
    some 0
  else
    chk (KD (μ v0 7) = 12 ∧ 0 ≤ s0 ∧ s0 < LN (μ v0 7)) (
    some (μ (μ v0 7) s0)))
def fX7_rayOfHump (v0 v1 : Int) (μ : Mm) : Option Int :=
  chk (KD v0 = 7) (
  if v1 < μ v0 2 then
    jX7_rayOfHump_18 v0 v1 μ
  else
    jX7_rayOfHump_18 v0 (w32 (v1 - (μ v0 2))) μ)
set_option maxRecDepth 20000 in
theorem gX7_rayOfHump_18 (l : Launch) {F : FI} {v0 s0 : Int} {μ : Mm} {t : Int} (h : jX7_rayOfHump_18 v0 s0 μ = some t) (hK : F.1 = [(0, t)] ∧ F.2.1 = μ) : GM l mX7_rayOfHump F 0 0 18 [(0, (3, v0))] [(0, s0)] μ := by
  unfold jX7_rayOfHump_18 at h
  refine GM_istore_n (L' := [(2, (0, s0)), (0, (3, v0))]) (pc := 18) (daX7_rayOfHump_0 10 rfl) rfl (Nat.le_of_ble_eq_true rfl) rfl ?_
  refine GM_aload_n (pc := 19) 1 rfl (daX7_rayOfHump_0 11 rfl) rfl ?_
  refine GM_iload_n (pc := 20) 0 rfl (daX7_rayOfHump_0 12 rfl) rfl ?_
  obtain ⟨hc1, h⟩ := chk_inv h
  obtain ⟨r2, hf2, h⟩ := Option.bind_eq_some_iff.mp h
  refine GM_callV0 (pc := 21) [(0, s0)] (tX7_hasHump l hf2) cwX7_hasHump 7 (Nat.le_of_ble_eq_true rfl) rfl kv_X7_hasHump ke_X7_hasHump km_X7_41 hc1 ⟨Nat.le_of_ble_eq_true rfl, Nat.le_of_ble_eq_true rfl⟩ (Nat.le_of_ble_eq_true rfl) (Nat.le_of_ble_eq_true rfl) (daX7_rayOfHump_0 13 rfl) ?_
  refine GM_if_eq (pc := 24) 36 (daX7_rayOfHump_0 14 rfl) rfl (fun c3 => ?_) (fun c3 => ?_)
  · skip
    rw [if_pos c3] at h
    refine GM_iconst (pc := 36) 0 (daX7_rayOfHump_0 20 rfl) rfl (R32_b rfl) ?_
    cases h
    exact GM_iret (pc := 37) (daX7_rayOfHump_0 21 rfl) rfl hK
  · skip
    rw [if_neg c3] at h
    refine GM_aload_n (pc := 27) 1 rfl (daX7_rayOfHump_0 15 rfl) rfl ?_
    refine GM_getf (pc := 28) 7 7 3 7 kf_X7_25 (Nat.le_of_ble_eq_true rfl) (Nat.le_of_ble_eq_true rfl) rfl (daX7_rayOfHump_0 16 rfl) hc1 rfl ?_
    refine GM_iload_n (pc := 31) 0 rfl (daX7_rayOfHump_0 17 rfl) rfl ?_
    obtain ⟨hc4, h⟩ := chk_inv h
    refine GM_iald (pc := 32) (daX7_rayOfHump_0 18 rfl) hc4.1 hc4.2.1 hc4.2.2 ?_
    refine GM_goto (pc := 33) 37 (daX7_rayOfHump_0 19 rfl) rfl ?_
    cases h
    exact GM_iret (pc := 37) (daX7_rayOfHump_0 21 rfl) rfl hK
set_option maxRecDepth 20000 in
theorem gX7_rayOfHump_0 (l : Launch) {F : FI} {v0 v1 : Int} {μ : Mm} {t : Int} (h : fX7_rayOfHump v0 v1 μ = some t) (hK : F.1 = [(0, t)] ∧ F.2.1 = μ) : GM l mX7_rayOfHump F 0 0 0 [(0, (3, v0)), (1, (0, v1))] [] μ := by
  unfold fX7_rayOfHump at h
  refine GM_iload_n (pc := 0) 1 rfl (daX7_rayOfHump_0 0 rfl) rfl ?_
  refine GM_aload_n (pc := 1) 0 rfl (daX7_rayOfHump_0 1 rfl) rfl ?_
  obtain ⟨hc5, h⟩ := chk_inv h
  refine GM_getf (pc := 2) 7 2 0 2 kf_X7_35 (Nat.le_of_ble_eq_true rfl) (Nat.le_of_ble_eq_true rfl) rfl (daX7_rayOfHump_0 2 rfl) hc5 rfl ?_
  refine GM_icmp_lt (pc := 5) 17 (daX7_rayOfHump_0 3 rfl) rfl (fun c6 => ?_) (fun c6 => ?_)
  · skip
    rw [if_pos c6] at h
    refine GM_iload_n (pc := 17) 1 rfl (daX7_rayOfHump_0 9 rfl) rfl ?_
    refine GM_pick [0] rfl ?_
    exact gX7_rayOfHump_18 l h hK
  · skip
    rw [if_neg c6] at h
    refine GM_iload_n (pc := 8) 1 rfl (daX7_rayOfHump_0 4 rfl) rfl ?_
    refine GM_aload_n (pc := 9) 0 rfl (daX7_rayOfHump_0 5 rfl) rfl ?_
    refine GM_getf (pc := 10) 7 2 0 2 kf_X7_35 (Nat.le_of_ble_eq_true rfl) (Nat.le_of_ble_eq_true rfl) rfl (daX7_rayOfHump_0 6 rfl) hc5 rfl ?_
    refine GM_isub (pc := 13) (daX7_rayOfHump_0 7 rfl) ?_
    refine GM_goto (pc := 14) 18 (daX7_rayOfHump_0 8 rfl) rfl ?_
    refine GM_pick [0] rfl ?_
    exact gX7_rayOfHump_18 l h hK
theorem tX7_rayOfHump (l : Launch) {v0 v1 : Int} {μ : Mm} {t : Int} (h : fX7_rayOfHump v0 v1 μ = some t) : Ct l yX7_rayOfHump mX7_rayOfHump [(3, v0), (0, v1)] μ ([(0, t)], μ, 0, 0) :=
  Ct_of (by decide +kernel) rfl rfl (Nat.le_of_ble_eq_true rfl) (fun _ _ _ => trivial) (gX7_rayOfHump_0 l h ⟨rfl, rfl⟩)
def mX7_weigh : MI := (RX7, cX7_weigh, 4, (some .int), "weigh", 0, 0, fun _ _ _ => True)
theorem cwX7_weigh : CWd yX7_weigh mX7_weigh 2 := ⟨ki_X7, kk_X7_weigh, ⟨by decide, by decide⟩, rfl⟩
def dtX7_weigh_0 : List (Nat × Instr × Nat) := [(0, .iload_n 1, 1), (1, .ifCond .lt 19, 3), (4, .iload_n 1, 1), (5, .bipush 90, 2), (7, .if_icmp .ge 13, 3), (10, .iload_n 2, 1), (11, .ifCond .lt 9, 3), (14, .iload_n 2, 1), (15, .bipush 90, 2), (17, .if_icmp .lt 5, 3), (20, .iconst 0, 1), (21, .ireturn, 1), (22, .aload_n 0, 1), (23, .getfield 19, 3), (26, .iload_n 1, 1), (27, .iaload, 1), (28, .aload_n 0, 1), (29, .getfield 22, 3), (32, .iload_n 2, 1), (33, .iaload, 1), (34, .imul, 1), (35, .aload_n 0, 1), (36, .getfield 19, 3), (39, .iload_n 2, 1), (40, .iaload, 1), (41, .aload_n 0, 1), (42, .getfield 22, 3), (45, .iload_n 1, 1), (46, .iaload, 1), (47, .imul, 1), (48, .isub, 1), (49, .istore_n 3, 1), (50, .iload_n 3, 1), (51, .ifCond .le 7, 3), (54, .iconst 1, 1), (55, .goto 12, 3), (58, .iload_n 3, 1), (59, .ifCond .ge 7, 3), (62, .iconst (-1), 1), (63, .goto 4, 3), (66, .iconst 0, 1), (67, .ireturn, 1)]
theorem ddX7_weigh_0 : (dtX7_weigh_0.all fun e => decide (decode mX7_weigh.2.1 e.1 = .ok (e.2.1, e.2.2))) = true := by decide +kernel
theorem daX7_weigh_0 (j : Nat) {pc n : Nat} {i : Instr} (h : dtX7_weigh_0[j]? = some (pc, i, n)) : decode mX7_weigh.2.1 pc = .ok (i, n) := dec_of (c := mX7_weigh.2.1) ddX7_weigh_0 h
def fX7_weigh (v0 v1 v2 : Int) (μ : Mm) : Option Int :=
  if v1 < 0 then
    some 0
  else
    if 90 ≤ v1 then
      some 0
    else
      if v2 < 0 then
        some 0
      else
        if v2 < 90 then
          chk (KD v0 = 7) (
          chk (KD (μ v0 5) = 12 ∧ 0 ≤ v1 ∧ v1 < LN (μ v0 5)) (
          chk (KD (μ v0 6) = 12 ∧ 0 ≤ v2 ∧ v2 < LN (μ v0 6)) (
          chk (v2 < LN (μ v0 5)) (
          chk (v1 < LN (μ v0 6)) (
          lt (w32 ((w32 ((μ (μ v0 5) v1) * (μ (μ v0 6) v2))) - (w32 ((μ (μ v0 5) v2) * (μ (μ v0 6) v1))))) fun y10 =>
          if y10 ≤ 0 then
            if 0 ≤ y10 then
              some 0
            else
              some (-1)
          else
            some 1)))))
        else
          some 0
set_option maxRecDepth 20000 in
theorem gX7_weigh_0 (l : Launch) {F : FI} {v0 v1 v2 : Int} {μ : Mm} {t : Int} (h : fX7_weigh v0 v1 v2 μ = some t) (hK : F.1 = [(0, t)] ∧ F.2.1 = μ) : GM l mX7_weigh F 0 0 0 [(0, (3, v0)), (1, (0, v1)), (2, (0, v2))] [] μ := by
  unfold fX7_weigh at h
  refine GM_iload_n (pc := 0) 1 rfl (daX7_weigh_0 0 rfl) rfl ?_
  refine GM_if_lt (pc := 1) 20 (daX7_weigh_0 1 rfl) rfl (fun c1 => ?_) (fun c1 => ?_)
  · skip
    rw [if_pos c1] at h
    refine GM_iconst (pc := 20) 0 (daX7_weigh_0 10 rfl) rfl (R32_b rfl) ?_
    cases h
    exact GM_iret (pc := 21) (daX7_weigh_0 11 rfl) rfl hK
  · skip
    rw [if_neg c1] at h
    refine GM_iload_n (pc := 4) 1 rfl (daX7_weigh_0 2 rfl) rfl ?_
    refine GM_bipush (pc := 5) 90 (daX7_weigh_0 3 rfl) rfl (R32_b rfl) ?_
    refine GM_icmp_ge (pc := 7) 20 (daX7_weigh_0 4 rfl) rfl (fun c2 => ?_) (fun c2 => ?_)
    · skip
      rw [if_pos c2] at h
      refine GM_iconst (pc := 20) 0 (daX7_weigh_0 10 rfl) rfl (R32_b rfl) ?_
      cases h
      exact GM_iret (pc := 21) (daX7_weigh_0 11 rfl) rfl hK
    · skip
      rw [if_neg c2] at h
      refine GM_iload_n (pc := 10) 2 rfl (daX7_weigh_0 5 rfl) rfl ?_
      refine GM_if_lt (pc := 11) 20 (daX7_weigh_0 6 rfl) rfl (fun c3 => ?_) (fun c3 => ?_)
      · skip
        rw [if_pos c3] at h
        refine GM_iconst (pc := 20) 0 (daX7_weigh_0 10 rfl) rfl (R32_b rfl) ?_
        cases h
        exact GM_iret (pc := 21) (daX7_weigh_0 11 rfl) rfl hK
      · skip
        rw [if_neg c3] at h
        refine GM_iload_n (pc := 14) 2 rfl (daX7_weigh_0 7 rfl) rfl ?_
        refine GM_bipush (pc := 15) 90 (daX7_weigh_0 8 rfl) rfl (R32_b rfl) ?_
        refine GM_icmp_lt (pc := 17) 22 (daX7_weigh_0 9 rfl) rfl (fun c4 => ?_) (fun c4 => ?_)
        · skip
          rw [if_pos c4] at h
          refine GM_aload_n (pc := 22) 0 rfl (daX7_weigh_0 12 rfl) rfl ?_
          obtain ⟨hc5, h⟩ := chk_inv h
          refine GM_getf (pc := 23) 7 5 3 5 kf_X7_19 (Nat.le_of_ble_eq_true rfl) (Nat.le_of_ble_eq_true rfl) rfl (daX7_weigh_0 13 rfl) hc5 rfl ?_
          refine GM_iload_n (pc := 26) 1 rfl (daX7_weigh_0 14 rfl) rfl ?_
          obtain ⟨hc6, h⟩ := chk_inv h
          refine GM_iald (pc := 27) (daX7_weigh_0 15 rfl) hc6.1 hc6.2.1 hc6.2.2 ?_
          refine GM_aload_n (pc := 28) 0 rfl (daX7_weigh_0 16 rfl) rfl ?_
          refine GM_getf (pc := 29) 7 6 3 6 kf_X7_22 (Nat.le_of_ble_eq_true rfl) (Nat.le_of_ble_eq_true rfl) rfl (daX7_weigh_0 17 rfl) hc5 rfl ?_
          refine GM_iload_n (pc := 32) 2 rfl (daX7_weigh_0 18 rfl) rfl ?_
          obtain ⟨hc7, h⟩ := chk_inv h
          refine GM_iald (pc := 33) (daX7_weigh_0 19 rfl) hc7.1 hc7.2.1 hc7.2.2 ?_
          refine GM_imul (pc := 34) (daX7_weigh_0 20 rfl) ?_
          refine GM_aload_n (pc := 35) 0 rfl (daX7_weigh_0 21 rfl) rfl ?_
          refine GM_getf (pc := 36) 7 5 3 5 kf_X7_19 (Nat.le_of_ble_eq_true rfl) (Nat.le_of_ble_eq_true rfl) rfl (daX7_weigh_0 22 rfl) hc5 rfl ?_
          refine GM_iload_n (pc := 39) 2 rfl (daX7_weigh_0 23 rfl) rfl ?_
          obtain ⟨hc8, h⟩ := chk_inv h
          refine GM_iald (pc := 40) (daX7_weigh_0 24 rfl) hc6.1 hc7.2.1 hc8 ?_
          refine GM_aload_n (pc := 41) 0 rfl (daX7_weigh_0 25 rfl) rfl ?_
          refine GM_getf (pc := 42) 7 6 3 6 kf_X7_22 (Nat.le_of_ble_eq_true rfl) (Nat.le_of_ble_eq_true rfl) rfl (daX7_weigh_0 26 rfl) hc5 rfl ?_
          refine GM_iload_n (pc := 45) 1 rfl (daX7_weigh_0 27 rfl) rfl ?_
          obtain ⟨hc9, h⟩ := chk_inv h
          refine GM_iald (pc := 46) (daX7_weigh_0 28 rfl) hc7.1 hc6.2.1 hc9 ?_
          refine GM_imul (pc := 47) (daX7_weigh_0 29 rfl) ?_
          refine GM_isub (pc := 48) (daX7_weigh_0 30 rfl) ?_
          obtain ⟨y10, hy10, h⟩ := lt_inv h
          refine GM_top hy10 ?_
          refine GM_istore_n (L' := [(3, (0, y10)), (0, (3, v0)), (1, (0, v1)), (2, (0, v2))]) (pc := 49) (daX7_weigh_0 31 rfl) rfl (Nat.le_of_ble_eq_true rfl) rfl ?_
          refine GM_iload_n (pc := 50) 0 rfl (daX7_weigh_0 32 rfl) rfl ?_
          refine GM_if_le (pc := 51) 58 (daX7_weigh_0 33 rfl) rfl (fun c11 => ?_) (fun c11 => ?_)
          · skip
            rw [if_pos c11] at h
            refine GM_iload_n (pc := 58) 0 rfl (daX7_weigh_0 36 rfl) rfl ?_
            refine GM_if_ge (pc := 59) 66 (daX7_weigh_0 37 rfl) rfl (fun c12 => ?_) (fun c12 => ?_)
            · skip
              rw [if_pos c12] at h
              refine GM_iconst (pc := 66) 0 (daX7_weigh_0 40 rfl) rfl (R32_b rfl) ?_
              cases h
              exact GM_iret (pc := 67) (daX7_weigh_0 41 rfl) rfl hK
            · skip
              rw [if_neg c12] at h
              refine GM_iconst (pc := 62) (-1) (daX7_weigh_0 38 rfl) rfl (R32_b rfl) ?_
              refine GM_goto (pc := 63) 67 (daX7_weigh_0 39 rfl) rfl ?_
              cases h
              exact GM_iret (pc := 67) (daX7_weigh_0 41 rfl) rfl hK
          · skip
            rw [if_neg c11] at h
            refine GM_iconst (pc := 54) 1 (daX7_weigh_0 34 rfl) rfl (R32_b rfl) ?_
            refine GM_goto (pc := 55) 67 (daX7_weigh_0 35 rfl) rfl ?_
            cases h
            exact GM_iret (pc := 67) (daX7_weigh_0 41 rfl) rfl hK
        · skip
          rw [if_neg c4] at h
          refine GM_iconst (pc := 20) 0 (daX7_weigh_0 10 rfl) rfl (R32_b rfl) ?_
          cases h
          exact GM_iret (pc := 21) (daX7_weigh_0 11 rfl) rfl hK
theorem tX7_weigh (l : Launch) {v0 v1 v2 : Int} {μ : Mm} {t : Int} (h : fX7_weigh v0 v1 v2 μ = some t) : Ct l yX7_weigh mX7_weigh [(3, v0), (0, v1), (0, v2)] μ ([(0, t)], μ, 0, 0) :=
  Ct_of (by decide +kernel) rfl rfl (Nat.le_of_ble_eq_true rfl) (fun _ _ _ => trivial) (gX7_weigh_0 l h ⟨rfl, rfl⟩)
def mX6_lessSteep : MI := (RX6, cX6_lessSteep, 7, (some .int), "lessSteep", 2, 43, fun _ _ _ => True)
theorem cwX6_lessSteep : CWd yX6_lessSteep mX6_lessSteep 3 := ⟨ki_X6, kk_X6_lessSteep, ⟨by decide, by decide⟩, rfl⟩
def dtX6_lessSteep_0 : List (Nat × Instr × Nat) := [(0, .aload_n 1, 1), (1, .iload_n 2, 1), (2, .iload_n 3, 1), (3, .iadd, 1), (4, .invokevirtual 77, 3), (7, .istore 4, 2), (9, .iconst 0, 1), (10, .istore 5, 2), (12, .iconst 0, 1), (13, .istore 6, 2), (15, .iload 6, 2), (17, .aload_n 0, 1), (18, .getfield 22, 3), (21, .if_icmp .ge 29, 3), (24, .aload_n 1, 1), (25, .aload_n 1, 1), (26, .iload_n 2, 1), (27, .iload 6, 2), (29, .iadd, 1), (30, .invokevirtual 77, 3), (33, .iload 4, 2), (35, .invokevirtual 81, 3), (38, .ifCond .ge 6, 3), (41, .iinc 5 1, 3), (44, .iinc 6 1, 3), (47, .goto (-32), 3), (50, .iload 5, 2), (52, .ireturn, 1)]
theorem ddX6_lessSteep_0 : (dtX6_lessSteep_0.all fun e => decide (decode mX6_lessSteep.2.1 e.1 = .ok (e.2.1, e.2.2))) = true := by decide +kernel
theorem daX6_lessSteep_0 (j : Nat) {pc n : Nat} {i : Instr} (h : dtX6_lessSteep_0[j]? = some (pc, i, n)) : decode mX6_lessSteep.2.1 pc = .ok (i, n) := dec_of (c := mX6_lessSteep.2.1) ddX6_lessSteep_0 h
def zX6_lessSteep_15 (l : Launch) (F : FI) (v0 v1 v2 v4 : Int) (μ : Mm) (k n : Nat) : (Int × Int) ⊕ Int → Prop
  | .inl (v5, v6) => GM l mX6_lessSteep F k n 15 [(0, (3, v0)), (1, (3, v1)), (2, (0, v2)), (4, (0, v4)), (5, (0, v5)), (6, (0, v6))] [] μ
  | .inr v5 => GM l mX6_lessSteep F k n 50 [(5, (0, v5))] [] μ
def sX6_lessSteep_15 (v0 v1 v2 v4 : Int) (μ : Mm) : (Int × Int) → Option ((Int × Int) ⊕ Int) := fun (v5, v6) =>
  chk (KD v0 = 6) (
  if μ v0 0 ≤ v6 then
    some (.inr v5)
  else
    chk (KD v1 = 7) (
    (fX7_rayOfHump v1 (w32 (v2 + v6)) μ).bind fun r4 =>
    (fX7_weigh v1 r4 v4 μ).bind fun r5 =>
    if 0 ≤ r5 then
      some (.inl (v5, w32 (v6 + 1)))
    else
      some (.inl (w32 (v5 + 1), w32 (v6 + 1)))))
def fX6_lessSteep (v0 v1 v2 v3 : Int) (μ : Mm) : Option Int :=
  chk (KD v1 = 7) (
  (fX7_rayOfHump v1 (w32 (v2 + v3)) μ).bind fun r8 =>
  (lop (sX6_lessSteep_15 v0 v1 v2 r8 μ) FU (0, 0)).bind fun v5_10 =>
    some v5_10)
set_option maxRecDepth 20000 in
theorem qX6_lessSteep_15 (l : Launch) (F : FI) (v0 v1 v2 v4 : Int) (μ : Mm) (k n : Nat) : ∀ (q : (Int × Int)) (t : ((Int × Int) ⊕ Int)), sX6_lessSteep_15 v0 v1 v2 v4 μ q = some t → zX6_lessSteep_15 l F v0 v1 v2 v4 μ k n t → zX6_lessSteep_15 l F v0 v1 v2 v4 μ k n (.inl q) := by
  intro q t h hK
  obtain ⟨v5, v6⟩ := q
  unfold sX6_lessSteep_15 at h
  try dsimp only at h
  show GM l mX6_lessSteep F k n 15 [(0, (3, v0)), (1, (3, v1)), (2, (0, v2)), (4, (0, v4)), (5, (0, v5)), (6, (0, v6))] [] μ
  refine GM_iload (pc := 15) 5 rfl (daX6_lessSteep_0 10 rfl) ?_
  refine GM_aload_n (pc := 17) 0 rfl (daX6_lessSteep_0 11 rfl) rfl ?_
  obtain ⟨hc1, h⟩ := chk_inv h
  refine GM_getf (pc := 18) 6 0 0 0 kf_X6_22 (Nat.le_of_ble_eq_true rfl) (Nat.le_of_ble_eq_true rfl) rfl (daX6_lessSteep_0 12 rfl) hc1 rfl ?_
  refine GM_icmp_ge (pc := 21) 50 (daX6_lessSteep_0 13 rfl) rfl (fun c2 => ?_) (fun c2 => ?_)
  · skip
    rw [if_pos c2] at h
    refine GM_pick [4] rfl ?_
    cases h
    exact hK
  · skip
    rw [if_neg c2] at h
    refine GM_aload_n (pc := 24) 1 rfl (daX6_lessSteep_0 14 rfl) rfl ?_
    refine GM_aload_n (pc := 25) 1 rfl (daX6_lessSteep_0 15 rfl) rfl ?_
    refine GM_iload_n (pc := 26) 2 rfl (daX6_lessSteep_0 16 rfl) rfl ?_
    refine GM_iload (pc := 27) 5 rfl (daX6_lessSteep_0 17 rfl) ?_
    refine GM_iadd (pc := 29) (daX6_lessSteep_0 18 rfl) ?_
    obtain ⟨hc3, h⟩ := chk_inv h
    obtain ⟨r4, hf4, h⟩ := Option.bind_eq_some_iff.mp h
    refine GM_callV0 (pc := 30) [(0, w32 (v2 + v6))] (tX7_rayOfHump l hf4) cwX7_rayOfHump 7 (Nat.le_of_ble_eq_true rfl) rfl kv_X7_rayOfHump ke_X7_rayOfHump km_X6_77 hc3 ⟨Nat.le_of_ble_eq_true rfl, Nat.le_of_ble_eq_true rfl⟩ (Nat.le_of_ble_eq_true rfl) (Nat.le_of_ble_eq_true rfl) (daX6_lessSteep_0 19 rfl) ?_
    refine GM_iload (pc := 33) 3 rfl (daX6_lessSteep_0 20 rfl) ?_
    obtain ⟨r5, hf5, h⟩ := Option.bind_eq_some_iff.mp h
    refine GM_callV0 (pc := 35) [(0, r4), (0, v4)] (tX7_weigh l hf5) cwX7_weigh 7 (Nat.le_of_ble_eq_true rfl) rfl kv_X7_weigh ke_X7_weigh km_X6_81 hc3 ⟨Nat.le_of_ble_eq_true rfl, Nat.le_of_ble_eq_true rfl⟩ (Nat.le_of_ble_eq_true rfl) (Nat.le_of_ble_eq_true rfl) (daX6_lessSteep_0 21 rfl) ?_
    refine GM_if_ge (pc := 38) 44 (daX6_lessSteep_0 22 rfl) rfl (fun c6 => ?_) (fun c6 => ?_)
    · skip
      rw [if_pos c6] at h
      refine GM_iinc (L' := [(6, (0, w32 (v6 + 1))), (0, (3, v0)), (1, (3, v1)), (2, (0, v2)), (4, (0, v4)), (5, (0, v5))]) (pc := 44) 5 rfl (daX6_lessSteep_0 24 rfl) (Nat.le_of_ble_eq_true rfl) rfl ?_
      refine GM_goto (pc := 47) 15 (daX6_lessSteep_0 25 rfl) rfl ?_
      refine GM_pick [1, 2, 3, 4, 5, 0] rfl ?_
      cases h
      exact hK
    · skip
      rw [if_neg c6] at h
      refine GM_iinc (L' := [(5, (0, w32 (v5 + 1))), (0, (3, v0)), (1, (3, v1)), (2, (0, v2)), (4, (0, v4)), (6, (0, v6))]) (pc := 41) 4 rfl (daX6_lessSteep_0 23 rfl) (Nat.le_of_ble_eq_true rfl) rfl ?_
      refine GM_iinc (L' := [(6, (0, w32 (v6 + 1))), (5, (0, w32 (v5 + 1))), (0, (3, v0)), (1, (3, v1)), (2, (0, v2)), (4, (0, v4))]) (pc := 44) 5 rfl (daX6_lessSteep_0 24 rfl) (Nat.le_of_ble_eq_true rfl) rfl ?_
      refine GM_goto (pc := 47) 15 (daX6_lessSteep_0 25 rfl) rfl ?_
      refine GM_pick [2, 3, 4, 5, 1, 0] rfl ?_
      cases h
      exact hK
set_option maxRecDepth 20000 in
theorem gX6_lessSteep_0 (l : Launch) {F : FI} {v0 v1 v2 v3 : Int} {μ : Mm} {t : Int} (h : fX6_lessSteep v0 v1 v2 v3 μ = some t) (hK : F.1 = [(0, t)] ∧ F.2.1 = μ) : GM l mX6_lessSteep F 0 0 0 [(0, (3, v0)), (1, (3, v1)), (2, (0, v2)), (3, (0, v3))] [] μ := by
  unfold fX6_lessSteep at h
  refine GM_aload_n (pc := 0) 1 rfl (daX6_lessSteep_0 0 rfl) rfl ?_
  refine GM_iload_n (pc := 1) 2 rfl (daX6_lessSteep_0 1 rfl) rfl ?_
  refine GM_iload_n (pc := 2) 3 rfl (daX6_lessSteep_0 2 rfl) rfl ?_
  refine GM_iadd (pc := 3) (daX6_lessSteep_0 3 rfl) ?_
  obtain ⟨hc7, h⟩ := chk_inv h
  obtain ⟨r8, hf8, h⟩ := Option.bind_eq_some_iff.mp h
  refine GM_callV0 (pc := 4) [(0, w32 (v2 + v3))] (tX7_rayOfHump l hf8) cwX7_rayOfHump 7 (Nat.le_of_ble_eq_true rfl) rfl kv_X7_rayOfHump ke_X7_rayOfHump km_X6_77 hc7 ⟨Nat.le_of_ble_eq_true rfl, Nat.le_of_ble_eq_true rfl⟩ (Nat.le_of_ble_eq_true rfl) (Nat.le_of_ble_eq_true rfl) (daX6_lessSteep_0 4 rfl) ?_
  refine GM_istore (L' := [(4, (0, r8)), (0, (3, v0)), (1, (3, v1)), (2, (0, v2)), (3, (0, v3))]) (pc := 7) (daX6_lessSteep_0 5 rfl) (Nat.le_of_ble_eq_true rfl) rfl ?_
  refine GM_iconst (pc := 9) 0 (daX6_lessSteep_0 6 rfl) rfl (R32_b rfl) ?_
  refine GM_istore (L' := [(5, (0, 0)), (4, (0, r8)), (0, (3, v0)), (1, (3, v1)), (2, (0, v2)), (3, (0, v3))]) (pc := 10) (daX6_lessSteep_0 7 rfl) (Nat.le_of_ble_eq_true rfl) rfl ?_
  refine GM_iconst (pc := 12) 0 (daX6_lessSteep_0 8 rfl) rfl (R32_b rfl) ?_
  refine GM_istore (L' := [(6, (0, 0)), (5, (0, 0)), (4, (0, r8)), (0, (3, v0)), (1, (3, v1)), (2, (0, v2)), (3, (0, v3))]) (pc := 13) (daX6_lessSteep_0 9 rfl) (Nat.le_of_ble_eq_true rfl) rfl ?_
  refine GM_pick [3, 4, 5, 2, 1, 0] rfl ?_
  obtain ⟨x9, hqx9, h⟩ := Option.bind_eq_some_iff.mp h
  refine lop_ind (zX6_lessSteep_15 l F v0 v1 v2 r8 μ 0 0) (qX6_lessSteep_15 l F v0 v1 v2 r8 μ 0 0) FU _ x9 hqx9 ?_
  obtain ⟨v5_10, hqq⟩ : ∃ z, z = x9 := ⟨x9, rfl⟩
  subst hqq
  show GM l mX6_lessSteep F 0 0 50 [(5, (0, v5_10))] [] μ
  refine GM_iload (pc := 50) 0 rfl (daX6_lessSteep_0 26 rfl) ?_
  cases h
  exact GM_iret (pc := 52) (daX6_lessSteep_0 27 rfl) rfl hK
theorem tX6_lessSteep (l : Launch) {v0 v1 v2 v3 : Int} {μ : Mm} {t : Int} (h : fX6_lessSteep v0 v1 v2 v3 μ = some t) : Ct l yX6_lessSteep mX6_lessSteep [(3, v0), (3, v1), (0, v2), (0, v3)] μ ([(0, t)], μ, 0, 0) :=
  Ct_of (by decide +kernel) rfl rfl (Nat.le_of_ble_eq_true rfl) (fun _ _ _ => trivial) (gX6_lessSteep_0 l h ⟨rfl, rfl⟩)
def mX6_drawFrom : MI := (RX6, cX6_drawFrom, 5, none, "drawFrom", 3, 69, fun _ _ _ => True)
theorem cwX6_drawFrom : CWd yX6_drawFrom mX6_drawFrom 3 := ⟨ki_X6, kk_X6_drawFrom, ⟨by decide, by decide⟩, rfl⟩
def dtX6_drawFrom_0 : List (Nat × Instr × Nat) := [(0, .aload_n 0, 1), (1, .invokevirtual 61, 3), (4, .aload_n 0, 1), (5, .iload_n 3, 1), (6, .bipush 12, 2), (8, .invokestatic 64, 3), (11, .putfield 22, 3), (14, .aload_n 0, 1), (15, .iload_n 3, 1), (16, .aload_n 1, 1), (17, .getfield 70, 3), (20, .if_icmp .ge 7, 3), (23, .iconst 1, 1), (24, .goto 4, 3), (27, .iconst 0, 1), (28, .putfield 32, 3), (31, .iconst 0, 1), (32, .istore 4, 2), (34, .iload 4, 2), (36, .aload_n 0, 1), (37, .getfield 22, 3), (40, .if_icmp .ge 26, 3), (43, .aload_n 0, 1), (44, .getfield 15, 3), (47, .iload 4, 2), (49, .iconst 1, 1), (50, .aload_n 0, 1), (51, .aload_n 1, 1), (52, .iload_n 2, 1), (53, .iload 4, 2), (55, .invokevirtual 73, 3), (58, .iadd, 1), (59, .iastore, 1), (60, .iinc 4 1, 3), (63, .goto (-29), 3), (66, .return_, 1)]
theorem ddX6_drawFrom_0 : (dtX6_drawFrom_0.all fun e => decide (decode mX6_drawFrom.2.1 e.1 = .ok (e.2.1, e.2.2))) = true := by decide +kernel
theorem daX6_drawFrom_0 (j : Nat) {pc n : Nat} {i : Instr} (h : dtX6_drawFrom_0[j]? = some (pc, i, n)) : decode mX6_drawFrom.2.1 pc = .ok (i, n) := dec_of (c := mX6_drawFrom.2.1) ddX6_drawFrom_0 h
def zX6_drawFrom_34 (l : Launch) (F : FI) (v0 v1 v2 : Int) (k n : Nat) : (Int × Mm) ⊕ Mm → Prop
  | .inl (v4, μ) => GM l mX6_drawFrom F k n 34 [(0, (3, v0)), (1, (3, v1)), (2, (0, v2)), (4, (0, v4))] [] μ
  | .inr μ => GM l mX6_drawFrom F k n 66 [] [] μ
def sX6_drawFrom_34 (v0 v1 v2 : Int) : (Int × Mm) → Option ((Int × Mm) ⊕ Mm) := fun (v4, μ) =>
  chk (KD v0 = 6) (
  if μ v0 0 ≤ v4 then
    some (.inr μ)
  else
    (fX6_lessSteep v0 v1 v2 v4 μ).bind fun r3 =>
    chk (KD (μ v0 7) = 12 ∧ 0 ≤ v4 ∧ v4 < LN (μ v0 7)) (
    lm (mst μ (μ v0 7) v4 (w32 (1 + r3))) fun μ5 =>
    some (.inl (w32 (v4 + 1), μ5))))
def jX6_drawFrom_28 (v0 v1 v2 s0 s1 : Int) (μ : Mm) : Option Mm :=
  chk (KD s1 = 6 ∧ (s0 = 0 ∨ s0 = 1)) (
  lm (mst μ s1 3 s0) fun μ7 =>
  (lop (sX6_drawFrom_34 v0 v1 v2) FU (0, μ7)).bind fun μ_9 =>
    some μ_9)
def fX6_drawFrom (v0 v1 v2 v3 : Int) (μ : Mm) : Option Mm :=
  chk (KD v0 = 6) (
  (fX6_clear v0 μ).bind fun μ11 =>
  lm (mst μ11 v0 0 (imin v3 12)) fun μ12 =>
  chk (KD v1 = 7) (
  if μ12 v1 2 ≤ v3 then
    jX6_drawFrom_28 v0 v1 v2 0 v0 μ12
  else
    jX6_drawFrom_28 v0 v1 v2 1 v0 μ12))
set_option maxRecDepth 20000 in
theorem qX6_drawFrom_34 (l : Launch) (F : FI) (v0 v1 v2 : Int) (k n : Nat) : ∀ (q : (Int × Mm)) (t : ((Int × Mm) ⊕ Mm)), sX6_drawFrom_34 v0 v1 v2 q = some t → zX6_drawFrom_34 l F v0 v1 v2 k n t → zX6_drawFrom_34 l F v0 v1 v2 k n (.inl q) := by
  intro q t h hK
  obtain ⟨v4, μ⟩ := q
  unfold sX6_drawFrom_34 at h
  try dsimp only at h
  show GM l mX6_drawFrom F k n 34 [(0, (3, v0)), (1, (3, v1)), (2, (0, v2)), (4, (0, v4))] [] μ
  refine GM_iload (pc := 34) 3 rfl (daX6_drawFrom_0 18 rfl) ?_
  refine GM_aload_n (pc := 36) 0 rfl (daX6_drawFrom_0 19 rfl) rfl ?_
  obtain ⟨hc1, h⟩ := chk_inv h
  refine GM_getf (pc := 37) 6 0 0 0 kf_X6_22 (Nat.le_of_ble_eq_true rfl) (Nat.le_of_ble_eq_true rfl) rfl (daX6_drawFrom_0 20 rfl) hc1 rfl ?_
  refine GM_icmp_ge (pc := 40) 66 (daX6_drawFrom_0 21 rfl) rfl (fun c2 => ?_) (fun c2 => ?_)
  · skip
    rw [if_pos c2] at h
    refine GM_pick [] rfl ?_
    cases h
    exact hK
  · skip
    rw [if_neg c2] at h
    refine GM_aload_n (pc := 43) 0 rfl (daX6_drawFrom_0 22 rfl) rfl ?_
    refine GM_getf (pc := 44) 6 7 3 7 kf_X6_15 (Nat.le_of_ble_eq_true rfl) (Nat.le_of_ble_eq_true rfl) rfl (daX6_drawFrom_0 23 rfl) hc1 rfl ?_
    refine GM_iload (pc := 47) 3 rfl (daX6_drawFrom_0 24 rfl) ?_
    refine GM_iconst (pc := 49) 1 (daX6_drawFrom_0 25 rfl) rfl (R32_b rfl) ?_
    refine GM_aload_n (pc := 50) 0 rfl (daX6_drawFrom_0 26 rfl) rfl ?_
    refine GM_aload_n (pc := 51) 1 rfl (daX6_drawFrom_0 27 rfl) rfl ?_
    refine GM_iload_n (pc := 52) 2 rfl (daX6_drawFrom_0 28 rfl) rfl ?_
    refine GM_iload (pc := 53) 3 rfl (daX6_drawFrom_0 29 rfl) ?_
    obtain ⟨r3, hf3, h⟩ := Option.bind_eq_some_iff.mp h
    refine GM_callV0 (pc := 55) [(3, v1), (0, v2), (0, v4)] (tX6_lessSteep l hf3) cwX6_lessSteep 6 (Nat.le_of_ble_eq_true rfl) rfl kv_X6_lessSteep ke_X6_lessSteep km_X6_73 hc1 ⟨Nat.le_of_ble_eq_true rfl, Nat.le_of_ble_eq_true rfl⟩ (Nat.le_of_ble_eq_true rfl) (Nat.le_of_ble_eq_true rfl) (daX6_drawFrom_0 30 rfl) ?_
    refine GM_iadd (pc := 58) (daX6_drawFrom_0 31 rfl) ?_
    obtain ⟨hc4, h⟩ := chk_inv h
    obtain ⟨μ5, hμ5, h⟩ := lm_inv h
    refine GM_iast (pc := 59) (daX6_drawFrom_0 32 rfl) hc4.1 hc4.2.1 hc4.2.2 ?_
    refine GM_mem hμ5 ?_
    refine GM_iinc (L' := [(4, (0, w32 (v4 + 1))), (0, (3, v0)), (1, (3, v1)), (2, (0, v2))]) (pc := 60) 3 rfl (daX6_drawFrom_0 33 rfl) (Nat.le_of_ble_eq_true rfl) rfl ?_
    refine GM_goto (pc := 63) 34 (daX6_drawFrom_0 34 rfl) rfl ?_
    refine GM_pick [1, 2, 3, 0] rfl ?_
    cases h
    exact hK
set_option maxRecDepth 20000 in
theorem gX6_drawFrom_28 (l : Launch) {F : FI} {v0 v1 v2 s0 s1 : Int} {μ : Mm} {t : Mm} (h : jX6_drawFrom_28 v0 v1 v2 s0 s1 μ = some t) (hK : F.1 = [] ∧ F.2.1 = t) : GM l mX6_drawFrom F 0 0 28 [(0, (3, v0)), (1, (3, v1)), (2, (0, v2))] [(0, s0), (3, s1)] μ := by
  unfold jX6_drawFrom_28 at h
  obtain ⟨hc6, h⟩ := chk_inv h
  obtain ⟨μ7, hμ7, h⟩ := lm_inv h
  refine GM_putf (pc := 28) 6 3 0 kf_X6_32 (Nat.le_of_ble_eq_true rfl) (Nat.le_of_ble_eq_true rfl) rfl rfl (daX6_drawFrom_0 15 rfl) hc6.1 (fun _ => hc6.2) ?_
  refine GM_mem hμ7 ?_
  refine GM_iconst (pc := 31) 0 (daX6_drawFrom_0 16 rfl) rfl (R32_b rfl) ?_
  refine GM_istore (L' := [(4, (0, 0)), (0, (3, v0)), (1, (3, v1)), (2, (0, v2))]) (pc := 32) (daX6_drawFrom_0 17 rfl) (Nat.le_of_ble_eq_true rfl) rfl ?_
  refine GM_pick [1, 2, 3, 0] rfl ?_
  obtain ⟨x8, hqx8, h⟩ := Option.bind_eq_some_iff.mp h
  refine lop_ind (zX6_drawFrom_34 l F v0 v1 v2 0 0) (qX6_drawFrom_34 l F v0 v1 v2 0 0) FU _ x8 hqx8 ?_
  obtain ⟨μ_9, hqq⟩ : ∃ z, z = x8 := ⟨x8, rfl⟩
  subst hqq
  show GM l mX6_drawFrom F 0 0 66 [] [] μ_9
  cases h
  exact GM_vret (pc := 66) (daX6_drawFrom_0 35 rfl) rfl hK
set_option maxRecDepth 20000 in
theorem gX6_drawFrom_0 (l : Launch) {F : FI} {v0 v1 v2 v3 : Int} {μ : Mm} {t : Mm} (h : fX6_drawFrom v0 v1 v2 v3 μ = some t) (hK : F.1 = [] ∧ F.2.1 = t) : GM l mX6_drawFrom F 0 0 0 [(0, (3, v0)), (1, (3, v1)), (2, (0, v2)), (3, (0, v3))] [] μ := by
  unfold fX6_drawFrom at h
  refine GM_aload_n (pc := 0) 0 rfl (daX6_drawFrom_0 0 rfl) rfl ?_
  obtain ⟨hc10, h⟩ := chk_inv h
  obtain ⟨μ11, hf11, h⟩ := Option.bind_eq_some_iff.mp h
  refine GM_callV0 (pc := 1) [] (tX6_clear l hf11) cwX6_clear 6 (Nat.le_of_ble_eq_true rfl) rfl kv_X6_clear ke_X6_clear km_X6_61 hc10 ⟨Nat.le_of_ble_eq_true rfl, Nat.le_of_ble_eq_true rfl⟩ (Nat.le_of_ble_eq_true rfl) (Nat.le_of_ble_eq_true rfl) (daX6_drawFrom_0 1 rfl) ?_
  refine GM_aload_n (pc := 4) 0 rfl (daX6_drawFrom_0 2 rfl) rfl ?_
  refine GM_iload_n (pc := 5) 3 rfl (daX6_drawFrom_0 3 rfl) rfl ?_
  refine GM_bipush (pc := 6) 12 (daX6_drawFrom_0 4 rfl) rfl (R32_b rfl) ?_
  refine GM_callS0 (pc := 8) [(0, v3), (0, 12)] (tJ9_min_7cf53 l (fJ9_min_eq v3 12)) cwJ9_min_7cf53 ks_J9_min_7cf53 km_X6_64 ⟨Nat.le_of_ble_eq_true rfl, Nat.le_of_ble_eq_true rfl⟩ (Nat.le_of_ble_eq_true rfl) (Nat.le_of_ble_eq_true rfl) (daX6_drawFrom_0 5 rfl) ?_
  obtain ⟨μ12, hμ12, h⟩ := lm_inv h
  refine GM_putf (pc := 11) 6 0 0 kf_X6_22 (Nat.le_of_ble_eq_true rfl) (Nat.le_of_ble_eq_true rfl) rfl rfl (daX6_drawFrom_0 6 rfl) hc10 (fun q => absurd q (by decide)) ?_
  refine GM_mem hμ12 ?_
  refine GM_aload_n (pc := 14) 0 rfl (daX6_drawFrom_0 7 rfl) rfl ?_
  refine GM_iload_n (pc := 15) 3 rfl (daX6_drawFrom_0 8 rfl) rfl ?_
  refine GM_aload_n (pc := 16) 1 rfl (daX6_drawFrom_0 9 rfl) rfl ?_
  obtain ⟨hc13, h⟩ := chk_inv h
  refine GM_getf (pc := 17) 7 2 0 2 kf_X6_70 (Nat.le_of_ble_eq_true rfl) (Nat.le_of_ble_eq_true rfl) rfl (daX6_drawFrom_0 10 rfl) hc13 rfl ?_
  refine GM_icmp_ge (pc := 20) 27 (daX6_drawFrom_0 11 rfl) rfl (fun c14 => ?_) (fun c14 => ?_)
  · skip
    rw [if_pos c14] at h
    refine GM_iconst (pc := 27) 0 (daX6_drawFrom_0 14 rfl) rfl (R32_b rfl) ?_
    refine GM_pick [0, 1, 2] rfl ?_
    exact gX6_drawFrom_28 l h hK
  · skip
    rw [if_neg c14] at h
    refine GM_iconst (pc := 23) 1 (daX6_drawFrom_0 12 rfl) rfl (R32_b rfl) ?_
    refine GM_goto (pc := 24) 28 (daX6_drawFrom_0 13 rfl) rfl ?_
    refine GM_pick [0, 1, 2] rfl ?_
    exact gX6_drawFrom_28 l h hK
theorem tX6_drawFrom (l : Launch) {v0 v1 v2 v3 : Int} {μ : Mm} {t : Mm} (h : fX6_drawFrom v0 v1 v2 v3 μ = some t) : Ct l yX6_drawFrom mX6_drawFrom [(3, v0), (3, v1), (0, v2), (0, v3)] μ ([], t, 0, 0) :=
  Ct_of (by decide +kernel) rfl rfl (Nat.le_of_ble_eq_true rfl) (fun _ _ _ => trivial) (gX6_drawFrom_0 l h ⟨rfl, rfl⟩)
def mX6_scrawlOver : MI := (RX6, cX6_scrawlOver, 7, none, "scrawlOver", 1, 21, fun _ _ _ => True)
theorem cwX6_scrawlOver : CWd yX6_scrawlOver mX6_scrawlOver 2 := ⟨ki_X6, kk_X6_scrawlOver, ⟨by decide, by decide⟩, rfl⟩
def dtX6_scrawlOver_0 : List (Nat × Instr × Nat) := [(0, .iload_n 1, 1), (1, .istore_n 3, 1), (2, .iconst 2, 1), (3, .iload_n 2, 1), (4, .imul, 1), (5, .iconst 1, 1), (6, .iadd, 1), (7, .istore 4, 2), (9, .iconst 0, 1), (10, .istore 5, 2), (12, .iload 5, 2), (14, .aload_n 0, 1), (15, .getfield 22, 3), (18, .if_icmp .ge 70, 3), (21, .iload 5, 2), (23, .bipush 12, 2), (25, .if_icmp .ge 63, 3), (28, .iload 4, 2), (30, .ifCond .le 58, 3), (33, .iload_n 3, 1), (34, .ldc 84, 2), (36, .imul, 1), (37, .sipush 12345, 3), (40, .iadd, 1), (41, .istore_n 3, 1), (42, .bipush 10, 2), (44, .aload_n 0, 1), (45, .getfield 15, 3), (48, .iload 5, 2), (50, .iaload, 1), (51, .imul, 1), (52, .iload_n 3, 1), (53, .bipush 16, 2), (55, .iushr, 1), (56, .iload 4, 2), (58, .irem, 1), (59, .iadd, 1), (60, .iload_n 2, 1), (61, .isub, 1), (62, .istore 6, 2), (64, .aload_n 0, 1), (65, .getfield 15, 3), (68, .iload 5, 2), (70, .iload 6, 2), (72, .iconst 1, 1), (73, .invokestatic 85, 3), (76, .bipush 99, 2), (78, .invokestatic 64, 3), (81, .iastore, 1), (82, .iinc 5 1, 3), (85, .goto (-73), 3), (88, .aload_n 0, 1), (89, .iconst 2, 1), (90, .iload_n 2, 1), (91, .imul, 1), (92, .putfield 25, 3), (95, .return_, 1)]
theorem ddX6_scrawlOver_0 : (dtX6_scrawlOver_0.all fun e => decide (decode mX6_scrawlOver.2.1 e.1 = .ok (e.2.1, e.2.2))) = true := by decide +kernel
theorem daX6_scrawlOver_0 (j : Nat) {pc n : Nat} {i : Instr} (h : dtX6_scrawlOver_0[j]? = some (pc, i, n)) : decode mX6_scrawlOver.2.1 pc = .ok (i, n) := dec_of (c := mX6_scrawlOver.2.1) ddX6_scrawlOver_0 h
def zX6_scrawlOver_12 (l : Launch) (F : FI) (v0 v2 v4 : Int) (k n : Nat) : (Int × Int × Mm) ⊕ Mm → Prop
  | .inl (v3, v5, μ) => GM l mX6_scrawlOver F k n 12 [(0, (3, v0)), (2, (0, v2)), (3, (0, v3)), (4, (0, v4)), (5, (0, v5))] [] μ
  | .inr μ => GM l mX6_scrawlOver F k n 88 [(0, (3, v0)), (2, (0, v2))] [] μ
def sX6_scrawlOver_12 (v0 v2 v4 : Int) : (Int × Int × Mm) → Option ((Int × Int × Mm) ⊕ Mm) := fun (v3, v5, μ) =>
  chk (KD v0 = 6) (
  if μ v0 0 ≤ v5 then
    some (.inr μ)
  else
    if 12 ≤ v5 then
      some (.inr μ)
    else
      if v4 ≤ 0 then
        some (.inr μ)
      else
        lt (w32 ((w32 (v3 * 1103515245)) + 12345)) fun y5 =>
        chk (KD (μ v0 7) = 12 ∧ 0 ≤ v5 ∧ v5 < LN (μ v0 7)) (
        chk (v4 ≠ 0) (
        lt (w32 ((w32 ((w32 (10 * (μ (μ v0 7) v5))) + ((iushr y5 16).tmod v4))) - v2)) fun y8 =>
        lm (mst μ (μ v0 7) v5 (imin (imax y8 1) 99)) fun μ9 =>
        some (.inl (y5, w32 (v5 + 1), μ9)))))
def fX6_scrawlOver (v0 v1 v2 : Int) (μ : Mm) : Option Mm :=
  (lop (sX6_scrawlOver_12 v0 v2 (w32 ((w32 (2 * v2)) + 1))) FU (v1, 0, μ)).bind fun μ_11 =>
    chk (KD v0 = 6) (
    lm (mst μ_11 v0 1 (w32 (2 * v2))) fun μ13 =>
    some μ13)
set_option maxRecDepth 20000 in
theorem qX6_scrawlOver_12 (l : Launch) (F : FI) (v0 v2 v4 : Int) (k n : Nat) : ∀ (q : (Int × Int × Mm)) (t : ((Int × Int × Mm) ⊕ Mm)), sX6_scrawlOver_12 v0 v2 v4 q = some t → zX6_scrawlOver_12 l F v0 v2 v4 k n t → zX6_scrawlOver_12 l F v0 v2 v4 k n (.inl q) := by
  intro q t h hK
  obtain ⟨v3, v5, μ⟩ := q
  unfold sX6_scrawlOver_12 at h
  try dsimp only at h
  show GM l mX6_scrawlOver F k n 12 [(0, (3, v0)), (2, (0, v2)), (3, (0, v3)), (4, (0, v4)), (5, (0, v5))] [] μ
  refine GM_iload (pc := 12) 4 rfl (daX6_scrawlOver_0 10 rfl) ?_
  refine GM_aload_n (pc := 14) 0 rfl (daX6_scrawlOver_0 11 rfl) rfl ?_
  obtain ⟨hc1, h⟩ := chk_inv h
  refine GM_getf (pc := 15) 6 0 0 0 kf_X6_22 (Nat.le_of_ble_eq_true rfl) (Nat.le_of_ble_eq_true rfl) rfl (daX6_scrawlOver_0 12 rfl) hc1 rfl ?_
  refine GM_icmp_ge (pc := 18) 88 (daX6_scrawlOver_0 13 rfl) rfl (fun c2 => ?_) (fun c2 => ?_)
  · skip
    rw [if_pos c2] at h
    refine GM_pick [0, 1] rfl ?_
    cases h
    exact hK
  · skip
    rw [if_neg c2] at h
    refine GM_iload (pc := 21) 4 rfl (daX6_scrawlOver_0 14 rfl) ?_
    refine GM_bipush (pc := 23) 12 (daX6_scrawlOver_0 15 rfl) rfl (R32_b rfl) ?_
    refine GM_icmp_ge (pc := 25) 88 (daX6_scrawlOver_0 16 rfl) rfl (fun c3 => ?_) (fun c3 => ?_)
    · skip
      rw [if_pos c3] at h
      refine GM_pick [0, 1] rfl ?_
      cases h
      exact hK
    · skip
      rw [if_neg c3] at h
      refine GM_iload (pc := 28) 3 rfl (daX6_scrawlOver_0 17 rfl) ?_
      refine GM_if_le (pc := 30) 88 (daX6_scrawlOver_0 18 rfl) rfl (fun c4 => ?_) (fun c4 => ?_)
      · skip
        rw [if_pos c4] at h
        refine GM_pick [0, 1] rfl ?_
        cases h
        exact hK
      · skip
        rw [if_neg c4] at h
        refine GM_iload_n (pc := 33) 2 rfl (daX6_scrawlOver_0 19 rfl) rfl ?_
        refine GM_ldc (pc := 34) 1103515245 kq_X6_84 (daX6_scrawlOver_0 20 rfl) (R32_b rfl) ?_
        refine GM_imul (pc := 36) (daX6_scrawlOver_0 21 rfl) ?_
        refine GM_sipush (pc := 37) 12345 (daX6_scrawlOver_0 22 rfl) rfl (R32_b rfl) ?_
        refine GM_iadd (pc := 40) (daX6_scrawlOver_0 23 rfl) ?_
        obtain ⟨y5, hy5, h⟩ := lt_inv h
        refine GM_top hy5 ?_
        refine GM_istore_n (L' := [(3, (0, y5)), (0, (3, v0)), (2, (0, v2)), (4, (0, v4)), (5, (0, v5))]) (pc := 41) (daX6_scrawlOver_0 24 rfl) rfl (Nat.le_of_ble_eq_true rfl) rfl ?_
        refine GM_bipush (pc := 42) 10 (daX6_scrawlOver_0 25 rfl) rfl (R32_b rfl) ?_
        refine GM_aload_n (pc := 44) 1 rfl (daX6_scrawlOver_0 26 rfl) rfl ?_
        refine GM_getf (pc := 45) 6 7 3 7 kf_X6_15 (Nat.le_of_ble_eq_true rfl) (Nat.le_of_ble_eq_true rfl) rfl (daX6_scrawlOver_0 27 rfl) hc1 rfl ?_
        refine GM_iload (pc := 48) 4 rfl (daX6_scrawlOver_0 28 rfl) ?_
        obtain ⟨hc6, h⟩ := chk_inv h
        refine GM_iald (pc := 50) (daX6_scrawlOver_0 29 rfl) hc6.1 hc6.2.1 hc6.2.2 ?_
        refine GM_imul (pc := 51) (daX6_scrawlOver_0 30 rfl) ?_
        refine GM_iload_n (pc := 52) 0 rfl (daX6_scrawlOver_0 31 rfl) rfl ?_
        refine GM_bipush (pc := 53) 16 (daX6_scrawlOver_0 32 rfl) rfl (R32_b rfl) ?_
        refine GM_iushr (pc := 55) (daX6_scrawlOver_0 33 rfl) ?_
        refine GM_iload (pc := 56) 3 rfl (daX6_scrawlOver_0 34 rfl) ?_
        obtain ⟨hc7, h⟩ := chk_inv h
        refine GM_irem (pc := 58) (daX6_scrawlOver_0 35 rfl) hc7 ?_
        refine GM_iadd (pc := 59) (daX6_scrawlOver_0 36 rfl) ?_
        refine GM_iload_n (pc := 60) 2 rfl (daX6_scrawlOver_0 37 rfl) rfl ?_
        refine GM_isub (pc := 61) (daX6_scrawlOver_0 38 rfl) ?_
        obtain ⟨y8, hy8, h⟩ := lt_inv h
        refine GM_top hy8 ?_
        refine GM_istore (L' := [(6, (0, y8)), (3, (0, y5)), (0, (3, v0)), (2, (0, v2)), (4, (0, v4)), (5, (0, v5))]) (pc := 62) (daX6_scrawlOver_0 39 rfl) (Nat.le_of_ble_eq_true rfl) rfl ?_
        refine GM_aload_n (pc := 64) 2 rfl (daX6_scrawlOver_0 40 rfl) rfl ?_
        refine GM_getf (pc := 65) 6 7 3 7 kf_X6_15 (Nat.le_of_ble_eq_true rfl) (Nat.le_of_ble_eq_true rfl) rfl (daX6_scrawlOver_0 41 rfl) hc1 rfl ?_
        refine GM_iload (pc := 68) 5 rfl (daX6_scrawlOver_0 42 rfl) ?_
        refine GM_iload (pc := 70) 0 rfl (daX6_scrawlOver_0 43 rfl) ?_
        refine GM_iconst (pc := 72) 1 (daX6_scrawlOver_0 44 rfl) rfl (R32_b rfl) ?_
        refine GM_callS0 (pc := 73) [(0, y8), (0, 1)] (tJ9_max_7cf53 l (fJ9_max_eq y8 1)) cwJ9_max_7cf53 ks_J9_max_7cf53 km_X6_85 ⟨Nat.le_of_ble_eq_true rfl, Nat.le_of_ble_eq_true rfl⟩ (Nat.le_of_ble_eq_true rfl) (Nat.le_of_ble_eq_true rfl) (daX6_scrawlOver_0 45 rfl) ?_
        refine GM_bipush (pc := 76) 99 (daX6_scrawlOver_0 46 rfl) rfl (R32_b rfl) ?_
        refine GM_callS0 (pc := 78) [(0, imax y8 1), (0, 99)] (tJ9_min_7cf53 l (fJ9_min_eq (imax y8 1) 99)) cwJ9_min_7cf53 ks_J9_min_7cf53 km_X6_64 ⟨Nat.le_of_ble_eq_true rfl, Nat.le_of_ble_eq_true rfl⟩ (Nat.le_of_ble_eq_true rfl) (Nat.le_of_ble_eq_true rfl) (daX6_scrawlOver_0 47 rfl) ?_
        obtain ⟨μ9, hμ9, h⟩ := lm_inv h
        refine GM_iast (pc := 81) (daX6_scrawlOver_0 48 rfl) hc6.1 hc6.2.1 hc6.2.2 ?_
        refine GM_mem hμ9 ?_
        refine GM_iinc (L' := [(5, (0, w32 (v5 + 1))), (6, (0, y8)), (3, (0, y5)), (0, (3, v0)), (2, (0, v2)), (4, (0, v4))]) (pc := 82) 5 rfl (daX6_scrawlOver_0 49 rfl) (Nat.le_of_ble_eq_true rfl) rfl ?_
        refine GM_goto (pc := 85) 12 (daX6_scrawlOver_0 50 rfl) rfl ?_
        refine GM_pick [3, 4, 2, 5, 0] rfl ?_
        cases h
        exact hK
set_option maxRecDepth 20000 in
theorem gX6_scrawlOver_0 (l : Launch) {F : FI} {v0 v1 v2 : Int} {μ : Mm} {t : Mm} (h : fX6_scrawlOver v0 v1 v2 μ = some t) (hK : F.1 = [] ∧ F.2.1 = t) : GM l mX6_scrawlOver F 0 0 0 [(0, (3, v0)), (1, (0, v1)), (2, (0, v2))] [] μ := by
  unfold fX6_scrawlOver at h
  refine GM_iload_n (pc := 0) 1 rfl (daX6_scrawlOver_0 0 rfl) rfl ?_
  refine GM_istore_n (L' := [(3, (0, v1)), (0, (3, v0)), (1, (0, v1)), (2, (0, v2))]) (pc := 1) (daX6_scrawlOver_0 1 rfl) rfl (Nat.le_of_ble_eq_true rfl) rfl ?_
  refine GM_iconst (pc := 2) 2 (daX6_scrawlOver_0 2 rfl) rfl (R32_b rfl) ?_
  refine GM_iload_n (pc := 3) 3 rfl (daX6_scrawlOver_0 3 rfl) rfl ?_
  refine GM_imul (pc := 4) (daX6_scrawlOver_0 4 rfl) ?_
  refine GM_iconst (pc := 5) 1 (daX6_scrawlOver_0 5 rfl) rfl (R32_b rfl) ?_
  refine GM_iadd (pc := 6) (daX6_scrawlOver_0 6 rfl) ?_
  refine GM_istore (L' := [(4, (0, w32 ((w32 (2 * v2)) + 1))), (3, (0, v1)), (0, (3, v0)), (1, (0, v1)), (2, (0, v2))]) (pc := 7) (daX6_scrawlOver_0 7 rfl) (Nat.le_of_ble_eq_true rfl) rfl ?_
  refine GM_iconst (pc := 9) 0 (daX6_scrawlOver_0 8 rfl) rfl (R32_b rfl) ?_
  refine GM_istore (L' := [(5, (0, 0)), (4, (0, w32 ((w32 (2 * v2)) + 1))), (3, (0, v1)), (0, (3, v0)), (1, (0, v1)), (2, (0, v2))]) (pc := 10) (daX6_scrawlOver_0 9 rfl) (Nat.le_of_ble_eq_true rfl) rfl ?_
  refine GM_pick [3, 5, 2, 1, 0] rfl ?_
  obtain ⟨x10, hqx10, h⟩ := Option.bind_eq_some_iff.mp h
  refine lop_ind (zX6_scrawlOver_12 l F v0 v2 (w32 ((w32 (2 * v2)) + 1)) 0 0) (qX6_scrawlOver_12 l F v0 v2 (w32 ((w32 (2 * v2)) + 1)) 0 0) FU _ x10 hqx10 ?_
  obtain ⟨μ_11, hqq⟩ : ∃ z, z = x10 := ⟨x10, rfl⟩
  subst hqq
  show GM l mX6_scrawlOver F 0 0 88 [(0, (3, v0)), (2, (0, v2))] [] μ_11
  refine GM_aload_n (pc := 88) 0 rfl (daX6_scrawlOver_0 51 rfl) rfl ?_
  refine GM_iconst (pc := 89) 2 (daX6_scrawlOver_0 52 rfl) rfl (R32_b rfl) ?_
  refine GM_iload_n (pc := 90) 1 rfl (daX6_scrawlOver_0 53 rfl) rfl ?_
  refine GM_imul (pc := 91) (daX6_scrawlOver_0 54 rfl) ?_
  obtain ⟨hc12, h⟩ := chk_inv h
  obtain ⟨μ13, hμ13, h⟩ := lm_inv h
  refine GM_putf (pc := 92) 6 1 0 kf_X6_25 (Nat.le_of_ble_eq_true rfl) (Nat.le_of_ble_eq_true rfl) rfl rfl (daX6_scrawlOver_0 55 rfl) hc12 (fun q => absurd q (by decide)) ?_
  refine GM_mem hμ13 ?_
  cases h
  exact GM_vret (pc := 95) (daX6_scrawlOver_0 56 rfl) rfl hK
theorem tX6_scrawlOver (l : Launch) {v0 v1 v2 : Int} {μ : Mm} {t : Mm} (h : fX6_scrawlOver v0 v1 v2 μ = some t) : Ct l yX6_scrawlOver mX6_scrawlOver [(3, v0), (0, v1), (0, v2)] μ ([], t, 0, 0) :=
  Ct_of (by decide +kernel) rfl rfl (Nat.le_of_ble_eq_true rfl) (fun _ _ _ => trivial) (gX6_scrawlOver_0 l h ⟨rfl, rfl⟩)
def mX7_init : MI := (RX7, cX7_init, 1, none, "<init>", 1, 16, fun _ _ _ => True)
theorem cwX7_init : CWd yX7_init mX7_init 0 := ⟨ki_X7, kk_X7_init, ⟨by decide, by decide⟩, rfl⟩
def dtX7_init_0 : List (Nat × Instr × Nat) := [(0, .aload_n 0, 1), (1, .invokespecial 3, 3), (4, .aload_n 0, 1), (5, .iconst (-1), 1), (6, .putfield 9, 3), (9, .aload_n 0, 1), (10, .bipush 90, 2), (12, .newarray .int, 2), (14, .putfield 15, 3), (17, .aload_n 0, 1), (18, .bipush 90, 2), (20, .newarray .int, 2), (22, .putfield 19, 3), (25, .aload_n 0, 1), (26, .bipush 90, 2), (28, .newarray .int, 2), (30, .putfield 22, 3), (33, .aload_n 0, 1), (34, .bipush 45, 2), (36, .newarray .int, 2), (38, .putfield 25, 3), (41, .aload_n 0, 1), (42, .bipush 12, 2), (44, .newarray .int, 2), (46, .putfield 28, 3), (49, .aload_n 0, 1), (50, .iconst 3, 1), (51, .newarray .long, 2), (53, .putfield 31, 3), (56, .return_, 1)]
theorem ddX7_init_0 : (dtX7_init_0.all fun e => decide (decode mX7_init.2.1 e.1 = .ok (e.2.1, e.2.2))) = true := by decide +kernel
theorem daX7_init_0 (j : Nat) {pc n : Nat} {i : Instr} (h : dtX7_init_0[j]? = some (pc, i, n)) : decode mX7_init.2.1 pc = .ok (i, n) := dec_of (c := mX7_init.2.1) ddX7_init_0 h
def fX7_init (v0 : Int) (μ : Mm) : Option (Mm × Nat × Nat) :=
  chk (v0 ≠ 0) (
  chk (KD v0 = 7) (
  lm (mst μ v0 0 (-1)) fun μ3 =>
  chk (KD (v0 + 1) = 12 ∧ LN (v0 + 1) = 90 ∧ μ3 0 (v0 + 1) = 0) (
  pay 1 90 (
  lm (mnw μ3 (v0 + 1)) fun μ6 =>
  lm (mst μ6 v0 4 (v0 + 1)) fun μ7 =>
  chk (KD (v0 + 2) = 12 ∧ LN (v0 + 2) = 90 ∧ μ7 0 (v0 + 2) = 0) (
  pay 1 90 (
  lm (mnw μ7 (v0 + 2)) fun μ10 =>
  lm (mst μ10 v0 5 (v0 + 2)) fun μ11 =>
  chk (KD (v0 + 3) = 12 ∧ LN (v0 + 3) = 90 ∧ μ11 0 (v0 + 3) = 0) (
  pay 1 90 (
  lm (mnw μ11 (v0 + 3)) fun μ14 =>
  lm (mst μ14 v0 6 (v0 + 3)) fun μ15 =>
  chk (KD (v0 + 4) = 12 ∧ LN (v0 + 4) = 45 ∧ μ15 0 (v0 + 4) = 0) (
  pay 1 45 (
  lm (mnw μ15 (v0 + 4)) fun μ18 =>
  lm (mst μ18 v0 7 (v0 + 4)) fun μ19 =>
  chk (KD (v0 + 5) = 12 ∧ LN (v0 + 5) = 12 ∧ μ19 0 (v0 + 5) = 0) (
  pay 1 12 (
  lm (mnw μ19 (v0 + 5)) fun μ22 =>
  lm (mst μ22 v0 8 (v0 + 5)) fun μ23 =>
  chk (KD (v0 + 6) = 13 ∧ LN (v0 + 6) = 3 ∧ μ23 0 (v0 + 6) = 0) (
  pay 1 3 (
  lm (mnw μ23 (v0 + 6)) fun μ26 =>
  lm (mst μ26 v0 9 (v0 + 6)) fun μ27 =>
  some (μ27, 0, 0)))))))))))))))
set_option maxRecDepth 20000 in
theorem gX7_init_0 (l : Launch) {F : FI} {v0 : Int} {μ : Mm} {t : Mm} {c0 n0 k n : Nat} (h : fX7_init v0 μ = some (t, c0, n0)) (hK : F.1 = [] ∧ F.2.1 = t) : GM l mX7_init F (c0 + k) (n0 + n) 0 [(0, (3, v0))] [] μ := by
  unfold fX7_init at h
  refine GM_aload_n (pc := 0) 0 rfl (daX7_init_0 0 rfl) rfl ?_
  obtain ⟨hc1, h⟩ := chk_inv h
  refine GM_objInit (pc := 1) km_X7_3 kv__java_lang_Object__init____V_ kk_obj (daX7_init_0 1 rfl) hc1 ⟨Nat.le_of_ble_eq_true rfl, Nat.le_of_ble_eq_true rfl⟩ ?_
  refine GM_aload_n (pc := 4) 0 rfl (daX7_init_0 2 rfl) rfl ?_
  refine GM_iconst (pc := 5) (-1) (daX7_init_0 3 rfl) rfl (R32_b rfl) ?_
  obtain ⟨hc2, h⟩ := chk_inv h
  obtain ⟨μ3, hμ3, h⟩ := lm_inv h
  refine GM_putf (pc := 6) 7 0 0 kf_X7_9 (Nat.le_of_ble_eq_true rfl) (Nat.le_of_ble_eq_true rfl) rfl rfl (daX7_init_0 4 rfl) hc2 (fun q => absurd q (by decide)) ?_
  refine GM_mem hμ3 ?_
  refine GM_aload_n (pc := 9) 0 rfl (daX7_init_0 5 rfl) rfl ?_
  refine GM_bipush (pc := 10) 90 (daX7_init_0 6 rfl) rfl (R32_b rfl) ?_
  obtain ⟨hc4, h⟩ := chk_inv h
  obtain ⟨c5, n5, hp, e1, e2⟩ := pay_inv h
  subst e1 e2
  replace h := hp
  clear hp
  rw [Nat.add_assoc, Nat.add_assoc]
  obtain ⟨μ6, hμ6, h⟩ := lm_inv h
  refine GM_newi (pc := 12) (N := 90) (v0 + 1) (daX7_init_0 7 rfl) hc4.1 hc4.2.1 (Nat.le_of_ble_eq_true rfl) hc4.2.2 ?_
  refine GM_mem hμ6 ?_
  obtain ⟨μ7, hμ7, h⟩ := lm_inv h
  refine GM_putF (pc := 14) 7 4 3 kf_X7_15 (Nat.le_of_ble_eq_true rfl) (Nat.le_of_ble_eq_true rfl) rfl rfl rfl rfl (daX7_init_0 8 rfl) hc2 (fun q => absurd q (by decide)) ?_
  refine GM_mem hμ7 ?_
  refine GM_aload_n (pc := 17) 0 rfl (daX7_init_0 9 rfl) rfl ?_
  refine GM_bipush (pc := 18) 90 (daX7_init_0 10 rfl) rfl (R32_b rfl) ?_
  obtain ⟨hc8, h⟩ := chk_inv h
  obtain ⟨c9, n9, hp, e1, e2⟩ := pay_inv h
  subst e1 e2
  replace h := hp
  clear hp
  rw [Nat.add_assoc, Nat.add_assoc]
  obtain ⟨μ10, hμ10, h⟩ := lm_inv h
  refine GM_newi (pc := 20) (N := 90) (v0 + 2) (daX7_init_0 11 rfl) hc8.1 hc8.2.1 (Nat.le_of_ble_eq_true rfl) hc8.2.2 ?_
  refine GM_mem hμ10 ?_
  obtain ⟨μ11, hμ11, h⟩ := lm_inv h
  refine GM_putF (pc := 22) 7 5 3 kf_X7_19 (Nat.le_of_ble_eq_true rfl) (Nat.le_of_ble_eq_true rfl) rfl rfl rfl rfl (daX7_init_0 12 rfl) hc2 (fun q => absurd q (by decide)) ?_
  refine GM_mem hμ11 ?_
  refine GM_aload_n (pc := 25) 0 rfl (daX7_init_0 13 rfl) rfl ?_
  refine GM_bipush (pc := 26) 90 (daX7_init_0 14 rfl) rfl (R32_b rfl) ?_
  obtain ⟨hc12, h⟩ := chk_inv h
  obtain ⟨c13, n13, hp, e1, e2⟩ := pay_inv h
  subst e1 e2
  replace h := hp
  clear hp
  rw [Nat.add_assoc, Nat.add_assoc]
  obtain ⟨μ14, hμ14, h⟩ := lm_inv h
  refine GM_newi (pc := 28) (N := 90) (v0 + 3) (daX7_init_0 15 rfl) hc12.1 hc12.2.1 (Nat.le_of_ble_eq_true rfl) hc12.2.2 ?_
  refine GM_mem hμ14 ?_
  obtain ⟨μ15, hμ15, h⟩ := lm_inv h
  refine GM_putF (pc := 30) 7 6 3 kf_X7_22 (Nat.le_of_ble_eq_true rfl) (Nat.le_of_ble_eq_true rfl) rfl rfl rfl rfl (daX7_init_0 16 rfl) hc2 (fun q => absurd q (by decide)) ?_
  refine GM_mem hμ15 ?_
  refine GM_aload_n (pc := 33) 0 rfl (daX7_init_0 17 rfl) rfl ?_
  refine GM_bipush (pc := 34) 45 (daX7_init_0 18 rfl) rfl (R32_b rfl) ?_
  obtain ⟨hc16, h⟩ := chk_inv h
  obtain ⟨c17, n17, hp, e1, e2⟩ := pay_inv h
  subst e1 e2
  replace h := hp
  clear hp
  rw [Nat.add_assoc, Nat.add_assoc]
  obtain ⟨μ18, hμ18, h⟩ := lm_inv h
  refine GM_newi (pc := 36) (N := 45) (v0 + 4) (daX7_init_0 19 rfl) hc16.1 hc16.2.1 (Nat.le_of_ble_eq_true rfl) hc16.2.2 ?_
  refine GM_mem hμ18 ?_
  obtain ⟨μ19, hμ19, h⟩ := lm_inv h
  refine GM_putF (pc := 38) 7 7 3 kf_X7_25 (Nat.le_of_ble_eq_true rfl) (Nat.le_of_ble_eq_true rfl) rfl rfl rfl rfl (daX7_init_0 20 rfl) hc2 (fun q => absurd q (by decide)) ?_
  refine GM_mem hμ19 ?_
  refine GM_aload_n (pc := 41) 0 rfl (daX7_init_0 21 rfl) rfl ?_
  refine GM_bipush (pc := 42) 12 (daX7_init_0 22 rfl) rfl (R32_b rfl) ?_
  obtain ⟨hc20, h⟩ := chk_inv h
  obtain ⟨c21, n21, hp, e1, e2⟩ := pay_inv h
  subst e1 e2
  replace h := hp
  clear hp
  rw [Nat.add_assoc, Nat.add_assoc]
  obtain ⟨μ22, hμ22, h⟩ := lm_inv h
  refine GM_newi (pc := 44) (N := 12) (v0 + 5) (daX7_init_0 23 rfl) hc20.1 hc20.2.1 (Nat.le_of_ble_eq_true rfl) hc20.2.2 ?_
  refine GM_mem hμ22 ?_
  obtain ⟨μ23, hμ23, h⟩ := lm_inv h
  refine GM_putF (pc := 46) 7 8 3 kf_X7_28 (Nat.le_of_ble_eq_true rfl) (Nat.le_of_ble_eq_true rfl) rfl rfl rfl rfl (daX7_init_0 24 rfl) hc2 (fun q => absurd q (by decide)) ?_
  refine GM_mem hμ23 ?_
  refine GM_aload_n (pc := 49) 0 rfl (daX7_init_0 25 rfl) rfl ?_
  refine GM_iconst (pc := 50) 3 (daX7_init_0 26 rfl) rfl (R32_b rfl) ?_
  obtain ⟨hc24, h⟩ := chk_inv h
  obtain ⟨c25, n25, hp, e1, e2⟩ := pay_inv h
  subst e1 e2
  replace h := hp
  clear hp
  rw [Nat.add_assoc, Nat.add_assoc]
  obtain ⟨μ26, hμ26, h⟩ := lm_inv h
  refine GM_newl (pc := 51) (N := 3) (v0 + 6) (daX7_init_0 27 rfl) hc24.1 hc24.2.1 (Nat.le_of_ble_eq_true rfl) hc24.2.2 ?_
  refine GM_mem hμ26 ?_
  obtain ⟨μ27, hμ27, h⟩ := lm_inv h
  refine GM_putF (pc := 53) 7 9 3 kf_X7_31 (Nat.le_of_ble_eq_true rfl) (Nat.le_of_ble_eq_true rfl) rfl rfl rfl rfl (daX7_init_0 28 rfl) hc2 (fun q => absurd q (by decide)) ?_
  refine GM_mem hμ27 ?_
  cases h
  exact GM_vret (pc := 56) (daX7_init_0 29 rfl) rfl hK
theorem tX7_init (l : Launch) {v0 : Int} {μ : Mm} {t : Mm} {c0 n0 : Nat} (h : fX7_init v0 μ = some (t, c0, n0)) : Ct l yX7_init mX7_init [(3, v0)] μ ([], t, c0, n0) :=
  Ct_of (by decide +kernel) rfl rfl (Nat.le_of_ble_eq_true rfl) (fun _ _ _ => trivial) (gX7_init_0 (k := 0) (n := 0) l h ⟨rfl, rfl⟩)
def mX7_addHump : MI := (RX7, cX7_addHump, 2, none, "addHump", 0, 0, fun _ _ _ => True)
theorem cwX7_addHump : CWd yX7_addHump mX7_addHump 1 := ⟨ki_X7, kk_X7_addHump, ⟨by decide, by decide⟩, rfl⟩
def dtX7_addHump_0 : List (Nat × Instr × Nat) := [(0, .aload_n 0, 1), (1, .getfield 35, 3), (4, .bipush 45, 2), (6, .if_icmp .ge 23, 3), (9, .aload_n 0, 1), (10, .getfield 25, 3), (13, .aload_n 0, 1), (14, .getfield 35, 3), (17, .iload_n 1, 1), (18, .iastore, 1), (19, .aload_n 0, 1), (20, .dup, 1), (21, .getfield 35, 3), (24, .iconst 1, 1), (25, .iadd, 1), (26, .putfield 35, 3), (29, .return_, 1)]
theorem ddX7_addHump_0 : (dtX7_addHump_0.all fun e => decide (decode mX7_addHump.2.1 e.1 = .ok (e.2.1, e.2.2))) = true := by decide +kernel
theorem daX7_addHump_0 (j : Nat) {pc n : Nat} {i : Instr} (h : dtX7_addHump_0[j]? = some (pc, i, n)) : decode mX7_addHump.2.1 pc = .ok (i, n) := dec_of (c := mX7_addHump.2.1) ddX7_addHump_0 h
def fX7_addHump (v0 v1 : Int) (μ : Mm) : Option Mm :=
  chk (KD v0 = 7) (
  if 45 ≤ μ v0 2 then
    some μ
  else
    chk (KD (μ v0 7) = 12 ∧ 0 ≤ μ v0 2 ∧ μ v0 2 < LN (μ v0 7)) (
    lm (mst μ (μ v0 7) (μ v0 2) v1) fun μ4 =>
    lm (mst μ4 v0 2 (w32 ((μ4 v0 2) + 1))) fun μ5 =>
    some μ5))
set_option maxRecDepth 20000 in
theorem gX7_addHump_0 (l : Launch) {F : FI} {v0 v1 : Int} {μ : Mm} {t : Mm} (h : fX7_addHump v0 v1 μ = some t) (hK : F.1 = [] ∧ F.2.1 = t) : GM l mX7_addHump F 0 0 0 [(0, (3, v0)), (1, (0, v1))] [] μ := by
  unfold fX7_addHump at h
  refine GM_aload_n (pc := 0) 0 rfl (daX7_addHump_0 0 rfl) rfl ?_
  obtain ⟨hc1, h⟩ := chk_inv h
  refine GM_getf (pc := 1) 7 2 0 2 kf_X7_35 (Nat.le_of_ble_eq_true rfl) (Nat.le_of_ble_eq_true rfl) rfl (daX7_addHump_0 1 rfl) hc1 rfl ?_
  refine GM_bipush (pc := 4) 45 (daX7_addHump_0 2 rfl) rfl (R32_b rfl) ?_
  refine GM_icmp_ge (pc := 6) 29 (daX7_addHump_0 3 rfl) rfl (fun c2 => ?_) (fun c2 => ?_)
  · skip
    rw [if_pos c2] at h
    cases h
    exact GM_vret (pc := 29) (daX7_addHump_0 16 rfl) rfl hK
  · skip
    rw [if_neg c2] at h
    refine GM_aload_n (pc := 9) 0 rfl (daX7_addHump_0 4 rfl) rfl ?_
    refine GM_getf (pc := 10) 7 7 3 7 kf_X7_25 (Nat.le_of_ble_eq_true rfl) (Nat.le_of_ble_eq_true rfl) rfl (daX7_addHump_0 5 rfl) hc1 rfl ?_
    refine GM_aload_n (pc := 13) 0 rfl (daX7_addHump_0 6 rfl) rfl ?_
    refine GM_getf (pc := 14) 7 2 0 2 kf_X7_35 (Nat.le_of_ble_eq_true rfl) (Nat.le_of_ble_eq_true rfl) rfl (daX7_addHump_0 7 rfl) hc1 rfl ?_
    refine GM_iload_n (pc := 17) 1 rfl (daX7_addHump_0 8 rfl) rfl ?_
    obtain ⟨hc3, h⟩ := chk_inv h
    obtain ⟨μ4, hμ4, h⟩ := lm_inv h
    refine GM_iast (pc := 18) (daX7_addHump_0 9 rfl) hc3.1 hc3.2.1 hc3.2.2 ?_
    refine GM_mem hμ4 ?_
    refine GM_aload_n (pc := 19) 0 rfl (daX7_addHump_0 10 rfl) rfl ?_
    refine GM_dup (pc := 20) (daX7_addHump_0 11 rfl) (Nat.ne_of_beq_eq_false rfl) ?_
    refine GM_getf (pc := 21) 7 2 0 2 kf_X7_35 (Nat.le_of_ble_eq_true rfl) (Nat.le_of_ble_eq_true rfl) rfl (daX7_addHump_0 12 rfl) hc1 rfl ?_
    refine GM_iconst (pc := 24) 1 (daX7_addHump_0 13 rfl) rfl (R32_b rfl) ?_
    refine GM_iadd (pc := 25) (daX7_addHump_0 14 rfl) ?_
    obtain ⟨μ5, hμ5, h⟩ := lm_inv h
    refine GM_putf (pc := 26) 7 2 0 kf_X7_35 (Nat.le_of_ble_eq_true rfl) (Nat.le_of_ble_eq_true rfl) rfl rfl (daX7_addHump_0 15 rfl) hc1 (fun q => absurd q (by decide)) ?_
    refine GM_mem hμ5 ?_
    cases h
    exact GM_vret (pc := 29) (daX7_addHump_0 16 rfl) rfl hK
theorem tX7_addHump (l : Launch) {v0 v1 : Int} {μ : Mm} {t : Mm} (h : fX7_addHump v0 v1 μ = some t) : Ct l yX7_addHump mX7_addHump [(3, v0), (0, v1)] μ ([], t, 0, 0) :=
  Ct_of (by decide +kernel) rfl rfl (Nat.le_of_ble_eq_true rfl) (fun _ _ _ => trivial) (gX7_addHump_0 l h ⟨rfl, rfl⟩)
def mX7_addLake : MI := (RX7, cX7_addLake, 2, none, "addLake", 0, 0, fun _ _ _ => True)
theorem cwX7_addLake : CWd yX7_addLake mX7_addLake 1 := ⟨ki_X7, kk_X7_addLake, ⟨by decide, by decide⟩, rfl⟩
def dtX7_addLake_0 : List (Nat × Instr × Nat) := [(0, .aload_n 0, 1), (1, .getfield 38, 3), (4, .bipush 12, 2), (6, .if_icmp .ge 23, 3), (9, .aload_n 0, 1), (10, .getfield 28, 3), (13, .aload_n 0, 1), (14, .getfield 38, 3), (17, .iload_n 1, 1), (18, .iastore, 1), (19, .aload_n 0, 1), (20, .dup, 1), (21, .getfield 38, 3), (24, .iconst 1, 1), (25, .iadd, 1), (26, .putfield 38, 3), (29, .return_, 1)]
theorem ddX7_addLake_0 : (dtX7_addLake_0.all fun e => decide (decode mX7_addLake.2.1 e.1 = .ok (e.2.1, e.2.2))) = true := by decide +kernel
theorem daX7_addLake_0 (j : Nat) {pc n : Nat} {i : Instr} (h : dtX7_addLake_0[j]? = some (pc, i, n)) : decode mX7_addLake.2.1 pc = .ok (i, n) := dec_of (c := mX7_addLake.2.1) ddX7_addLake_0 h
def fX7_addLake (v0 v1 : Int) (μ : Mm) : Option Mm :=
  chk (KD v0 = 7) (
  if 12 ≤ μ v0 3 then
    some μ
  else
    chk (KD (μ v0 8) = 12 ∧ 0 ≤ μ v0 3 ∧ μ v0 3 < LN (μ v0 8)) (
    lm (mst μ (μ v0 8) (μ v0 3) v1) fun μ4 =>
    lm (mst μ4 v0 3 (w32 ((μ4 v0 3) + 1))) fun μ5 =>
    some μ5))
set_option maxRecDepth 20000 in
theorem gX7_addLake_0 (l : Launch) {F : FI} {v0 v1 : Int} {μ : Mm} {t : Mm} (h : fX7_addLake v0 v1 μ = some t) (hK : F.1 = [] ∧ F.2.1 = t) : GM l mX7_addLake F 0 0 0 [(0, (3, v0)), (1, (0, v1))] [] μ := by
  unfold fX7_addLake at h
  refine GM_aload_n (pc := 0) 0 rfl (daX7_addLake_0 0 rfl) rfl ?_
  obtain ⟨hc1, h⟩ := chk_inv h
  refine GM_getf (pc := 1) 7 3 0 3 kf_X7_38 (Nat.le_of_ble_eq_true rfl) (Nat.le_of_ble_eq_true rfl) rfl (daX7_addLake_0 1 rfl) hc1 rfl ?_
  refine GM_bipush (pc := 4) 12 (daX7_addLake_0 2 rfl) rfl (R32_b rfl) ?_
  refine GM_icmp_ge (pc := 6) 29 (daX7_addLake_0 3 rfl) rfl (fun c2 => ?_) (fun c2 => ?_)
  · skip
    rw [if_pos c2] at h
    cases h
    exact GM_vret (pc := 29) (daX7_addLake_0 16 rfl) rfl hK
  · skip
    rw [if_neg c2] at h
    refine GM_aload_n (pc := 9) 0 rfl (daX7_addLake_0 4 rfl) rfl ?_
    refine GM_getf (pc := 10) 7 8 3 8 kf_X7_28 (Nat.le_of_ble_eq_true rfl) (Nat.le_of_ble_eq_true rfl) rfl (daX7_addLake_0 5 rfl) hc1 rfl ?_
    refine GM_aload_n (pc := 13) 0 rfl (daX7_addLake_0 6 rfl) rfl ?_
    refine GM_getf (pc := 14) 7 3 0 3 kf_X7_38 (Nat.le_of_ble_eq_true rfl) (Nat.le_of_ble_eq_true rfl) rfl (daX7_addLake_0 7 rfl) hc1 rfl ?_
    refine GM_iload_n (pc := 17) 1 rfl (daX7_addLake_0 8 rfl) rfl ?_
    obtain ⟨hc3, h⟩ := chk_inv h
    obtain ⟨μ4, hμ4, h⟩ := lm_inv h
    refine GM_iast (pc := 18) (daX7_addLake_0 9 rfl) hc3.1 hc3.2.1 hc3.2.2 ?_
    refine GM_mem hμ4 ?_
    refine GM_aload_n (pc := 19) 0 rfl (daX7_addLake_0 10 rfl) rfl ?_
    refine GM_dup (pc := 20) (daX7_addLake_0 11 rfl) (Nat.ne_of_beq_eq_false rfl) ?_
    refine GM_getf (pc := 21) 7 3 0 3 kf_X7_38 (Nat.le_of_ble_eq_true rfl) (Nat.le_of_ble_eq_true rfl) rfl (daX7_addLake_0 12 rfl) hc1 rfl ?_
    refine GM_iconst (pc := 24) 1 (daX7_addLake_0 13 rfl) rfl (R32_b rfl) ?_
    refine GM_iadd (pc := 25) (daX7_addLake_0 14 rfl) ?_
    obtain ⟨μ5, hμ5, h⟩ := lm_inv h
    refine GM_putf (pc := 26) 7 3 0 kf_X7_38 (Nat.le_of_ble_eq_true rfl) (Nat.le_of_ble_eq_true rfl) rfl rfl (daX7_addLake_0 15 rfl) hc1 (fun q => absurd q (by decide)) ?_
    refine GM_mem hμ5 ?_
    cases h
    exact GM_vret (pc := 29) (daX7_addLake_0 16 rfl) rfl hK
theorem tX7_addLake (l : Launch) {v0 v1 : Int} {μ : Mm} {t : Mm} (h : fX7_addLake v0 v1 μ = some t) : Ct l yX7_addLake mX7_addLake [(3, v0), (0, v1)] μ ([], t, 0, 0) :=
  Ct_of (by decide +kernel) rfl rfl (Nat.le_of_ble_eq_true rfl) (fun _ _ _ => trivial) (gX7_addLake_0 l h ⟨rfl, rfl⟩)
def mX7_topOfRay : MI := (RX7, cX7_topOfRay, 2, (some .int), "topOfRay", 0, 0, fun _ _ _ => True)
theorem cwX7_topOfRay : CWd yX7_topOfRay mX7_topOfRay 1 := ⟨ki_X7, kk_X7_topOfRay, ⟨by decide, by decide⟩, rfl⟩
def dtX7_topOfRay_0 : List (Nat × Instr × Nat) := [(0, .iload_n 1, 1), (1, .ifCond .lt 26, 3), (4, .iload_n 1, 1), (5, .aload_n 0, 1), (6, .getfield 45, 3), (9, .if_icmp .ge 18, 3), (12, .iload_n 1, 1), (13, .bipush 90, 2), (15, .if_icmp .ge 12, 3), (18, .aload_n 0, 1), (19, .getfield 15, 3), (22, .iload_n 1, 1), (23, .iaload, 1), (24, .goto 4, 3), (27, .iconst (-1), 1), (28, .ireturn, 1)]
theorem ddX7_topOfRay_0 : (dtX7_topOfRay_0.all fun e => decide (decode mX7_topOfRay.2.1 e.1 = .ok (e.2.1, e.2.2))) = true := by decide +kernel
theorem daX7_topOfRay_0 (j : Nat) {pc n : Nat} {i : Instr} (h : dtX7_topOfRay_0[j]? = some (pc, i, n)) : decode mX7_topOfRay.2.1 pc = .ok (i, n) := dec_of (c := mX7_topOfRay.2.1) ddX7_topOfRay_0 h
def fX7_topOfRay (v0 v1 : Int) (μ : Mm) : Option Int :=
  if v1 < 0 then
    some (-1)
  else
    chk (KD v0 = 7) (
    if μ v0 1 ≤ v1 then
      some (-1)
    else
      if 90 ≤ v1 then
        some (-1)
      else
        chk (KD (μ v0 4) = 12 ∧ 0 ≤ v1 ∧ v1 < LN (μ v0 4)) (
        some (μ (μ v0 4) v1)))
set_option maxRecDepth 20000 in
theorem gX7_topOfRay_0 (l : Launch) {F : FI} {v0 v1 : Int} {μ : Mm} {t : Int} (h : fX7_topOfRay v0 v1 μ = some t) (hK : F.1 = [(0, t)] ∧ F.2.1 = μ) : GM l mX7_topOfRay F 0 0 0 [(0, (3, v0)), (1, (0, v1))] [] μ := by
  unfold fX7_topOfRay at h
  refine GM_iload_n (pc := 0) 1 rfl (daX7_topOfRay_0 0 rfl) rfl ?_
  refine GM_if_lt (pc := 1) 27 (daX7_topOfRay_0 1 rfl) rfl (fun c1 => ?_) (fun c1 => ?_)
  · skip
    rw [if_pos c1] at h
    refine GM_iconst (pc := 27) (-1) (daX7_topOfRay_0 14 rfl) rfl (R32_b rfl) ?_
    cases h
    exact GM_iret (pc := 28) (daX7_topOfRay_0 15 rfl) rfl hK
  · skip
    rw [if_neg c1] at h
    refine GM_iload_n (pc := 4) 1 rfl (daX7_topOfRay_0 2 rfl) rfl ?_
    refine GM_aload_n (pc := 5) 0 rfl (daX7_topOfRay_0 3 rfl) rfl ?_
    obtain ⟨hc2, h⟩ := chk_inv h
    refine GM_getf (pc := 6) 7 1 0 1 kf_X7_45 (Nat.le_of_ble_eq_true rfl) (Nat.le_of_ble_eq_true rfl) rfl (daX7_topOfRay_0 4 rfl) hc2 rfl ?_
    refine GM_icmp_ge (pc := 9) 27 (daX7_topOfRay_0 5 rfl) rfl (fun c3 => ?_) (fun c3 => ?_)
    · skip
      rw [if_pos c3] at h
      refine GM_iconst (pc := 27) (-1) (daX7_topOfRay_0 14 rfl) rfl (R32_b rfl) ?_
      cases h
      exact GM_iret (pc := 28) (daX7_topOfRay_0 15 rfl) rfl hK
    · skip
      rw [if_neg c3] at h
      refine GM_iload_n (pc := 12) 1 rfl (daX7_topOfRay_0 6 rfl) rfl ?_
      refine GM_bipush (pc := 13) 90 (daX7_topOfRay_0 7 rfl) rfl (R32_b rfl) ?_
      refine GM_icmp_ge (pc := 15) 27 (daX7_topOfRay_0 8 rfl) rfl (fun c4 => ?_) (fun c4 => ?_)
      · skip
        rw [if_pos c4] at h
        refine GM_iconst (pc := 27) (-1) (daX7_topOfRay_0 14 rfl) rfl (R32_b rfl) ?_
        cases h
        exact GM_iret (pc := 28) (daX7_topOfRay_0 15 rfl) rfl hK
      · skip
        rw [if_neg c4] at h
        refine GM_aload_n (pc := 18) 0 rfl (daX7_topOfRay_0 9 rfl) rfl ?_
        refine GM_getf (pc := 19) 7 4 3 4 kf_X7_15 (Nat.le_of_ble_eq_true rfl) (Nat.le_of_ble_eq_true rfl) rfl (daX7_topOfRay_0 10 rfl) hc2 rfl ?_
        refine GM_iload_n (pc := 22) 1 rfl (daX7_topOfRay_0 11 rfl) rfl ?_
        obtain ⟨hc5, h⟩ := chk_inv h
        refine GM_iald (pc := 23) (daX7_topOfRay_0 12 rfl) hc5.1 hc5.2.1 hc5.2.2 ?_
        refine GM_goto (pc := 24) 28 (daX7_topOfRay_0 13 rfl) rfl ?_
        cases h
        exact GM_iret (pc := 28) (daX7_topOfRay_0 15 rfl) rfl hK
theorem tX7_topOfRay (l : Launch) {v0 v1 : Int} {μ : Mm} {t : Int} (h : fX7_topOfRay v0 v1 μ = some t) : Ct l yX7_topOfRay mX7_topOfRay [(3, v0), (0, v1)] μ ([(0, t)], μ, 0, 0) :=
  Ct_of (by decide +kernel) rfl rfl (Nat.le_of_ble_eq_true rfl) (fun _ _ _ => trivial) (gX7_topOfRay_0 l h ⟨rfl, rfl⟩)
def mX7_topOfHump : MI := (RX7, cX7_topOfHump, 2, (some .int), "topOfHump", 1, 21, fun _ _ _ => True)
theorem cwX7_topOfHump : CWd yX7_topOfHump mX7_topOfHump 1 := ⟨ki_X7, kk_X7_topOfHump, ⟨by decide, by decide⟩, rfl⟩
def dtX7_topOfHump_0 : List (Nat × Instr × Nat) := [(0, .aload_n 0, 1), (1, .iload_n 1, 1), (2, .invokevirtual 41, 3), (5, .ifCond .eq 16, 3), (8, .aload_n 0, 1), (9, .aload_n 0, 1), (10, .getfield 25, 3), (13, .iload_n 1, 1), (14, .iaload, 1), (15, .invokevirtual 48, 3), (18, .goto 4, 3), (21, .iconst (-1), 1), (22, .ireturn, 1)]
theorem ddX7_topOfHump_0 : (dtX7_topOfHump_0.all fun e => decide (decode mX7_topOfHump.2.1 e.1 = .ok (e.2.1, e.2.2))) = true := by decide +kernel
theorem daX7_topOfHump_0 (j : Nat) {pc n : Nat} {i : Instr} (h : dtX7_topOfHump_0[j]? = some (pc, i, n)) : decode mX7_topOfHump.2.1 pc = .ok (i, n) := dec_of (c := mX7_topOfHump.2.1) ddX7_topOfHump_0 h
def fX7_topOfHump (v0 v1 : Int) (μ : Mm) : Option Int :=
  chk (KD v0 = 7) (
  (fX7_hasHump v0 v1 μ).bind fun r2 =>
  if r2 = 0 then
    some (-1)
  else
    chk (KD (μ v0 7) = 12 ∧ 0 ≤ v1 ∧ v1 < LN (μ v0 7)) (
    (fX7_topOfRay v0 (μ (μ v0 7) v1) μ).bind fun r5 =>
    some r5))
set_option maxRecDepth 20000 in
theorem gX7_topOfHump_0 (l : Launch) {F : FI} {v0 v1 : Int} {μ : Mm} {t : Int} (h : fX7_topOfHump v0 v1 μ = some t) (hK : F.1 = [(0, t)] ∧ F.2.1 = μ) : GM l mX7_topOfHump F 0 0 0 [(0, (3, v0)), (1, (0, v1))] [] μ := by
  unfold fX7_topOfHump at h
  refine GM_aload_n (pc := 0) 0 rfl (daX7_topOfHump_0 0 rfl) rfl ?_
  refine GM_iload_n (pc := 1) 1 rfl (daX7_topOfHump_0 1 rfl) rfl ?_
  obtain ⟨hc1, h⟩ := chk_inv h
  obtain ⟨r2, hf2, h⟩ := Option.bind_eq_some_iff.mp h
  refine GM_callV0 (pc := 2) [(0, v1)] (tX7_hasHump l hf2) cwX7_hasHump 7 (Nat.le_of_ble_eq_true rfl) rfl kv_X7_hasHump ke_X7_hasHump km_X7_41 hc1 ⟨Nat.le_of_ble_eq_true rfl, Nat.le_of_ble_eq_true rfl⟩ (Nat.le_of_ble_eq_true rfl) (Nat.le_of_ble_eq_true rfl) (daX7_topOfHump_0 2 rfl) ?_
  refine GM_if_eq (pc := 5) 21 (daX7_topOfHump_0 3 rfl) rfl (fun c3 => ?_) (fun c3 => ?_)
  · skip
    rw [if_pos c3] at h
    refine GM_iconst (pc := 21) (-1) (daX7_topOfHump_0 11 rfl) rfl (R32_b rfl) ?_
    cases h
    exact GM_iret (pc := 22) (daX7_topOfHump_0 12 rfl) rfl hK
  · skip
    rw [if_neg c3] at h
    refine GM_aload_n (pc := 8) 0 rfl (daX7_topOfHump_0 4 rfl) rfl ?_
    refine GM_aload_n (pc := 9) 0 rfl (daX7_topOfHump_0 5 rfl) rfl ?_
    refine GM_getf (pc := 10) 7 7 3 7 kf_X7_25 (Nat.le_of_ble_eq_true rfl) (Nat.le_of_ble_eq_true rfl) rfl (daX7_topOfHump_0 6 rfl) hc1 rfl ?_
    refine GM_iload_n (pc := 13) 1 rfl (daX7_topOfHump_0 7 rfl) rfl ?_
    obtain ⟨hc4, h⟩ := chk_inv h
    refine GM_iald (pc := 14) (daX7_topOfHump_0 8 rfl) hc4.1 hc4.2.1 hc4.2.2 ?_
    obtain ⟨r5, hf5, h⟩ := Option.bind_eq_some_iff.mp h
    refine GM_callV0 (pc := 15) [(0, μ (μ v0 7) v1)] (tX7_topOfRay l hf5) cwX7_topOfRay 7 (Nat.le_of_ble_eq_true rfl) rfl kv_X7_topOfRay ke_X7_topOfRay km_X7_48 hc1 ⟨Nat.le_of_ble_eq_true rfl, Nat.le_of_ble_eq_true rfl⟩ (Nat.le_of_ble_eq_true rfl) (Nat.le_of_ble_eq_true rfl) (daX7_topOfHump_0 9 rfl) ?_
    refine GM_goto (pc := 18) 22 (daX7_topOfHump_0 10 rfl) rfl ?_
    cases h
    exact GM_iret (pc := 22) (daX7_topOfHump_0 12 rfl) rfl hK
theorem tX7_topOfHump (l : Launch) {v0 v1 : Int} {μ : Mm} {t : Int} (h : fX7_topOfHump v0 v1 μ = some t) : Ct l yX7_topOfHump mX7_topOfHump [(3, v0), (0, v1)] μ ([(0, t)], μ, 0, 0) :=
  Ct_of (by decide +kernel) rfl rfl (Nat.le_of_ble_eq_true rfl) (fun _ _ _ => trivial) (gX7_topOfHump_0 l h ⟨rfl, rfl⟩)
def mX7_hasTop : MI := (RX7, cX7_hasTop, 3, (some .boolean), "hasTop", 2, 42, fun _ _ _ => True)
theorem cwX7_hasTop : CWd yX7_hasTop mX7_hasTop 1 := ⟨ki_X7, kk_X7_hasTop, ⟨by decide, by decide⟩, rfl⟩
def dtX7_hasTop_0 : List (Nat × Instr × Nat) := [(0, .iconst 0, 1), (1, .istore_n 2, 1), (2, .iload_n 2, 1), (3, .aload_n 0, 1), (4, .getfield 35, 3), (7, .if_icmp .ge 20, 3), (10, .aload_n 0, 1), (11, .iload_n 2, 1), (12, .invokevirtual 52, 3), (15, .iload_n 1, 1), (16, .if_icmp .ne 5, 3), (19, .iconst 1, 1), (20, .ireturn, 1), (21, .iinc 2 1, 3), (24, .goto (-22), 3), (27, .iconst 0, 1), (28, .ireturn, 1)]
theorem ddX7_hasTop_0 : (dtX7_hasTop_0.all fun e => decide (decode mX7_hasTop.2.1 e.1 = .ok (e.2.1, e.2.2))) = true := by decide +kernel
theorem daX7_hasTop_0 (j : Nat) {pc n : Nat} {i : Instr} (h : dtX7_hasTop_0[j]? = some (pc, i, n)) : decode mX7_hasTop.2.1 pc = .ok (i, n) := dec_of (c := mX7_hasTop.2.1) ddX7_hasTop_0 h
def zX7_hasTop_2 (l : Launch) (F : FI) (v0 v1 : Int) (μ : Mm) (k n : Nat) : Int ⊕ (Unit ⊕ Unit) → Prop
  | .inl v2 => GM l mX7_hasTop F k n 2 [(0, (3, v0)), (1, (0, v1)), (2, (0, v2))] [] μ
  | .inr (.inl ()) => GM l mX7_hasTop F k n 27 [] [] μ
  | .inr (.inr ()) => GM l mX7_hasTop F k n 19 [] [] μ
def sX7_hasTop_2 (v0 v1 : Int) (μ : Mm) : Int → Option (Int ⊕ (Unit ⊕ Unit)) := fun v2 =>
  chk (KD v0 = 7) (
  if μ v0 2 ≤ v2 then
    some (.inr (.inl ()))
  else
    (fX7_topOfHump v0 v2 μ).bind fun r3 =>
    if r3 = v1 then
      some (.inr (.inr ()))
    else
      some (.inl (w32 (v2 + 1))))
def fX7_hasTop (v0 v1 : Int) (μ : Mm) : Option Int :=
  (lop (sX7_hasTop_2 v0 v1 μ) FU 0).bind fun x5 =>
    match x5 with
    | (.inl ()) =>
        some 0
    | (.inr ()) =>
        some 1
set_option maxRecDepth 20000 in
theorem qX7_hasTop_2 (l : Launch) (F : FI) (v0 v1 : Int) (μ : Mm) (k n : Nat) : ∀ (q : Int) (t : (Int ⊕ (Unit ⊕ Unit))), sX7_hasTop_2 v0 v1 μ q = some t → zX7_hasTop_2 l F v0 v1 μ k n t → zX7_hasTop_2 l F v0 v1 μ k n (.inl q) := by
  intro q t h hK
  obtain ⟨v2, hqq⟩ : ∃ z, z = q := ⟨q, rfl⟩
  subst hqq
  unfold sX7_hasTop_2 at h
  try dsimp only at h
  show GM l mX7_hasTop F k n 2 [(0, (3, v0)), (1, (0, v1)), (2, (0, v2))] [] μ
  refine GM_iload_n (pc := 2) 2 rfl (daX7_hasTop_0 2 rfl) rfl ?_
  refine GM_aload_n (pc := 3) 0 rfl (daX7_hasTop_0 3 rfl) rfl ?_
  obtain ⟨hc1, h⟩ := chk_inv h
  refine GM_getf (pc := 4) 7 2 0 2 kf_X7_35 (Nat.le_of_ble_eq_true rfl) (Nat.le_of_ble_eq_true rfl) rfl (daX7_hasTop_0 4 rfl) hc1 rfl ?_
  refine GM_icmp_ge (pc := 7) 27 (daX7_hasTop_0 5 rfl) rfl (fun c2 => ?_) (fun c2 => ?_)
  · skip
    rw [if_pos c2] at h
    refine GM_pick [] rfl ?_
    cases h
    exact hK
  · skip
    rw [if_neg c2] at h
    refine GM_aload_n (pc := 10) 0 rfl (daX7_hasTop_0 6 rfl) rfl ?_
    refine GM_iload_n (pc := 11) 2 rfl (daX7_hasTop_0 7 rfl) rfl ?_
    obtain ⟨r3, hf3, h⟩ := Option.bind_eq_some_iff.mp h
    refine GM_callV0 (pc := 12) [(0, v2)] (tX7_topOfHump l hf3) cwX7_topOfHump 7 (Nat.le_of_ble_eq_true rfl) rfl kv_X7_topOfHump ke_X7_topOfHump km_X7_52 hc1 ⟨Nat.le_of_ble_eq_true rfl, Nat.le_of_ble_eq_true rfl⟩ (Nat.le_of_ble_eq_true rfl) (Nat.le_of_ble_eq_true rfl) (daX7_hasTop_0 8 rfl) ?_
    refine GM_iload_n (pc := 15) 1 rfl (daX7_hasTop_0 9 rfl) rfl ?_
    refine GM_icmp_ne (pc := 16) 21 (daX7_hasTop_0 10 rfl) rfl (fun c4 => ?_) (fun c4 => ?_)
    · skip
      rw [if_neg c4] at h
      refine GM_iinc (L' := [(2, (0, w32 (v2 + 1))), (0, (3, v0)), (1, (0, v1))]) (pc := 21) 2 rfl (daX7_hasTop_0 13 rfl) (Nat.le_of_ble_eq_true rfl) rfl ?_
      refine GM_goto (pc := 24) 2 (daX7_hasTop_0 14 rfl) rfl ?_
      refine GM_pick [1, 2, 0] rfl ?_
      cases h
      exact hK
    · skip
      rw [if_pos c4] at h
      refine GM_pick [] rfl ?_
      cases h
      exact hK
set_option maxRecDepth 20000 in
theorem gX7_hasTop_0 (l : Launch) {F : FI} {v0 v1 : Int} {μ : Mm} {t : Int} (h : fX7_hasTop v0 v1 μ = some t) (hK : F.1 = [(0, t)] ∧ F.2.1 = μ) : GM l mX7_hasTop F 0 0 0 [(0, (3, v0)), (1, (0, v1))] [] μ := by
  unfold fX7_hasTop at h
  refine GM_iconst (pc := 0) 0 (daX7_hasTop_0 0 rfl) rfl (R32_b rfl) ?_
  refine GM_istore_n (L' := [(2, (0, 0)), (0, (3, v0)), (1, (0, v1))]) (pc := 1) (daX7_hasTop_0 1 rfl) rfl (Nat.le_of_ble_eq_true rfl) rfl ?_
  refine GM_pick [1, 2, 0] rfl ?_
  obtain ⟨x5, hqx5, h⟩ := Option.bind_eq_some_iff.mp h
  refine lop_ind (zX7_hasTop_2 l F v0 v1 μ 0 0) (qX7_hasTop_2 l F v0 v1 μ 0 0) FU _ x5 hqx5 ?_
  rcases x5 with _ | _
  · dsimp only at h
    show GM l mX7_hasTop F 0 0 27 [] [] μ
    refine GM_iconst (pc := 27) 0 (daX7_hasTop_0 15 rfl) rfl (R32_b rfl) ?_
    cases h
    exact GM_zret (pc := 28) (daX7_hasTop_0 16 rfl) rfl (Or.inl rfl) hK
  · dsimp only at h
    show GM l mX7_hasTop F 0 0 19 [] [] μ
    refine GM_iconst (pc := 19) 1 (daX7_hasTop_0 11 rfl) rfl (R32_b rfl) ?_
    cases h
    exact GM_zret (pc := 20) (daX7_hasTop_0 12 rfl) rfl (Or.inr rfl) hK
theorem tX7_hasTop (l : Launch) {v0 v1 : Int} {μ : Mm} {t : Int} (h : fX7_hasTop v0 v1 μ = some t) : Ct l yX7_hasTop mX7_hasTop [(3, v0), (0, v1)] μ ([(0, t)], μ, 0, 0) :=
  Ct_of (by decide +kernel) rfl rfl (Nat.le_of_ble_eq_true rfl) (fun _ _ _ => trivial) (gX7_hasTop_0 l h ⟨rfl, rfl⟩)
def mX7_show : MI := (RX7, cX7_show, 6, none, "show", 0, 0, fun _ _ _ => True)
theorem cwX7_show : CWd yX7_show mX7_show 2 := ⟨ki_X7, kk_X7_show, ⟨by decide, by decide⟩, rfl⟩
def dtX7_show_0 : List (Nat × Instr × Nat) := [(0, .iload_n 1, 1), (1, .bipush 6, 2), (3, .ishr, 1), (4, .istore_n 3, 1), (5, .iload_n 3, 1), (6, .ifCond .lt 51, 3), (9, .iload_n 3, 1), (10, .iconst 3, 1), (11, .if_icmp .ge 46, 3), (14, .lconst 1, 1), (15, .iload_n 1, 1), (16, .bipush 63, 2), (18, .iand, 1), (19, .lshl, 1), (20, .lstore 4, 2), (22, .aload_n 0, 1), (23, .getfield 31, 3), (26, .iload_n 3, 1), (27, .iload_n 2, 1), (28, .ifCond .eq 15, 3), (31, .aload_n 0, 1), (32, .getfield 31, 3), (35, .iload_n 3, 1), (36, .laload, 1), (37, .lload 4, 2), (39, .lor, 1), (40, .goto 16, 3), (43, .aload_n 0, 1), (44, .getfield 31, 3), (47, .iload_n 3, 1), (48, .laload, 1), (49, .lload 4, 2), (51, .ldc2_w 55, 3), (54, .lxor, 1), (55, .land, 1), (56, .lastore, 1), (57, .return_, 1)]
theorem ddX7_show_0 : (dtX7_show_0.all fun e => decide (decode mX7_show.2.1 e.1 = .ok (e.2.1, e.2.2))) = true := by decide +kernel
theorem daX7_show_0 (j : Nat) {pc n : Nat} {i : Instr} (h : dtX7_show_0[j]? = some (pc, i, n)) : decode mX7_show.2.1 pc = .ok (i, n) := dec_of (c := mX7_show.2.1) ddX7_show_0 h
def fX7_show (v0 v1 v2 : Int) (μ : Mm) : Option Mm :=
  if ishr v1 6 < 0 then
    some μ
  else
    if 3 ≤ ishr v1 6 then
      some μ
    else
      chk (KD v0 = 7) (
      if v2 = 0 then
        chk (KD (μ v0 9) = 13 ∧ 0 ≤ ishr v1 6 ∧ ishr v1 6 < LN (μ v0 9)) (
        lm (mst μ (μ v0 9) (ishr v1 6) (land (μ (μ v0 9) (ishr v1 6)) (lxor (lshl 1 (iand v1 63)) (-1)))) fun μ6 =>
        some μ6)
      else
        chk (KD (μ v0 9) = 13 ∧ 0 ≤ ishr v1 6 ∧ ishr v1 6 < LN (μ v0 9)) (
        lm (mst μ (μ v0 9) (ishr v1 6) (lor (μ (μ v0 9) (ishr v1 6)) (lshl 1 (iand v1 63)))) fun μ8 =>
        some μ8))
set_option maxRecDepth 20000 in
theorem gX7_show_0 (l : Launch) {F : FI} {v0 v1 v2 : Int} {μ : Mm} {t : Mm} (h : fX7_show v0 v1 v2 μ = some t) (hK : F.1 = [] ∧ F.2.1 = t) : GM l mX7_show F 0 0 0 [(0, (3, v0)), (1, (0, v1)), (2, (0, v2))] [] μ := by
  unfold fX7_show at h
  refine GM_iload_n (pc := 0) 1 rfl (daX7_show_0 0 rfl) rfl ?_
  refine GM_bipush (pc := 1) 6 (daX7_show_0 1 rfl) rfl (R32_b rfl) ?_
  refine GM_ishr (pc := 3) (daX7_show_0 2 rfl) ?_
  refine GM_istore_n (L' := [(3, (0, ishr v1 6)), (0, (3, v0)), (1, (0, v1)), (2, (0, v2))]) (pc := 4) (daX7_show_0 3 rfl) rfl (Nat.le_of_ble_eq_true rfl) rfl ?_
  refine GM_iload_n (pc := 5) 0 rfl (daX7_show_0 4 rfl) rfl ?_
  refine GM_if_lt (pc := 6) 57 (daX7_show_0 5 rfl) rfl (fun c1 => ?_) (fun c1 => ?_)
  · skip
    rw [if_pos c1] at h
    cases h
    exact GM_vret (pc := 57) (daX7_show_0 36 rfl) rfl hK
  · skip
    rw [if_neg c1] at h
    refine GM_iload_n (pc := 9) 0 rfl (daX7_show_0 6 rfl) rfl ?_
    refine GM_iconst (pc := 10) 3 (daX7_show_0 7 rfl) rfl (R32_b rfl) ?_
    refine GM_icmp_ge (pc := 11) 57 (daX7_show_0 8 rfl) rfl (fun c2 => ?_) (fun c2 => ?_)
    · skip
      rw [if_pos c2] at h
      cases h
      exact GM_vret (pc := 57) (daX7_show_0 36 rfl) rfl hK
    · skip
      rw [if_neg c2] at h
      refine GM_lconst (pc := 14) 1 (daX7_show_0 9 rfl) rfl (R64_b rfl) ?_
      refine GM_iload_n (pc := 15) 2 rfl (daX7_show_0 10 rfl) rfl ?_
      refine GM_bipush (pc := 16) 63 (daX7_show_0 11 rfl) rfl (R32_b rfl) ?_
      refine GM_iand (pc := 18) (daX7_show_0 12 rfl) ?_
      refine GM_lshl (pc := 19) (daX7_show_0 13 rfl) ?_
      refine GM_lstore (L' := [(4, (2, lshl 1 (iand v1 63))), (3, (0, ishr v1 6)), (0, (3, v0)), (1, (0, v1)), (2, (0, v2))]) (pc := 20) (daX7_show_0 14 rfl) (Nat.le_of_ble_eq_true rfl) rfl ?_
      refine GM_aload_n (pc := 22) 2 rfl (daX7_show_0 15 rfl) rfl ?_
      obtain ⟨hc3, h⟩ := chk_inv h
      refine GM_getf (pc := 23) 7 9 3 9 kf_X7_31 (Nat.le_of_ble_eq_true rfl) (Nat.le_of_ble_eq_true rfl) rfl (daX7_show_0 16 rfl) hc3 rfl ?_
      refine GM_iload_n (pc := 26) 1 rfl (daX7_show_0 17 rfl) rfl ?_
      refine GM_iload_n (pc := 27) 4 rfl (daX7_show_0 18 rfl) rfl ?_
      refine GM_if_eq (pc := 28) 43 (daX7_show_0 19 rfl) rfl (fun c4 => ?_) (fun c4 => ?_)
      · skip
        rw [if_pos c4] at h
        refine GM_aload_n (pc := 43) 2 rfl (daX7_show_0 27 rfl) rfl ?_
        refine GM_getf (pc := 44) 7 9 3 9 kf_X7_31 (Nat.le_of_ble_eq_true rfl) (Nat.le_of_ble_eq_true rfl) rfl (daX7_show_0 28 rfl) hc3 rfl ?_
        refine GM_iload_n (pc := 47) 1 rfl (daX7_show_0 29 rfl) rfl ?_
        obtain ⟨hc5, h⟩ := chk_inv h
        refine GM_lald (pc := 48) (daX7_show_0 30 rfl) hc5.1 hc5.2.1 hc5.2.2 ?_
        refine GM_lload (pc := 49) 0 rfl (daX7_show_0 31 rfl) ?_
        refine GM_ldc2 (pc := 51) (-1) (by have q := kq_X7_55; rw [show (-1 : Int64) = Int64.ofInt (-1) by decide] at q; exact q) (daX7_show_0 32 rfl) (R64_b rfl) ?_
        refine GM_lxor (pc := 54) (daX7_show_0 33 rfl) ?_
        refine GM_land (pc := 55) (daX7_show_0 34 rfl) ?_
        obtain ⟨μ6, hμ6, h⟩ := lm_inv h
        refine GM_last (pc := 56) (daX7_show_0 35 rfl) hc5.1 hc5.2.1 hc5.2.2 ?_
        refine GM_mem hμ6 ?_
        cases h
        exact GM_vret (pc := 57) (daX7_show_0 36 rfl) rfl hK
      · skip
        rw [if_neg c4] at h
        refine GM_aload_n (pc := 31) 2 rfl (daX7_show_0 20 rfl) rfl ?_
        refine GM_getf (pc := 32) 7 9 3 9 kf_X7_31 (Nat.le_of_ble_eq_true rfl) (Nat.le_of_ble_eq_true rfl) rfl (daX7_show_0 21 rfl) hc3 rfl ?_
        refine GM_iload_n (pc := 35) 1 rfl (daX7_show_0 22 rfl) rfl ?_
        obtain ⟨hc7, h⟩ := chk_inv h
        refine GM_lald (pc := 36) (daX7_show_0 23 rfl) hc7.1 hc7.2.1 hc7.2.2 ?_
        refine GM_lload (pc := 37) 0 rfl (daX7_show_0 24 rfl) ?_
        refine GM_lor (pc := 39) (daX7_show_0 25 rfl) ?_
        refine GM_goto (pc := 40) 56 (daX7_show_0 26 rfl) rfl ?_
        obtain ⟨μ8, hμ8, h⟩ := lm_inv h
        refine GM_last (pc := 56) (daX7_show_0 35 rfl) hc7.1 hc7.2.1 hc7.2.2 ?_
        refine GM_mem hμ8 ?_
        cases h
        exact GM_vret (pc := 57) (daX7_show_0 36 rfl) rfl hK
theorem tX7_show (l : Launch) {v0 v1 v2 : Int} {μ : Mm} {t : Mm} (h : fX7_show v0 v1 v2 μ = some t) : Ct l yX7_show mX7_show [(3, v0), (0, v1), (0, v2)] μ ([], t, 0, 0) :=
  Ct_of (by decide +kernel) rfl rfl (Nat.le_of_ble_eq_true rfl) (fun _ _ _ => trivial) (gX7_show_0 l h ⟨rfl, rfl⟩)
def mX7_shows : MI := (RX7, cX7_shows, 3, (some .boolean), "shows", 0, 0, fun _ _ _ => True)
theorem cwX7_shows : CWd yX7_shows mX7_shows 1 := ⟨ki_X7, kk_X7_shows, ⟨by decide, by decide⟩, rfl⟩
def dtX7_shows_0 : List (Nat × Instr × Nat) := [(0, .iload_n 1, 1), (1, .bipush 6, 2), (3, .ishr, 1), (4, .istore_n 2, 1), (5, .iload_n 2, 1), (6, .ifCond .lt 30, 3), (9, .iload_n 2, 1), (10, .iconst 3, 1), (11, .if_icmp .ge 25, 3), (14, .aload_n 0, 1), (15, .getfield 31, 3), (18, .iload_n 2, 1), (19, .laload, 1), (20, .iload_n 1, 1), (21, .bipush 63, 2), (23, .iand, 1), (24, .lushr, 1), (25, .lconst 1, 1), (26, .land, 1), (27, .lconst 0, 1), (28, .lcmp, 1), (29, .ifCond .eq 7, 3), (32, .iconst 1, 1), (33, .goto 4, 3), (36, .iconst 0, 1), (37, .ireturn, 1)]
theorem ddX7_shows_0 : (dtX7_shows_0.all fun e => decide (decode mX7_shows.2.1 e.1 = .ok (e.2.1, e.2.2))) = true := by decide +kernel
theorem daX7_shows_0 (j : Nat) {pc n : Nat} {i : Instr} (h : dtX7_shows_0[j]? = some (pc, i, n)) : decode mX7_shows.2.1 pc = .ok (i, n) := dec_of (c := mX7_shows.2.1) ddX7_shows_0 h
def fX7_shows (v0 v1 : Int) (μ : Mm) : Option Int :=
  if ishr v1 6 < 0 then
    some 0
  else
    if 3 ≤ ishr v1 6 then
      some 0
    else
      chk (KD v0 = 7) (
      chk (KD (μ v0 9) = 13 ∧ 0 ≤ ishr v1 6 ∧ ishr v1 6 < LN (μ v0 9)) (
      if land (lushr (μ (μ v0 9) (ishr v1 6)) (iand v1 63)) 1 = 0 then
        some 0
      else
        some 1))
set_option maxRecDepth 20000 in
theorem gX7_shows_0 (l : Launch) {F : FI} {v0 v1 : Int} {μ : Mm} {t : Int} (h : fX7_shows v0 v1 μ = some t) (hK : F.1 = [(0, t)] ∧ F.2.1 = μ) : GM l mX7_shows F 0 0 0 [(0, (3, v0)), (1, (0, v1))] [] μ := by
  unfold fX7_shows at h
  refine GM_iload_n (pc := 0) 1 rfl (daX7_shows_0 0 rfl) rfl ?_
  refine GM_bipush (pc := 1) 6 (daX7_shows_0 1 rfl) rfl (R32_b rfl) ?_
  refine GM_ishr (pc := 3) (daX7_shows_0 2 rfl) ?_
  refine GM_istore_n (L' := [(2, (0, ishr v1 6)), (0, (3, v0)), (1, (0, v1))]) (pc := 4) (daX7_shows_0 3 rfl) rfl (Nat.le_of_ble_eq_true rfl) rfl ?_
  refine GM_iload_n (pc := 5) 0 rfl (daX7_shows_0 4 rfl) rfl ?_
  refine GM_if_lt (pc := 6) 36 (daX7_shows_0 5 rfl) rfl (fun c1 => ?_) (fun c1 => ?_)
  · skip
    rw [if_pos c1] at h
    refine GM_iconst (pc := 36) 0 (daX7_shows_0 24 rfl) rfl (R32_b rfl) ?_
    cases h
    exact GM_zret (pc := 37) (daX7_shows_0 25 rfl) rfl (Or.inl rfl) hK
  · skip
    rw [if_neg c1] at h
    refine GM_iload_n (pc := 9) 0 rfl (daX7_shows_0 6 rfl) rfl ?_
    refine GM_iconst (pc := 10) 3 (daX7_shows_0 7 rfl) rfl (R32_b rfl) ?_
    refine GM_icmp_ge (pc := 11) 36 (daX7_shows_0 8 rfl) rfl (fun c2 => ?_) (fun c2 => ?_)
    · skip
      rw [if_pos c2] at h
      refine GM_iconst (pc := 36) 0 (daX7_shows_0 24 rfl) rfl (R32_b rfl) ?_
      cases h
      exact GM_zret (pc := 37) (daX7_shows_0 25 rfl) rfl (Or.inl rfl) hK
    · skip
      rw [if_neg c2] at h
      refine GM_aload_n (pc := 14) 1 rfl (daX7_shows_0 9 rfl) rfl ?_
      obtain ⟨hc3, h⟩ := chk_inv h
      refine GM_getf (pc := 15) 7 9 3 9 kf_X7_31 (Nat.le_of_ble_eq_true rfl) (Nat.le_of_ble_eq_true rfl) rfl (daX7_shows_0 10 rfl) hc3 rfl ?_
      refine GM_iload_n (pc := 18) 0 rfl (daX7_shows_0 11 rfl) rfl ?_
      obtain ⟨hc4, h⟩ := chk_inv h
      refine GM_lald (pc := 19) (daX7_shows_0 12 rfl) hc4.1 hc4.2.1 hc4.2.2 ?_
      refine GM_iload_n (pc := 20) 2 rfl (daX7_shows_0 13 rfl) rfl ?_
      refine GM_bipush (pc := 21) 63 (daX7_shows_0 14 rfl) rfl (R32_b rfl) ?_
      refine GM_iand (pc := 23) (daX7_shows_0 15 rfl) ?_
      refine GM_lushr (pc := 24) (daX7_shows_0 16 rfl) ?_
      refine GM_lconst (pc := 25) 1 (daX7_shows_0 17 rfl) rfl (R64_b rfl) ?_
      refine GM_land (pc := 26) (daX7_shows_0 18 rfl) ?_
      refine GM_lconst (pc := 27) 0 (daX7_shows_0 19 rfl) rfl (R64_b rfl) ?_
      refine GM_lcmp (pc := 28) (daX7_shows_0 20 rfl) ?_
      refine GM_if_eq (pc := 29) 36 (daX7_shows_0 21 rfl) rfl (fun c5 => ?_) (fun c5 => ?_)
      · skip
        have c5 := lcmp_eq.mp c5
        rw [if_pos c5] at h
        refine GM_iconst (pc := 36) 0 (daX7_shows_0 24 rfl) rfl (R32_b rfl) ?_
        cases h
        exact GM_zret (pc := 37) (daX7_shows_0 25 rfl) rfl (Or.inl rfl) hK
      · skip
        have c5 := (not_congr lcmp_eq).mp c5
        rw [if_neg c5] at h
        refine GM_iconst (pc := 32) 1 (daX7_shows_0 22 rfl) rfl (R32_b rfl) ?_
        refine GM_goto (pc := 33) 37 (daX7_shows_0 23 rfl) rfl ?_
        cases h
        exact GM_zret (pc := 37) (daX7_shows_0 25 rfl) rfl (Or.inr rfl) hK
theorem tX7_shows (l : Launch) {v0 v1 : Int} {μ : Mm} {t : Int} (h : fX7_shows v0 v1 μ = some t) : Ct l yX7_shows mX7_shows [(3, v0), (0, v1)] μ ([(0, t)], μ, 0, 0) :=
  Ct_of (by decide +kernel) rfl rfl (Nat.le_of_ble_eq_true rfl) (fun _ _ _ => trivial) (gX7_shows_0 l h ⟨rfl, rfl⟩)
def mX7_countShown : MI := (RX7, cX7_countShown, 3, (some .int), "countShown", 1, 21, fun _ _ _ => True)
theorem cwX7_countShown : CWd yX7_countShown mX7_countShown 0 := ⟨ki_X7, kk_X7_countShown, ⟨by decide, by decide⟩, rfl⟩
def dtX7_countShown_0 : List (Nat × Instr × Nat) := [(0, .iconst 0, 1), (1, .istore_n 1, 1), (2, .iconst 0, 1), (3, .istore_n 2, 1), (4, .iload_n 2, 1), (5, .iconst 3, 1), (6, .if_icmp .ge 21, 3), (9, .iload_n 1, 1), (10, .aload_n 0, 1), (11, .getfield 31, 3), (14, .iload_n 2, 1), (15, .laload, 1), (16, .invokestatic 57, 3), (19, .iadd, 1), (20, .istore_n 1, 1), (21, .iinc 2 1, 3), (24, .goto (-20), 3), (27, .iload_n 1, 1), (28, .ireturn, 1)]
theorem ddX7_countShown_0 : (dtX7_countShown_0.all fun e => decide (decode mX7_countShown.2.1 e.1 = .ok (e.2.1, e.2.2))) = true := by decide +kernel
theorem daX7_countShown_0 (j : Nat) {pc n : Nat} {i : Instr} (h : dtX7_countShown_0[j]? = some (pc, i, n)) : decode mX7_countShown.2.1 pc = .ok (i, n) := dec_of (c := mX7_countShown.2.1) ddX7_countShown_0 h
def zX7_countShown_4 (l : Launch) (F : FI) (v0 : Int) (μ : Mm) (k n : Nat) : (Int × Int) ⊕ Int → Prop
  | .inl (v1, v2) => GM l mX7_countShown F k n 4 [(0, (3, v0)), (1, (0, v1)), (2, (0, v2))] [] μ
  | .inr v1 => GM l mX7_countShown F k n 27 [(1, (0, v1))] [] μ
def sX7_countShown_4 (v0 : Int) (μ : Mm) : (Int × Int) → Option ((Int × Int) ⊕ Int) := fun (v1, v2) =>
  if 3 ≤ v2 then
    some (.inr v1)
  else
    chk (KD v0 = 7) (
    chk (KD (μ v0 9) = 13 ∧ 0 ≤ v2 ∧ v2 < LN (μ v0 9)) (
    lt (w32 (v1 + (lbits (μ (μ v0 9) v2)))) fun y4 =>
    some (.inl (y4, w32 (v2 + 1)))))
def fX7_countShown (v0 : Int) (μ : Mm) : Option Int :=
  (lop (sX7_countShown_4 v0 μ) FU (0, 0)).bind fun v1_6 =>
    some v1_6
set_option maxRecDepth 20000 in
theorem qX7_countShown_4 (l : Launch) (F : FI) (v0 : Int) (μ : Mm) (k n : Nat) : ∀ (q : (Int × Int)) (t : ((Int × Int) ⊕ Int)), sX7_countShown_4 v0 μ q = some t → zX7_countShown_4 l F v0 μ k n t → zX7_countShown_4 l F v0 μ k n (.inl q) := by
  intro q t h hK
  obtain ⟨v1, v2⟩ := q
  unfold sX7_countShown_4 at h
  try dsimp only at h
  show GM l mX7_countShown F k n 4 [(0, (3, v0)), (1, (0, v1)), (2, (0, v2))] [] μ
  refine GM_iload_n (pc := 4) 2 rfl (daX7_countShown_0 4 rfl) rfl ?_
  refine GM_iconst (pc := 5) 3 (daX7_countShown_0 5 rfl) rfl (R32_b rfl) ?_
  refine GM_icmp_ge (pc := 6) 27 (daX7_countShown_0 6 rfl) rfl (fun c1 => ?_) (fun c1 => ?_)
  · skip
    rw [if_pos c1] at h
    refine GM_pick [1] rfl ?_
    cases h
    exact hK
  · skip
    rw [if_neg c1] at h
    refine GM_iload_n (pc := 9) 1 rfl (daX7_countShown_0 7 rfl) rfl ?_
    refine GM_aload_n (pc := 10) 0 rfl (daX7_countShown_0 8 rfl) rfl ?_
    obtain ⟨hc2, h⟩ := chk_inv h
    refine GM_getf (pc := 11) 7 9 3 9 kf_X7_31 (Nat.le_of_ble_eq_true rfl) (Nat.le_of_ble_eq_true rfl) rfl (daX7_countShown_0 9 rfl) hc2 rfl ?_
    refine GM_iload_n (pc := 14) 2 rfl (daX7_countShown_0 10 rfl) rfl ?_
    obtain ⟨hc3, h⟩ := chk_inv h
    refine GM_lald (pc := 15) (daX7_countShown_0 11 rfl) hc3.1 hc3.2.1 hc3.2.2 ?_
    refine GM_callS0 (pc := 16) [(2, μ (μ v0 9) v2)] (tJ13_bitCount_95d88 l (fJ13_bits_eq (μ (μ v0 9) v2))) cwJ13_bitCount_95d88 ks_J13_bitCount_95d88 km_X7_57 ⟨Nat.le_of_ble_eq_true rfl, Nat.le_of_ble_eq_true rfl⟩ (Nat.le_of_ble_eq_true rfl) (Nat.le_of_ble_eq_true rfl) (daX7_countShown_0 12 rfl) ?_
    refine GM_iadd (pc := 19) (daX7_countShown_0 13 rfl) ?_
    obtain ⟨y4, hy4, h⟩ := lt_inv h
    refine GM_top hy4 ?_
    refine GM_istore_n (L' := [(1, (0, y4)), (0, (3, v0)), (2, (0, v2))]) (pc := 20) (daX7_countShown_0 14 rfl) rfl (Nat.le_of_ble_eq_true rfl) rfl ?_
    refine GM_iinc (L' := [(2, (0, w32 (v2 + 1))), (1, (0, y4)), (0, (3, v0))]) (pc := 21) 2 rfl (daX7_countShown_0 15 rfl) (Nat.le_of_ble_eq_true rfl) rfl ?_
    refine GM_goto (pc := 24) 4 (daX7_countShown_0 16 rfl) rfl ?_
    refine GM_pick [2, 1, 0] rfl ?_
    cases h
    exact hK
set_option maxRecDepth 20000 in
theorem gX7_countShown_0 (l : Launch) {F : FI} {v0 : Int} {μ : Mm} {t : Int} (h : fX7_countShown v0 μ = some t) (hK : F.1 = [(0, t)] ∧ F.2.1 = μ) : GM l mX7_countShown F 0 0 0 [(0, (3, v0))] [] μ := by
  unfold fX7_countShown at h
  refine GM_iconst (pc := 0) 0 (daX7_countShown_0 0 rfl) rfl (R32_b rfl) ?_
  refine GM_istore_n (L' := [(1, (0, 0)), (0, (3, v0))]) (pc := 1) (daX7_countShown_0 1 rfl) rfl (Nat.le_of_ble_eq_true rfl) rfl ?_
  refine GM_iconst (pc := 2) 0 (daX7_countShown_0 2 rfl) rfl (R32_b rfl) ?_
  refine GM_istore_n (L' := [(2, (0, 0)), (1, (0, 0)), (0, (3, v0))]) (pc := 3) (daX7_countShown_0 3 rfl) rfl (Nat.le_of_ble_eq_true rfl) rfl ?_
  refine GM_pick [2, 1, 0] rfl ?_
  obtain ⟨x5, hqx5, h⟩ := Option.bind_eq_some_iff.mp h
  refine lop_ind (zX7_countShown_4 l F v0 μ 0 0) (qX7_countShown_4 l F v0 μ 0 0) FU _ x5 hqx5 ?_
  obtain ⟨v1_6, hqq⟩ : ∃ z, z = x5 := ⟨x5, rfl⟩
  subst hqq
  show GM l mX7_countShown F 0 0 27 [(1, (0, v1_6))] [] μ
  refine GM_iload_n (pc := 27) 0 rfl (daX7_countShown_0 17 rfl) rfl ?_
  cases h
  exact GM_iret (pc := 28) (daX7_countShown_0 18 rfl) rfl hK
theorem tX7_countShown (l : Launch) {v0 : Int} {μ : Mm} {t : Int} (h : fX7_countShown v0 μ = some t) : Ct l yX7_countShown mX7_countShown [(3, v0)] μ ([(0, t)], μ, 0, 0) :=
  Ct_of (by decide +kernel) rfl rfl (Nat.le_of_ble_eq_true rfl) (fun _ _ _ => trivial) (gX7_countShown_0 l h ⟨rfl, rfl⟩)
