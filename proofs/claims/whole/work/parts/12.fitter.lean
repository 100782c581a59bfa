def mX1_init : MI := (RX1, cX1_init, 1, none, "<init>", 2, 36, fun _ _ _ => True)
theorem cwX1_init : CWd yX1_init mX1_init 0 := ⟨ki_X1, kk_X1_init, ⟨by decide, by decide⟩, rfl⟩
def dtX1_init_0 : List (Nat × Instr × Nat) := [(0, .aload_n 0, 1), (1, .invokespecial 3, 3), (4, .aload_n 0, 1), (5, .new 9, 3), (8, .dup, 1), (9, .invokespecial 11, 3), (12, .putfield 12, 3), (15, .aload_n 0, 1), (16, .new 18, 3), (19, .dup, 1), (20, .invokespecial 20, 3), (23, .putfield 21, 3), (26, .aload_n 0, 1), (27, .new 25, 3), (30, .dup, 1), (31, .invokespecial 27, 3), (34, .putfield 28, 3), (37, .aload_n 0, 1), (38, .bipush 25, 2), (40, .newarray .int, 2), (42, .putfield 32, 3), (45, .aload_n 0, 1), (46, .bipush 12, 2), (48, .newarray .int, 2), (50, .putfield 36, 3), (53, .aload_n 0, 1), (54, .bipush 12, 2), (56, .newarray .int, 2), (58, .putfield 39, 3), (61, .aload_n 0, 1), (62, .bipush 16, 2), (64, .newarray .int, 2), (66, .putfield 42, 3), (69, .return_, 1)]
theorem ddX1_init_0 : (dtX1_init_0.all fun e => decide (decode mX1_init.2.1 e.1 = .ok (e.2.1, e.2.2))) = true := by decide +kernel
theorem daX1_init_0 (j : Nat) {pc n : Nat} {i : Instr} (h : dtX1_init_0[j]? = some (pc, i, n)) : decode mX1_init.2.1 pc = .ok (i, n) := dec_of (c := mX1_init.2.1) ddX1_init_0 h
def fX1_init (v0 : Int) (μ : Mm) : Option (Mm × Nat × Nat) :=
  chk (v0 ≠ 0) (
  chk (KD (v0 + 10) = 2 ∧ μ 0 (v0 + 10) = 0) (
  pay 1 11 (
  lm (mnw μ (v0 + 10)) fun μ4 =>
  chk (v0 + 10 ≠ 0) (
  (fX2_init (v0 + 10) μ4).bind fun (μ6, c6, n6) =>
  pay c6 n6 (
  chk (KD v0 = 1) (
  lm (mst μ6 v0 0 (v0 + 10)) fun μ9 =>
  chk (KD (v0 + 20) = 6 ∧ μ9 0 (v0 + 20) = 0) (
  pay 1 9 (
  lm (mnw μ9 (v0 + 20)) fun μ12 =>
  chk (v0 + 20 ≠ 0) (
  (fX6_init (v0 + 20) μ12).bind fun (μ14, c14, n14) =>
  pay c14 n14 (
  lm (mst μ14 v0 1 (v0 + 20)) fun μ16 =>
  chk (KD (v0 + 30) = 7 ∧ μ16 0 (v0 + 30) = 0) (
  pay 1 10 (
  lm (mnw μ16 (v0 + 30)) fun μ19 =>
  chk (v0 + 30 ≠ 0) (
  (fX7_init (v0 + 30) μ19).bind fun (μ21, c21, n21) =>
  pay c21 n21 (
  lm (mst μ21 v0 2 (v0 + 30)) fun μ23 =>
  chk (KD (v0 + 1) = 12 ∧ LN (v0 + 1) = 25 ∧ μ23 0 (v0 + 1) = 0) (
  pay 1 25 (
  lm (mnw μ23 (v0 + 1)) fun μ26 =>
  lm (mst μ26 v0 4 (v0 + 1)) fun μ27 =>
  chk (KD (v0 + 2) = 12 ∧ LN (v0 + 2) = 12 ∧ μ27 0 (v0 + 2) = 0) (
  pay 1 12 (
  lm (mnw μ27 (v0 + 2)) fun μ30 =>
  lm (mst μ30 v0 9 (v0 + 2)) fun μ31 =>
  chk (KD (v0 + 3) = 12 ∧ LN (v0 + 3) = 12 ∧ μ31 0 (v0 + 3) = 0) (
  pay 1 12 (
  lm (mnw μ31 (v0 + 3)) fun μ34 =>
  lm (mst μ34 v0 10 (v0 + 3)) fun μ35 =>
  chk (KD (v0 + 4) = 12 ∧ LN (v0 + 4) = 16 ∧ μ35 0 (v0 + 4) = 0) (
  pay 1 16 (
  lm (mnw μ35 (v0 + 4)) fun μ38 =>
  lm (mst μ38 v0 11 (v0 + 4)) fun μ39 =>
  some (μ39, 0, 0)))))))))))))))))))))))
set_option maxRecDepth 20000 in
theorem gX1_init_0 (l : Launch) {F : FI} {v0 : Int} {μ : Mm} {t : Mm} {c0 n0 k n : Nat} (h : fX1_init v0 μ = some (t, c0, n0)) (hK : F.1 = [] ∧ F.2.1 = t) : GM l mX1_init F (c0 + k) (n0 + n) 0 [(0, (3, v0))] [] μ := by
  unfold fX1_init at h
  refine GM_aload_n (pc := 0) 0 rfl (daX1_init_0 0 rfl) rfl ?_
  obtain ⟨hc1, h⟩ := chk_inv h
  refine GM_objInit (pc := 1) km_X1_3 kv__java_lang_Object__init____V_ kk_obj (daX1_init_0 1 rfl) hc1 ⟨Nat.le_of_ble_eq_true rfl, Nat.le_of_ble_eq_true rfl⟩ ?_
  refine GM_aload_n (pc := 4) 0 rfl (daX1_init_0 2 rfl) rfl ?_
  obtain ⟨hc2, h⟩ := chk_inv h
  obtain ⟨c3, n3, hp, e1, e2⟩ := pay_inv h
  subst e1 e2
  replace h := hp
  clear hp
  rw [Nat.add_assoc, Nat.add_assoc]
  obtain ⟨μ4, hμ4, h⟩ := lm_inv h
  refine GM_new (pc := 5) 2 (v0 + 10) (by decide) kc_X1_9 (daX1_init_0 3 rfl) hc2.1 hc2.2 ?_
  refine GM_mem hμ4 ?_
  refine GM_dup (pc := 8) (daX1_init_0 4 rfl) (Nat.ne_of_beq_eq_false rfl) ?_
  obtain ⟨hc5, h⟩ := chk_inv h
  obtain ⟨⟨μ6, c6, n6⟩, hf6, h⟩ := Option.bind_eq_some_iff.mp h
  dsimp only at h
  obtain ⟨c7, n7, hp, e1, e2⟩ := pay_inv h
  subst e1 e2
  replace h := hp
  clear hp
  rw [Nat.add_assoc, Nat.add_assoc]
  refine GM_callIN (pc := 9) [] (tX2_init l hf6) cwX2_init "HillSketch" rfl rfl kv_X2_init (by decide) hc5 ⟨Nat.le_of_ble_eq_true rfl, Nat.le_of_ble_eq_true rfl⟩ (Nat.le_of_ble_eq_true rfl) (Nat.le_of_ble_eq_true rfl) (daX1_init_0 5 rfl) ?_
  obtain ⟨hc8, h⟩ := chk_inv h
  obtain ⟨μ9, hμ9, h⟩ := lm_inv h
  refine GM_putf (pc := 12) 1 0 3 kf_X1_12 (Nat.le_of_ble_eq_true rfl) (Nat.le_of_ble_eq_true rfl) rfl rfl (daX1_init_0 6 rfl) hc8 (fun q => absurd q (by decide)) ?_
  refine GM_mem hμ9 ?_
  refine GM_aload_n (pc := 15) 0 rfl (daX1_init_0 7 rfl) rfl ?_
  obtain ⟨hc10, h⟩ := chk_inv h
  obtain ⟨c11, n11, hp, e1, e2⟩ := pay_inv h
  subst e1 e2
  replace h := hp
  clear hp
  rw [Nat.add_assoc, Nat.add_assoc]
  obtain ⟨μ12, hμ12, h⟩ := lm_inv h
  refine GM_new (pc := 16) 6 (v0 + 20) (by decide) kc_X1_18 (daX1_init_0 8 rfl) hc10.1 hc10.2 ?_
  refine GM_mem hμ12 ?_
  refine GM_dup (pc := 19) (daX1_init_0 9 rfl) (Nat.ne_of_beq_eq_false rfl) ?_
  obtain ⟨hc13, h⟩ := chk_inv h
  obtain ⟨⟨μ14, c14, n14⟩, hf14, h⟩ := Option.bind_eq_some_iff.mp h
  dsimp only at h
  obtain ⟨c15, n15, hp, e1, e2⟩ := pay_inv h
  subst e1 e2
  replace h := hp
  clear hp
  rw [Nat.add_assoc, Nat.add_assoc]
  refine GM_callIN (pc := 20) [] (tX6_init l hf14) cwX6_init "HillSketch" rfl rfl kv_X6_init (by decide) hc13 ⟨Nat.le_of_ble_eq_true rfl, Nat.le_of_ble_eq_true rfl⟩ (Nat.le_of_ble_eq_true rfl) (Nat.le_of_ble_eq_true rfl) (daX1_init_0 10 rfl) ?_
  obtain ⟨μ16, hμ16, h⟩ := lm_inv h
  refine GM_putf (pc := 23) 1 1 3 kf_X1_21 (Nat.le_of_ble_eq_true rfl) (Nat.le_of_ble_eq_true rfl) rfl rfl (daX1_init_0 11 rfl) hc8 (fun q => absurd q (by decide)) ?_
  refine GM_mem hμ16 ?_
  refine GM_aload_n (pc := 26) 0 rfl (daX1_init_0 12 rfl) rfl ?_
  obtain ⟨hc17, h⟩ := chk_inv h
  obtain ⟨c18, n18, hp, e1, e2⟩ := pay_inv h
  subst e1 e2
  replace h := hp
  clear hp
  rw [Nat.add_assoc, Nat.add_assoc]
  obtain ⟨μ19, hμ19, h⟩ := lm_inv h
  refine GM_new (pc := 27) 7 (v0 + 30) (by decide) kc_X1_25 (daX1_init_0 13 rfl) hc17.1 hc17.2 ?_
  refine GM_mem hμ19 ?_
  refine GM_dup (pc := 30) (daX1_init_0 14 rfl) (Nat.ne_of_beq_eq_false rfl) ?_
  obtain ⟨hc20, h⟩ := chk_inv h
  obtain ⟨⟨μ21, c21, n21⟩, hf21, h⟩ := Option.bind_eq_some_iff.mp h
  dsimp only at h
  obtain ⟨c22, n22, hp, e1, e2⟩ := pay_inv h
  subst e1 e2
  replace h := hp
  clear hp
  rw [Nat.add_assoc, Nat.add_assoc]
  refine GM_callIN (pc := 31) [] (tX7_init l hf21) cwX7_init "HillSketch" rfl rfl kv_X7_init (by decide) hc20 ⟨Nat.le_of_ble_eq_true rfl, Nat.le_of_ble_eq_true rfl⟩ (Nat.le_of_ble_eq_true rfl) (Nat.le_of_ble_eq_true rfl) (daX1_init_0 15 rfl) ?_
  obtain ⟨μ23, hμ23, h⟩ := lm_inv h
  refine GM_putf (pc := 34) 1 2 3 kf_X1_28 (Nat.le_of_ble_eq_true rfl) (Nat.le_of_ble_eq_true rfl) rfl rfl (daX1_init_0 16 rfl) hc8 (fun q => absurd q (by decide)) ?_
  refine GM_mem hμ23 ?_
  refine GM_aload_n (pc := 37) 0 rfl (daX1_init_0 17 rfl) rfl ?_
  refine GM_bipush (pc := 38) 25 (daX1_init_0 18 rfl) rfl (R32_b rfl) ?_
  obtain ⟨hc24, h⟩ := chk_inv h
  obtain ⟨c25, n25, hp, e1, e2⟩ := pay_inv h
  subst e1 e2
  replace h := hp
  clear hp
  rw [Nat.add_assoc, Nat.add_assoc]
  obtain ⟨μ26, hμ26, h⟩ := lm_inv h
  refine GM_newi (pc := 40) (N := 25) (v0 + 1) (daX1_init_0 19 rfl) hc24.1 hc24.2.1 (Nat.le_of_ble_eq_true rfl) hc24.2.2 ?_
  refine GM_mem hμ26 ?_
  obtain ⟨μ27, hμ27, h⟩ := lm_inv h
  refine GM_putF (pc := 42) 1 4 3 kf_X1_32 (Nat.le_of_ble_eq_true rfl) (Nat.le_of_ble_eq_true rfl) rfl rfl rfl rfl (daX1_init_0 20 rfl) hc8 (fun q => absurd q (by decide)) ?_
  refine GM_mem hμ27 ?_
  refine GM_aload_n (pc := 45) 0 rfl (daX1_init_0 21 rfl) rfl ?_
  refine GM_bipush (pc := 46) 12 (daX1_init_0 22 rfl) rfl (R32_b rfl) ?_
  obtain ⟨hc28, h⟩ := chk_inv h
  obtain ⟨c29, n29, hp, e1, e2⟩ := pay_inv h
  subst e1 e2
  replace h := hp
  clear hp
  rw [Nat.add_assoc, Nat.add_assoc]
  obtain ⟨μ30, hμ30, h⟩ := lm_inv h
  refine GM_newi (pc := 48) (N := 12) (v0 + 2) (daX1_init_0 23 rfl) hc28.1 hc28.2.1 (Nat.le_of_ble_eq_true rfl) hc28.2.2 ?_
  refine GM_mem hμ30 ?_
  obtain ⟨μ31, hμ31, h⟩ := lm_inv h
  refine GM_putF (pc := 50) 1 9 3 kf_X1_36 (Nat.le_of_ble_eq_true rfl) (Nat.le_of_ble_eq_true rfl) rfl rfl rfl rfl (daX1_init_0 24 rfl) hc8 (fun q => absurd q (by decide)) ?_
  refine GM_mem hμ31 ?_
  refine GM_aload_n (pc := 53) 0 rfl (daX1_init_0 25 rfl) rfl ?_
  refine GM_bipush (pc := 54) 12 (daX1_init_0 26 rfl) rfl (R32_b rfl) ?_
  obtain ⟨hc32, h⟩ := chk_inv h
  obtain ⟨c33, n33, hp, e1, e2⟩ := pay_inv h
  subst e1 e2
  replace h := hp
  clear hp
  rw [Nat.add_assoc, Nat.add_assoc]
  obtain ⟨μ34, hμ34, h⟩ := lm_inv h
  refine GM_newi (pc := 56) (N := 12) (v0 + 3) (daX1_init_0 27 rfl) hc32.1 hc32.2.1 (Nat.le_of_ble_eq_true rfl) hc32.2.2 ?_
  refine GM_mem hμ34 ?_
  obtain ⟨μ35, hμ35, h⟩ := lm_inv h
  refine GM_putF (pc := 58) 1 10 3 kf_X1_39 (Nat.le_of_ble_eq_true rfl) (Nat.le_of_ble_eq_true rfl) rfl rfl rfl rfl (daX1_init_0 28 rfl) hc8 (fun q => absurd q (by decide)) ?_
  refine GM_mem hμ35 ?_
  refine GM_aload_n (pc := 61) 0 rfl (daX1_init_0 29 rfl) rfl ?_
  refine GM_bipush (pc := 62) 16 (daX1_init_0 30 rfl) rfl (R32_b rfl) ?_
  obtain ⟨hc36, h⟩ := chk_inv h
  obtain ⟨c37, n37, hp, e1, e2⟩ := pay_inv h
  subst e1 e2
  replace h := hp
  clear hp
  rw [Nat.add_assoc, Nat.add_assoc]
  obtain ⟨μ38, hμ38, h⟩ := lm_inv h
  refine GM_newi (pc := 64) (N := 16) (v0 + 4) (daX1_init_0 31 rfl) hc36.1 hc36.2.1 (Nat.le_of_ble_eq_true rfl) hc36.2.2 ?_
  refine GM_mem hμ38 ?_
  obtain ⟨μ39, hμ39, h⟩ := lm_inv h
  refine GM_putF (pc := 66) 1 11 3 kf_X1_42 (Nat.le_of_ble_eq_true rfl) (Nat.le_of_ble_eq_true rfl) rfl rfl rfl rfl (daX1_init_0 32 rfl) hc8 (fun q => absurd q (by decide)) ?_
  refine GM_mem hμ39 ?_
  cases h
  exact GM_vret (pc := 69) (daX1_init_0 33 rfl) rfl hK
theorem tX1_init (l : Launch) {v0 : Int} {μ : Mm} {t : Mm} {c0 n0 : Nat} (h : fX1_init v0 μ = some (t, c0, n0)) : Ct l yX1_init mX1_init [(3, v0)] μ ([], t, c0, n0) :=
  Ct_of (by decide +kernel) rfl rfl (Nat.le_of_ble_eq_true rfl) (fun _ _ _ => trivial) (gX1_init_0 (k := 0) (n := 0) l h ⟨rfl, rfl⟩)
def mX1_addSpan : MI := (RX1, cX1_addSpan, 4, none, "addSpan", 0, 0, fun _ _ _ => True)
theorem cwX1_addSpan : CWd yX1_addSpan mX1_addSpan 1 := ⟨ki_X1, kk_X1_addSpan, ⟨by decide, by decide⟩, rfl⟩
def dtX1_addSpan_0 : List (Nat × Instr × Nat) := [(0, .aload_n 0, 1), (1, .getfield 53, 3), (4, .bipush 25, 2), (6, .if_icmp .ge 28, 3), (9, .aload_n 0, 1), (10, .getfield 53, 3), (13, .ifCond .le 22, 3), (16, .iload_n 1, 1), (17, .aload_n 0, 1), (18, .getfield 32, 3), (21, .iconst 0, 1), (22, .iaload, 1), (23, .if_icmp .le 11, 3), (26, .iload_n 1, 1), (27, .aload_n 0, 1), (28, .getfield 60, 3), (31, .if_icmp .le 4, 3), (34, .return_, 1), (35, .aload_n 0, 1), (36, .getfield 53, 3), (39, .istore_n 2, 1), (40, .aload_n 0, 1), (41, .getfield 53, 3), (44, .iconst 1, 1), (45, .isub, 1), (46, .istore_n 3, 1), (47, .iload_n 3, 1), (48, .ifCond .lt 32, 3), (51, .aload_n 0, 1), (52, .getfield 32, 3), (55, .iload_n 3, 1), (56, .iaload, 1), (57, .iload_n 1, 1), (58, .if_icmp .lt 22, 3), (61, .aload_n 0, 1), (62, .getfield 32, 3), (65, .iload_n 3, 1), (66, .iaload, 1), (67, .iload_n 1, 1), (68, .if_icmp .ne 4, 3), (71, .return_, 1), (72, .iload_n 3, 1), (73, .istore_n 2, 1), (74, .iinc 3 (-1), 3), (77, .goto (-30), 3), (80, .aload_n 0, 1), (81, .getfield 53, 3), (84, .istore_n 3, 1), (85, .iload_n 3, 1), (86, .iload_n 2, 1), (87, .if_icmp .le 23, 3), (90, .aload_n 0, 1), (91, .getfield 32, 3), (94, .iload_n 3, 1), (95, .aload_n 0, 1), (96, .getfield 32, 3), (99, .iload_n 3, 1), (100, .iconst 1, 1), (101, .isub, 1), (102, .iaload, 1), (103, .iastore, 1), (104, .iinc 3 (-1), 3), (107, .goto (-22), 3), (110, .aload_n 0, 1)]
theorem ddX1_addSpan_0 : (dtX1_addSpan_0.all fun e => decide (decode mX1_addSpan.2.1 e.1 = .ok (e.2.1, e.2.2))) = true := by decide +kernel
theorem daX1_addSpan_0 (j : Nat) {pc n : Nat} {i : Instr} (h : dtX1_addSpan_0[j]? = some (pc, i, n)) : decode mX1_addSpan.2.1 pc = .ok (i, n) := dec_of (c := mX1_addSpan.2.1) ddX1_addSpan_0 h
def dtX1_addSpan_1 : List (Nat × Instr × Nat) := [(111, .getfield 32, 3), (114, .iload_n 2, 1), (115, .iload_n 1, 1), (116, .iastore, 1), (117, .aload_n 0, 1), (118, .dup, 1), (119, .getfield 53, 3), (122, .iconst 1, 1), (123, .iadd, 1), (124, .putfield 53, 3), (127, .return_, 1)]
theorem ddX1_addSpan_1 : (dtX1_addSpan_1.all fun e => decide (decode mX1_addSpan.2.1 e.1 = .ok (e.2.1, e.2.2))) = true := by decide +kernel
theorem daX1_addSpan_1 (j : Nat) {pc n : Nat} {i : Instr} (h : dtX1_addSpan_1[j]? = some (pc, i, n)) : decode mX1_addSpan.2.1 pc = .ok (i, n) := dec_of (c := mX1_addSpan.2.1) ddX1_addSpan_1 h
def zX1_addSpan_47 (l : Launch) (F : FI) (v0 v1 : Int) (μ : Mm) (k n : Nat) : (Int × Int) ⊕ (Int ⊕ Unit) → Prop
  | .inl (v2, v3) => GM l mX1_addSpan F k n 47 [(0, (3, v0)), (1, (0, v1)), (2, (0, v2)), (3, (0, v3))] [] μ
  | .inr (.inl v2) => GM l mX1_addSpan F k n 80 [(0, (3, v0)), (1, (0, v1)), (2, (0, v2))] [] μ
  | .inr (.inr ()) => GM l mX1_addSpan F k n 71 [] [] μ
def sX1_addSpan_47 (v0 v1 : Int) (μ : Mm) : (Int × Int) → Option ((Int × Int) ⊕ (Int ⊕ Unit)) := fun (v2, v3) =>
  if v3 < 0 then
    some (.inr (.inl v2))
  else
    chk (KD v0 = 1) (
    chk (KD (μ v0 4) = 12 ∧ 0 ≤ v3 ∧ v3 < LN (μ v0 4)) (
    if μ (μ v0 4) v3 < v1 then
      some (.inr (.inl v2))
    else
      if μ (μ v0 4) v3 = v1 then
        some (.inr (.inr ()))
      else
        some (.inl (v3, w32 (v3 + (-1))))))
def zX1_addSpan_85 (l : Launch) (F : FI) (v0 v1 v2 : Int) (k n : Nat) : (Int × Mm) ⊕ Mm → Prop
  | .inl (v3, μ) => GM l mX1_addSpan F k n 85 [(0, (3, v0)), (1, (0, v1)), (2, (0, v2)), (3, (0, v3))] [] μ
  | .inr μ => GM l mX1_addSpan F k n 110 [(0, (3, v0)), (1, (0, v1)), (2, (0, v2))] [] μ
def sX1_addSpan_85 (v0 v1 v2 : Int) : (Int × Mm) → Option ((Int × Mm) ⊕ Mm) := fun (v3, μ) =>
  if v3 ≤ v2 then
    some (.inr μ)
  else
    chk (KD v0 = 1) (
    chk (KD (μ v0 4) = 12 ∧ 0 ≤ w32 (v3 - 1) ∧ w32 (v3 - 1) < LN (μ v0 4)) (
    chk (0 ≤ v3 ∧ v3 < LN (μ v0 4)) (
    lm (mst μ (μ v0 4) v3 (μ (μ v0 4) (w32 (v3 - 1)))) fun μ10 =>
    some (.inl (w32 (v3 + (-1)), μ10)))))
def jX1_addSpan_35 (v0 v1 : Int) (μ : Mm) : Option Mm :=
  chk (KD v0 = 1) (
  (lop (sX1_addSpan_47 v0 v1 μ) FU (μ v0 3, w32 ((μ v0 3) - 1))).bind fun x12 =>
    match x12 with
    | (.inl v2_13) =>
        (lop (sX1_addSpan_85 v0 v1 v2_13) FU (μ v0 3, μ)).bind fun μ_16 =>
          chk (KD (μ_16 v0 4) = 12 ∧ 0 ≤ v2_13 ∧ v2_13 < LN (μ_16 v0 4)) (
          lm (mst μ_16 (μ_16 v0 4) v2_13 v1) fun μ18 =>
          lm (mst μ18 v0 3 (w32 ((μ18 v0 3) + 1))) fun μ19 =>
          some μ19)
    | (.inr ()) =>
        some μ)
def fX1_addSpan (v0 v1 : Int) (μ : Mm) : Option Mm :=
  chk (KD v0 = 1) (
  if 25 ≤ μ v0 3 then
    some μ
  else
    if μ v0 3 ≤ 0 then
      jX1_addSpan_35 v0 v1 μ
    else
      chk (KD (μ v0 4) = 12 ∧ 0 < LN (μ v0 4)) (
      if v1 ≤ μ (μ v0 4) 0 then
        some μ
      else
        if v1 ≤ μ v0 7 then
          jX1_addSpan_35 v0 v1 μ
        else
          some μ))
set_option maxRecDepth 20000 in
theorem qX1_addSpan_47 (l : Launch) (F : FI) (v0 v1 : Int) (μ : Mm) (k n : Nat) : ∀ (q : (Int × Int)) (t : ((Int × Int) ⊕ (Int ⊕ Unit))), sX1_addSpan_47 v0 v1 μ q = some t → zX1_addSpan_47 l F v0 v1 μ k n t → zX1_addSpan_47 l F v0 v1 μ k n (.inl q) := by
  intro q t h hK
  obtain ⟨v2, v3⟩ := q
  unfold sX1_addSpan_47 at h
  try dsimp only at h
  show GM l mX1_addSpan F k n 47 [(0, (3, v0)), (1, (0, v1)), (2, (0, v2)), (3, (0, v3))] [] μ
  refine GM_iload_n (pc := 47) 3 rfl (daX1_addSpan_0 26 rfl) rfl ?_
  refine GM_if_lt (pc := 48) 80 (daX1_addSpan_0 27 rfl) rfl (fun c1 => ?_) (fun c1 => ?_)
  · skip
    rw [if_pos c1] at h
    refine GM_pick [0, 1, 2] rfl ?_
    cases h
    exact hK
  · skip
    rw [if_neg c1] at h
    refine GM_aload_n (pc := 51) 0 rfl (daX1_addSpan_0 28 rfl) rfl ?_
    obtain ⟨hc2, h⟩ := chk_inv h
    refine GM_getf (pc := 52) 1 4 3 4 kf_X1_32 (Nat.le_of_ble_eq_true rfl) (Nat.le_of_ble_eq_true rfl) rfl (daX1_addSpan_0 29 rfl) hc2 rfl ?_
    refine GM_iload_n (pc := 55) 3 rfl (daX1_addSpan_0 30 rfl) rfl ?_
    obtain ⟨hc3, h⟩ := chk_inv h
    refine GM_iald (pc := 56) (daX1_addSpan_0 31 rfl) hc3.1 hc3.2.1 hc3.2.2 ?_
    refine GM_iload_n (pc := 57) 1 rfl (daX1_addSpan_0 32 rfl) rfl ?_
    refine GM_icmp_lt (pc := 58) 80 (daX1_addSpan_0 33 rfl) rfl (fun c4 => ?_) (fun c4 => ?_)
    · skip
      rw [if_pos c4] at h
      refine GM_pick [0, 1, 2] rfl ?_
      cases h
      exact hK
    · skip
      rw [if_neg c4] at h
      refine GM_aload_n (pc := 61) 0 rfl (daX1_addSpan_0 34 rfl) rfl ?_
      refine GM_getf (pc := 62) 1 4 3 4 kf_X1_32 (Nat.le_of_ble_eq_true rfl) (Nat.le_of_ble_eq_true rfl) rfl (daX1_addSpan_0 35 rfl) hc2 rfl ?_
      refine GM_iload_n (pc := 65) 3 rfl (daX1_addSpan_0 36 rfl) rfl ?_
      refine GM_iald (pc := 66) (daX1_addSpan_0 37 rfl) hc3.1 hc3.2.1 hc3.2.2 ?_
      refine GM_iload_n (pc := 67) 1 rfl (daX1_addSpan_0 38 rfl) rfl ?_
      refine GM_icmp_ne (pc := 68) 72 (daX1_addSpan_0 39 rfl) rfl (fun c5 => ?_) (fun c5 => ?_)
      · skip
        rw [if_neg c5] at h
        refine GM_iload_n (pc := 72) 3 rfl (daX1_addSpan_0 41 rfl) rfl ?_
        refine GM_istore_n (L' := [(2, (0, v3)), (0, (3, v0)), (1, (0, v1)), (3, (0, v3))]) (pc := 73) (daX1_addSpan_0 42 rfl) rfl (Nat.le_of_ble_eq_true rfl) rfl ?_
        refine GM_iinc (L' := [(3, (0, w32 (v3 + (-1)))), (2, (0, v3)), (0, (3, v0)), (1, (0, v1))]) (pc := 74) 3 rfl (daX1_addSpan_0 43 rfl) (Nat.le_of_ble_eq_true rfl) rfl ?_
        refine GM_goto (pc := 77) 47 (daX1_addSpan_0 44 rfl) rfl ?_
        refine GM_pick [2, 3, 1, 0] rfl ?_
        cases h
        exact hK
      · skip
        rw [if_pos c5] at h
        refine GM_pick [] rfl ?_
        cases h
        exact hK
set_option maxRecDepth 20000 in
theorem qX1_addSpan_85 (l : Launch) (F : FI) (v0 v1 v2 : Int) (k n : Nat) : ∀ (q : (Int × Mm)) (t : ((Int × Mm) ⊕ Mm)), sX1_addSpan_85 v0 v1 v2 q = some t → zX1_addSpan_85 l F v0 v1 v2 k n t → zX1_addSpan_85 l F v0 v1 v2 k n (.inl q) := by
  intro q t h hK
  obtain ⟨v3, μ⟩ := q
  unfold sX1_addSpan_85 at h
  try dsimp only at h
  show GM l mX1_addSpan F k n 85 [(0, (3, v0)), (1, (0, v1)), (2, (0, v2)), (3, (0, v3))] [] μ
  refine GM_iload_n (pc := 85) 3 rfl (daX1_addSpan_0 48 rfl) rfl ?_
  refine GM_iload_n (pc := 86) 2 rfl (daX1_addSpan_0 49 rfl) rfl ?_
  refine GM_icmp_le (pc := 87) 110 (daX1_addSpan_0 50 rfl) rfl (fun c6 => ?_) (fun c6 => ?_)
  · skip
    rw [if_pos c6] at h
    refine GM_pick [0, 1, 2] rfl ?_
    cases h
    exact hK
  · skip
    rw [if_neg c6] at h
    refine GM_aload_n (pc := 90) 0 rfl (daX1_addSpan_0 51 rfl) rfl ?_
    obtain ⟨hc7, h⟩ := chk_inv h
    refine GM_getf (pc := 91) 1 4 3 4 kf_X1_32 (Nat.le_of_ble_eq_true rfl) (Nat.le_of_ble_eq_true rfl) rfl (daX1_addSpan_0 52 rfl) hc7 rfl ?_
    refine GM_iload_n (pc := 94) 3 rfl (daX1_addSpan_0 53 rfl) rfl ?_
    refine GM_aload_n (pc := 95) 0 rfl (daX1_addSpan_0 54 rfl) rfl ?_
    refine GM_getf (pc := 96) 1 4 3 4 kf_X1_32 (Nat.le_of_ble_eq_true rfl) (Nat.le_of_ble_eq_true rfl) rfl (daX1_addSpan_0 55 rfl) hc7 rfl ?_
    refine GM_iload_n (pc := 99) 3 rfl (daX1_addSpan_0 56 rfl) rfl ?_
    refine GM_iconst (pc := 100) 1 (daX1_addSpan_0 57 rfl) rfl (R32_b rfl) ?_
    refine GM_isub (pc := 101) (daX1_addSpan_0 58 rfl) ?_
    obtain ⟨hc8, h⟩ := chk_inv h
    refine GM_iald (pc := 102) (daX1_addSpan_0 59 rfl) hc8.1 hc8.2.1 hc8.2.2 ?_
    obtain ⟨hc9, h⟩ := chk_inv h
    obtain ⟨μ10, hμ10, h⟩ := lm_inv h
    refine GM_iast (pc := 103) (daX1_addSpan_0 60 rfl) hc8.1 hc9.1 hc9.2 ?_
    refine GM_mem hμ10 ?_
    refine GM_iinc (L' := [(3, (0, w32 (v3 + (-1)))), (0, (3, v0)), (1, (0, v1)), (2, (0, v2))]) (pc := 104) 3 rfl (daX1_addSpan_0 61 rfl) (Nat.le_of_ble_eq_true rfl) rfl ?_
    refine GM_goto (pc := 107) 85 (daX1_addSpan_0 62 rfl) rfl ?_
    refine GM_pick [1, 2, 3, 0] rfl ?_
    cases h
    exact hK
set_option maxRecDepth 20000 in
theorem gX1_addSpan_35 (l : Launch) {F : FI} {v0 v1 : Int} {μ : Mm} {t : Mm} (h : jX1_addSpan_35 v0 v1 μ = some t) (hK : F.1 = [] ∧ F.2.1 = t) : GM l mX1_addSpan F 0 0 35 [(0, (3, v0)), (1, (0, v1))] [] μ := by
  unfold jX1_addSpan_35 at h
  refine GM_aload_n (pc := 35) 0 rfl (daX1_addSpan_0 18 rfl) rfl ?_
  obtain ⟨hc11, h⟩ := chk_inv h
  refine GM_getf (pc := 36) 1 3 0 3 kf_X1_53 (Nat.le_of_ble_eq_true rfl) (Nat.le_of_ble_eq_true rfl) rfl (daX1_addSpan_0 19 rfl) hc11 rfl ?_
  refine GM_istore_n (L' := [(2, (0, μ v0 3)), (0, (3, v0)), (1, (0, v1))]) (pc := 39) (daX1_addSpan_0 20 rfl) rfl (Nat.le_of_ble_eq_true rfl) rfl ?_
  refine GM_aload_n (pc := 40) 1 rfl (daX1_addSpan_0 21 rfl) rfl ?_
  refine GM_getf (pc := 41) 1 3 0 3 kf_X1_53 (Nat.le_of_ble_eq_true rfl) (Nat.le_of_ble_eq_true rfl) rfl (daX1_addSpan_0 22 rfl) hc11 rfl ?_
  refine GM_iconst (pc := 44) 1 (daX1_addSpan_0 23 rfl) rfl (R32_b rfl) ?_
  refine GM_isub (pc := 45) (daX1_addSpan_0 24 rfl) ?_
  refine GM_istore_n (L' := [(3, (0, w32 ((μ v0 3) - 1))), (2, (0, μ v0 3)), (0, (3, v0)), (1, (0, v1))]) (pc := 46) (daX1_addSpan_0 25 rfl) rfl (Nat.le_of_ble_eq_true rfl) rfl ?_
  refine GM_pick [2, 3, 1, 0] rfl ?_
  obtain ⟨x12, hqx12, h⟩ := Option.bind_eq_some_iff.mp h
  refine lop_ind (zX1_addSpan_47 l F v0 v1 μ 0 0) (qX1_addSpan_47 l F v0 v1 μ 0 0) FU _ x12 hqx12 ?_
  rcases x12 with v2_13 | _
  · dsimp only at h
    show GM l mX1_addSpan F 0 0 80 [(0, (3, v0)), (1, (0, v1)), (2, (0, v2_13))] [] μ
    refine GM_aload_n (pc := 80) 0 rfl (daX1_addSpan_0 45 rfl) rfl ?_
    refine GM_getf (pc := 81) 1 3 0 3 kf_X1_53 (Nat.le_of_ble_eq_true rfl) (Nat.le_of_ble_eq_true rfl) rfl (daX1_addSpan_0 46 rfl) hc11 rfl ?_
    refine GM_istore_n (L' := [(3, (0, μ v0 3)), (0, (3, v0)), (1, (0, v1)), (2, (0, v2_13))]) (pc := 84) (daX1_addSpan_0 47 rfl) rfl (Nat.le_of_ble_eq_true rfl) rfl ?_
    refine GM_pick [1, 2, 3, 0] rfl ?_
    obtain ⟨x15, hqx15, h⟩ := Option.bind_eq_some_iff.mp h
    refine lop_ind (zX1_addSpan_85 l F v0 v1 v2_13 0 0) (qX1_addSpan_85 l F v0 v1 v2_13 0 0) FU _ x15 hqx15 ?_
    obtain ⟨μ_16, hqq⟩ : ∃ z, z = x15 := ⟨x15, rfl⟩
    subst hqq
    show GM l mX1_addSpan F 0 0 110 [(0, (3, v0)), (1, (0, v1)), (2, (0, v2_13))] [] μ_16
    refine GM_aload_n (pc := 110) 0 rfl (daX1_addSpan_0 63 rfl) rfl ?_
    refine GM_getf (pc := 111) 1 4 3 4 kf_X1_32 (Nat.le_of_ble_eq_true rfl) (Nat.le_of_ble_eq_true rfl) rfl (daX1_addSpan_1 0 rfl) hc11 rfl ?_
    refine GM_iload_n (pc := 114) 2 rfl (daX1_addSpan_1 1 rfl) rfl ?_
    refine GM_iload_n (pc := 115) 1 rfl (daX1_addSpan_1 2 rfl) rfl ?_
    obtain ⟨hc17, h⟩ := chk_inv h
    obtain ⟨μ18, hμ18, h⟩ := lm_inv h
    refine GM_iast (pc := 116) (daX1_addSpan_1 3 rfl) hc17.1 hc17.2.1 hc17.2.2 ?_
    refine GM_mem hμ18 ?_
    refine GM_aload_n (pc := 117) 0 rfl (daX1_addSpan_1 4 rfl) rfl ?_
    refine GM_dup (pc := 118) (daX1_addSpan_1 5 rfl) (Nat.ne_of_beq_eq_false rfl) ?_
    refine GM_getf (pc := 119) 1 3 0 3 kf_X1_53 (Nat.le_of_ble_eq_true rfl) (Nat.le_of_ble_eq_true rfl) rfl (daX1_addSpan_1 6 rfl) hc11 rfl ?_
    refine GM_iconst (pc := 122) 1 (daX1_addSpan_1 7 rfl) rfl (R32_b rfl) ?_
    refine GM_iadd (pc := 123) (daX1_addSpan_1 8 rfl) ?_
    obtain ⟨μ19, hμ19, h⟩ := lm_inv h
    refine GM_putf (pc := 124) 1 3 0 kf_X1_53 (Nat.le_of_ble_eq_true rfl) (Nat.le_of_ble_eq_true rfl) rfl rfl (daX1_addSpan_1 9 rfl) hc11 (fun q => absurd q (by decide)) ?_
    refine GM_mem hμ19 ?_
    cases h
    exact GM_vret (pc := 127) (daX1_addSpan_1 10 rfl) rfl hK
  · dsimp only at h
    show GM l mX1_addSpan F 0 0 71 [] [] μ
    cases h
    exact GM_vret (pc := 71) (daX1_addSpan_0 40 rfl) rfl hK
set_option maxRecDepth 20000 in
theorem gX1_addSpan_0 (l : Launch) {F : FI} {v0 v1 : Int} {μ : Mm} {t : Mm} (h : fX1_addSpan v0 v1 μ = some t) (hK : F.1 = [] ∧ F.2.1 = t) : GM l mX1_addSpan F 0 0 0 [(0, (3, v0)), (1, (0, v1))] [] μ := by
  unfold fX1_addSpan at h
  refine GM_aload_n (pc := 0) 0 rfl (daX1_addSpan_0 0 rfl) rfl ?_
  obtain ⟨hc20, h⟩ := chk_inv h
  refine GM_getf (pc := 1) 1 3 0 3 kf_X1_53 (Nat.le_of_ble_eq_true rfl) (Nat.le_of_ble_eq_true rfl) rfl (daX1_addSpan_0 1 rfl) hc20 rfl ?_
  refine GM_bipush (pc := 4) 25 (daX1_addSpan_0 2 rfl) rfl (R32_b rfl) ?_
  refine GM_icmp_ge (pc := 6) 34 (daX1_addSpan_0 3 rfl) rfl (fun c21 => ?_) (fun c21 => ?_)
  · skip
    rw [if_pos c21] at h
    cases h
    exact GM_vret (pc := 34) (daX1_addSpan_0 17 rfl) rfl hK
  · skip
    rw [if_neg c21] at h
    refine GM_aload_n (pc := 9) 0 rfl (daX1_addSpan_0 4 rfl) rfl ?_
    refine GM_getf (pc := 10) 1 3 0 3 kf_X1_53 (Nat.le_of_ble_eq_true rfl) (Nat.le_of_ble_eq_true rfl) rfl (daX1_addSpan_0 5 rfl) hc20 rfl ?_
    refine GM_if_le (pc := 13) 35 (daX1_addSpan_0 6 rfl) rfl (fun c22 => ?_) (fun c22 => ?_)
    · skip
      rw [if_pos c22] at h
      exact gX1_addSpan_35 l h hK
    · skip
      rw [if_neg c22] at h
      refine GM_iload_n (pc := 16) 1 rfl (daX1_addSpan_0 7 rfl) rfl ?_
      refine GM_aload_n (pc := 17) 0 rfl (daX1_addSpan_0 8 rfl) rfl ?_
      refine GM_getf (pc := 18) 1 4 3 4 kf_X1_32 (Nat.le_of_ble_eq_true rfl) (Nat.le_of_ble_eq_true rfl) rfl (daX1_addSpan_0 9 rfl) hc20 rfl ?_
      refine GM_iconst (pc := 21) 0 (daX1_addSpan_0 10 rfl) rfl (R32_b rfl) ?_
      obtain ⟨hc23, h⟩ := chk_inv h
      refine GM_iald (pc := 22) (daX1_addSpan_0 11 rfl) hc23.1 (by decide) hc23.2 ?_
      refine GM_icmp_le (pc := 23) 34 (daX1_addSpan_0 12 rfl) rfl (fun c24 => ?_) (fun c24 => ?_)
      · skip
        rw [if_pos c24] at h
        cases h
        exact GM_vret (pc := 34) (daX1_addSpan_0 17 rfl) rfl hK
      · skip
        rw [if_neg c24] at h
        refine GM_iload_n (pc := 26) 1 rfl (daX1_addSpan_0 13 rfl) rfl ?_
        refine GM_aload_n (pc := 27) 0 rfl (daX1_addSpan_0 14 rfl) rfl ?_
        refine GM_getf (pc := 28) 1 7 0 7 kf_X1_60 (Nat.le_of_ble_eq_true rfl) (Nat.le_of_ble_eq_true rfl) rfl (daX1_addSpan_0 15 rfl) hc20 rfl ?_
        refine GM_icmp_le (pc := 31) 35 (daX1_addSpan_0 16 rfl) rfl (fun c25 => ?_) (fun c25 => ?_)
        · skip
          rw [if_pos c25] at h
          exact gX1_addSpan_35 l h hK
        · skip
          rw [if_neg c25] at h
          cases h
          exact GM_vret (pc := 34) (daX1_addSpan_0 17 rfl) rfl hK
theorem tX1_addSpan (l : Launch) {v0 v1 : Int} {μ : Mm} {t : Mm} (h : fX1_addSpan v0 v1 μ = some t) : Ct l yX1_addSpan mX1_addSpan [(3, v0), (0, v1)] μ ([], t, 0, 0) :=
  Ct_of (by decide +kernel) rfl rfl (Nat.le_of_ble_eq_true rfl) (fun _ _ _ => trivial) (gX1_addSpan_0 l h ⟨rfl, rfl⟩)
def mX1_hold : MI := (RX1, cX1_hold, 5, none, "hold", 2, 43, fun _ _ _ => True)
theorem cwX1_hold : CWd yX1_hold mX1_hold 3 := ⟨ki_X1, kk_X1_hold, ⟨by decide, by decide⟩, rfl⟩
def dtX1_hold_0 : List (Nat × Instr × Nat) := [(0, .aload_n 0, 1), (1, .aload_n 1, 1), (2, .putfield 12, 3), (5, .aload_n 0, 1), (6, .aload_n 2, 1), (7, .putfield 21, 3), (10, .aload_n 0, 1), (11, .aload_n 2, 1), (12, .invokevirtual 45, 3), (15, .putfield 49, 3), (18, .aload_n 0, 1), (19, .iconst 0, 1), (20, .putfield 53, 3), (23, .aload_n 0, 1), (24, .iload_n 3, 1), (25, .iconst (-1), 1), (26, .if_icmp .ne 10, 3), (29, .aload_n 2, 1), (30, .getfield 57, 3), (33, .goto 4, 3), (36, .iload_n 3, 1), (37, .putfield 60, 3), (40, .aload_n 0, 1), (41, .iload_n 3, 1), (42, .iconst (-1), 1), (43, .if_icmp .ne 10, 3), (46, .aload_n 2, 1), (47, .getfield 63, 3), (50, .goto 4, 3), (53, .iload_n 3, 1), (54, .invokevirtual 66, 3), (57, .iconst 0, 1), (58, .istore 4, 2), (60, .aload_n 0, 1), (61, .getfield 49, 3), (64, .ifCond .eq 76, 3), (67, .iload_n 3, 1), (68, .iconst (-1), 1), (69, .if_icmp .ne 71, 3), (72, .iload 4, 2), (74, .aload_n 0, 1), (75, .getfield 12, 3), (78, .getfield 70, 3), (81, .if_icmp .ge 59, 3), (84, .iload 4, 2), (86, .bipush 12, 2), (88, .if_icmp .ge 52, 3), (91, .aload_n 0, 1), (92, .getfield 12, 3), (95, .getfield 73, 3), (98, .iload 4, 2), (100, .baload, 1), (101, .ifCond .eq 33, 3), (104, .aload_n 0, 1), (105, .aload_n 0, 1), (106, .getfield 12, 3), (109, .getfield 77, 3), (112, .iload 4, 2), (114, .iaload, 1), (115, .invokevirtual 66, 3), (118, .aload_n 0, 1), (119, .aload_n 0, 1), (120, .getfield 12, 3), (123, .getfield 79, 3)]
theorem ddX1_hold_0 : (dtX1_hold_0.all fun e => decide (decode mX1_hold.2.1 e.1 = .ok (e.2.1, e.2.2))) = true := by decide +kernel
theorem daX1_hold_0 (j : Nat) {pc n : Nat} {i : Instr} (h : dtX1_hold_0[j]? = some (pc, i, n)) : decode mX1_hold.2.1 pc = .ok (i, n) := dec_of (c := mX1_hold.2.1) ddX1_hold_0 h
def dtX1_hold_1 : List (Nat × Instr × Nat) := [(126, .iload 4, 2), (128, .iaload, 1), (129, .iconst 1, 1), (130, .iadd, 1), (131, .invokevirtual 66, 3), (134, .iinc 4 1, 3), (137, .goto (-77), 3), (140, .aload_n 0, 1), (141, .iconst 0, 1), (142, .putfield 81, 3), (145, .aload_n 0, 1), (146, .aload_n 0, 1), (147, .getfield 53, 3), (150, .iconst 1, 1), (151, .isub, 1), (152, .putfield 84, 3), (155, .return_, 1)]
theorem ddX1_hold_1 : (dtX1_hold_1.all fun e => decide (decode mX1_hold.2.1 e.1 = .ok (e.2.1, e.2.2))) = true := by decide +kernel
theorem daX1_hold_1 (j : Nat) {pc n : Nat} {i : Instr} (h : dtX1_hold_1[j]? = some (pc, i, n)) : decode mX1_hold.2.1 pc = .ok (i, n) := dec_of (c := mX1_hold.2.1) ddX1_hold_1 h
def zX1_hold_60 (l : Launch) (F : FI) (v0 v3 : Int) (k n : Nat) : (Int × Mm) ⊕ Mm → Prop
  | .inl (v4, μ) => GM l mX1_hold F k n 60 [(0, (3, v0)), (3, (0, v3)), (4, (0, v4))] [] μ
  | .inr μ => GM l mX1_hold F k n 140 [(0, (3, v0))] [] μ
def sX1_hold_60 (v0 v3 : Int) : (Int × Mm) → Option ((Int × Mm) ⊕ Mm) := fun (v4, μ) =>
  chk (KD v0 = 1) (
  if μ v0 8 = 0 then
    some (.inr μ)
  else
    if v3 = (-1) then
      chk (KD (μ v0 0) = 2) (
      if μ (μ v0 0) 5 ≤ v4 then
        some (.inr μ)
      else
        if 12 ≤ v4 then
          some (.inr μ)
        else
          chk (KD (μ (μ v0 0) 8) = 14 ∧ 0 ≤ v4 ∧ v4 < LN (μ (μ v0 0) 8)) (
          if μ (μ (μ v0 0) 8) v4 = 0 then
            some (.inl (w32 (v4 + 1), μ))
          else
            chk (KD (μ (μ v0 0) 9) = 12 ∧ v4 < LN (μ (μ v0 0) 9)) (
            (fX1_addSpan v0 (μ (μ (μ v0 0) 9) v4) μ).bind fun μ10 =>
            chk (KD (μ10 v0 0) = 2) (
            chk (KD (μ10 (μ10 v0 0) 10) = 12 ∧ v4 < LN (μ10 (μ10 v0 0) 10)) (
            (fX1_addSpan v0 (w32 ((μ10 (μ10 (μ10 v0 0) 10) v4) + 1)) μ10).bind fun μ13 =>
            some (.inl (w32 (v4 + 1), μ13)))))))
    else
      some (.inr μ))
def jX1_hold_54 (v0 v3 s0 s1 : Int) (μ : Mm) : Option Mm :=
  chk (KD s1 = 1) (
  (fX1_addSpan s1 s0 μ).bind fun μ15 =>
  (lop (sX1_hold_60 v0 v3) FU (0, μ15)).bind fun μ_17 =>
    chk (KD v0 = 1) (
    lm (mst μ_17 v0 5 0) fun μ19 =>
    lm (mst μ19 v0 6 (w32 ((μ19 v0 3) - 1))) fun μ20 =>
    some μ20))
def jX1_hold_37 (v0 v2 v3 s0 s1 : Int) (μ : Mm) : Option Mm :=
  chk (KD s1 = 1) (
  lm (mst μ s1 7 s0) fun μ22 =>
  if v3 = (-1) then
    chk (KD v2 = 6) (
    jX1_hold_54 v0 v3 (μ22 v2 5) v0 μ22)
  else
    jX1_hold_54 v0 v3 v3 v0 μ22)
def fX1_hold (v0 v1 v2 v3 : Int) (μ : Mm) : Option Mm :=
  chk (KD v0 = 1) (
  lm (mst μ v0 0 v1) fun μ26 =>
  lm (mst μ26 v0 1 v2) fun μ27 =>
  chk (KD v2 = 6) (
  (fX6_asksForYears v2 μ27).bind fun r29 =>
  chk ((r29 = 0 ∨ r29 = 1)) (
  lm (mst μ27 v0 8 r29) fun μ31 =>
  lm (mst μ31 v0 3 0) fun μ32 =>
  if v3 = (-1) then
    jX1_hold_37 v0 v2 v3 (μ32 v2 6) v0 μ32
  else
    jX1_hold_37 v0 v2 v3 v3 v0 μ32)))
set_option maxRecDepth 20000 in
theorem qX1_hold_60 (l : Launch) (F : FI) (v0 v3 : Int) (k n : Nat) : ∀ (q : (Int × Mm)) (t : ((Int × Mm) ⊕ Mm)), sX1_hold_60 v0 v3 q = some t → zX1_hold_60 l F v0 v3 k n t → zX1_hold_60 l F v0 v3 k n (.inl q) := by
  intro q t h hK
  obtain ⟨v4, μ⟩ := q
  unfold sX1_hold_60 at h
  try dsimp only at h
  show GM l mX1_hold F k n 60 [(0, (3, v0)), (3, (0, v3)), (4, (0, v4))] [] μ
  refine GM_aload_n (pc := 60) 0 rfl (daX1_hold_0 33 rfl) rfl ?_
  obtain ⟨hc1, h⟩ := chk_inv h
  refine GM_getf (pc := 61) 1 8 0 8 kf_X1_49 (Nat.le_of_ble_eq_true rfl) (Nat.le_of_ble_eq_true rfl) rfl (daX1_hold_0 34 rfl) hc1 rfl ?_
  refine GM_if_eq (pc := 64) 140 (daX1_hold_0 35 rfl) rfl (fun c2 => ?_) (fun c2 => ?_)
  · skip
    rw [if_pos c2] at h
    refine GM_pick [0] rfl ?_
    cases h
    exact hK
  · skip
    rw [if_neg c2] at h
    refine GM_iload_n (pc := 67) 1 rfl (daX1_hold_0 36 rfl) rfl ?_
    refine GM_iconst (pc := 68) (-1) (daX1_hold_0 37 rfl) rfl (R32_b rfl) ?_
    refine GM_icmp_ne (pc := 69) 140 (daX1_hold_0 38 rfl) rfl (fun c3 => ?_) (fun c3 => ?_)
    · skip
      rw [if_neg c3] at h
      refine GM_pick [0] rfl ?_
      cases h
      exact hK
    · skip
      rw [if_pos c3] at h
      refine GM_iload (pc := 72) 2 rfl (daX1_hold_0 39 rfl) ?_
      refine GM_aload_n (pc := 74) 0 rfl (daX1_hold_0 40 rfl) rfl ?_
      refine GM_getf (pc := 75) 1 0 3 0 kf_X1_12 (Nat.le_of_ble_eq_true rfl) (Nat.le_of_ble_eq_true rfl) rfl (daX1_hold_0 41 rfl) hc1 rfl ?_
      obtain ⟨hc4, h⟩ := chk_inv h
      refine GM_getf (pc := 78) 2 5 0 5 kf_X1_70 (Nat.le_of_ble_eq_true rfl) (Nat.le_of_ble_eq_true rfl) rfl (daX1_hold_0 42 rfl) hc4 rfl ?_
      refine GM_icmp_ge (pc := 81) 140 (daX1_hold_0 43 rfl) rfl (fun c5 => ?_) (fun c5 => ?_)
      · skip
        rw [if_pos c5] at h
        refine GM_pick [0] rfl ?_
        cases h
        exact hK
      · skip
        rw [if_neg c5] at h
        refine GM_iload (pc := 84) 2 rfl (daX1_hold_0 44 rfl) ?_
        refine GM_bipush (pc := 86) 12 (daX1_hold_0 45 rfl) rfl (R32_b rfl) ?_
        refine GM_icmp_ge (pc := 88) 140 (daX1_hold_0 46 rfl) rfl (fun c6 => ?_) (fun c6 => ?_)
        · skip
          rw [if_pos c6] at h
          refine GM_pick [0] rfl ?_
          cases h
          exact hK
        · skip
          rw [if_neg c6] at h
          refine GM_aload_n (pc := 91) 0 rfl (daX1_hold_0 47 rfl) rfl ?_
          refine GM_getf (pc := 92) 1 0 3 0 kf_X1_12 (Nat.le_of_ble_eq_true rfl) (Nat.le_of_ble_eq_true rfl) rfl (daX1_hold_0 48 rfl) hc1 rfl ?_
          refine GM_getf (pc := 95) 2 8 3 8 kf_X1_73 (Nat.le_of_ble_eq_true rfl) (Nat.le_of_ble_eq_true rfl) rfl (daX1_hold_0 49 rfl) hc4 rfl ?_
          refine GM_iload (pc := 98) 2 rfl (daX1_hold_0 50 rfl) ?_
          obtain ⟨hc7, h⟩ := chk_inv h
          refine GM_zald (pc := 100) (daX1_hold_0 51 rfl) hc7.1 hc7.2.1 hc7.2.2 ?_
          refine GM_if_eq (pc := 101) 134 (daX1_hold_0 52 rfl) rfl (fun c8 => ?_) (fun c8 => ?_)
          · skip
            rw [if_pos c8] at h
            refine GM_iinc (L' := [(4, (0, w32 (v4 + 1))), (0, (3, v0)), (3, (0, v3))]) (pc := 134) 2 rfl (daX1_hold_1 5 rfl) (Nat.le_of_ble_eq_true rfl) rfl ?_
            refine GM_goto (pc := 137) 60 (daX1_hold_1 6 rfl) rfl ?_
            refine GM_pick [1, 2, 0] rfl ?_
            cases h
            exact hK
          · skip
            rw [if_neg c8] at h
            refine GM_aload_n (pc := 104) 0 rfl (daX1_hold_0 53 rfl) rfl ?_
            refine GM_aload_n (pc := 105) 0 rfl (daX1_hold_0 54 rfl) rfl ?_
            refine GM_getf (pc := 106) 1 0 3 0 kf_X1_12 (Nat.le_of_ble_eq_true rfl) (Nat.le_of_ble_eq_true rfl) rfl (daX1_hold_0 55 rfl) hc1 rfl ?_
            refine GM_getf (pc := 109) 2 9 3 9 kf_X1_77 (Nat.le_of_ble_eq_true rfl) (Nat.le_of_ble_eq_true rfl) rfl (daX1_hold_0 56 rfl) hc4 rfl ?_
            refine GM_iload (pc := 112) 2 rfl (daX1_hold_0 57 rfl) ?_
            obtain ⟨hc9, h⟩ := chk_inv h
            refine GM_iald (pc := 114) (daX1_hold_0 58 rfl) hc9.1 hc7.2.1 hc9.2 ?_
            obtain ⟨μ10, hf10, h⟩ := Option.bind_eq_some_iff.mp h
            refine GM_callV0 (pc := 115) [(0, μ (μ (μ v0 0) 9) v4)] (tX1_addSpan l hf10) cwX1_addSpan 1 (Nat.le_of_ble_eq_true rfl) rfl kv_X1_addSpan ke_X1_addSpan km_X1_66 hc1 ⟨Nat.le_of_ble_eq_true rfl, Nat.le_of_ble_eq_true rfl⟩ (Nat.le_of_ble_eq_true rfl) (Nat.le_of_ble_eq_true rfl) (daX1_hold_0 59 rfl) ?_
            refine GM_aload_n (pc := 118) 0 rfl (daX1_hold_0 60 rfl) rfl ?_
            refine GM_aload_n (pc := 119) 0 rfl (daX1_hold_0 61 rfl) rfl ?_
            refine GM_getf (pc := 120) 1 0 3 0 kf_X1_12 (Nat.le_of_ble_eq_true rfl) (Nat.le_of_ble_eq_true rfl) rfl (daX1_hold_0 62 rfl) hc1 rfl ?_
            obtain ⟨hc11, h⟩ := chk_inv h
            refine GM_getf (pc := 123) 2 10 3 10 kf_X1_79 (Nat.le_of_ble_eq_true rfl) (Nat.le_of_ble_eq_true rfl) rfl (daX1_hold_0 63 rfl) hc11 rfl ?_
            refine GM_iload (pc := 126) 2 rfl (daX1_hold_1 0 rfl) ?_
            obtain ⟨hc12, h⟩ := chk_inv h
            refine GM_iald (pc := 128) (daX1_hold_1 1 rfl) hc12.1 hc7.2.1 hc12.2 ?_
            refine GM_iconst (pc := 129) 1 (daX1_hold_1 2 rfl) rfl (R32_b rfl) ?_
            refine GM_iadd (pc := 130) (daX1_hold_1 3 rfl) ?_
            obtain ⟨μ13, hf13, h⟩ := Option.bind_eq_some_iff.mp h
            refine GM_callV0 (pc := 131) [(0, w32 ((μ10 (μ10 (μ10 v0 0) 10) v4) + 1))] (tX1_addSpan l hf13) cwX1_addSpan 1 (Nat.le_of_ble_eq_true rfl) rfl kv_X1_addSpan ke_X1_addSpan km_X1_66 hc1 ⟨Nat.le_of_ble_eq_true rfl, Nat.le_of_ble_eq_true rfl⟩ (Nat.le_of_ble_eq_true rfl) (Nat.le_of_ble_eq_true rfl) (daX1_hold_1 4 rfl) ?_
            refine GM_iinc (L' := [(4, (0, w32 (v4 + 1))), (0, (3, v0)), (3, (0, v3))]) (pc := 134) 2 rfl (daX1_hold_1 5 rfl) (Nat.le_of_ble_eq_true rfl) rfl ?_
            refine GM_goto (pc := 137) 60 (daX1_hold_1 6 rfl) rfl ?_
            refine GM_pick [1, 2, 0] rfl ?_
            cases h
            exact hK
set_option maxRecDepth 20000 in
theorem gX1_hold_54 (l : Launch) {F : FI} {v0 v3 s0 s1 : Int} {μ : Mm} {t : Mm} (h : jX1_hold_54 v0 v3 s0 s1 μ = some t) (hK : F.1 = [] ∧ F.2.1 = t) : GM l mX1_hold F 0 0 54 [(0, (3, v0)), (3, (0, v3))] [(0, s0), (3, s1)] μ := by
  unfold jX1_hold_54 at h
  obtain ⟨hc14, h⟩ := chk_inv h
  obtain ⟨μ15, hf15, h⟩ := Option.bind_eq_some_iff.mp h
  refine GM_callV0 (pc := 54) [(0, s0)] (tX1_addSpan l hf15) cwX1_addSpan 1 (Nat.le_of_ble_eq_true rfl) rfl kv_X1_addSpan ke_X1_addSpan km_X1_66 hc14 ⟨Nat.le_of_ble_eq_true rfl, Nat.le_of_ble_eq_true rfl⟩ (Nat.le_of_ble_eq_true rfl) (Nat.le_of_ble_eq_true rfl) (daX1_hold_0 30 rfl) ?_
  refine GM_iconst (pc := 57) 0 (daX1_hold_0 31 rfl) rfl (R32_b rfl) ?_
  refine GM_istore (L' := [(4, (0, 0)), (0, (3, v0)), (3, (0, v3))]) (pc := 58) (daX1_hold_0 32 rfl) (Nat.le_of_ble_eq_true rfl) rfl ?_
  refine GM_pick [1, 2, 0] rfl ?_
  obtain ⟨x16, hqx16, h⟩ := Option.bind_eq_some_iff.mp h
  refine lop_ind (zX1_hold_60 l F v0 v3 0 0) (qX1_hold_60 l F v0 v3 0 0) FU _ x16 hqx16 ?_
  obtain ⟨μ_17, hqq⟩ : ∃ z, z = x16 := ⟨x16, rfl⟩
  subst hqq
  show GM l mX1_hold F 0 0 140 [(0, (3, v0))] [] μ_17
  refine GM_aload_n (pc := 140) 0 rfl (daX1_hold_1 7 rfl) rfl ?_
  refine GM_iconst (pc := 141) 0 (daX1_hold_1 8 rfl) rfl (R32_b rfl) ?_
  obtain ⟨hc18, h⟩ := chk_inv h
  obtain ⟨μ19, hμ19, h⟩ := lm_inv h
  refine GM_putf (pc := 142) 1 5 0 kf_X1_81 (Nat.le_of_ble_eq_true rfl) (Nat.le_of_ble_eq_true rfl) rfl rfl (daX1_hold_1 9 rfl) hc18 (fun q => absurd q (by decide)) ?_
  refine GM_mem hμ19 ?_
  refine GM_aload_n (pc := 145) 0 rfl (daX1_hold_1 10 rfl) rfl ?_
  refine GM_aload_n (pc := 146) 0 rfl (daX1_hold_1 11 rfl) rfl ?_
  refine GM_getf (pc := 147) 1 3 0 3 kf_X1_53 (Nat.le_of_ble_eq_true rfl) (Nat.le_of_ble_eq_true rfl) rfl (daX1_hold_1 12 rfl) hc18 rfl ?_
  refine GM_iconst (pc := 150) 1 (daX1_hold_1 13 rfl) rfl (R32_b rfl) ?_
  refine GM_isub (pc := 151) (daX1_hold_1 14 rfl) ?_
  obtain ⟨μ20, hμ20, h⟩ := lm_inv h
  refine GM_putf (pc := 152) 1 6 0 kf_X1_84 (Nat.le_of_ble_eq_true rfl) (Nat.le_of_ble_eq_true rfl) rfl rfl (daX1_hold_1 15 rfl) hc18 (fun q => absurd q (by decide)) ?_
  refine GM_mem hμ20 ?_
  cases h
  exact GM_vret (pc := 155) (daX1_hold_1 16 rfl) rfl hK
set_option maxRecDepth 20000 in
theorem gX1_hold_37 (l : Launch) {F : FI} {v0 v2 v3 s0 s1 : Int} {μ : Mm} {t : Mm} (h : jX1_hold_37 v0 v2 v3 s0 s1 μ = some t) (hK : F.1 = [] ∧ F.2.1 = t) : GM l mX1_hold F 0 0 37 [(0, (3, v0)), (2, (3, v2)), (3, (0, v3))] [(0, s0), (3, s1)] μ := by
  unfold jX1_hold_37 at h
  obtain ⟨hc21, h⟩ := chk_inv h
  obtain ⟨μ22, hμ22, h⟩ := lm_inv h
  refine GM_putf (pc := 37) 1 7 0 kf_X1_60 (Nat.le_of_ble_eq_true rfl) (Nat.le_of_ble_eq_true rfl) rfl rfl (daX1_hold_0 21 rfl) hc21 (fun q => absurd q (by decide)) ?_
  refine GM_mem hμ22 ?_
  refine GM_aload_n (pc := 40) 0 rfl (daX1_hold_0 22 rfl) rfl ?_
  refine GM_iload_n (pc := 41) 2 rfl (daX1_hold_0 23 rfl) rfl ?_
  refine GM_iconst (pc := 42) (-1) (daX1_hold_0 24 rfl) rfl (R32_b rfl) ?_
  refine GM_icmp_ne (pc := 43) 53 (daX1_hold_0 25 rfl) rfl (fun c23 => ?_) (fun c23 => ?_)
  · skip
    rw [if_neg c23] at h
    refine GM_iload_n (pc := 53) 2 rfl (daX1_hold_0 29 rfl) rfl ?_
    refine GM_pick [0, 2] rfl ?_
    exact gX1_hold_54 l h hK
  · skip
    rw [if_pos c23] at h
    refine GM_aload_n (pc := 46) 1 rfl (daX1_hold_0 26 rfl) rfl ?_
    obtain ⟨hc24, h⟩ := chk_inv h
    refine GM_getf (pc := 47) 6 5 0 5 kf_X1_63 (Nat.le_of_ble_eq_true rfl) (Nat.le_of_ble_eq_true rfl) rfl (daX1_hold_0 27 rfl) hc24 rfl ?_
    refine GM_goto (pc := 50) 54 (daX1_hold_0 28 rfl) rfl ?_
    refine GM_pick [0, 2] rfl ?_
    exact gX1_hold_54 l h hK
set_option maxRecDepth 20000 in
theorem gX1_hold_0 (l : Launch) {F : FI} {v0 v1 v2 v3 : Int} {μ : Mm} {t : Mm} (h : fX1_hold v0 v1 v2 v3 μ = some t) (hK : F.1 = [] ∧ F.2.1 = t) : GM l mX1_hold F 0 0 0 [(0, (3, v0)), (1, (3, v1)), (2, (3, v2)), (3, (0, v3))] [] μ := by
  unfold fX1_hold at h
  refine GM_aload_n (pc := 0) 0 rfl (daX1_hold_0 0 rfl) rfl ?_
  refine GM_aload_n (pc := 1) 1 rfl (daX1_hold_0 1 rfl) rfl ?_
  obtain ⟨hc25, h⟩ := chk_inv h
  obtain ⟨μ26, hμ26, h⟩ := lm_inv h
  refine GM_putf (pc := 2) 1 0 3 kf_X1_12 (Nat.le_of_ble_eq_true rfl) (Nat.le_of_ble_eq_true rfl) rfl rfl (daX1_hold_0 2 rfl) hc25 (fun q => absurd q (by decide)) ?_
  refine GM_mem hμ26 ?_
  refine GM_aload_n (pc := 5) 0 rfl (daX1_hold_0 3 rfl) rfl ?_
  refine GM_aload_n (pc := 6) 2 rfl (daX1_hold_0 4 rfl) rfl ?_
  obtain ⟨μ27, hμ27, h⟩ := lm_inv h
  refine GM_putf (pc := 7) 1 1 3 kf_X1_21 (Nat.le_of_ble_eq_true rfl) (Nat.le_of_ble_eq_true rfl) rfl rfl (daX1_hold_0 5 rfl) hc25 (fun q => absurd q (by decide)) ?_
  refine GM_mem hμ27 ?_
  refine GM_aload_n (pc := 10) 0 rfl (daX1_hold_0 6 rfl) rfl ?_
  refine GM_aload_n (pc := 11) 2 rfl (daX1_hold_0 7 rfl) rfl ?_
  obtain ⟨hc28, h⟩ := chk_inv h
  obtain ⟨r29, hf29, h⟩ := Option.bind_eq_some_iff.mp h
  refine GM_callV0 (pc := 12) [] (tX6_asksForYears l hf29) cwX6_asksForYears 6 (Nat.le_of_ble_eq_true rfl) rfl kv_X6_asksForYears ke_X6_asksForYears km_X1_45 hc28 ⟨Nat.le_of_ble_eq_true rfl, Nat.le_of_ble_eq_true rfl⟩ (Nat.le_of_ble_eq_true rfl) (Nat.le_of_ble_eq_true rfl) (daX1_hold_0 8 rfl) ?_
  obtain ⟨hc30, h⟩ := chk_inv h
  obtain ⟨μ31, hμ31, h⟩ := lm_inv h
  refine GM_putf (pc := 15) 1 8 0 kf_X1_49 (Nat.le_of_ble_eq_true rfl) (Nat.le_of_ble_eq_true rfl) rfl rfl (daX1_hold_0 9 rfl) hc25 (fun _ => hc30) ?_
  refine GM_mem hμ31 ?_
  refine GM_aload_n (pc := 18) 0 rfl (daX1_hold_0 10 rfl) rfl ?_
  refine GM_iconst (pc := 19) 0 (daX1_hold_0 11 rfl) rfl (R32_b rfl) ?_
  obtain ⟨μ32, hμ32, h⟩ := lm_inv h
  refine GM_putf (pc := 20) 1 3 0 kf_X1_53 (Nat.le_of_ble_eq_true rfl) (Nat.le_of_ble_eq_true rfl) rfl rfl (daX1_hold_0 12 rfl) hc25 (fun q => absurd q (by decide)) ?_
  refine GM_mem hμ32 ?_
  refine GM_aload_n (pc := 23) 0 rfl (daX1_hold_0 13 rfl) rfl ?_
  refine GM_iload_n (pc := 24) 3 rfl (daX1_hold_0 14 rfl) rfl ?_
  refine GM_iconst (pc := 25) (-1) (daX1_hold_0 15 rfl) rfl (R32_b rfl) ?_
  refine GM_icmp_ne (pc := 26) 36 (daX1_hold_0 16 rfl) rfl (fun c33 => ?_) (fun c33 => ?_)
  · skip
    rw [if_neg c33] at h
    refine GM_iload_n (pc := 36) 3 rfl (daX1_hold_0 20 rfl) rfl ?_
    refine GM_pick [0, 2, 3] rfl ?_
    exact gX1_hold_37 l h hK
  · skip
    rw [if_pos c33] at h
    refine GM_aload_n (pc := 29) 2 rfl (daX1_hold_0 17 rfl) rfl ?_
    refine GM_getf (pc := 30) 6 6 0 6 kf_X1_57 (Nat.le_of_ble_eq_true rfl) (Nat.le_of_ble_eq_true rfl) rfl (daX1_hold_0 18 rfl) hc28 rfl ?_
    refine GM_goto (pc := 33) 37 (daX1_hold_0 19 rfl) rfl ?_
    refine GM_pick [0, 2, 3] rfl ?_
    exact gX1_hold_37 l h hK
theorem tX1_hold (l : Launch) {v0 v1 v2 v3 : Int} {μ : Mm} {t : Mm} (h : fX1_hold v0 v1 v2 v3 μ = some t) : Ct l yX1_hold mX1_hold [(3, v0), (3, v1), (3, v2), (0, v3)] μ ([], t, 0, 0) :=
  Ct_of (by decide +kernel) rfl rfl (Nat.le_of_ble_eq_true rfl) (fun _ _ _ => trivial) (gX1_hold_0 l h ⟨rfl, rfl⟩)
def mX1_yearFrom : MI := (RX1, cX1_yearFrom, 2, (some .int), "yearFrom", 0, 0, fun _ _ _ => True)
theorem cwX1_yearFrom : CWd yX1_yearFrom mX1_yearFrom 1 := ⟨ki_X1, kk_X1_yearFrom, ⟨by decide, by decide⟩, rfl⟩
def dtX1_yearFrom_0 : List (Nat × Instr × Nat) := [(0, .iload_n 1, 1), (1, .ifCond .lt 26, 3), (4, .iload_n 1, 1), (5, .aload_n 0, 1), (6, .getfield 53, 3), (9, .if_icmp .ge 18, 3), (12, .iload_n 1, 1), (13, .bipush 25, 2), (15, .if_icmp .ge 12, 3), (18, .aload_n 0, 1), (19, .getfield 32, 3), (22, .iload_n 1, 1), (23, .iaload, 1), (24, .goto 4, 3), (27, .iconst (-1), 1), (28, .ireturn, 1)]
theorem ddX1_yearFrom_0 : (dtX1_yearFrom_0.all fun e => decide (decode mX1_yearFrom.2.1 e.1 = .ok (e.2.1, e.2.2))) = true := by decide +kernel
theorem daX1_yearFrom_0 (j : Nat) {pc n : Nat} {i : Instr} (h : dtX1_yearFrom_0[j]? = some (pc, i, n)) : decode mX1_yearFrom.2.1 pc = .ok (i, n) := dec_of (c := mX1_yearFrom.2.1) ddX1_yearFrom_0 h
def fX1_yearFrom (v0 v1 : Int) (μ : Mm) : Option Int :=
  if v1 < 0 then
    some (-1)
  else
    chk (KD v0 = 1) (
    if μ v0 3 ≤ v1 then
      some (-1)
    else
      if 25 ≤ v1 then
        some (-1)
      else
        chk (KD (μ v0 4) = 12 ∧ 0 ≤ v1 ∧ v1 < LN (μ v0 4)) (
        some (μ (μ v0 4) v1)))
set_option maxRecDepth 20000 in
theorem gX1_yearFrom_0 (l : Launch) {F : FI} {v0 v1 : Int} {μ : Mm} {t : Int} (h : fX1_yearFrom v0 v1 μ = some t) (hK : F.1 = [(0, t)] ∧ F.2.1 = μ) : GM l mX1_yearFrom F 0 0 0 [(0, (3, v0)), (1, (0, v1))] [] μ := by
  unfold fX1_yearFrom at h
  refine GM_iload_n (pc := 0) 1 rfl (daX1_yearFrom_0 0 rfl) rfl ?_
  refine GM_if_lt (pc := 1) 27 (daX1_yearFrom_0 1 rfl) rfl (fun c1 => ?_) (fun c1 => ?_)
  · skip
    rw [if_pos c1] at h
    refine GM_iconst (pc := 27) (-1) (daX1_yearFrom_0 14 rfl) rfl (R32_b rfl) ?_
    cases h
    exact GM_iret (pc := 28) (daX1_yearFrom_0 15 rfl) rfl hK
  · skip
    rw [if_neg c1] at h
    refine GM_iload_n (pc := 4) 1 rfl (daX1_yearFrom_0 2 rfl) rfl ?_
    refine GM_aload_n (pc := 5) 0 rfl (daX1_yearFrom_0 3 rfl) rfl ?_
    obtain ⟨hc2, h⟩ := chk_inv h
    refine GM_getf (pc := 6) 1 3 0 3 kf_X1_53 (Nat.le_of_ble_eq_true rfl) (Nat.le_of_ble_eq_true rfl) rfl (daX1_yearFrom_0 4 rfl) hc2 rfl ?_
    refine GM_icmp_ge (pc := 9) 27 (daX1_yearFrom_0 5 rfl) rfl (fun c3 => ?_) (fun c3 => ?_)
    · skip
      rw [if_pos c3] at h
      refine GM_iconst (pc := 27) (-1) (daX1_yearFrom_0 14 rfl) rfl (R32_b rfl) ?_
      cases h
      exact GM_iret (pc := 28) (daX1_yearFrom_0 15 rfl) rfl hK
    · skip
      rw [if_neg c3] at h
      refine GM_iload_n (pc := 12) 1 rfl (daX1_yearFrom_0 6 rfl) rfl ?_
      refine GM_bipush (pc := 13) 25 (daX1_yearFrom_0 7 rfl) rfl (R32_b rfl) ?_
      refine GM_icmp_ge (pc := 15) 27 (daX1_yearFrom_0 8 rfl) rfl (fun c4 => ?_) (fun c4 => ?_)
      · skip
        rw [if_pos c4] at h
        refine GM_iconst (pc := 27) (-1) (daX1_yearFrom_0 14 rfl) rfl (R32_b rfl) ?_
        cases h
        exact GM_iret (pc := 28) (daX1_yearFrom_0 15 rfl) rfl hK
      · skip
        rw [if_neg c4] at h
        refine GM_aload_n (pc := 18) 0 rfl (daX1_yearFrom_0 9 rfl) rfl ?_
        refine GM_getf (pc := 19) 1 4 3 4 kf_X1_32 (Nat.le_of_ble_eq_true rfl) (Nat.le_of_ble_eq_true rfl) rfl (daX1_yearFrom_0 10 rfl) hc2 rfl ?_
        refine GM_iload_n (pc := 22) 1 rfl (daX1_yearFrom_0 11 rfl) rfl ?_
        obtain ⟨hc5, h⟩ := chk_inv h
        refine GM_iald (pc := 23) (daX1_yearFrom_0 12 rfl) hc5.1 hc5.2.1 hc5.2.2 ?_
        refine GM_goto (pc := 24) 28 (daX1_yearFrom_0 13 rfl) rfl ?_
        cases h
        exact GM_iret (pc := 28) (daX1_yearFrom_0 15 rfl) rfl hK
theorem tX1_yearFrom (l : Launch) {v0 v1 : Int} {μ : Mm} {t : Int} (h : fX1_yearFrom v0 v1 μ = some t) : Ct l yX1_yearFrom mX1_yearFrom [(3, v0), (0, v1)] μ ([(0, t)], μ, 0, 0) :=
  Ct_of (by decide +kernel) rfl rfl (Nat.le_of_ble_eq_true rfl) (fun _ _ _ => trivial) (gX1_yearFrom_0 l h ⟨rfl, rfl⟩)
def mX1_yearTo : MI := (RX1, cX1_yearTo, 2, (some .int), "yearTo", 1, 21, fun _ _ _ => True)
theorem cwX1_yearTo : CWd yX1_yearTo mX1_yearTo 1 := ⟨ki_X1, kk_X1_yearTo, ⟨by decide, by decide⟩, rfl⟩
def dtX1_yearTo_0 : List (Nat × Instr × Nat) := [(0, .iload_n 1, 1), (1, .iconst 1, 1), (2, .iadd, 1), (3, .aload_n 0, 1), (4, .getfield 53, 3), (7, .if_icmp .ge 15, 3), (10, .aload_n 0, 1), (11, .iload_n 1, 1), (12, .iconst 1, 1), (13, .iadd, 1), (14, .invokevirtual 87, 3), (17, .iconst 1, 1), (18, .isub, 1), (19, .goto 7, 3), (22, .aload_n 0, 1), (23, .getfield 60, 3), (26, .ireturn, 1)]
theorem ddX1_yearTo_0 : (dtX1_yearTo_0.all fun e => decide (decode mX1_yearTo.2.1 e.1 = .ok (e.2.1, e.2.2))) = true := by decide +kernel
theorem daX1_yearTo_0 (j : Nat) {pc n : Nat} {i : Instr} (h : dtX1_yearTo_0[j]? = some (pc, i, n)) : decode mX1_yearTo.2.1 pc = .ok (i, n) := dec_of (c := mX1_yearTo.2.1) ddX1_yearTo_0 h
def fX1_yearTo (v0 v1 : Int) (μ : Mm) : Option Int :=
  chk (KD v0 = 1) (
  if μ v0 3 ≤ w32 (v1 + 1) then
    some (μ v0 7)
  else
    (fX1_yearFrom v0 (w32 (v1 + 1)) μ).bind fun r3 =>
    some (w32 (r3 - 1)))
set_option maxRecDepth 20000 in
theorem gX1_yearTo_0 (l : Launch) {F : FI} {v0 v1 : Int} {μ : Mm} {t : Int} (h : fX1_yearTo v0 v1 μ = some t) (hK : F.1 = [(0, t)] ∧ F.2.1 = μ) : GM l mX1_yearTo F 0 0 0 [(0, (3, v0)), (1, (0, v1))] [] μ := by
  unfold fX1_yearTo at h
  refine GM_iload_n (pc := 0) 1 rfl (daX1_yearTo_0 0 rfl) rfl ?_
  refine GM_iconst (pc := 1) 1 (daX1_yearTo_0 1 rfl) rfl (R32_b rfl) ?_
  refine GM_iadd (pc := 2) (daX1_yearTo_0 2 rfl) ?_
  refine GM_aload_n (pc := 3) 0 rfl (daX1_yearTo_0 3 rfl) rfl ?_
  obtain ⟨hc1, h⟩ := chk_inv h
  refine GM_getf (pc := 4) 1 3 0 3 kf_X1_53 (Nat.le_of_ble_eq_true rfl) (Nat.le_of_ble_eq_true rfl) rfl (daX1_yearTo_0 4 rfl) hc1 rfl ?_
  refine GM_icmp_ge (pc := 7) 22 (daX1_yearTo_0 5 rfl) rfl (fun c2 => ?_) (fun c2 => ?_)
  · skip
    rw [if_pos c2] at h
    refine GM_aload_n (pc := 22) 0 rfl (daX1_yearTo_0 14 rfl) rfl ?_
    refine GM_getf (pc := 23) 1 7 0 7 kf_X1_60 (Nat.le_of_ble_eq_true rfl) (Nat.le_of_ble_eq_true rfl) rfl (daX1_yearTo_0 15 rfl) hc1 rfl ?_
    cases h
    exact GM_iret (pc := 26) (daX1_yearTo_0 16 rfl) rfl hK
  · skip
    rw [if_neg c2] at h
    refine GM_aload_n (pc := 10) 0 rfl (daX1_yearTo_0 6 rfl) rfl ?_
    refine GM_iload_n (pc := 11) 1 rfl (daX1_yearTo_0 7 rfl) rfl ?_
    refine GM_iconst (pc := 12) 1 (daX1_yearTo_0 8 rfl) rfl (R32_b rfl) ?_
    refine GM_iadd (pc := 13) (daX1_yearTo_0 9 rfl) ?_
    obtain ⟨r3, hf3, h⟩ := Option.bind_eq_some_iff.mp h
    refine GM_callV0 (pc := 14) [(0, w32 (v1 + 1))] (tX1_yearFrom l hf3) cwX1_yearFrom 1 (Nat.le_of_ble_eq_true rfl) rfl kv_X1_yearFrom ke_X1_yearFrom km_X1_87 hc1 ⟨Nat.le_of_ble_eq_true rfl, Nat.le_of_ble_eq_true rfl⟩ (Nat.le_of_ble_eq_true rfl) (Nat.le_of_ble_eq_true rfl) (daX1_yearTo_0 10 rfl) ?_
    refine GM_iconst (pc := 17) 1 (daX1_yearTo_0 11 rfl) rfl (R32_b rfl) ?_
    refine GM_isub (pc := 18) (daX1_yearTo_0 12 rfl) ?_
    refine GM_goto (pc := 19) 26 (daX1_yearTo_0 13 rfl) rfl ?_
    cases h
    exact GM_iret (pc := 26) (daX1_yearTo_0 16 rfl) rfl hK
theorem tX1_yearTo (l : Launch) {v0 v1 : Int} {μ : Mm} {t : Int} (h : fX1_yearTo v0 v1 μ = some t) : Ct l yX1_yearTo mX1_yearTo [(3, v0), (0, v1)] μ ([(0, t)], μ, 0, 0) :=
  Ct_of (by decide +kernel) rfl rfl (Nat.le_of_ble_eq_true rfl) (fun _ _ _ => trivial) (gX1_yearTo_0 l h ⟨rfl, rfl⟩)
def mX1_narrow : MI := (RX1, cX1_narrow, 2, none, "narrow", 0, 0, fun _ _ _ => True)
theorem cwX1_narrow : CWd yX1_narrow mX1_narrow 1 := ⟨ki_X1, kk_X1_narrow, ⟨by decide, by decide⟩, rfl⟩
def dtX1_narrow_0 : List (Nat × Instr × Nat) := [(0, .aload_n 0, 1), (1, .iload_n 1, 1), (2, .putfield 81, 3), (5, .aload_n 0, 1), (6, .iload_n 1, 1), (7, .putfield 84, 3), (10, .return_, 1)]
theorem ddX1_narrow_0 : (dtX1_narrow_0.all fun e => decide (decode mX1_narrow.2.1 e.1 = .ok (e.2.1, e.2.2))) = true := by decide +kernel
theorem daX1_narrow_0 (j : Nat) {pc n : Nat} {i : Instr} (h : dtX1_narrow_0[j]? = some (pc, i, n)) : decode mX1_narrow.2.1 pc = .ok (i, n) := dec_of (c := mX1_narrow.2.1) ddX1_narrow_0 h
def fX1_narrow (v0 v1 : Int) (μ : Mm) : Option Mm :=
  chk (KD v0 = 1) (
  lm (mst μ v0 5 v1) fun μ2 =>
  lm (mst μ2 v0 6 v1) fun μ3 =>
  some μ3)
set_option maxRecDepth 20000 in
theorem gX1_narrow_0 (l : Launch) {F : FI} {v0 v1 : Int} {μ : Mm} {t : Mm} (h : fX1_narrow v0 v1 μ = some t) (hK : F.1 = [] ∧ F.2.1 = t) : GM l mX1_narrow F 0 0 0 [(0, (3, v0)), (1, (0, v1))] [] μ := by
  unfold fX1_narrow at h
  refine GM_aload_n (pc := 0) 0 rfl (daX1_narrow_0 0 rfl) rfl ?_
  refine GM_iload_n (pc := 1) 1 rfl (daX1_narrow_0 1 rfl) rfl ?_
  obtain ⟨hc1, h⟩ := chk_inv h
  obtain ⟨μ2, hμ2, h⟩ := lm_inv h
  refine GM_putf (pc := 2) 1 5 0 kf_X1_81 (Nat.le_of_ble_eq_true rfl) (Nat.le_of_ble_eq_true rfl) rfl rfl (daX1_narrow_0 2 rfl) hc1 (fun q => absurd q (by decide)) ?_
  refine GM_mem hμ2 ?_
  refine GM_aload_n (pc := 5) 0 rfl (daX1_narrow_0 3 rfl) rfl ?_
  refine GM_iload_n (pc := 6) 1 rfl (daX1_narrow_0 4 rfl) rfl ?_
  obtain ⟨μ3, hμ3, h⟩ := lm_inv h
  refine GM_putf (pc := 7) 1 6 0 kf_X1_84 (Nat.le_of_ble_eq_true rfl) (Nat.le_of_ble_eq_true rfl) rfl rfl (daX1_narrow_0 5 rfl) hc1 (fun q => absurd q (by decide)) ?_
  refine GM_mem hμ3 ?_
  cases h
  exact GM_vret (pc := 10) (daX1_narrow_0 6 rfl) rfl hK
theorem tX1_narrow (l : Launch) {v0 v1 : Int} {μ : Mm} {t : Mm} (h : fX1_narrow v0 v1 μ = some t) : Ct l yX1_narrow mX1_narrow [(3, v0), (0, v1)] μ ([], t, 0, 0) :=
  Ct_of (by decide +kernel) rfl rfl (Nat.le_of_ble_eq_true rfl) (fun _ _ _ => trivial) (gX1_narrow_0 l h ⟨rfl, rfl⟩)
def mX1_canBe : MI := (RX1, cX1_canBe, 1, (some .boolean), "canBe", 0, 0, fun _ _ _ => True)
theorem cwX1_canBe : CWd yX1_canBe mX1_canBe 0 := ⟨ki_X1, kk_X1_canBe, ⟨by decide, by decide⟩, rfl⟩
def dtX1_canBe_0 : List (Nat × Instr × Nat) := [(0, .aload_n 0, 1), (1, .getfield 21, 3), (4, .getfield 91, 3), (7, .aload_n 0, 1), (8, .getfield 28, 3), (11, .getfield 94, 3), (14, .if_icmp .eq 30, 3), (17, .aload_n 0, 1), (18, .getfield 21, 3), (21, .getfield 95, 3), (24, .ifCond .eq 24, 3), (27, .aload_n 0, 1), (28, .getfield 21, 3), (31, .getfield 91, 3), (34, .aload_n 0, 1), (35, .getfield 28, 3), (38, .getfield 94, 3), (41, .if_icmp .ge 7, 3), (44, .iconst 1, 1), (45, .goto 4, 3), (48, .iconst 0, 1), (49, .ireturn, 1)]
theorem ddX1_canBe_0 : (dtX1_canBe_0.all fun e => decide (decode mX1_canBe.2.1 e.1 = .ok (e.2.1, e.2.2))) = true := by decide +kernel
theorem daX1_canBe_0 (j : Nat) {pc n : Nat} {i : Instr} (h : dtX1_canBe_0[j]? = some (pc, i, n)) : decode mX1_canBe.2.1 pc = .ok (i, n) := dec_of (c := mX1_canBe.2.1) ddX1_canBe_0 h
def fX1_canBe (v0 : Int) (μ : Mm) : Option Int :=
  chk (KD v0 = 1) (
  chk (KD (μ v0 1) = 6) (
  chk (KD (μ v0 2) = 7) (
  if μ (μ v0 1) 0 = μ (μ v0 2) 2 then
    some 1
  else
    if μ (μ v0 1) 3 = 0 then
      some 0
    else
      if μ (μ v0 2) 2 ≤ μ (μ v0 1) 0 then
        some 0
      else
        some 1)))
set_option maxRecDepth 20000 in
theorem gX1_canBe_0 (l : Launch) {F : FI} {v0 : Int} {μ : Mm} {t : Int} (h : fX1_canBe v0 μ = some t) (hK : F.1 = [(0, t)] ∧ F.2.1 = μ) : GM l mX1_canBe F 0 0 0 [(0, (3, v0))] [] μ := by
  unfold fX1_canBe at h
  refine GM_aload_n (pc := 0) 0 rfl (daX1_canBe_0 0 rfl) rfl ?_
  obtain ⟨hc1, h⟩ := chk_inv h
  refine GM_getf (pc := 1) 1 1 3 1 kf_X1_21 (Nat.le_of_ble_eq_true rfl) (Nat.le_of_ble_eq_true rfl) rfl (daX1_canBe_0 1 rfl) hc1 rfl ?_
  obtain ⟨hc2, h⟩ := chk_inv h
  refine GM_getf (pc := 4) 6 0 0 0 kf_X1_91 (Nat.le_of_ble_eq_true rfl) (Nat.le_of_ble_eq_true rfl) rfl (daX1_canBe_0 2 rfl) hc2 rfl ?_
  refine GM_aload_n (pc := 7) 0 rfl (daX1_canBe_0 3 rfl) rfl ?_
  refine GM_getf (pc := 8) 1 2 3 2 kf_X1_28 (Nat.le_of_ble_eq_true rfl) (Nat.le_of_ble_eq_true rfl) rfl (daX1_canBe_0 4 rfl) hc1 rfl ?_
  obtain ⟨hc3, h⟩ := chk_inv h
  refine GM_getf (pc := 11) 7 2 0 2 kf_X1_94 (Nat.le_of_ble_eq_true rfl) (Nat.le_of_ble_eq_true rfl) rfl (daX1_canBe_0 5 rfl) hc3 rfl ?_
  refine GM_icmp_eq (pc := 14) 44 (daX1_canBe_0 6 rfl) rfl (fun c4 => ?_) (fun c4 => ?_)
  · skip
    rw [if_pos c4] at h
    refine GM_iconst (pc := 44) 1 (daX1_canBe_0 18 rfl) rfl (R32_b rfl) ?_
    refine GM_goto (pc := 45) 49 (daX1_canBe_0 19 rfl) rfl ?_
    cases h
    exact GM_zret (pc := 49) (daX1_canBe_0 21 rfl) rfl (Or.inr rfl) hK
  · skip
    rw [if_neg c4] at h
    refine GM_aload_n (pc := 17) 0 rfl (daX1_canBe_0 7 rfl) rfl ?_
    refine GM_getf (pc := 18) 1 1 3 1 kf_X1_21 (Nat.le_of_ble_eq_true rfl) (Nat.le_of_ble_eq_true rfl) rfl (daX1_canBe_0 8 rfl) hc1 rfl ?_
    refine GM_getf (pc := 21) 6 3 0 3 kf_X1_95 (Nat.le_of_ble_eq_true rfl) (Nat.le_of_ble_eq_true rfl) rfl (daX1_canBe_0 9 rfl) hc2 rfl ?_
    refine GM_if_eq (pc := 24) 48 (daX1_canBe_0 10 rfl) rfl (fun c5 => ?_) (fun c5 => ?_)
    · skip
      rw [if_pos c5] at h
      refine GM_iconst (pc := 48) 0 (daX1_canBe_0 20 rfl) rfl (R32_b rfl) ?_
      cases h
      exact GM_zret (pc := 49) (daX1_canBe_0 21 rfl) rfl (Or.inl rfl) hK
    · skip
      rw [if_neg c5] at h
      refine GM_aload_n (pc := 27) 0 rfl (daX1_canBe_0 11 rfl) rfl ?_
      refine GM_getf (pc := 28) 1 1 3 1 kf_X1_21 (Nat.le_of_ble_eq_true rfl) (Nat.le_of_ble_eq_true rfl) rfl (daX1_canBe_0 12 rfl) hc1 rfl ?_
      refine GM_getf (pc := 31) 6 0 0 0 kf_X1_91 (Nat.le_of_ble_eq_true rfl) (Nat.le_of_ble_eq_true rfl) rfl (daX1_canBe_0 13 rfl) hc2 rfl ?_
      refine GM_aload_n (pc := 34) 0 rfl (daX1_canBe_0 14 rfl) rfl ?_
      refine GM_getf (pc := 35) 1 2 3 2 kf_X1_28 (Nat.le_of_ble_eq_true rfl) (Nat.le_of_ble_eq_true rfl) rfl (daX1_canBe_0 15 rfl) hc1 rfl ?_
      refine GM_getf (pc := 38) 7 2 0 2 kf_X1_94 (Nat.le_of_ble_eq_true rfl) (Nat.le_of_ble_eq_true rfl) rfl (daX1_canBe_0 16 rfl) hc3 rfl ?_
      refine GM_icmp_ge (pc := 41) 48 (daX1_canBe_0 17 rfl) rfl (fun c6 => ?_) (fun c6 => ?_)
      · skip
        rw [if_pos c6] at h
        refine GM_iconst (pc := 48) 0 (daX1_canBe_0 20 rfl) rfl (R32_b rfl) ?_
        cases h
        exact GM_zret (pc := 49) (daX1_canBe_0 21 rfl) rfl (Or.inl rfl) hK
      · skip
        rw [if_neg c6] at h
        refine GM_iconst (pc := 44) 1 (daX1_canBe_0 18 rfl) rfl (R32_b rfl) ?_
        refine GM_goto (pc := 45) 49 (daX1_canBe_0 19 rfl) rfl ?_
        cases h
        exact GM_zret (pc := 49) (daX1_canBe_0 21 rfl) rfl (Or.inr rfl) hK
theorem tX1_canBe (l : Launch) {v0 : Int} {μ : Mm} {t : Int} (h : fX1_canBe v0 μ = some t) : Ct l yX1_canBe mX1_canBe [(3, v0)] μ ([(0, t)], μ, 0, 0) :=
  Ct_of (by decide +kernel) rfl rfl (Nat.le_of_ble_eq_true rfl) (fun _ _ _ => trivial) (gX1_canBe_0 l h ⟨rfl, rfl⟩)
def mX1_canStand : MI := (RX1, cX1_canStand, 2, (some .boolean), "canStand", 1, 21, fun _ _ _ => True)
theorem cwX1_canStand : CWd yX1_canStand mX1_canStand 1 := ⟨ki_X1, kk_X1_canStand, ⟨by decide, by decide⟩, rfl⟩
def dtX1_canStand_0 : List (Nat × Instr × Nat) := [(0, .aload_n 0, 1), (1, .invokevirtual 98, 3), (4, .ifCond .eq 18, 3), (7, .aload_n 0, 1), (8, .getfield 28, 3), (11, .iload_n 1, 1), (12, .invokevirtual 101, 3), (15, .ifCond .eq 7, 3), (18, .iconst 1, 1), (19, .goto 4, 3), (22, .iconst 0, 1), (23, .ireturn, 1)]
theorem ddX1_canStand_0 : (dtX1_canStand_0.all fun e => decide (decode mX1_canStand.2.1 e.1 = .ok (e.2.1, e.2.2))) = true := by decide +kernel
theorem daX1_canStand_0 (j : Nat) {pc n : Nat} {i : Instr} (h : dtX1_canStand_0[j]? = some (pc, i, n)) : decode mX1_canStand.2.1 pc = .ok (i, n) := dec_of (c := mX1_canStand.2.1) ddX1_canStand_0 h
def fX1_canStand (v0 v1 : Int) (μ : Mm) : Option Int :=
  chk (KD v0 = 1) (
  (fX1_canBe v0 μ).bind fun r2 =>
  if r2 = 0 then
    some 0
  else
    chk (KD (μ v0 2) = 7) (
    (fX7_hasHump (μ v0 2) v1 μ).bind fun r5 =>
    if r5 = 0 then
      some 0
    else
      some 1))
set_option maxRecDepth 20000 in
theorem gX1_canStand_0 (l : Launch) {F : FI} {v0 v1 : Int} {μ : Mm} {t : Int} (h : fX1_canStand v0 v1 μ = some t) (hK : F.1 = [(0, t)] ∧ F.2.1 = μ) : GM l mX1_canStand F 0 0 0 [(0, (3, v0)), (1, (0, v1))] [] μ := by
  unfold fX1_canStand at h
  refine GM_aload_n (pc := 0) 0 rfl (daX1_canStand_0 0 rfl) rfl ?_
  obtain ⟨hc1, h⟩ := chk_inv h
  obtain ⟨r2, hf2, h⟩ := Option.bind_eq_some_iff.mp h
  refine GM_callV0 (pc := 1) [] (tX1_canBe l hf2) cwX1_canBe 1 (Nat.le_of_ble_eq_true rfl) rfl kv_X1_canBe ke_X1_canBe km_X1_98 hc1 ⟨Nat.le_of_ble_eq_true rfl, Nat.le_of_ble_eq_true rfl⟩ (Nat.le_of_ble_eq_true rfl) (Nat.le_of_ble_eq_true rfl) (daX1_canStand_0 1 rfl) ?_
  refine GM_if_eq (pc := 4) 22 (daX1_canStand_0 2 rfl) rfl (fun c3 => ?_) (fun c3 => ?_)
  · skip
    rw [if_pos c3] at h
    refine GM_iconst (pc := 22) 0 (daX1_canStand_0 10 rfl) rfl (R32_b rfl) ?_
    cases h
    exact GM_zret (pc := 23) (daX1_canStand_0 11 rfl) rfl (Or.inl rfl) hK
  · skip
    rw [if_neg c3] at h
    refine GM_aload_n (pc := 7) 0 rfl (daX1_canStand_0 3 rfl) rfl ?_
    refine GM_getf (pc := 8) 1 2 3 2 kf_X1_28 (Nat.le_of_ble_eq_true rfl) (Nat.le_of_ble_eq_true rfl) rfl (daX1_canStand_0 4 rfl) hc1 rfl ?_
    refine GM_iload_n (pc := 11) 1 rfl (daX1_canStand_0 5 rfl) rfl ?_
    obtain ⟨hc4, h⟩ := chk_inv h
    obtain ⟨r5, hf5, h⟩ := Option.bind_eq_some_iff.mp h
    refine GM_callV0 (pc := 12) [(0, v1)] (tX7_hasHump l hf5) cwX7_hasHump 7 (Nat.le_of_ble_eq_true rfl) rfl kv_X7_hasHump ke_X7_hasHump km_X1_101 hc4 ⟨Nat.le_of_ble_eq_true rfl, Nat.le_of_ble_eq_true rfl⟩ (Nat.le_of_ble_eq_true rfl) (Nat.le_of_ble_eq_true rfl) (daX1_canStand_0 6 rfl) ?_
    refine GM_if_eq (pc := 15) 22 (daX1_canStand_0 7 rfl) rfl (fun c6 => ?_) (fun c6 => ?_)
    · skip
      rw [if_pos c6] at h
      refine GM_iconst (pc := 22) 0 (daX1_canStand_0 10 rfl) rfl (R32_b rfl) ?_
      cases h
      exact GM_zret (pc := 23) (daX1_canStand_0 11 rfl) rfl (Or.inl rfl) hK
    · skip
      rw [if_neg c6] at h
      refine GM_iconst (pc := 18) 1 (daX1_canStand_0 8 rfl) rfl (R32_b rfl) ?_
      refine GM_goto (pc := 19) 23 (daX1_canStand_0 9 rfl) rfl ?_
      cases h
      exact GM_zret (pc := 23) (daX1_canStand_0 11 rfl) rfl (Or.inr rfl) hK
theorem tX1_canStand (l : Launch) {v0 v1 : Int} {μ : Mm} {t : Int} (h : fX1_canStand v0 v1 μ = some t) : Ct l yX1_canStand mX1_canStand [(3, v0), (0, v1)] μ ([(0, t)], μ, 0, 0) :=
  Ct_of (by decide +kernel) rfl rfl (Nat.le_of_ble_eq_true rfl) (fun _ _ _ => trivial) (gX1_canStand_0 l h ⟨rfl, rfl⟩)
def mX1_rayFor : MI := (RX1, cX1_rayFor, 4, (some .int), "rayFor", 2, 43, fun _ _ _ => True)
theorem cwX1_rayFor : CWd yX1_rayFor mX1_rayFor 2 := ⟨ki_X1, kk_X1_rayFor, ⟨by decide, by decide⟩, rfl⟩
def dtX1_rayFor_0 : List (Nat × Instr × Nat) := [(0, .aload_n 0, 1), (1, .getfield 21, 3), (4, .getfield 105, 3), (7, .ifCond .eq 9, 3), (10, .iload_n 1, 1), (11, .iload_n 2, 1), (12, .isub, 1), (13, .goto 6, 3), (16, .iload_n 1, 1), (17, .iload_n 2, 1), (18, .iadd, 1), (19, .istore_n 3, 1), (20, .aload_n 0, 1), (21, .getfield 28, 3), (24, .iload_n 3, 1), (25, .ifCond .ge 15, 3), (28, .iload_n 3, 1), (29, .aload_n 0, 1), (30, .getfield 28, 3), (33, .getfield 94, 3), (36, .iadd, 1), (37, .goto 4, 3), (40, .iload_n 3, 1), (41, .invokevirtual 108, 3), (44, .ireturn, 1)]
theorem ddX1_rayFor_0 : (dtX1_rayFor_0.all fun e => decide (decode mX1_rayFor.2.1 e.1 = .ok (e.2.1, e.2.2))) = true := by decide +kernel
theorem daX1_rayFor_0 (j : Nat) {pc n : Nat} {i : Instr} (h : dtX1_rayFor_0[j]? = some (pc, i, n)) : decode mX1_rayFor.2.1 pc = .ok (i, n) := dec_of (c := mX1_rayFor.2.1) ddX1_rayFor_0 h
def jX1_rayFor_41 (s0 s1 : Int) (μ : Mm) : Option Int :=
  chk (KD s1 = 7) (
  (fX7_rayOfHump s1 s0 μ).bind fun r2 =>
  some r2)
def jX1_rayFor_19 (v0 s0 : Int) (μ : Mm) : Option Int :=
  chk (KD v0 = 1) (
  if 0 ≤ s0 then
    jX1_rayFor_41 s0 (μ v0 2) μ
  else
    chk (KD (μ v0 2) = 7) (
    jX1_rayFor_41 (w32 (s0 + (μ (μ v0 2) 2))) (μ v0 2) μ))
def fX1_rayFor (v0 v1 v2 : Int) (μ : Mm) : Option Int :=
  chk (KD v0 = 1) (
  chk (KD (μ v0 1) = 6) (
  if μ (μ v0 1) 4 = 0 then
    jX1_rayFor_19 v0 (w32 (v1 + v2)) μ
  else
    jX1_rayFor_19 v0 (w32 (v1 - v2)) μ))
set_option maxRecDepth 20000 in
theorem gX1_rayFor_41 (l : Launch) {F : FI} {s0 s1 : Int} {μ : Mm} {t : Int} (h : jX1_rayFor_41 s0 s1 μ = some t) (hK : F.1 = [(0, t)] ∧ F.2.1 = μ) : GM l mX1_rayFor F 0 0 41 [] [(0, s0), (3, s1)] μ := by
  unfold jX1_rayFor_41 at h
  obtain ⟨hc1, h⟩ := chk_inv h
  obtain ⟨r2, hf2, h⟩ := Option.bind_eq_some_iff.mp h
  refine GM_callV0 (pc := 41) [(0, s0)] (tX7_rayOfHump l hf2) cwX7_rayOfHump 7 (Nat.le_of_ble_eq_true rfl) rfl kv_X7_rayOfHump ke_X7_rayOfHump km_X1_108 hc1 ⟨Nat.le_of_ble_eq_true rfl, Nat.le_of_ble_eq_true rfl⟩ (Nat.le_of_ble_eq_true rfl) (Nat.le_of_ble_eq_true rfl) (daX1_rayFor_0 23 rfl) ?_
  cases h
  exact GM_iret (pc := 44) (daX1_rayFor_0 24 rfl) rfl hK
set_option maxRecDepth 20000 in
theorem gX1_rayFor_19 (l : Launch) {F : FI} {v0 s0 : Int} {μ : Mm} {t : Int} (h : jX1_rayFor_19 v0 s0 μ = some t) (hK : F.1 = [(0, t)] ∧ F.2.1 = μ) : GM l mX1_rayFor F 0 0 19 [(0, (3, v0))] [(0, s0)] μ := by
  unfold jX1_rayFor_19 at h
  refine GM_istore_n (L' := [(3, (0, s0)), (0, (3, v0))]) (pc := 19) (daX1_rayFor_0 11 rfl) rfl (Nat.le_of_ble_eq_true rfl) rfl ?_
  refine GM_aload_n (pc := 20) 1 rfl (daX1_rayFor_0 12 rfl) rfl ?_
  obtain ⟨hc3, h⟩ := chk_inv h
  refine GM_getf (pc := 21) 1 2 3 2 kf_X1_28 (Nat.le_of_ble_eq_true rfl) (Nat.le_of_ble_eq_true rfl) rfl (daX1_rayFor_0 13 rfl) hc3 rfl ?_
  refine GM_iload_n (pc := 24) 0 rfl (daX1_rayFor_0 14 rfl) rfl ?_
  refine GM_if_ge (pc := 25) 40 (daX1_rayFor_0 15 rfl) rfl (fun c4 => ?_) (fun c4 => ?_)
  · skip
    rw [if_pos c4] at h
    refine GM_iload_n (pc := 40) 0 rfl (daX1_rayFor_0 22 rfl) rfl ?_
    refine GM_pick [] rfl ?_
    exact gX1_rayFor_41 l h hK
  · skip
    rw [if_neg c4] at h
    refine GM_iload_n (pc := 28) 0 rfl (daX1_rayFor_0 16 rfl) rfl ?_
    refine GM_aload_n (pc := 29) 1 rfl (daX1_rayFor_0 17 rfl) rfl ?_
    refine GM_getf (pc := 30) 1 2 3 2 kf_X1_28 (Nat.le_of_ble_eq_true rfl) (Nat.le_of_ble_eq_true rfl) rfl (daX1_rayFor_0 18 rfl) hc3 rfl ?_
    obtain ⟨hc5, h⟩ := chk_inv h
    refine GM_getf (pc := 33) 7 2 0 2 kf_X1_94 (Nat.le_of_ble_eq_true rfl) (Nat.le_of_ble_eq_true rfl) rfl (daX1_rayFor_0 19 rfl) hc5 rfl ?_
    refine GM_iadd (pc := 36) (daX1_rayFor_0 20 rfl) ?_
    refine GM_goto (pc := 37) 41 (daX1_rayFor_0 21 rfl) rfl ?_
    refine GM_pick [] rfl ?_
    exact gX1_rayFor_41 l h hK
set_option maxRecDepth 20000 in
theorem gX1_rayFor_0 (l : Launch) {F : FI} {v0 v1 v2 : Int} {μ : Mm} {t : Int} (h : fX1_rayFor v0 v1 v2 μ = some t) (hK : F.1 = [(0, t)] ∧ F.2.1 = μ) : GM l mX1_rayFor F 0 0 0 [(0, (3, v0)), (1, (0, v1)), (2, (0, v2))] [] μ := by
  unfold fX1_rayFor at h
  refine GM_aload_n (pc := 0) 0 rfl (daX1_rayFor_0 0 rfl) rfl ?_
  obtain ⟨hc6, h⟩ := chk_inv h
  refine GM_getf (pc := 1) 1 1 3 1 kf_X1_21 (Nat.le_of_ble_eq_true rfl) (Nat.le_of_ble_eq_true rfl) rfl (daX1_rayFor_0 1 rfl) hc6 rfl ?_
  obtain ⟨hc7, h⟩ := chk_inv h
  refine GM_getf (pc := 4) 6 4 0 4 kf_X1_105 (Nat.le_of_ble_eq_true rfl) (Nat.le_of_ble_eq_true rfl) rfl (daX1_rayFor_0 2 rfl) hc7 rfl ?_
  refine GM_if_eq (pc := 7) 16 (daX1_rayFor_0 3 rfl) rfl (fun c8 => ?_) (fun c8 => ?_)
  · skip
    rw [if_pos c8] at h
    refine GM_iload_n (pc := 16) 1 rfl (daX1_rayFor_0 8 rfl) rfl ?_
    refine GM_iload_n (pc := 17) 2 rfl (daX1_rayFor_0 9 rfl) rfl ?_
    refine GM_iadd (pc := 18) (daX1_rayFor_0 10 rfl) ?_
    refine GM_pick [0] rfl ?_
    exact gX1_rayFor_19 l h hK
  · skip
    rw [if_neg c8] at h
    refine GM_iload_n (pc := 10) 1 rfl (daX1_rayFor_0 4 rfl) rfl ?_
    refine GM_iload_n (pc := 11) 2 rfl (daX1_rayFor_0 5 rfl) rfl ?_
    refine GM_isub (pc := 12) (daX1_rayFor_0 6 rfl) ?_
    refine GM_goto (pc := 13) 19 (daX1_rayFor_0 7 rfl) rfl ?_
    refine GM_pick [0] rfl ?_
    exact gX1_rayFor_19 l h hK
theorem tX1_rayFor (l : Launch) {v0 v1 v2 : Int} {μ : Mm} {t : Int} (h : fX1_rayFor v0 v1 v2 μ = some t) : Ct l yX1_rayFor mX1_rayFor [(3, v0), (0, v1), (0, v2)] μ ([(0, t)], μ, 0, 0) :=
  Ct_of (by decide +kernel) rfl rfl (Nat.le_of_ble_eq_true rfl) (fun _ _ _ => trivial) (gX1_rayFor_0 l h ⟨rfl, rfl⟩)
def mX1_stand : MI := (RX1, cX1_stand, 3, none, "stand", 3, 66, fun _ _ _ => True)
theorem cwX1_stand : CWd yX1_stand mX1_stand 1 := ⟨ki_X1, kk_X1_stand, ⟨by decide, by decide⟩, rfl⟩
def dtX1_stand_0 : List (Nat × Instr × Nat) := [(0, .iconst 0, 1), (1, .istore_n 2, 1), (2, .iload_n 2, 1), (3, .aload_n 0, 1), (4, .getfield 21, 3), (7, .getfield 91, 3), (10, .if_icmp .ge 27, 3), (13, .iload_n 2, 1), (14, .bipush 12, 2), (16, .if_icmp .ge 21, 3), (19, .aload_n 0, 1), (20, .getfield 36, 3), (23, .iload_n 2, 1), (24, .aload_n 0, 1), (25, .iload_n 1, 1), (26, .iload_n 2, 1), (27, .invokevirtual 111, 3), (30, .iastore, 1), (31, .iinc 2 1, 3), (34, .goto (-32), 3), (37, .return_, 1)]
theorem ddX1_stand_0 : (dtX1_stand_0.all fun e => decide (decode mX1_stand.2.1 e.1 = .ok (e.2.1, e.2.2))) = true := by decide +kernel
theorem daX1_stand_0 (j : Nat) {pc n : Nat} {i : Instr} (h : dtX1_stand_0[j]? = some (pc, i, n)) : decode mX1_stand.2.1 pc = .ok (i, n) := dec_of (c := mX1_stand.2.1) ddX1_stand_0 h
def zX1_stand_2 (l : Launch) (F : FI) (v0 v1 : Int) (k n : Nat) : (Int × Mm) ⊕ Mm → Prop
  | .inl (v2, μ) => GM l mX1_stand F k n 2 [(0, (3, v0)), (1, (0, v1)), (2, (0, v2))] [] μ
  | .inr μ => GM l mX1_stand F k n 37 [] [] μ
def sX1_stand_2 (v0 v1 : Int) : (Int × Mm) → Option ((Int × Mm) ⊕ Mm) := fun (v2, μ) =>
  chk (KD v0 = 1) (
  chk (KD (μ v0 1) = 6) (
  if μ (μ v0 1) 0 ≤ v2 then
    some (.inr μ)
  else
    if 12 ≤ v2 then
      some (.inr μ)
    else
      (fX1_rayFor v0 v1 v2 μ).bind fun r5 =>
      chk (KD (μ v0 9) = 12 ∧ 0 ≤ v2 ∧ v2 < LN (μ v0 9)) (
      lm (mst μ (μ v0 9) v2 r5) fun μ7 =>
      some (.inl (w32 (v2 + 1), μ7)))))
def fX1_stand (v0 v1 : Int) (μ : Mm) : Option Mm :=
  (lop (sX1_stand_2 v0 v1) FU (0, μ)).bind fun μ_9 =>
    some μ_9
set_option maxRecDepth 20000 in
theorem qX1_stand_2 (l : Launch) (F : FI) (v0 v1 : Int) (k n : Nat) : ∀ (q : (Int × Mm)) (t : ((Int × Mm) ⊕ Mm)), sX1_stand_2 v0 v1 q = some t → zX1_stand_2 l F v0 v1 k n t → zX1_stand_2 l F v0 v1 k n (.inl q) := by
  intro q t h hK
  obtain ⟨v2, μ⟩ := q
  unfold sX1_stand_2 at h
  try dsimp only at h
  show GM l mX1_stand F k n 2 [(0, (3, v0)), (1, (0, v1)), (2, (0, v2))] [] μ
  refine GM_iload_n (pc := 2) 2 rfl (daX1_stand_0 2 rfl) rfl ?_
  refine GM_aload_n (pc := 3) 0 rfl (daX1_stand_0 3 rfl) rfl ?_
  obtain ⟨hc1, h⟩ := chk_inv h
  refine GM_getf (pc := 4) 1 1 3 1 kf_X1_21 (Nat.le_of_ble_eq_true rfl) (Nat.le_of_ble_eq_true rfl) rfl (daX1_stand_0 4 rfl) hc1 rfl ?_
  obtain ⟨hc2, h⟩ := chk_inv h
  refine GM_getf (pc := 7) 6 0 0 0 kf_X1_91 (Nat.le_of_ble_eq_true rfl) (Nat.le_of_ble_eq_true rfl) rfl (daX1_stand_0 5 rfl) hc2 rfl ?_
  refine GM_icmp_ge (pc := 10) 37 (daX1_stand_0 6 rfl) rfl (fun c3 => ?_) (fun c3 => ?_)
  · skip
    rw [if_pos c3] at h
    refine GM_pick [] rfl ?_
    cases h
    exact hK
  · skip
    rw [if_neg c3] at h
    refine GM_iload_n (pc := 13) 2 rfl (daX1_stand_0 7 rfl) rfl ?_
    refine GM_bipush (pc := 14) 12 (daX1_stand_0 8 rfl) rfl (R32_b rfl) ?_
    refine GM_icmp_ge (pc := 16) 37 (daX1_stand_0 9 rfl) rfl (fun c4 => ?_) (fun c4 => ?_)
    · skip
      rw [if_pos c4] at h
      refine GM_pick [] rfl ?_
      cases h
      exact hK
    · skip
      rw [if_neg c4] at h
      refine GM_aload_n (pc := 19) 0 rfl (daX1_stand_0 10 rfl) rfl ?_
      refine GM_getf (pc := 20) 1 9 3 9 kf_X1_36 (Nat.le_of_ble_eq_true rfl) (Nat.le_of_ble_eq_true rfl) rfl (daX1_stand_0 11 rfl) hc1 rfl ?_
      refine GM_iload_n (pc := 23) 2 rfl (daX1_stand_0 12 rfl) rfl ?_
      refine GM_aload_n (pc := 24) 0 rfl (daX1_stand_0 13 rfl) rfl ?_
      refine GM_iload_n (pc := 25) 1 rfl (daX1_stand_0 14 rfl) rfl ?_
      refine GM_iload_n (pc := 26) 2 rfl (daX1_stand_0 15 rfl) rfl ?_
      obtain ⟨r5, hf5, h⟩ := Option.bind_eq_some_iff.mp h
      refine GM_callV0 (pc := 27) [(0, v1), (0, v2)] (tX1_rayFor l hf5) cwX1_rayFor 1 (Nat.le_of_ble_eq_true rfl) rfl kv_X1_rayFor ke_X1_rayFor km_X1_111 hc1 ⟨Nat.le_of_ble_eq_true rfl, Nat.le_of_ble_eq_true rfl⟩ (Nat.le_of_ble_eq_true rfl) (Nat.le_of_ble_eq_true rfl) (daX1_stand_0 16 rfl) ?_
      obtain ⟨hc6, h⟩ := chk_inv h
      obtain ⟨μ7, hμ7, h⟩ := lm_inv h
      refine GM_iast (pc := 30) (daX1_stand_0 17 rfl) hc6.1 hc6.2.1 hc6.2.2 ?_
      refine GM_mem hμ7 ?_
      refine GM_iinc (L' := [(2, (0, w32 (v2 + 1))), (0, (3, v0)), (1, (0, v1))]) (pc := 31) 2 rfl (daX1_stand_0 18 rfl) (Nat.le_of_ble_eq_true rfl) rfl ?_
      refine GM_goto (pc := 34) 2 (daX1_stand_0 19 rfl) rfl ?_
      refine GM_pick [1, 2, 0] rfl ?_
      cases h
      exact hK
set_option maxRecDepth 20000 in
theorem gX1_stand_0 (l : Launch) {F : FI} {v0 v1 : Int} {μ : Mm} {t : Mm} (h : fX1_stand v0 v1 μ = some t) (hK : F.1 = [] ∧ F.2.1 = t) : GM l mX1_stand F 0 0 0 [(0, (3, v0)), (1, (0, v1))] [] μ := by
  unfold fX1_stand at h
  refine GM_iconst (pc := 0) 0 (daX1_stand_0 0 rfl) rfl (R32_b rfl) ?_
  refine GM_istore_n (L' := [(2, (0, 0)), (0, (3, v0)), (1, (0, v1))]) (pc := 1) (daX1_stand_0 1 rfl) rfl (Nat.le_of_ble_eq_true rfl) rfl ?_
  refine GM_pick [1, 2, 0] rfl ?_
  obtain ⟨x8, hqx8, h⟩ := Option.bind_eq_some_iff.mp h
  refine lop_ind (zX1_stand_2 l F v0 v1 0 0) (qX1_stand_2 l F v0 v1 0 0) FU _ x8 hqx8 ?_
  obtain ⟨μ_9, hqq⟩ : ∃ z, z = x8 := ⟨x8, rfl⟩
  subst hqq
  show GM l mX1_stand F 0 0 37 [] [] μ_9
  cases h
  exact GM_vret (pc := 37) (daX1_stand_0 20 rfl) rfl hK
theorem tX1_stand (l : Launch) {v0 v1 : Int} {μ : Mm} {t : Mm} (h : fX1_stand v0 v1 μ = some t) : Ct l yX1_stand mX1_stand [(3, v0), (0, v1)] μ ([], t, 0, 0) :=
  Ct_of (by decide +kernel) rfl rfl (Nat.le_of_ble_eq_true rfl) (fun _ _ _ => trivial) (gX1_stand_0 l h ⟨rfl, rfl⟩)
def mX1_inProportion : MI := (RX1, cX1_inProportion, 11, (some .boolean), "inProportion", 1, 21, fun _ _ _ => True)
theorem cwX1_inProportion : CWd yX1_inProportion mX1_inProportion 4 := ⟨ki_X1, kk_X1_inProportion, ⟨by decide, by decide⟩, rfl⟩
def dtX1_inProportion_0 : List (Nat × Instr × Nat) := [(0, .iload 5, 2), (2, .ifCond .lt 22, 3), (5, .iload 5, 2), (7, .bipush 90, 2), (9, .if_icmp .ge 15, 3), (12, .iload 6, 2), (14, .ifCond .lt 10, 3), (17, .iload 6, 2), (19, .bipush 90, 2), (21, .if_icmp .lt 5, 3), (24, .iconst 0, 1), (25, .ireturn, 1), (26, .aload_n 0, 1), (27, .getfield 28, 3), (30, .getfield 161, 3), (33, .iload 5, 2), (35, .iaload, 1), (36, .ifCond .le 16, 3), (39, .aload_n 0, 1), (40, .getfield 28, 3), (43, .getfield 161, 3), (46, .iload 6, 2), (48, .iaload, 1), (49, .ifCond .gt 5, 3), (52, .iconst 0, 1), (53, .ireturn, 1), (54, .lload_n 1, 1), (55, .lload_n 1, 1), (56, .lmul, 1), (57, .aload_n 0, 1), (58, .getfield 28, 3), (61, .getfield 161, 3), (64, .iload 6, 2), (66, .iaload, 1), (67, .i2l, 1), (68, .lmul, 1), (69, .aload_n 0, 1), (70, .getfield 28, 3), (73, .getfield 164, 3), (76, .iload 5, 2), (78, .iaload, 1), (79, .i2l, 1), (80, .lmul, 1), (81, .lstore 7, 2), (83, .lload_n 3, 1), (84, .lload_n 3, 1), (85, .lmul, 1), (86, .aload_n 0, 1), (87, .getfield 28, 3), (90, .getfield 161, 3), (93, .iload 5, 2), (95, .iaload, 1), (96, .i2l, 1), (97, .lmul, 1), (98, .aload_n 0, 1), (99, .getfield 28, 3), (102, .getfield 164, 3), (105, .iload 6, 2), (107, .iaload, 1), (108, .i2l, 1), (109, .lmul, 1), (110, .lstore 9, 2), (112, .ldc2_w 167, 3), (115, .lload 7, 2)]
theorem ddX1_inProportion_0 : (dtX1_inProportion_0.all fun e => decide (decode mX1_inProportion.2.1 e.1 = .ok (e.2.1, e.2.2))) = true := by decide +kernel
theorem daX1_inProportion_0 (j : Nat) {pc n : Nat} {i : Instr} (h : dtX1_inProportion_0[j]? = some (pc, i, n)) : decode mX1_inProportion.2.1 pc = .ok (i, n) := dec_of (c := mX1_inProportion.2.1) ddX1_inProportion_0 h
def dtX1_inProportion_1 : List (Nat × Instr × Nat) := [(117, .lload 9, 2), (119, .lsub, 1), (120, .invokestatic 169, 3), (123, .lmul, 1), (124, .aload_n 0, 1), (125, .getfield 21, 3), (128, .getfield 155, 3), (131, .i2l, 1), (132, .lload 9, 2), (134, .lmul, 1), (135, .lcmp, 1), (136, .ifCond .gt 7, 3), (139, .iconst 1, 1), (140, .goto 4, 3), (143, .iconst 0, 1), (144, .ireturn, 1)]
theorem ddX1_inProportion_1 : (dtX1_inProportion_1.all fun e => decide (decode mX1_inProportion.2.1 e.1 = .ok (e.2.1, e.2.2))) = true := by decide +kernel
theorem daX1_inProportion_1 (j : Nat) {pc n : Nat} {i : Instr} (h : dtX1_inProportion_1[j]? = some (pc, i, n)) : decode mX1_inProportion.2.1 pc = .ok (i, n) := dec_of (c := mX1_inProportion.2.1) ddX1_inProportion_1 h
def fX1_inProportion (v0 v1 v3 v5 v6 : Int) (μ : Mm) : Option Int :=
  if v5 < 0 then
    some 0
  else
    if 90 ≤ v5 then
      some 0
    else
      if v6 < 0 then
        some 0
      else
        if v6 < 90 then
          chk (KD v0 = 1) (
          chk (KD (μ v0 2) = 7) (
          chk (KD (μ (μ v0 2) 5) = 12 ∧ 0 ≤ v5 ∧ v5 < LN (μ (μ v0 2) 5)) (
          if μ (μ (μ v0 2) 5) v5 ≤ 0 then
            some 0
          else
            chk (0 ≤ v6 ∧ v6 < LN (μ (μ v0 2) 5)) (
            if 0 < μ (μ (μ v0 2) 5) v6 then
              chk (KD (μ (μ v0 2) 6) = 12 ∧ v5 < LN (μ (μ v0 2) 6)) (
              lt (w64 ((w64 ((w64 (v1 * v1)) * (μ (μ (μ v0 2) 5) v6))) * (μ (μ (μ v0 2) 6) v5))) fun y12 =>
              chk (v6 < LN (μ (μ v0 2) 6)) (
              lt (w64 ((w64 ((w64 (v3 * v3)) * (μ (μ (μ v0 2) 5) v5))) * (μ (μ (μ v0 2) 6) v6))) fun y14 =>
              chk (KD (μ v0 1) = 6) (
              if w64 ((μ (μ v0 1) 1) * y14) < w64 (100 * (labs (w64 (y12 - y14)))) then
                some 0
              else
                some 1)))
            else
              some 0))))
        else
          some 0
set_option maxRecDepth 20000 in
theorem gX1_inProportion_0 (l : Launch) {F : FI} {v0 v1 v3 v5 v6 : Int} {μ : Mm} {t : Int} (h : fX1_inProportion v0 v1 v3 v5 v6 μ = some t) (hK : F.1 = [(0, t)] ∧ F.2.1 = μ) : GM l mX1_inProportion F 0 0 0 [(0, (3, v0)), (1, (2, v1)), (3, (2, v3)), (5, (0, v5)), (6, (0, v6))] [] μ := by
  unfold fX1_inProportion at h
  refine GM_iload (pc := 0) 3 rfl (daX1_inProportion_0 0 rfl) ?_
  refine GM_if_lt (pc := 2) 24 (daX1_inProportion_0 1 rfl) rfl (fun c1 => ?_) (fun c1 => ?_)
  · skip
    rw [if_pos c1] at h
    refine GM_iconst (pc := 24) 0 (daX1_inProportion_0 10 rfl) rfl (R32_b rfl) ?_
    cases h
    exact GM_zret (pc := 25) (daX1_inProportion_0 11 rfl) rfl (Or.inl rfl) hK
  · skip
    rw [if_neg c1] at h
    refine GM_iload (pc := 5) 3 rfl (daX1_inProportion_0 2 rfl) ?_
    refine GM_bipush (pc := 7) 90 (daX1_inProportion_0 3 rfl) rfl (R32_b rfl) ?_
    refine GM_icmp_ge (pc := 9) 24 (daX1_inProportion_0 4 rfl) rfl (fun c2 => ?_) (fun c2 => ?_)
    · skip
      rw [if_pos c2] at h
      refine GM_iconst (pc := 24) 0 (daX1_inProportion_0 10 rfl) rfl (R32_b rfl) ?_
      cases h
      exact GM_zret (pc := 25) (daX1_inProportion_0 11 rfl) rfl (Or.inl rfl) hK
    · skip
      rw [if_neg c2] at h
      refine GM_iload (pc := 12) 4 rfl (daX1_inProportion_0 5 rfl) ?_
      refine GM_if_lt (pc := 14) 24 (daX1_inProportion_0 6 rfl) rfl (fun c3 => ?_) (fun c3 => ?_)
      · skip
        rw [if_pos c3] at h
        refine GM_iconst (pc := 24) 0 (daX1_inProportion_0 10 rfl) rfl (R32_b rfl) ?_
        cases h
        exact GM_zret (pc := 25) (daX1_inProportion_0 11 rfl) rfl (Or.inl rfl) hK
      · skip
        rw [if_neg c3] at h
        refine GM_iload (pc := 17) 4 rfl (daX1_inProportion_0 7 rfl) ?_
        refine GM_bipush (pc := 19) 90 (daX1_inProportion_0 8 rfl) rfl (R32_b rfl) ?_
        refine GM_icmp_lt (pc := 21) 26 (daX1_inProportion_0 9 rfl) rfl (fun c4 => ?_) (fun c4 => ?_)
        · skip
          rw [if_pos c4] at h
          refine GM_aload_n (pc := 26) 0 rfl (daX1_inProportion_0 12 rfl) rfl ?_
          obtain ⟨hc5, h⟩ := chk_inv h
          refine GM_getf (pc := 27) 1 2 3 2 kf_X1_28 (Nat.le_of_ble_eq_true rfl) (Nat.le_of_ble_eq_true rfl) rfl (daX1_inProportion_0 13 rfl) hc5 rfl ?_
          obtain ⟨hc6, h⟩ := chk_inv h
          refine GM_getf (pc := 30) 7 5 3 5 kf_X1_161 (Nat.le_of_ble_eq_true rfl) (Nat.le_of_ble_eq_true rfl) rfl (daX1_inProportion_0 14 rfl) hc6 rfl ?_
          refine GM_iload (pc := 33) 3 rfl (daX1_inProportion_0 15 rfl) ?_
          obtain ⟨hc7, h⟩ := chk_inv h
          refine GM_iald (pc := 35) (daX1_inProportion_0 16 rfl) hc7.1 hc7.2.1 hc7.2.2 ?_
          refine GM_if_le (pc := 36) 52 (daX1_inProportion_0 17 rfl) rfl (fun c8 => ?_) (fun c8 => ?_)
          · skip
            rw [if_pos c8] at h
            refine GM_iconst (pc := 52) 0 (daX1_inProportion_0 24 rfl) rfl (R32_b rfl) ?_
            cases h
            exact GM_zret (pc := 53) (daX1_inProportion_0 25 rfl) rfl (Or.inl rfl) hK
          · skip
            rw [if_neg c8] at h
            refine GM_aload_n (pc := 39) 0 rfl (daX1_inProportion_0 18 rfl) rfl ?_
            refine GM_getf (pc := 40) 1 2 3 2 kf_X1_28 (Nat.le_of_ble_eq_true rfl) (Nat.le_of_ble_eq_true rfl) rfl (daX1_inProportion_0 19 rfl) hc5 rfl ?_
            refine GM_getf (pc := 43) 7 5 3 5 kf_X1_161 (Nat.le_of_ble_eq_true rfl) (Nat.le_of_ble_eq_true rfl) rfl (daX1_inProportion_0 20 rfl) hc6 rfl ?_
            refine GM_iload (pc := 46) 4 rfl (daX1_inProportion_0 21 rfl) ?_
            obtain ⟨hc9, h⟩ := chk_inv h
            refine GM_iald (pc := 48) (daX1_inProportion_0 22 rfl) hc7.1 hc9.1 hc9.2 ?_
            refine GM_if_gt (pc := 49) 54 (daX1_inProportion_0 23 rfl) rfl (fun c10 => ?_) (fun c10 => ?_)
            · skip
              rw [if_pos c10] at h
              refine GM_lload_n (pc := 54) 1 rfl (daX1_inProportion_0 26 rfl) rfl ?_
              refine GM_lload_n (pc := 55) 1 rfl (daX1_inProportion_0 27 rfl) rfl ?_
              refine GM_lmul (pc := 56) (daX1_inProportion_0 28 rfl) ?_
              refine GM_aload_n (pc := 57) 0 rfl (daX1_inProportion_0 29 rfl) rfl ?_
              refine GM_getf (pc := 58) 1 2 3 2 kf_X1_28 (Nat.le_of_ble_eq_true rfl) (Nat.le_of_ble_eq_true rfl) rfl (daX1_inProportion_0 30 rfl) hc5 rfl ?_
              refine GM_getf (pc := 61) 7 5 3 5 kf_X1_161 (Nat.le_of_ble_eq_true rfl) (Nat.le_of_ble_eq_true rfl) rfl (daX1_inProportion_0 31 rfl) hc6 rfl ?_
              refine GM_iload (pc := 64) 4 rfl (daX1_inProportion_0 32 rfl) ?_
              refine GM_iald (pc := 66) (daX1_inProportion_0 33 rfl) hc7.1 hc9.1 hc9.2 ?_
              refine GM_i2l (pc := 67) (daX1_inProportion_0 34 rfl) ?_
              refine GM_lmul (pc := 68) (daX1_inProportion_0 35 rfl) ?_
              refine GM_aload_n (pc := 69) 0 rfl (daX1_inProportion_0 36 rfl) rfl ?_
              refine GM_getf (pc := 70) 1 2 3 2 kf_X1_28 (Nat.le_of_ble_eq_true rfl) (Nat.le_of_ble_eq_true rfl) rfl (daX1_inProportion_0 37 rfl) hc5 rfl ?_
              refine GM_getf (pc := 73) 7 6 3 6 kf_X1_164 (Nat.le_of_ble_eq_true rfl) (Nat.le_of_ble_eq_true rfl) rfl (daX1_inProportion_0 38 rfl) hc6 rfl ?_
              refine GM_iload (pc := 76) 3 rfl (daX1_inProportion_0 39 rfl) ?_
              obtain ⟨hc11, h⟩ := chk_inv h
              refine GM_iald (pc := 78) (daX1_inProportion_0 40 rfl) hc11.1 hc7.2.1 hc11.2 ?_
              refine GM_i2l (pc := 79) (daX1_inProportion_0 41 rfl) ?_
              refine GM_lmul (pc := 80) (daX1_inProportion_0 42 rfl) ?_
              obtain ⟨y12, hy12, h⟩ := lt_inv h
              refine GM_top hy12 ?_
              refine GM_lstore (L' := [(7, (2, y12)), (0, (3, v0)), (1, (2, v1)), (3, (2, v3)), (5, (0, v5)), (6, (0, v6))]) (pc := 81) (daX1_inProportion_0 43 rfl) (Nat.le_of_ble_eq_true rfl) rfl ?_
              refine GM_lload_n (pc := 83) 3 rfl (daX1_inProportion_0 44 rfl) rfl ?_
              refine GM_lload_n (pc := 84) 3 rfl (daX1_inProportion_0 45 rfl) rfl ?_
              refine GM_lmul (pc := 85) (daX1_inProportion_0 46 rfl) ?_
              refine GM_aload_n (pc := 86) 1 rfl (daX1_inProportion_0 47 rfl) rfl ?_
              refine GM_getf (pc := 87) 1 2 3 2 kf_X1_28 (Nat.le_of_ble_eq_true rfl) (Nat.le_of_ble_eq_true rfl) rfl (daX1_inProportion_0 48 rfl) hc5 rfl ?_
              refine GM_getf (pc := 90) 7 5 3 5 kf_X1_161 (Nat.le_of_ble_eq_true rfl) (Nat.le_of_ble_eq_true rfl) rfl (daX1_inProportion_0 49 rfl) hc6 rfl ?_
              refine GM_iload (pc := 93) 4 rfl (daX1_inProportion_0 50 rfl) ?_
              refine GM_iald (pc := 95) (daX1_inProportion_0 51 rfl) hc7.1 hc7.2.1 hc7.2.2 ?_
              refine GM_i2l (pc := 96) (daX1_inProportion_0 52 rfl) ?_
              refine GM_lmul (pc := 97) (daX1_inProportion_0 53 rfl) ?_
              refine GM_aload_n (pc := 98) 1 rfl (daX1_inProportion_0 54 rfl) rfl ?_
              refine GM_getf (pc := 99) 1 2 3 2 kf_X1_28 (Nat.le_of_ble_eq_true rfl) (Nat.le_of_ble_eq_true rfl) rfl (daX1_inProportion_0 55 rfl) hc5 rfl ?_
              refine GM_getf (pc := 102) 7 6 3 6 kf_X1_164 (Nat.le_of_ble_eq_true rfl) (Nat.le_of_ble_eq_true rfl) rfl (daX1_inProportion_0 56 rfl) hc6 rfl ?_
              refine GM_iload (pc := 105) 5 rfl (daX1_inProportion_0 57 rfl) ?_
              obtain ⟨hc13, h⟩ := chk_inv h
              refine GM_iald (pc := 107) (daX1_inProportion_0 58 rfl) hc11.1 hc9.1 hc13 ?_
              refine GM_i2l (pc := 108) (daX1_inProportion_0 59 rfl) ?_
              refine GM_lmul (pc := 109) (daX1_inProportion_0 60 rfl) ?_
              obtain ⟨y14, hy14, h⟩ := lt_inv h
              refine GM_top hy14 ?_
              refine GM_lstore (L' := [(9, (2, y14)), (7, (2, y12)), (0, (3, v0)), (1, (2, v1)), (3, (2, v3)), (5, (0, v5)), (6, (0, v6))]) (pc := 110) (daX1_inProportion_0 61 rfl) (Nat.le_of_ble_eq_true rfl) rfl ?_
              refine GM_ldc2 (pc := 112) 100 kq_X1_167 (daX1_inProportion_0 62 rfl) (R64_b rfl) ?_
              refine GM_lload (pc := 115) 1 rfl (daX1_inProportion_0 63 rfl) ?_
              refine GM_lload (pc := 117) 0 rfl (daX1_inProportion_1 0 rfl) ?_
              refine GM_lsub (pc := 119) (daX1_inProportion_1 1 rfl) ?_
              refine GM_callS0 (pc := 120) [(2, w64 (y12 - y14))] (tJ9_abs_067f4 l (fJ9_absJ_eq (w64 (y12 - y14)))) cwJ9_abs_067f4 ks_J9_abs_067f4 km_X1_169 ⟨Nat.le_of_ble_eq_true rfl, Nat.le_of_ble_eq_true rfl⟩ (Nat.le_of_ble_eq_true rfl) (Nat.le_of_ble_eq_true rfl) (daX1_inProportion_1 2 rfl) ?_
              refine GM_lmul (pc := 123) (daX1_inProportion_1 3 rfl) ?_
              refine GM_aload_n (pc := 124) 2 rfl (daX1_inProportion_1 4 rfl) rfl ?_
              refine GM_getf (pc := 125) 1 1 3 1 kf_X1_21 (Nat.le_of_ble_eq_true rfl) (Nat.le_of_ble_eq_true rfl) rfl (daX1_inProportion_1 5 rfl) hc5 rfl ?_
              obtain ⟨hc15, h⟩ := chk_inv h
              refine GM_getf (pc := 128) 6 1 0 1 kf_X1_155 (Nat.le_of_ble_eq_true rfl) (Nat.le_of_ble_eq_true rfl) rfl (daX1_inProportion_1 6 rfl) hc15 rfl ?_
              refine GM_i2l (pc := 131) (daX1_inProportion_1 7 rfl) ?_
              refine GM_lload (pc := 132) 0 rfl (daX1_inProportion_1 8 rfl) ?_
              refine GM_lmul (pc := 134) (daX1_inProportion_1 9 rfl) ?_
              refine GM_lcmp (pc := 135) (daX1_inProportion_1 10 rfl) ?_
              refine GM_if_gt (pc := 136) 143 (daX1_inProportion_1 11 rfl) rfl (fun c16 => ?_) (fun c16 => ?_)
              · skip
                have c16 := lcmp_gt.mp c16
                rw [if_pos c16] at h
                refine GM_iconst (pc := 143) 0 (daX1_inProportion_1 14 rfl) rfl (R32_b rfl) ?_
                cases h
                exact GM_zret (pc := 144) (daX1_inProportion_1 15 rfl) rfl (Or.inl rfl) hK
              · skip
                have c16 := (not_congr lcmp_gt).mp c16
                rw [if_neg c16] at h
                refine GM_iconst (pc := 139) 1 (daX1_inProportion_1 12 rfl) rfl (R32_b rfl) ?_
                refine GM_goto (pc := 140) 144 (daX1_inProportion_1 13 rfl) rfl ?_
                cases h
                exact GM_zret (pc := 144) (daX1_inProportion_1 15 rfl) rfl (Or.inr rfl) hK
            · skip
              rw [if_neg c10] at h
              refine GM_iconst (pc := 52) 0 (daX1_inProportion_0 24 rfl) rfl (R32_b rfl) ?_
              cases h
              exact GM_zret (pc := 53) (daX1_inProportion_0 25 rfl) rfl (Or.inl rfl) hK
        · skip
          rw [if_neg c4] at h
          refine GM_iconst (pc := 24) 0 (daX1_inProportion_0 10 rfl) rfl (R32_b rfl) ?_
          cases h
          exact GM_zret (pc := 25) (daX1_inProportion_0 11 rfl) rfl (Or.inl rfl) hK
theorem tX1_inProportion (l : Launch) {v0 v1 v3 v5 v6 : Int} {μ : Mm} {t : Int} (h : fX1_inProportion v0 v1 v3 v5 v6 μ = some t) : Ct l yX1_inProportion mX1_inProportion [(3, v0), (2, v1), (2, v3), (0, v5), (0, v6)] μ ([(0, t)], μ, 0, 0) :=
  Ct_of (by decide +kernel) rfl rfl (Nat.le_of_ble_eq_true rfl) (fun _ _ _ => trivial) (gX1_inProportion_0 l h ⟨rfl, rfl⟩)
def mX1_agree : MI := (RX1, cX1_agree, 5, (some .boolean), "agree", 2, 51, fun _ _ _ => True)
theorem cwX1_agree : CWd yX1_agree mX1_agree 2 := ⟨ki_X1, kk_X1_agree, ⟨by decide, by decide⟩, rfl⟩
def dtX1_agree_0 : List (Nat × Instr × Nat) := [(0, .iload_n 1, 1), (1, .ifCond .lt 19, 3), (4, .iload_n 1, 1), (5, .bipush 12, 2), (7, .if_icmp .ge 13, 3), (10, .iload_n 2, 1), (11, .ifCond .lt 9, 3), (14, .iload_n 2, 1), (15, .bipush 12, 2), (17, .if_icmp .lt 5, 3), (20, .iconst 0, 1), (21, .ireturn, 1), (22, .aload_n 0, 1), (23, .getfield 21, 3), (26, .getfield 142, 3), (29, .ifCond .eq 40, 3), (32, .aload_n 0, 1), (33, .aload_n 0, 1), (34, .getfield 21, 3), (37, .getfield 145, 3), (40, .iload_n 1, 1), (41, .iaload, 1), (42, .i2l, 1), (43, .aload_n 0, 1), (44, .getfield 21, 3), (47, .getfield 145, 3), (50, .iload_n 2, 1), (51, .iaload, 1), (52, .i2l, 1), (53, .aload_n 0, 1), (54, .getfield 36, 3), (57, .iload_n 1, 1), (58, .iaload, 1), (59, .aload_n 0, 1), (60, .getfield 36, 3), (63, .iload_n 2, 1), (64, .iaload, 1), (65, .invokevirtual 148, 3), (68, .ireturn, 1), (69, .aload_n 0, 1), (70, .getfield 21, 3), (73, .getfield 145, 3), (76, .iload_n 1, 1), (77, .iaload, 1), (78, .aload_n 0, 1), (79, .getfield 21, 3), (82, .getfield 145, 3), (85, .iload_n 2, 1), (86, .iaload, 1), (87, .isub, 1), (88, .istore_n 3, 1), (89, .iload_n 3, 1), (90, .invokestatic 152, 3), (93, .aload_n 0, 1), (94, .getfield 21, 3), (97, .getfield 155, 3), (100, .if_icmp .gt 5, 3), (103, .iconst 1, 1), (104, .ireturn, 1), (105, .aload_n 0, 1), (106, .getfield 28, 3), (109, .aload_n 0, 1), (110, .getfield 36, 3), (113, .iload_n 1, 1)]
theorem ddX1_agree_0 : (dtX1_agree_0.all fun e => decide (decode mX1_agree.2.1 e.1 = .ok (e.2.1, e.2.2))) = true := by decide +kernel
theorem daX1_agree_0 (j : Nat) {pc n : Nat} {i : Instr} (h : dtX1_agree_0[j]? = some (pc, i, n)) : decode mX1_agree.2.1 pc = .ok (i, n) := dec_of (c := mX1_agree.2.1) ddX1_agree_0 h
def dtX1_agree_1 : List (Nat × Instr × Nat) := [(114, .iaload, 1), (115, .aload_n 0, 1), (116, .getfield 36, 3), (119, .iload_n 2, 1), (120, .iaload, 1), (121, .invokevirtual 158, 3), (124, .istore 4, 2), (126, .iload_n 3, 1), (127, .ifCond .le 16, 3), (130, .iload 4, 2), (132, .ifCond .le 7, 3), (135, .iconst 1, 1), (136, .goto 17, 3), (139, .iconst 0, 1), (140, .goto 13, 3), (143, .iload 4, 2), (145, .ifCond .ge 7, 3), (148, .iconst 1, 1), (149, .goto 4, 3), (152, .iconst 0, 1), (153, .ireturn, 1)]
theorem ddX1_agree_1 : (dtX1_agree_1.all fun e => decide (decode mX1_agree.2.1 e.1 = .ok (e.2.1, e.2.2))) = true := by decide +kernel
theorem daX1_agree_1 (j : Nat) {pc n : Nat} {i : Instr} (h : dtX1_agree_1[j]? = some (pc, i, n)) : decode mX1_agree.2.1 pc = .ok (i, n) := dec_of (c := mX1_agree.2.1) ddX1_agree_1 h
def fX1_agree (v0 v1 v2 : Int) (μ : Mm) : Option Int :=
  if v1 < 0 then
    some 0
  else
    if 12 ≤ v1 then
      some 0
    else
      if v2 < 0 then
        some 0
      else
        if v2 < 12 then
          chk (KD v0 = 1) (
          chk (KD (μ v0 1) = 6) (
          if μ (μ v0 1) 2 = 0 then
            chk (KD (μ (μ v0 1) 7) = 12 ∧ 0 ≤ v1 ∧ v1 < LN (μ (μ v0 1) 7)) (
            chk (0 ≤ v2 ∧ v2 < LN (μ (μ v0 1) 7)) (
            lt (w32 ((μ (μ (μ v0 1) 7) v1) - (μ (μ (μ v0 1) 7) v2))) fun y10 =>
            if μ (μ v0 1) 1 < iabs y10 then
              chk (KD (μ v0 9) = 12 ∧ v1 < LN (μ v0 9)) (
              chk (v2 < LN (μ v0 9)) (
              chk (KD (μ v0 2) = 7) (
              (fX7_weigh (μ v0 2) (μ (μ v0 9) v1) (μ (μ v0 9) v2) μ).bind fun r15 =>
              if y10 ≤ 0 then
                if 0 ≤ r15 then
                  some 0
                else
                  some 1
              else
                if r15 ≤ 0 then
                  some 0
                else
                  some 1)))
            else
              some 1))
          else
            chk (KD (μ (μ v0 1) 7) = 12 ∧ 0 ≤ v1 ∧ v1 < LN (μ (μ v0 1) 7)) (
            chk (0 ≤ v2 ∧ v2 < LN (μ (μ v0 1) 7)) (
            chk (KD (μ v0 9) = 12 ∧ v1 < LN (μ v0 9)) (
            chk (v2 < LN (μ v0 9)) (
            (fX1_inProportion v0 (μ (μ (μ v0 1) 7) v1) (μ (μ (μ v0 1) 7) v2) (μ (μ v0 9) v1) (μ (μ v0 9) v2) μ).bind fun r23 =>
            chk ((r23 = 0 ∨ r23 = 1)) (
            some r23)))))))
        else
          some 0
set_option maxRecDepth 20000 in
theorem gX1_agree_0 (l : Launch) {F : FI} {v0 v1 v2 : Int} {μ : Mm} {t : Int} (h : fX1_agree v0 v1 v2 μ = some t) (hK : F.1 = [(0, t)] ∧ F.2.1 = μ) : GM l mX1_agree F 0 0 0 [(0, (3, v0)), (1, (0, v1)), (2, (0, v2))] [] μ := by
  unfold fX1_agree at h
  refine GM_iload_n (pc := 0) 1 rfl (daX1_agree_0 0 rfl) rfl ?_
  refine GM_if_lt (pc := 1) 20 (daX1_agree_0 1 rfl) rfl (fun c1 => ?_) (fun c1 => ?_)
  · skip
    rw [if_pos c1] at h
    refine GM_iconst (pc := 20) 0 (daX1_agree_0 10 rfl) rfl (R32_b rfl) ?_
    cases h
    exact GM_zret (pc := 21) (daX1_agree_0 11 rfl) rfl (Or.inl rfl) hK
  · skip
    rw [if_neg c1] at h
    refine GM_iload_n (pc := 4) 1 rfl (daX1_agree_0 2 rfl) rfl ?_
    refine GM_bipush (pc := 5) 12 (daX1_agree_0 3 rfl) rfl (R32_b rfl) ?_
    refine GM_icmp_ge (pc := 7) 20 (daX1_agree_0 4 rfl) rfl (fun c2 => ?_) (fun c2 => ?_)
    · skip
      rw [if_pos c2] at h
      refine GM_iconst (pc := 20) 0 (daX1_agree_0 10 rfl) rfl (R32_b rfl) ?_
      cases h
      exact GM_zret (pc := 21) (daX1_agree_0 11 rfl) rfl (Or.inl rfl) hK
    · skip
      rw [if_neg c2] at h
      refine GM_iload_n (pc := 10) 2 rfl (daX1_agree_0 5 rfl) rfl ?_
      refine GM_if_lt (pc := 11) 20 (daX1_agree_0 6 rfl) rfl (fun c3 => ?_) (fun c3 => ?_)
      · skip
        rw [if_pos c3] at h
        refine GM_iconst (pc := 20) 0 (daX1_agree_0 10 rfl) rfl (R32_b rfl) ?_
        cases h
        exact GM_zret (pc := 21) (daX1_agree_0 11 rfl) rfl (Or.inl rfl) hK
      · skip
        rw [if_neg c3] at h
        refine GM_iload_n (pc := 14) 2 rfl (daX1_agree_0 7 rfl) rfl ?_
        refine GM_bipush (pc := 15) 12 (daX1_agree_0 8 rfl) rfl (R32_b rfl) ?_
        refine GM_icmp_lt (pc := 17) 22 (daX1_agree_0 9 rfl) rfl (fun c4 => ?_) (fun c4 => ?_)
        · skip
          rw [if_pos c4] at h
          refine GM_aload_n (pc := 22) 0 rfl (daX1_agree_0 12 rfl) rfl ?_
          obtain ⟨hc5, h⟩ := chk_inv h
          refine GM_getf (pc := 23) 1 1 3 1 kf_X1_21 (Nat.le_of_ble_eq_true rfl) (Nat.le_of_ble_eq_true rfl) rfl (daX1_agree_0 13 rfl) hc5 rfl ?_
          obtain ⟨hc6, h⟩ := chk_inv h
          refine GM_getf (pc := 26) 6 2 0 2 kf_X1_142 (Nat.le_of_ble_eq_true rfl) (Nat.le_of_ble_eq_true rfl) rfl (daX1_agree_0 14 rfl) hc6 rfl ?_
          refine GM_if_eq (pc := 29) 69 (daX1_agree_0 15 rfl) rfl (fun c7 => ?_) (fun c7 => ?_)
          · skip
            rw [if_pos c7] at h
            refine GM_aload_n (pc := 69) 0 rfl (daX1_agree_0 39 rfl) rfl ?_
            refine GM_getf (pc := 70) 1 1 3 1 kf_X1_21 (Nat.le_of_ble_eq_true rfl) (Nat.le_of_ble_eq_true rfl) rfl (daX1_agree_0 40 rfl) hc5 rfl ?_
            refine GM_getf (pc := 73) 6 7 3 7 kf_X1_145 (Nat.le_of_ble_eq_true rfl) (Nat.le_of_ble_eq_true rfl) rfl (daX1_agree_0 41 rfl) hc6 rfl ?_
            refine GM_iload_n (pc := 76) 1 rfl (daX1_agree_0 42 rfl) rfl ?_
            obtain ⟨hc8, h⟩ := chk_inv h
            refine GM_iald (pc := 77) (daX1_agree_0 43 rfl) hc8.1 hc8.2.1 hc8.2.2 ?_
            refine GM_aload_n (pc := 78) 0 rfl (daX1_agree_0 44 rfl) rfl ?_
            refine GM_getf (pc := 79) 1 1 3 1 kf_X1_21 (Nat.le_of_ble_eq_true rfl) (Nat.le_of_ble_eq_true rfl) rfl (daX1_agree_0 45 rfl) hc5 rfl ?_
            refine GM_getf (pc := 82) 6 7 3 7 kf_X1_145 (Nat.le_of_ble_eq_true rfl) (Nat.le_of_ble_eq_true rfl) rfl (daX1_agree_0 46 rfl) hc6 rfl ?_
            refine GM_iload_n (pc := 85) 2 rfl (daX1_agree_0 47 rfl) rfl ?_
            obtain ⟨hc9, h⟩ := chk_inv h
            refine GM_iald (pc := 86) (daX1_agree_0 48 rfl) hc8.1 hc9.1 hc9.2 ?_
            refine GM_isub (pc := 87) (daX1_agree_0 49 rfl) ?_
            obtain ⟨y10, hy10, h⟩ := lt_inv h
            refine GM_top hy10 ?_
            refine GM_istore_n (L' := [(3, (0, y10)), (0, (3, v0)), (1, (0, v1)), (2, (0, v2))]) (pc := 88) (daX1_agree_0 50 rfl) rfl (Nat.le_of_ble_eq_true rfl) rfl ?_
            refine GM_iload_n (pc := 89) 0 rfl (daX1_agree_0 51 rfl) rfl ?_
            refine GM_callS0 (pc := 90) [(0, y10)] (tJ9_abs_0f7a4 l (fJ9_absI_eq y10)) cwJ9_abs_0f7a4 ks_J9_abs_0f7a4 km_X1_152 ⟨Nat.le_of_ble_eq_true rfl, Nat.le_of_ble_eq_true rfl⟩ (Nat.le_of_ble_eq_true rfl) (Nat.le_of_ble_eq_true rfl) (daX1_agree_0 52 rfl) ?_
            refine GM_aload_n (pc := 93) 1 rfl (daX1_agree_0 53 rfl) rfl ?_
            refine GM_getf (pc := 94) 1 1 3 1 kf_X1_21 (Nat.le_of_ble_eq_true rfl) (Nat.le_of_ble_eq_true rfl) rfl (daX1_agree_0 54 rfl) hc5 rfl ?_
            refine GM_getf (pc := 97) 6 1 0 1 kf_X1_155 (Nat.le_of_ble_eq_true rfl) (Nat.le_of_ble_eq_true rfl) rfl (daX1_agree_0 55 rfl) hc6 rfl ?_
            refine GM_icmp_gt (pc := 100) 105 (daX1_agree_0 56 rfl) rfl (fun c11 => ?_) (fun c11 => ?_)
            · skip
              rw [if_pos c11] at h
              refine GM_aload_n (pc := 105) 1 rfl (daX1_agree_0 59 rfl) rfl ?_
              refine GM_getf (pc := 106) 1 2 3 2 kf_X1_28 (Nat.le_of_ble_eq_true rfl) (Nat.le_of_ble_eq_true rfl) rfl (daX1_agree_0 60 rfl) hc5 rfl ?_
              refine GM_aload_n (pc := 109) 1 rfl (daX1_agree_0 61 rfl) rfl ?_
              refine GM_getf (pc := 110) 1 9 3 9 kf_X1_36 (Nat.le_of_ble_eq_true rfl) (Nat.le_of_ble_eq_true rfl) rfl (daX1_agree_0 62 rfl) hc5 rfl ?_
              refine GM_iload_n (pc := 113) 2 rfl (daX1_agree_0 63 rfl) rfl ?_
              obtain ⟨hc12, h⟩ := chk_inv h
              refine GM_iald (pc := 114) (daX1_agree_1 0 rfl) hc12.1 hc8.2.1 hc12.2 ?_
              refine GM_aload_n (pc := 115) 1 rfl (daX1_agree_1 1 rfl) rfl ?_
              refine GM_getf (pc := 116) 1 9 3 9 kf_X1_36 (Nat.le_of_ble_eq_true rfl) (Nat.le_of_ble_eq_true rfl) rfl (daX1_agree_1 2 rfl) hc5 rfl ?_
              refine GM_iload_n (pc := 119) 3 rfl (daX1_agree_1 3 rfl) rfl ?_
              obtain ⟨hc13, h⟩ := chk_inv h
              refine GM_iald (pc := 120) (daX1_agree_1 4 rfl) hc12.1 hc9.1 hc13 ?_
              obtain ⟨hc14, h⟩ := chk_inv h
              obtain ⟨r15, hf15, h⟩ := Option.bind_eq_some_iff.mp h
              refine GM_callV0 (pc := 121) [(0, μ (μ v0 9) v1), (0, μ (μ v0 9) v2)] (tX7_weigh l hf15) cwX7_weigh 7 (Nat.le_of_ble_eq_true rfl) rfl kv_X7_weigh ke_X7_weigh km_X1_158 hc14 ⟨Nat.le_of_ble_eq_true rfl, Nat.le_of_ble_eq_true rfl⟩ (Nat.le_of_ble_eq_true rfl) (Nat.le_of_ble_eq_true rfl) (daX1_agree_1 5 rfl) ?_
              refine GM_istore (L' := [(4, (0, r15)), (3, (0, y10)), (0, (3, v0)), (1, (0, v1)), (2, (0, v2))]) (pc := 124) (daX1_agree_1 6 rfl) (Nat.le_of_ble_eq_true rfl) rfl ?_
              refine GM_iload_n (pc := 126) 1 rfl (daX1_agree_1 7 rfl) rfl ?_
              refine GM_if_le (pc := 127) 143 (daX1_agree_1 8 rfl) rfl (fun c16 => ?_) (fun c16 => ?_)
              · skip
                rw [if_pos c16] at h
                refine GM_iload (pc := 143) 0 rfl (daX1_agree_1 15 rfl) ?_
                refine GM_if_ge (pc := 145) 152 (daX1_agree_1 16 rfl) rfl (fun c17 => ?_) (fun c17 => ?_)
                · skip
                  rw [if_pos c17] at h
                  refine GM_iconst (pc := 152) 0 (daX1_agree_1 19 rfl) rfl (R32_b rfl) ?_
                  cases h
                  exact GM_zret (pc := 153) (daX1_agree_1 20 rfl) rfl (Or.inl rfl) hK
                · skip
                  rw [if_neg c17] at h
                  refine GM_iconst (pc := 148) 1 (daX1_agree_1 17 rfl) rfl (R32_b rfl) ?_
                  refine GM_goto (pc := 149) 153 (daX1_agree_1 18 rfl) rfl ?_
                  cases h
                  exact GM_zret (pc := 153) (daX1_agree_1 20 rfl) rfl (Or.inr rfl) hK
              · skip
                rw [if_neg c16] at h
                refine GM_iload (pc := 130) 0 rfl (daX1_agree_1 9 rfl) ?_
                refine GM_if_le (pc := 132) 139 (daX1_agree_1 10 rfl) rfl (fun c18 => ?_) (fun c18 => ?_)
                · skip
                  rw [if_pos c18] at h
                  refine GM_iconst (pc := 139) 0 (daX1_agree_1 13 rfl) rfl (R32_b rfl) ?_
                  refine GM_goto (pc := 140) 153 (daX1_agree_1 14 rfl) rfl ?_
                  cases h
                  exact GM_zret (pc := 153) (daX1_agree_1 20 rfl) rfl (Or.inl rfl) hK
                · skip
                  rw [if_neg c18] at h
                  refine GM_iconst (pc := 135) 1 (daX1_agree_1 11 rfl) rfl (R32_b rfl) ?_
                  refine GM_goto (pc := 136) 153 (daX1_agree_1 12 rfl) rfl ?_
                  cases h
                  exact GM_zret (pc := 153) (daX1_agree_1 20 rfl) rfl (Or.inr rfl) hK
            · skip
              rw [if_neg c11] at h
              refine GM_iconst (pc := 103) 1 (daX1_agree_0 57 rfl) rfl (R32_b rfl) ?_
              cases h
              exact GM_zret (pc := 104) (daX1_agree_0 58 rfl) rfl (Or.inr rfl) hK
          · skip
            rw [if_neg c7] at h
            refine GM_aload_n (pc := 32) 0 rfl (daX1_agree_0 16 rfl) rfl ?_
            refine GM_aload_n (pc := 33) 0 rfl (daX1_agree_0 17 rfl) rfl ?_
            refine GM_getf (pc := 34) 1 1 3 1 kf_X1_21 (Nat.le_of_ble_eq_true rfl) (Nat.le_of_ble_eq_true rfl) rfl (daX1_agree_0 18 rfl) hc5 rfl ?_
            refine GM_getf (pc := 37) 6 7 3 7 kf_X1_145 (Nat.le_of_ble_eq_true rfl) (Nat.le_of_ble_eq_true rfl) rfl (daX1_agree_0 19 rfl) hc6 rfl ?_
            refine GM_iload_n (pc := 40) 1 rfl (daX1_agree_0 20 rfl) rfl ?_
            obtain ⟨hc19, h⟩ := chk_inv h
            refine GM_iald (pc := 41) (daX1_agree_0 21 rfl) hc19.1 hc19.2.1 hc19.2.2 ?_
            refine GM_i2l (pc := 42) (daX1_agree_0 22 rfl) ?_
            refine GM_aload_n (pc := 43) 0 rfl (daX1_agree_0 23 rfl) rfl ?_
            refine GM_getf (pc := 44) 1 1 3 1 kf_X1_21 (Nat.le_of_ble_eq_true rfl) (Nat.le_of_ble_eq_true rfl) rfl (daX1_agree_0 24 rfl) hc5 rfl ?_
            refine GM_getf (pc := 47) 6 7 3 7 kf_X1_145 (Nat.le_of_ble_eq_true rfl) (Nat.le_of_ble_eq_true rfl) rfl (daX1_agree_0 25 rfl) hc6 rfl ?_
            refine GM_iload_n (pc := 50) 2 rfl (daX1_agree_0 26 rfl) rfl ?_
            obtain ⟨hc20, h⟩ := chk_inv h
            refine GM_iald (pc := 51) (daX1_agree_0 27 rfl) hc19.1 hc20.1 hc20.2 ?_
            refine GM_i2l (pc := 52) (daX1_agree_0 28 rfl) ?_
            refine GM_aload_n (pc := 53) 0 rfl (daX1_agree_0 29 rfl) rfl ?_
            refine GM_getf (pc := 54) 1 9 3 9 kf_X1_36 (Nat.le_of_ble_eq_true rfl) (Nat.le_of_ble_eq_true rfl) rfl (daX1_agree_0 30 rfl) hc5 rfl ?_
            refine GM_iload_n (pc := 57) 1 rfl (daX1_agree_0 31 rfl) rfl ?_
            obtain ⟨hc21, h⟩ := chk_inv h
            refine GM_iald (pc := 58) (daX1_agree_0 32 rfl) hc21.1 hc19.2.1 hc21.2 ?_
            refine GM_aload_n (pc := 59) 0 rfl (daX1_agree_0 33 rfl) rfl ?_
            refine GM_getf (pc := 60) 1 9 3 9 kf_X1_36 (Nat.le_of_ble_eq_true rfl) (Nat.le_of_ble_eq_true rfl) rfl (daX1_agree_0 34 rfl) hc5 rfl ?_
            refine GM_iload_n (pc := 63) 2 rfl (daX1_agree_0 35 rfl) rfl ?_
            obtain ⟨hc22, h⟩ := chk_inv h
            refine GM_iald (pc := 64) (daX1_agree_0 36 rfl) hc21.1 hc20.1 hc22 ?_
            obtain ⟨r23, hf23, h⟩ := Option.bind_eq_some_iff.mp h
            refine GM_callV0 (pc := 65) [(2, μ (μ (μ v0 1) 7) v1), (2, μ (μ (μ v0 1) 7) v2), (0, μ (μ v0 9) v1), (0, μ (μ v0 9) v2)] (tX1_inProportion l hf23) cwX1_inProportion 1 (Nat.le_of_ble_eq_true rfl) rfl kv_X1_inProportion ke_X1_inProportion km_X1_148 hc5 ⟨Nat.le_of_ble_eq_true rfl, Nat.le_of_ble_eq_true rfl⟩ (Nat.le_of_ble_eq_true rfl) (Nat.le_of_ble_eq_true rfl) (daX1_agree_0 37 rfl) ?_
            obtain ⟨hc24, h⟩ := chk_inv h
            cases h
            exact GM_zret (pc := 68) (daX1_agree_0 38 rfl) rfl hc24 hK
        · skip
          rw [if_neg c4] at h
          refine GM_iconst (pc := 20) 0 (daX1_agree_0 10 rfl) rfl (R32_b rfl) ?_
          cases h
          exact GM_zret (pc := 21) (daX1_agree_0 11 rfl) rfl (Or.inl rfl) hK
theorem tX1_agree (l : Launch) {v0 v1 v2 : Int} {μ : Mm} {t : Int} (h : fX1_agree v0 v1 v2 μ = some t) : Ct l yX1_agree mX1_agree [(3, v0), (0, v1), (0, v2)] μ ([(0, t)], μ, 0, 0) :=
  Ct_of (by decide +kernel) rfl rfl (Nat.le_of_ble_eq_true rfl) (fun _ _ _ => trivial) (gX1_agree_0 l h ⟨rfl, rfl⟩)
def mX1_clockwise : MI := (RX1, cX1_clockwise, 3, (some .int), "clockwise", 0, 0, fun _ _ _ => True)
theorem cwX1_clockwise : CWd yX1_clockwise mX1_clockwise 2 := ⟨ki_X1, kk_X1_clockwise, ⟨by decide, by decide⟩, rfl⟩
def dtX1_clockwise_0 : List (Nat × Instr × Nat) := [(0, .iload_n 2, 1), (1, .iload_n 1, 1), (2, .if_icmp .lt 9, 3), (5, .iload_n 2, 1), (6, .iload_n 1, 1), (7, .isub, 1), (8, .goto 14, 3), (11, .iload_n 2, 1), (12, .iload_n 1, 1), (13, .isub, 1), (14, .aload_n 0, 1), (15, .getfield 28, 3), (18, .getfield 184, 3), (21, .iadd, 1), (22, .ireturn, 1)]
theorem ddX1_clockwise_0 : (dtX1_clockwise_0.all fun e => decide (decode mX1_clockwise.2.1 e.1 = .ok (e.2.1, e.2.2))) = true := by decide +kernel
theorem daX1_clockwise_0 (j : Nat) {pc n : Nat} {i : Instr} (h : dtX1_clockwise_0[j]? = some (pc, i, n)) : decode mX1_clockwise.2.1 pc = .ok (i, n) := dec_of (c := mX1_clockwise.2.1) ddX1_clockwise_0 h
def fX1_clockwise (v0 v1 v2 : Int) (μ : Mm) : Option Int :=
  if v2 < v1 then
    chk (KD v0 = 1) (
    chk (KD (μ v0 2) = 7) (
    some (w32 ((w32 (v2 - v1)) + (μ (μ v0 2) 1)))))
  else
    some (w32 (v2 - v1))
set_option maxRecDepth 20000 in
theorem gX1_clockwise_0 (l : Launch) {F : FI} {v0 v1 v2 : Int} {μ : Mm} {t : Int} (h : fX1_clockwise v0 v1 v2 μ = some t) (hK : F.1 = [(0, t)] ∧ F.2.1 = μ) : GM l mX1_clockwise F 0 0 0 [(0, (3, v0)), (1, (0, v1)), (2, (0, v2))] [] μ := by
  unfold fX1_clockwise at h
  refine GM_iload_n (pc := 0) 2 rfl (daX1_clockwise_0 0 rfl) rfl ?_
  refine GM_iload_n (pc := 1) 1 rfl (daX1_clockwise_0 1 rfl) rfl ?_
  refine GM_icmp_lt (pc := 2) 11 (daX1_clockwise_0 2 rfl) rfl (fun c1 => ?_) (fun c1 => ?_)
  · skip
    rw [if_pos c1] at h
    refine GM_iload_n (pc := 11) 2 rfl (daX1_clockwise_0 7 rfl) rfl ?_
    refine GM_iload_n (pc := 12) 1 rfl (daX1_clockwise_0 8 rfl) rfl ?_
    refine GM_isub (pc := 13) (daX1_clockwise_0 9 rfl) ?_
    refine GM_aload_n (pc := 14) 0 rfl (daX1_clockwise_0 10 rfl) rfl ?_
    obtain ⟨hc2, h⟩ := chk_inv h
    refine GM_getf (pc := 15) 1 2 3 2 kf_X1_28 (Nat.le_of_ble_eq_true rfl) (Nat.le_of_ble_eq_true rfl) rfl (daX1_clockwise_0 11 rfl) hc2 rfl ?_
    obtain ⟨hc3, h⟩ := chk_inv h
    refine GM_getf (pc := 18) 7 1 0 1 kf_X1_184 (Nat.le_of_ble_eq_true rfl) (Nat.le_of_ble_eq_true rfl) rfl (daX1_clockwise_0 12 rfl) hc3 rfl ?_
    refine GM_iadd (pc := 21) (daX1_clockwise_0 13 rfl) ?_
    cases h
    exact GM_iret (pc := 22) (daX1_clockwise_0 14 rfl) rfl hK
  · skip
    rw [if_neg c1] at h
    refine GM_iload_n (pc := 5) 2 rfl (daX1_clockwise_0 3 rfl) rfl ?_
    refine GM_iload_n (pc := 6) 1 rfl (daX1_clockwise_0 4 rfl) rfl ?_
    refine GM_isub (pc := 7) (daX1_clockwise_0 5 rfl) ?_
    refine GM_goto (pc := 8) 22 (daX1_clockwise_0 6 rfl) rfl ?_
    cases h
    exact GM_iret (pc := 22) (daX1_clockwise_0 14 rfl) rfl hK
theorem tX1_clockwise (l : Launch) {v0 v1 v2 : Int} {μ : Mm} {t : Int} (h : fX1_clockwise v0 v1 v2 μ = some t) : Ct l yX1_clockwise mX1_clockwise [(3, v0), (0, v1), (0, v2)] μ ([(0, t)], μ, 0, 0) :=
  Ct_of (by decide +kernel) rfl rfl (Nat.le_of_ble_eq_true rfl) (fun _ _ _ => trivial) (gX1_clockwise_0 l h ⟨rfl, rfl⟩)
def mX1_lacksLake : MI := (RX1, cX1_lacksLake, 6, (some .boolean), "lacksLake", 1, 22, fun _ _ _ => True)
theorem cwX1_lacksLake : CWd yX1_lacksLake mX1_lacksLake 1 := ⟨ki_X1, kk_X1_lacksLake, ⟨by decide, by decide⟩, rfl⟩
def dtX1_lacksLake_0 : List (Nat × Instr × Nat) := [(0, .iload_n 1, 1), (1, .ifCond .le 21, 3), (4, .iload_n 1, 1), (5, .bipush 12, 2), (7, .if_icmp .ge 15, 3), (10, .aload_n 0, 1), (11, .getfield 21, 3), (14, .iload_n 1, 1), (15, .iconst 1, 1), (16, .invokevirtual 172, 3), (19, .ifCond .ne 5, 3), (22, .iconst 0, 1), (23, .ireturn, 1), (24, .aload_n 0, 1), (25, .getfield 21, 3), (28, .getfield 105, 3), (31, .ifCond .eq 12, 3), (34, .aload_n 0, 1), (35, .getfield 36, 3), (38, .iload_n 1, 1), (39, .iaload, 1), (40, .goto 11, 3), (43, .aload_n 0, 1), (44, .getfield 36, 3), (47, .iload_n 1, 1), (48, .iconst 1, 1), (49, .isub, 1), (50, .iaload, 1), (51, .istore_n 2, 1), (52, .aload_n 0, 1), (53, .getfield 21, 3), (56, .getfield 105, 3), (59, .ifCond .eq 14, 3), (62, .aload_n 0, 1), (63, .getfield 36, 3), (66, .iload_n 1, 1), (67, .iconst 1, 1), (68, .isub, 1), (69, .iaload, 1), (70, .goto 9, 3), (73, .aload_n 0, 1), (74, .getfield 36, 3), (77, .iload_n 1, 1), (78, .iaload, 1), (79, .istore_n 3, 1), (80, .iconst 0, 1), (81, .istore 4, 2), (83, .iload 4, 2), (85, .aload_n 0, 1), (86, .getfield 28, 3), (89, .getfield 175, 3), (92, .if_icmp .ge 51, 3), (95, .iload 4, 2), (97, .bipush 12, 2), (99, .if_icmp .ge 44, 3), (102, .aload_n 0, 1), (103, .iload_n 2, 1), (104, .aload_n 0, 1), (105, .getfield 28, 3), (108, .getfield 178, 3), (111, .iload 4, 2), (113, .iaload, 1), (114, .invokevirtual 181, 3), (117, .istore 5, 2)]
theorem ddX1_lacksLake_0 : (dtX1_lacksLake_0.all fun e => decide (decode mX1_lacksLake.2.1 e.1 = .ok (e.2.1, e.2.2))) = true := by decide +kernel
theorem daX1_lacksLake_0 (j : Nat) {pc n : Nat} {i : Instr} (h : dtX1_lacksLake_0[j]? = some (pc, i, n)) : decode mX1_lacksLake.2.1 pc = .ok (i, n) := dec_of (c := mX1_lacksLake.2.1) ddX1_lacksLake_0 h
def dtX1_lacksLake_1 : List (Nat × Instr × Nat) := [(119, .iload 5, 2), (121, .ifCond .le 16, 3), (124, .iload 5, 2), (126, .aload_n 0, 1), (127, .iload_n 2, 1), (128, .iload_n 3, 1), (129, .invokevirtual 181, 3), (132, .if_icmp .ge 5, 3), (135, .iconst 0, 1), (136, .ireturn, 1), (137, .iinc 4 1, 3), (140, .goto (-57), 3), (143, .iconst 1, 1), (144, .ireturn, 1)]
theorem ddX1_lacksLake_1 : (dtX1_lacksLake_1.all fun e => decide (decode mX1_lacksLake.2.1 e.1 = .ok (e.2.1, e.2.2))) = true := by decide +kernel
theorem daX1_lacksLake_1 (j : Nat) {pc n : Nat} {i : Instr} (h : dtX1_lacksLake_1[j]? = some (pc, i, n)) : decode mX1_lacksLake.2.1 pc = .ok (i, n) := dec_of (c := mX1_lacksLake.2.1) ddX1_lacksLake_1 h
def zX1_lacksLake_83 (l : Launch) (F : FI) (v0 v2 v3 : Int) (μ : Mm) (k n : Nat) : Int ⊕ (Unit ⊕ Unit) → Prop
  | .inl v4 => GM l mX1_lacksLake F k n 83 [(0, (3, v0)), (2, (0, v2)), (3, (0, v3)), (4, (0, v4))] [] μ
  | .inr (.inl ()) => GM l mX1_lacksLake F k n 143 [] [] μ
  | .inr (.inr ()) => GM l mX1_lacksLake F k n 135 [] [] μ
def sX1_lacksLake_83 (v0 v2 v3 : Int) (μ : Mm) : Int → Option (Int ⊕ (Unit ⊕ Unit)) := fun v4 =>
  chk (KD v0 = 1) (
  chk (KD (μ v0 2) = 7) (
  if μ (μ v0 2) 3 ≤ v4 then
    some (.inr (.inl ()))
  else
    if 12 ≤ v4 then
      some (.inr (.inl ()))
    else
      chk (KD (μ (μ v0 2) 8) = 12 ∧ 0 ≤ v4 ∧ v4 < LN (μ (μ v0 2) 8)) (
      (fX1_clockwise v0 v2 (μ (μ (μ v0 2) 8) v4) μ).bind fun r6 =>
      if r6 ≤ 0 then
        some (.inl (w32 (v4 + 1)))
      else
        (fX1_clockwise v0 v2 v3 μ).bind fun r8 =>
        if r8 ≤ r6 then
          some (.inl (w32 (v4 + 1)))
        else
          some (.inr (.inr ())))))
def jX1_lacksLake_79 (v0 v2 s0 : Int) (μ : Mm) : Option Int :=
  (lop (sX1_lacksLake_83 v0 v2 s0 μ) FU 0).bind fun x10 =>
    match x10 with
    | (.inl ()) =>
        some 1
    | (.inr ()) =>
        some 0
def jX1_lacksLake_51 (v0 v1 s0 : Int) (μ : Mm) : Option Int :=
  chk (KD v0 = 1) (
  chk (KD (μ v0 1) = 6) (
  if μ (μ v0 1) 4 = 0 then
    chk (KD (μ v0 9) = 12 ∧ 0 ≤ v1 ∧ v1 < LN (μ v0 9)) (
    jX1_lacksLake_79 v0 s0 (μ (μ v0 9) v1) μ)
  else
    chk (KD (μ v0 9) = 12 ∧ 0 ≤ w32 (v1 - 1) ∧ w32 (v1 - 1) < LN (μ v0 9)) (
    jX1_lacksLake_79 v0 s0 (μ (μ v0 9) (w32 (v1 - 1))) μ)))
def fX1_lacksLake (v0 v1 : Int) (μ : Mm) : Option Int :=
  if v1 ≤ 0 then
    some 0
  else
    if 12 ≤ v1 then
      some 0
    else
      chk (KD v0 = 1) (
      chk (KD (μ v0 1) = 6) (
      (fX6_isMarked (μ v0 1) v1 1 μ).bind fun r22 =>
      if r22 = 0 then
        some 0
      else
        if μ (μ v0 1) 4 = 0 then
          chk (KD (μ v0 9) = 12 ∧ 0 ≤ w32 (v1 - 1) ∧ w32 (v1 - 1) < LN (μ v0 9)) (
          jX1_lacksLake_51 v0 v1 (μ (μ v0 9) (w32 (v1 - 1))) μ)
        else
          chk (KD (μ v0 9) = 12 ∧ 0 ≤ v1 ∧ v1 < LN (μ v0 9)) (
          jX1_lacksLake_51 v0 v1 (μ (μ v0 9) v1) μ)))
set_option maxRecDepth 20000 in
theorem qX1_lacksLake_83 (l : Launch) (F : FI) (v0 v2 v3 : Int) (μ : Mm) (k n : Nat) : ∀ (q : Int) (t : (Int ⊕ (Unit ⊕ Unit))), sX1_lacksLake_83 v0 v2 v3 μ q = some t → zX1_lacksLake_83 l F v0 v2 v3 μ k n t → zX1_lacksLake_83 l F v0 v2 v3 μ k n (.inl q) := by
  intro q t h hK
  obtain ⟨v4, hqq⟩ : ∃ z, z = q := ⟨q, rfl⟩
  subst hqq
  unfold sX1_lacksLake_83 at h
  try dsimp only at h
  show GM l mX1_lacksLake F k n 83 [(0, (3, v0)), (2, (0, v2)), (3, (0, v3)), (4, (0, v4))] [] μ
  refine GM_iload (pc := 83) 3 rfl (daX1_lacksLake_0 47 rfl) ?_
  refine GM_aload_n (pc := 85) 0 rfl (daX1_lacksLake_0 48 rfl) rfl ?_
  obtain ⟨hc1, h⟩ := chk_inv h
  refine GM_getf (pc := 86) 1 2 3 2 kf_X1_28 (Nat.le_of_ble_eq_true rfl) (Nat.le_of_ble_eq_true rfl) rfl (daX1_lacksLake_0 49 rfl) hc1 rfl ?_
  obtain ⟨hc2, h⟩ := chk_inv h
  refine GM_getf (pc := 89) 7 3 0 3 kf_X1_175 (Nat.le_of_ble_eq_true rfl) (Nat.le_of_ble_eq_true rfl) rfl (daX1_lacksLake_0 50 rfl) hc2 rfl ?_
  refine GM_icmp_ge (pc := 92) 143 (daX1_lacksLake_0 51 rfl) rfl (fun c3 => ?_) (fun c3 => ?_)
  · skip
    rw [if_pos c3] at h
    refine GM_pick [] rfl ?_
    cases h
    exact hK
  · skip
    rw [if_neg c3] at h
    refine GM_iload (pc := 95) 3 rfl (daX1_lacksLake_0 52 rfl) ?_
    refine GM_bipush (pc := 97) 12 (daX1_lacksLake_0 53 rfl) rfl (R32_b rfl) ?_
    refine GM_icmp_ge (pc := 99) 143 (daX1_lacksLake_0 54 rfl) rfl (fun c4 => ?_) (fun c4 => ?_)
    · skip
      rw [if_pos c4] at h
      refine GM_pick [] rfl ?_
      cases h
      exact hK
    · skip
      rw [if_neg c4] at h
      refine GM_aload_n (pc := 102) 0 rfl (daX1_lacksLake_0 55 rfl) rfl ?_
      refine GM_iload_n (pc := 103) 1 rfl (daX1_lacksLake_0 56 rfl) rfl ?_
      refine GM_aload_n (pc := 104) 0 rfl (daX1_lacksLake_0 57 rfl) rfl ?_
      refine GM_getf (pc := 105) 1 2 3 2 kf_X1_28 (Nat.le_of_ble_eq_true rfl) (Nat.le_of_ble_eq_true rfl) rfl (daX1_lacksLake_0 58 rfl) hc1 rfl ?_
      refine GM_getf (pc := 108) 7 8 3 8 kf_X1_178 (Nat.le_of_ble_eq_true rfl) (Nat.le_of_ble_eq_true rfl) rfl (daX1_lacksLake_0 59 rfl) hc2 rfl ?_
      refine GM_iload (pc := 111) 3 rfl (daX1_lacksLake_0 60 rfl) ?_
      obtain ⟨hc5, h⟩ := chk_inv h
      refine GM_iald (pc := 113) (daX1_lacksLake_0 61 rfl) hc5.1 hc5.2.1 hc5.2.2 ?_
      obtain ⟨r6, hf6, h⟩ := Option.bind_eq_some_iff.mp h
      refine GM_callV0 (pc := 114) [(0, v2), (0, μ (μ (μ v0 2) 8) v4)] (tX1_clockwise l hf6) cwX1_clockwise 1 (Nat.le_of_ble_eq_true rfl) rfl kv_X1_clockwise ke_X1_clockwise km_X1_181 hc1 ⟨Nat.le_of_ble_eq_true rfl, Nat.le_of_ble_eq_true rfl⟩ (Nat.le_of_ble_eq_true rfl) (Nat.le_of_ble_eq_true rfl) (daX1_lacksLake_0 62 rfl) ?_
      refine GM_istore (L' := [(5, (0, r6)), (0, (3, v0)), (2, (0, v2)), (3, (0, v3)), (4, (0, v4))]) (pc := 117) (daX1_lacksLake_0 63 rfl) (Nat.le_of_ble_eq_true rfl) rfl ?_
      refine GM_iload (pc := 119) 0 rfl (daX1_lacksLake_1 0 rfl) ?_
      refine GM_if_le (pc := 121) 137 (daX1_lacksLake_1 1 rfl) rfl (fun c7 => ?_) (fun c7 => ?_)
      · skip
        rw [if_pos c7] at h
        refine GM_iinc (L' := [(4, (0, w32 (v4 + 1))), (5, (0, r6)), (0, (3, v0)), (2, (0, v2)), (3, (0, v3))]) (pc := 137) 4 rfl (daX1_lacksLake_1 10 rfl) (Nat.le_of_ble_eq_true rfl) rfl ?_
        refine GM_goto (pc := 140) 83 (daX1_lacksLake_1 11 rfl) rfl ?_
        refine GM_pick [2, 3, 4, 0] rfl ?_
        cases h
        exact hK
      · skip
        rw [if_neg c7] at h
        refine GM_iload (pc := 124) 0 rfl (daX1_lacksLake_1 2 rfl) ?_
        refine GM_aload_n (pc := 126) 1 rfl (daX1_lacksLake_1 3 rfl) rfl ?_
        refine GM_iload_n (pc := 127) 2 rfl (daX1_lacksLake_1 4 rfl) rfl ?_
        refine GM_iload_n (pc := 128) 3 rfl (daX1_lacksLake_1 5 rfl) rfl ?_
        obtain ⟨r8, hf8, h⟩ := Option.bind_eq_some_iff.mp h
        refine GM_callV0 (pc := 129) [(0, v2), (0, v3)] (tX1_clockwise l hf8) cwX1_clockwise 1 (Nat.le_of_ble_eq_true rfl) rfl kv_X1_clockwise ke_X1_clockwise km_X1_181 hc1 ⟨Nat.le_of_ble_eq_true rfl, Nat.le_of_ble_eq_true rfl⟩ (Nat.le_of_ble_eq_true rfl) (Nat.le_of_ble_eq_true rfl) (daX1_lacksLake_1 6 rfl) ?_
        refine GM_icmp_ge (pc := 132) 137 (daX1_lacksLake_1 7 rfl) rfl (fun c9 => ?_) (fun c9 => ?_)
        · skip
          rw [if_pos c9] at h
          refine GM_iinc (L' := [(4, (0, w32 (v4 + 1))), (5, (0, r6)), (0, (3, v0)), (2, (0, v2)), (3, (0, v3))]) (pc := 137) 4 rfl (daX1_lacksLake_1 10 rfl) (Nat.le_of_ble_eq_true rfl) rfl ?_
          refine GM_goto (pc := 140) 83 (daX1_lacksLake_1 11 rfl) rfl ?_
          refine GM_pick [2, 3, 4, 0] rfl ?_
          cases h
          exact hK
        · skip
          rw [if_neg c9] at h
          refine GM_pick [] rfl ?_
          cases h
          exact hK
set_option maxRecDepth 20000 in
theorem gX1_lacksLake_79 (l : Launch) {F : FI} {v0 v2 s0 : Int} {μ : Mm} {t : Int} (h : jX1_lacksLake_79 v0 v2 s0 μ = some t) (hK : F.1 = [(0, t)] ∧ F.2.1 = μ) : GM l mX1_lacksLake F 0 0 79 [(0, (3, v0)), (2, (0, v2))] [(0, s0)] μ := by
  unfold jX1_lacksLake_79 at h
  refine GM_istore_n (L' := [(3, (0, s0)), (0, (3, v0)), (2, (0, v2))]) (pc := 79) (daX1_lacksLake_0 44 rfl) rfl (Nat.le_of_ble_eq_true rfl) rfl ?_
  refine GM_iconst (pc := 80) 0 (daX1_lacksLake_0 45 rfl) rfl (R32_b rfl) ?_
  refine GM_istore (L' := [(4, (0, 0)), (3, (0, s0)), (0, (3, v0)), (2, (0, v2))]) (pc := 81) (daX1_lacksLake_0 46 rfl) (Nat.le_of_ble_eq_true rfl) rfl ?_
  refine GM_pick [2, 3, 1, 0] rfl ?_
  obtain ⟨x10, hqx10, h⟩ := Option.bind_eq_some_iff.mp h
  refine lop_ind (zX1_lacksLake_83 l F v0 v2 s0 μ 0 0) (qX1_lacksLake_83 l F v0 v2 s0 μ 0 0) FU _ x10 hqx10 ?_
  rcases x10 with _ | _
  · dsimp only at h
    show GM l mX1_lacksLake F 0 0 143 [] [] μ
    refine GM_iconst (pc := 143) 1 (daX1_lacksLake_1 12 rfl) rfl (R32_b rfl) ?_
    cases h
    exact GM_zret (pc := 144) (daX1_lacksLake_1 13 rfl) rfl (Or.inr rfl) hK
  · dsimp only at h
    show GM l mX1_lacksLake F 0 0 135 [] [] μ
    refine GM_iconst (pc := 135) 0 (daX1_lacksLake_1 8 rfl) rfl (R32_b rfl) ?_
    cases h
    exact GM_zret (pc := 136) (daX1_lacksLake_1 9 rfl) rfl (Or.inl rfl) hK
set_option maxRecDepth 20000 in
theorem gX1_lacksLake_51 (l : Launch) {F : FI} {v0 v1 s0 : Int} {μ : Mm} {t : Int} (h : jX1_lacksLake_51 v0 v1 s0 μ = some t) (hK : F.1 = [(0, t)] ∧ F.2.1 = μ) : GM l mX1_lacksLake F 0 0 51 [(0, (3, v0)), (1, (0, v1))] [(0, s0)] μ := by
  unfold jX1_lacksLake_51 at h
  refine GM_istore_n (L' := [(2, (0, s0)), (0, (3, v0)), (1, (0, v1))]) (pc := 51) (daX1_lacksLake_0 28 rfl) rfl (Nat.le_of_ble_eq_true rfl) rfl ?_
  refine GM_aload_n (pc := 52) 1 rfl (daX1_lacksLake_0 29 rfl) rfl ?_
  obtain ⟨hc13, h⟩ := chk_inv h
  refine GM_getf (pc := 53) 1 1 3 1 kf_X1_21 (Nat.le_of_ble_eq_true rfl) (Nat.le_of_ble_eq_true rfl) rfl (daX1_lacksLake_0 30 rfl) hc13 rfl ?_
  obtain ⟨hc14, h⟩ := chk_inv h
  refine GM_getf (pc := 56) 6 4 0 4 kf_X1_105 (Nat.le_of_ble_eq_true rfl) (Nat.le_of_ble_eq_true rfl) rfl (daX1_lacksLake_0 31 rfl) hc14 rfl ?_
  refine GM_if_eq (pc := 59) 73 (daX1_lacksLake_0 32 rfl) rfl (fun c15 => ?_) (fun c15 => ?_)
  · skip
    rw [if_pos c15] at h
    refine GM_aload_n (pc := 73) 1 rfl (daX1_lacksLake_0 40 rfl) rfl ?_
    refine GM_getf (pc := 74) 1 9 3 9 kf_X1_36 (Nat.le_of_ble_eq_true rfl) (Nat.le_of_ble_eq_true rfl) rfl (daX1_lacksLake_0 41 rfl) hc13 rfl ?_
    refine GM_iload_n (pc := 77) 2 rfl (daX1_lacksLake_0 42 rfl) rfl ?_
    obtain ⟨hc16, h⟩ := chk_inv h
    refine GM_iald (pc := 78) (daX1_lacksLake_0 43 rfl) hc16.1 hc16.2.1 hc16.2.2 ?_
    refine GM_pick [1, 0] rfl ?_
    exact gX1_lacksLake_79 l h hK
  · skip
    rw [if_neg c15] at h
    refine GM_aload_n (pc := 62) 1 rfl (daX1_lacksLake_0 33 rfl) rfl ?_
    refine GM_getf (pc := 63) 1 9 3 9 kf_X1_36 (Nat.le_of_ble_eq_true rfl) (Nat.le_of_ble_eq_true rfl) rfl (daX1_lacksLake_0 34 rfl) hc13 rfl ?_
    refine GM_iload_n (pc := 66) 2 rfl (daX1_lacksLake_0 35 rfl) rfl ?_
    refine GM_iconst (pc := 67) 1 (daX1_lacksLake_0 36 rfl) rfl (R32_b rfl) ?_
    refine GM_isub (pc := 68) (daX1_lacksLake_0 37 rfl) ?_
    obtain ⟨hc17, h⟩ := chk_inv h
    refine GM_iald (pc := 69) (daX1_lacksLake_0 38 rfl) hc17.1 hc17.2.1 hc17.2.2 ?_
    refine GM_goto (pc := 70) 79 (daX1_lacksLake_0 39 rfl) rfl ?_
    refine GM_pick [1, 0] rfl ?_
    exact gX1_lacksLake_79 l h hK
set_option maxRecDepth 20000 in
theorem gX1_lacksLake_0 (l : Launch) {F : FI} {v0 v1 : Int} {μ : Mm} {t : Int} (h : fX1_lacksLake v0 v1 μ = some t) (hK : F.1 = [(0, t)] ∧ F.2.1 = μ) : GM l mX1_lacksLake F 0 0 0 [(0, (3, v0)), (1, (0, v1))] [] μ := by
  unfold fX1_lacksLake at h
  refine GM_iload_n (pc := 0) 1 rfl (daX1_lacksLake_0 0 rfl) rfl ?_
  refine GM_if_le (pc := 1) 22 (daX1_lacksLake_0 1 rfl) rfl (fun c18 => ?_) (fun c18 => ?_)
  · skip
    rw [if_pos c18] at h
    refine GM_iconst (pc := 22) 0 (daX1_lacksLake_0 11 rfl) rfl (R32_b rfl) ?_
    cases h
    exact GM_zret (pc := 23) (daX1_lacksLake_0 12 rfl) rfl (Or.inl rfl) hK
  · skip
    rw [if_neg c18] at h
    refine GM_iload_n (pc := 4) 1 rfl (daX1_lacksLake_0 2 rfl) rfl ?_
    refine GM_bipush (pc := 5) 12 (daX1_lacksLake_0 3 rfl) rfl (R32_b rfl) ?_
    refine GM_icmp_ge (pc := 7) 22 (daX1_lacksLake_0 4 rfl) rfl (fun c19 => ?_) (fun c19 => ?_)
    · skip
      rw [if_pos c19] at h
      refine GM_iconst (pc := 22) 0 (daX1_lacksLake_0 11 rfl) rfl (R32_b rfl) ?_
      cases h
      exact GM_zret (pc := 23) (daX1_lacksLake_0 12 rfl) rfl (Or.inl rfl) hK
    · skip
      rw [if_neg c19] at h
      refine GM_aload_n (pc := 10) 0 rfl (daX1_lacksLake_0 5 rfl) rfl ?_
      obtain ⟨hc20, h⟩ := chk_inv h
      refine GM_getf (pc := 11) 1 1 3 1 kf_X1_21 (Nat.le_of_ble_eq_true rfl) (Nat.le_of_ble_eq_true rfl) rfl (daX1_lacksLake_0 6 rfl) hc20 rfl ?_
      refine GM_iload_n (pc := 14) 1 rfl (daX1_lacksLake_0 7 rfl) rfl ?_
      refine GM_iconst (pc := 15) 1 (daX1_lacksLake_0 8 rfl) rfl (R32_b rfl) ?_
      obtain ⟨hc21, h⟩ := chk_inv h
      obtain ⟨r22, hf22, h⟩ := Option.bind_eq_some_iff.mp h
      refine GM_callV0 (pc := 16) [(0, v1), (0, 1)] (tX6_isMarked l hf22) cwX6_isMarked 6 (Nat.le_of_ble_eq_true rfl) rfl kv_X6_isMarked ke_X6_isMarked km_X1_172 hc21 ⟨Nat.le_of_ble_eq_true rfl, Nat.le_of_ble_eq_true rfl⟩ (Nat.le_of_ble_eq_true rfl) (Nat.le_of_ble_eq_true rfl) (daX1_lacksLake_0 9 rfl) ?_
      refine GM_if_ne (pc := 19) 24 (daX1_lacksLake_0 10 rfl) rfl (fun c23 => ?_) (fun c23 => ?_)
      · skip
        rw [if_neg c23] at h
        refine GM_aload_n (pc := 24) 0 rfl (daX1_lacksLake_0 13 rfl) rfl ?_
        refine GM_getf (pc := 25) 1 1 3 1 kf_X1_21 (Nat.le_of_ble_eq_true rfl) (Nat.le_of_ble_eq_true rfl) rfl (daX1_lacksLake_0 14 rfl) hc20 rfl ?_
        refine GM_getf (pc := 28) 6 4 0 4 kf_X1_105 (Nat.le_of_ble_eq_true rfl) (Nat.le_of_ble_eq_true rfl) rfl (daX1_lacksLake_0 15 rfl) hc21 rfl ?_
        refine GM_if_eq (pc := 31) 43 (daX1_lacksLake_0 16 rfl) rfl (fun c24 => ?_) (fun c24 => ?_)
        · skip
          rw [if_pos c24] at h
          refine GM_aload_n (pc := 43) 0 rfl (daX1_lacksLake_0 22 rfl) rfl ?_
          refine GM_getf (pc := 44) 1 9 3 9 kf_X1_36 (Nat.le_of_ble_eq_true rfl) (Nat.le_of_ble_eq_true rfl) rfl (daX1_lacksLake_0 23 rfl) hc20 rfl ?_
          refine GM_iload_n (pc := 47) 1 rfl (daX1_lacksLake_0 24 rfl) rfl ?_
          refine GM_iconst (pc := 48) 1 (daX1_lacksLake_0 25 rfl) rfl (R32_b rfl) ?_
          refine GM_isub (pc := 49) (daX1_lacksLake_0 26 rfl) ?_
          obtain ⟨hc25, h⟩ := chk_inv h
          refine GM_iald (pc := 50) (daX1_lacksLake_0 27 rfl) hc25.1 hc25.2.1 hc25.2.2 ?_
          exact gX1_lacksLake_51 l h hK
        · skip
          rw [if_neg c24] at h
          refine GM_aload_n (pc := 34) 0 rfl (daX1_lacksLake_0 17 rfl) rfl ?_
          refine GM_getf (pc := 35) 1 9 3 9 kf_X1_36 (Nat.le_of_ble_eq_true rfl) (Nat.le_of_ble_eq_true rfl) rfl (daX1_lacksLake_0 18 rfl) hc20 rfl ?_
          refine GM_iload_n (pc := 38) 1 rfl (daX1_lacksLake_0 19 rfl) rfl ?_
          obtain ⟨hc26, h⟩ := chk_inv h
          refine GM_iald (pc := 39) (daX1_lacksLake_0 20 rfl) hc26.1 hc26.2.1 hc26.2.2 ?_
          refine GM_goto (pc := 40) 51 (daX1_lacksLake_0 21 rfl) rfl ?_
          exact gX1_lacksLake_51 l h hK
      · skip
        rw [if_pos c23] at h
        refine GM_iconst (pc := 22) 0 (daX1_lacksLake_0 11 rfl) rfl (R32_b rfl) ?_
        cases h
        exact GM_zret (pc := 23) (daX1_lacksLake_0 12 rfl) rfl (Or.inl rfl) hK
theorem tX1_lacksLake (l : Launch) {v0 v1 : Int} {μ : Mm} {t : Int} (h : fX1_lacksLake v0 v1 μ = some t) : Ct l yX1_lacksLake mX1_lacksLake [(3, v0), (0, v1)] μ ([(0, t)], μ, 0, 0) :=
  Ct_of (by decide +kernel) rfl rfl (Nat.le_of_ble_eq_true rfl) (fun _ _ _ => trivial) (gX1_lacksLake_0 l h ⟨rfl, rfl⟩)
def mX1_holdsInAnyYear : MI := (RX1, cX1_holdsInAnyYear, 3, (some .boolean), "holdsInAnyYear", 3, 75, fun _ _ _ => True)
theorem cwX1_holdsInAnyYear : CWd yX1_holdsInAnyYear mX1_holdsInAnyYear 1 := ⟨ki_X1, kk_X1_holdsInAnyYear, ⟨by decide, by decide⟩, rfl⟩
def dtX1_holdsInAnyYear_0 : List (Nat × Instr × Nat) := [(0, .iconst 0, 1), (1, .istore_n 2, 1), (2, .iload_n 2, 1), (3, .iload_n 1, 1), (4, .if_icmp .ge 20, 3), (7, .aload_n 0, 1), (8, .iload_n 1, 1), (9, .iload_n 2, 1), (10, .invokevirtual 121, 3), (13, .ifCond .ne 5, 3), (16, .iconst 0, 1), (17, .ireturn, 1), (18, .iinc 2 1, 3), (21, .goto (-19), 3), (24, .aload_n 0, 1), (25, .iload_n 1, 1), (26, .invokevirtual 125, 3), (29, .ifCond .ne 7, 3), (32, .iconst 1, 1), (33, .goto 4, 3), (36, .iconst 0, 1), (37, .ireturn, 1)]
theorem ddX1_holdsInAnyYear_0 : (dtX1_holdsInAnyYear_0.all fun e => decide (decode mX1_holdsInAnyYear.2.1 e.1 = .ok (e.2.1, e.2.2))) = true := by decide +kernel
theorem daX1_holdsInAnyYear_0 (j : Nat) {pc n : Nat} {i : Instr} (h : dtX1_holdsInAnyYear_0[j]? = some (pc, i, n)) : decode mX1_holdsInAnyYear.2.1 pc = .ok (i, n) := dec_of (c := mX1_holdsInAnyYear.2.1) ddX1_holdsInAnyYear_0 h
def zX1_holdsInAnyYear_2 (l : Launch) (F : FI) (v0 v1 : Int) (μ : Mm) (k n : Nat) : Int ⊕ (Unit ⊕ Unit) → Prop
  | .inl v2 => GM l mX1_holdsInAnyYear F k n 2 [(0, (3, v0)), (1, (0, v1)), (2, (0, v2))] [] μ
  | .inr (.inl ()) => GM l mX1_holdsInAnyYear F k n 24 [(0, (3, v0)), (1, (0, v1))] [] μ
  | .inr (.inr ()) => GM l mX1_holdsInAnyYear F k n 16 [] [] μ
def sX1_holdsInAnyYear_2 (v0 v1 : Int) (μ : Mm) : Int → Option (Int ⊕ (Unit ⊕ Unit)) := fun v2 =>
  if v1 ≤ v2 then
    some (.inr (.inl ()))
  else
    chk (KD v0 = 1) (
    (fX1_agree v0 v1 v2 μ).bind fun r3 =>
    if r3 = 0 then
      some (.inr (.inr ()))
    else
      some (.inl (w32 (v2 + 1))))
def fX1_holdsInAnyYear (v0 v1 : Int) (μ : Mm) : Option Int :=
  (lop (sX1_holdsInAnyYear_2 v0 v1 μ) FU 0).bind fun x5 =>
    match x5 with
    | (.inl ()) =>
        chk (KD v0 = 1) (
        (fX1_lacksLake v0 v1 μ).bind fun r9 =>
        if r9 = 0 then
          some 1
        else
          some 0)
    | (.inr ()) =>
        some 0
set_option maxRecDepth 20000 in
theorem qX1_holdsInAnyYear_2 (l : Launch) (F : FI) (v0 v1 : Int) (μ : Mm) (k n : Nat) : ∀ (q : Int) (t : (Int ⊕ (Unit ⊕ Unit))), sX1_holdsInAnyYear_2 v0 v1 μ q = some t → zX1_holdsInAnyYear_2 l F v0 v1 μ k n t → zX1_holdsInAnyYear_2 l F v0 v1 μ k n (.inl q) := by
  intro q t h hK
  obtain ⟨v2, hqq⟩ : ∃ z, z = q := ⟨q, rfl⟩
  subst hqq
  unfold sX1_holdsInAnyYear_2 at h
  try dsimp only at h
  show GM l mX1_holdsInAnyYear F k n 2 [(0, (3, v0)), (1, (0, v1)), (2, (0, v2))] [] μ
  refine GM_iload_n (pc := 2) 2 rfl (daX1_holdsInAnyYear_0 2 rfl) rfl ?_
  refine GM_iload_n (pc := 3) 1 rfl (daX1_holdsInAnyYear_0 3 rfl) rfl ?_
  refine GM_icmp_ge (pc := 4) 24 (daX1_holdsInAnyYear_0 4 rfl) rfl (fun c1 => ?_) (fun c1 => ?_)
  · skip
    rw [if_pos c1] at h
    refine GM_pick [0, 1] rfl ?_
    cases h
    exact hK
  · skip
    rw [if_neg c1] at h
    refine GM_aload_n (pc := 7) 0 rfl (daX1_holdsInAnyYear_0 5 rfl) rfl ?_
    refine GM_iload_n (pc := 8) 1 rfl (daX1_holdsInAnyYear_0 6 rfl) rfl ?_
    refine GM_iload_n (pc := 9) 2 rfl (daX1_holdsInAnyYear_0 7 rfl) rfl ?_
    obtain ⟨hc2, h⟩ := chk_inv h
    obtain ⟨r3, hf3, h⟩ := Option.bind_eq_some_iff.mp h
    refine GM_callV0 (pc := 10) [(0, v1), (0, v2)] (tX1_agree l hf3) cwX1_agree 1 (Nat.le_of_ble_eq_true rfl) rfl kv_X1_agree ke_X1_agree km_X1_121 hc2 ⟨Nat.le_of_ble_eq_true rfl, Nat.le_of_ble_eq_true rfl⟩ (Nat.le_of_ble_eq_true rfl) (Nat.le_of_ble_eq_true rfl) (daX1_holdsInAnyYear_0 8 rfl) ?_
    refine GM_if_ne (pc := 13) 18 (daX1_holdsInAnyYear_0 9 rfl) rfl (fun c4 => ?_) (fun c4 => ?_)
    · skip
      rw [if_neg c4] at h
      refine GM_iinc (L' := [(2, (0, w32 (v2 + 1))), (0, (3, v0)), (1, (0, v1))]) (pc := 18) 2 rfl (daX1_holdsInAnyYear_0 12 rfl) (Nat.le_of_ble_eq_true rfl) rfl ?_
      refine GM_goto (pc := 21) 2 (daX1_holdsInAnyYear_0 13 rfl) rfl ?_
      refine GM_pick [1, 2, 0] rfl ?_
      cases h
      exact hK
    · skip
      rw [if_pos c4] at h
      refine GM_pick [] rfl ?_
      cases h
      exact hK
set_option maxRecDepth 20000 in
theorem gX1_holdsInAnyYear_0 (l : Launch) {F : FI} {v0 v1 : Int} {μ : Mm} {t : Int} (h : fX1_holdsInAnyYear v0 v1 μ = some t) (hK : F.1 = [(0, t)] ∧ F.2.1 = μ) : GM l mX1_holdsInAnyYear F 0 0 0 [(0, (3, v0)), (1, (0, v1))] [] μ := by
  unfold fX1_holdsInAnyYear at h
  refine GM_iconst (pc := 0) 0 (daX1_holdsInAnyYear_0 0 rfl) rfl (R32_b rfl) ?_
  refine GM_istore_n (L' := [(2, (0, 0)), (0, (3, v0)), (1, (0, v1))]) (pc := 1) (daX1_holdsInAnyYear_0 1 rfl) rfl (Nat.le_of_ble_eq_true rfl) rfl ?_
  refine GM_pick [1, 2, 0] rfl ?_
  obtain ⟨x5, hqx5, h⟩ := Option.bind_eq_some_iff.mp h
  refine lop_ind (zX1_holdsInAnyYear_2 l F v0 v1 μ 0 0) (qX1_holdsInAnyYear_2 l F v0 v1 μ 0 0) FU _ x5 hqx5 ?_
  rcases x5 with _ | _
  · dsimp only at h
    show GM l mX1_holdsInAnyYear F 0 0 24 [(0, (3, v0)), (1, (0, v1))] [] μ
    refine GM_aload_n (pc := 24) 0 rfl (daX1_holdsInAnyYear_0 14 rfl) rfl ?_
    refine GM_iload_n (pc := 25) 1 rfl (daX1_holdsInAnyYear_0 15 rfl) rfl ?_
    obtain ⟨hc8, h⟩ := chk_inv h
    obtain ⟨r9, hf9, h⟩ := Option.bind_eq_some_iff.mp h
    refine GM_callV0 (pc := 26) [(0, v1)] (tX1_lacksLake l hf9) cwX1_lacksLake 1 (Nat.le_of_ble_eq_true rfl) rfl kv_X1_lacksLake ke_X1_lacksLake km_X1_125 hc8 ⟨Nat.le_of_ble_eq_true rfl, Nat.le_of_ble_eq_true rfl⟩ (Nat.le_of_ble_eq_true rfl) (Nat.le_of_ble_eq_true rfl) (daX1_holdsInAnyYear_0 16 rfl) ?_
    refine GM_if_ne (pc := 29) 36 (daX1_holdsInAnyYear_0 17 rfl) rfl (fun c10 => ?_) (fun c10 => ?_)
    · skip
      rw [if_neg c10] at h
      refine GM_iconst (pc := 36) 0 (daX1_holdsInAnyYear_0 20 rfl) rfl (R32_b rfl) ?_
      cases h
      exact GM_zret (pc := 37) (daX1_holdsInAnyYear_0 21 rfl) rfl (Or.inl rfl) hK
    · skip
      rw [if_pos c10] at h
      refine GM_iconst (pc := 32) 1 (daX1_holdsInAnyYear_0 18 rfl) rfl (R32_b rfl) ?_
      refine GM_goto (pc := 33) 37 (daX1_holdsInAnyYear_0 19 rfl) rfl ?_
      cases h
      exact GM_zret (pc := 37) (daX1_holdsInAnyYear_0 21 rfl) rfl (Or.inr rfl) hK
  · dsimp only at h
    show GM l mX1_holdsInAnyYear F 0 0 16 [] [] μ
    refine GM_iconst (pc := 16) 0 (daX1_holdsInAnyYear_0 10 rfl) rfl (R32_b rfl) ?_
    cases h
    exact GM_zret (pc := 17) (daX1_holdsInAnyYear_0 11 rfl) rfl (Or.inl rfl) hK
theorem tX1_holdsInAnyYear (l : Launch) {v0 v1 : Int} {μ : Mm} {t : Int} (h : fX1_holdsInAnyYear v0 v1 μ = some t) : Ct l yX1_holdsInAnyYear mX1_holdsInAnyYear [(3, v0), (0, v1)] μ ([(0, t)], μ, 0, 0) :=
  Ct_of (by decide +kernel) rfl rfl (Nat.le_of_ble_eq_true rfl) (fun _ _ _ => trivial) (gX1_holdsInAnyYear_0 l h ⟨rfl, rfl⟩)
def mX1_lacksTower : MI := (RX1, cX1_lacksTower, 3, (some .boolean), "lacksTower", 1, 23, fun _ _ _ => True)
theorem cwX1_lacksTower : CWd yX1_lacksTower mX1_lacksTower 2 := ⟨ki_X1, kk_X1_lacksTower, ⟨by decide, by decide⟩, rfl⟩
def dtX1_lacksTower_0 : List (Nat × Instr × Nat) := [(0, .iload_n 1, 1), (1, .ifCond .lt 22, 3), (4, .iload_n 1, 1), (5, .bipush 12, 2), (7, .if_icmp .ge 16, 3), (10, .aload_n 0, 1), (11, .getfield 21, 3), (14, .iload_n 1, 1), (15, .bipush 6, 2), (17, .invokevirtual 172, 3), (20, .ifCond .ne 5, 3), (23, .iconst 0, 1), (24, .ireturn, 1), (25, .aload_n 0, 1), (26, .getfield 12, 3), (29, .aload_n 0, 1), (30, .getfield 28, 3), (33, .aload_n 0, 1), (34, .getfield 36, 3), (37, .iload_n 1, 1), (38, .iaload, 1), (39, .invokevirtual 139, 3), (42, .iload_n 2, 1), (43, .invokevirtual 187, 3), (46, .aload_n 0, 1), (47, .getfield 21, 3), (50, .iload_n 1, 1), (51, .iconst 2, 1), (52, .invokevirtual 172, 3), (55, .if_icmp .eq 7, 3), (58, .iconst 1, 1), (59, .goto 4, 3), (62, .iconst 0, 1), (63, .ireturn, 1)]
theorem ddX1_lacksTower_0 : (dtX1_lacksTower_0.all fun e => decide (decode mX1_lacksTower.2.1 e.1 = .ok (e.2.1, e.2.2))) = true := by decide +kernel
theorem daX1_lacksTower_0 (j : Nat) {pc n : Nat} {i : Instr} (h : dtX1_lacksTower_0[j]? = some (pc, i, n)) : decode mX1_lacksTower.2.1 pc = .ok (i, n) := dec_of (c := mX1_lacksTower.2.1) ddX1_lacksTower_0 h
def fX1_lacksTower (v0 v1 v2 : Int) (μ : Mm) : Option Int :=
  if v1 < 0 then
    some 0
  else
    if 12 ≤ v1 then
      some 0
    else
      chk (KD v0 = 1) (
      chk (KD (μ v0 1) = 6) (
      (fX6_isMarked (μ v0 1) v1 6 μ).bind fun r5 =>
      if r5 = 0 then
        some 0
      else
        chk (KD (μ v0 9) = 12 ∧ 0 ≤ v1 ∧ v1 < LN (μ v0 9)) (
        chk (KD (μ v0 2) = 7) (
        (fX7_topOfRay (μ v0 2) (μ (μ v0 9) v1) μ).bind fun r9 =>
        chk (KD (μ v0 0) = 2) (
        (fX2_hasTower (μ v0 0) r9 v2 μ).bind fun r11 =>
        (fX6_isMarked (μ v0 1) v1 2 μ).bind fun r12 =>
        if r11 = r12 then
          some 0
        else
          some 1)))))
set_option maxRecDepth 20000 in
theorem gX1_lacksTower_0 (l : Launch) {F : FI} {v0 v1 v2 : Int} {μ : Mm} {t : Int} (h : fX1_lacksTower v0 v1 v2 μ = some t) (hK : F.1 = [(0, t)] ∧ F.2.1 = μ) : GM l mX1_lacksTower F 0 0 0 [(0, (3, v0)), (1, (0, v1)), (2, (0, v2))] [] μ := by
  unfold fX1_lacksTower at h
  refine GM_iload_n (pc := 0) 1 rfl (daX1_lacksTower_0 0 rfl) rfl ?_
  refine GM_if_lt (pc := 1) 23 (daX1_lacksTower_0 1 rfl) rfl (fun c1 => ?_) (fun c1 => ?_)
  · skip
    rw [if_pos c1] at h
    refine GM_iconst (pc := 23) 0 (daX1_lacksTower_0 11 rfl) rfl (R32_b rfl) ?_
    cases h
    exact GM_zret (pc := 24) (daX1_lacksTower_0 12 rfl) rfl (Or.inl rfl) hK
  · skip
    rw [if_neg c1] at h
    refine GM_iload_n (pc := 4) 1 rfl (daX1_lacksTower_0 2 rfl) rfl ?_
    refine GM_bipush (pc := 5) 12 (daX1_lacksTower_0 3 rfl) rfl (R32_b rfl) ?_
    refine GM_icmp_ge (pc := 7) 23 (daX1_lacksTower_0 4 rfl) rfl (fun c2 => ?_) (fun c2 => ?_)
    · skip
      rw [if_pos c2] at h
      refine GM_iconst (pc := 23) 0 (daX1_lacksTower_0 11 rfl) rfl (R32_b rfl) ?_
      cases h
      exact GM_zret (pc := 24) (daX1_lacksTower_0 12 rfl) rfl (Or.inl rfl) hK
    · skip
      rw [if_neg c2] at h
      refine GM_aload_n (pc := 10) 0 rfl (daX1_lacksTower_0 5 rfl) rfl ?_
      obtain ⟨hc3, h⟩ := chk_inv h
      refine GM_getf (pc := 11) 1 1 3 1 kf_X1_21 (Nat.le_of_ble_eq_true rfl) (Nat.le_of_ble_eq_true rfl) rfl (daX1_lacksTower_0 6 rfl) hc3 rfl ?_
      refine GM_iload_n (pc := 14) 1 rfl (daX1_lacksTower_0 7 rfl) rfl ?_
      refine GM_bipush (pc := 15) 6 (daX1_lacksTower_0 8 rfl) rfl (R32_b rfl) ?_
      obtain ⟨hc4, h⟩ := chk_inv h
      obtain ⟨r5, hf5, h⟩ := Option.bind_eq_some_iff.mp h
      refine GM_callV0 (pc := 17) [(0, v1), (0, 6)] (tX6_isMarked l hf5) cwX6_isMarked 6 (Nat.le_of_ble_eq_true rfl) rfl kv_X6_isMarked ke_X6_isMarked km_X1_172 hc4 ⟨Nat.le_of_ble_eq_true rfl, Nat.le_of_ble_eq_true rfl⟩ (Nat.le_of_ble_eq_true rfl) (Nat.le_of_ble_eq_true rfl) (daX1_lacksTower_0 9 rfl) ?_
      refine GM_if_ne (pc := 20) 25 (daX1_lacksTower_0 10 rfl) rfl (fun c6 => ?_) (fun c6 => ?_)
      · skip
        rw [if_neg c6] at h
        refine GM_aload_n (pc := 25) 0 rfl (daX1_lacksTower_0 13 rfl) rfl ?_
        refine GM_getf (pc := 26) 1 0 3 0 kf_X1_12 (Nat.le_of_ble_eq_true rfl) (Nat.le_of_ble_eq_true rfl) rfl (daX1_lacksTower_0 14 rfl) hc3 rfl ?_
        refine GM_aload_n (pc := 29) 0 rfl (daX1_lacksTower_0 15 rfl) rfl ?_
        refine GM_getf (pc := 30) 1 2 3 2 kf_X1_28 (Nat.le_of_ble_eq_true rfl) (Nat.le_of_ble_eq_true rfl) rfl (daX1_lacksTower_0 16 rfl) hc3 rfl ?_
        refine GM_aload_n (pc := 33) 0 rfl (daX1_lacksTower_0 17 rfl) rfl ?_
        refine GM_getf (pc := 34) 1 9 3 9 kf_X1_36 (Nat.le_of_ble_eq_true rfl) (Nat.le_of_ble_eq_true rfl) rfl (daX1_lacksTower_0 18 rfl) hc3 rfl ?_
        refine GM_iload_n (pc := 37) 1 rfl (daX1_lacksTower_0 19 rfl) rfl ?_
        obtain ⟨hc7, h⟩ := chk_inv h
        refine GM_iald (pc := 38) (daX1_lacksTower_0 20 rfl) hc7.1 hc7.2.1 hc7.2.2 ?_
        obtain ⟨hc8, h⟩ := chk_inv h
        obtain ⟨r9, hf9, h⟩ := Option.bind_eq_some_iff.mp h
        refine GM_callV0 (pc := 39) [(0, μ (μ v0 9) v1)] (tX7_topOfRay l hf9) cwX7_topOfRay 7 (Nat.le_of_ble_eq_true rfl) rfl kv_X7_topOfRay ke_X7_topOfRay km_X1_139 hc8 ⟨Nat.le_of_ble_eq_true rfl, Nat.le_of_ble_eq_true rfl⟩ (Nat.le_of_ble_eq_true rfl) (Nat.le_of_ble_eq_true rfl) (daX1_lacksTower_0 21 rfl) ?_
        refine GM_iload_n (pc := 42) 2 rfl (daX1_lacksTower_0 22 rfl) rfl ?_
        obtain ⟨hc10, h⟩ := chk_inv h
        obtain ⟨r11, hf11, h⟩ := Option.bind_eq_some_iff.mp h
        refine GM_callV0 (pc := 43) [(0, r9), (0, v2)] (tX2_hasTower l hf11) cwX2_hasTower 2 (Nat.le_of_ble_eq_true rfl) rfl kv_X2_hasTower ke_X2_hasTower km_X1_187 hc10 ⟨Nat.le_of_ble_eq_true rfl, Nat.le_of_ble_eq_true rfl⟩ (Nat.le_of_ble_eq_true rfl) (Nat.le_of_ble_eq_true rfl) (daX1_lacksTower_0 23 rfl) ?_
        refine GM_aload_n (pc := 46) 0 rfl (daX1_lacksTower_0 24 rfl) rfl ?_
        refine GM_getf (pc := 47) 1 1 3 1 kf_X1_21 (Nat.le_of_ble_eq_true rfl) (Nat.le_of_ble_eq_true rfl) rfl (daX1_lacksTower_0 25 rfl) hc3 rfl ?_
        refine GM_iload_n (pc := 50) 1 rfl (daX1_lacksTower_0 26 rfl) rfl ?_
        refine GM_iconst (pc := 51) 2 (daX1_lacksTower_0 27 rfl) rfl (R32_b rfl) ?_
        obtain ⟨r12, hf12, h⟩ := Option.bind_eq_some_iff.mp h
        refine GM_callV0 (pc := 52) [(0, v1), (0, 2)] (tX6_isMarked l hf12) cwX6_isMarked 6 (Nat.le_of_ble_eq_true rfl) rfl kv_X6_isMarked ke_X6_isMarked km_X1_172 hc4 ⟨Nat.le_of_ble_eq_true rfl, Nat.le_of_ble_eq_true rfl⟩ (Nat.le_of_ble_eq_true rfl) (Nat.le_of_ble_eq_true rfl) (daX1_lacksTower_0 28 rfl) ?_
        refine GM_icmp_eq (pc := 55) 62 (daX1_lacksTower_0 29 rfl) rfl (fun c13 => ?_) (fun c13 => ?_)
        · skip
          rw [if_pos c13] at h
          refine GM_iconst (pc := 62) 0 (daX1_lacksTower_0 32 rfl) rfl (R32_b rfl) ?_
          cases h
          exact GM_zret (pc := 63) (daX1_lacksTower_0 33 rfl) rfl (Or.inl rfl) hK
        · skip
          rw [if_neg c13] at h
          refine GM_iconst (pc := 58) 1 (daX1_lacksTower_0 30 rfl) rfl (R32_b rfl) ?_
          refine GM_goto (pc := 59) 63 (daX1_lacksTower_0 31 rfl) rfl ?_
          cases h
          exact GM_zret (pc := 63) (daX1_lacksTower_0 33 rfl) rfl (Or.inr rfl) hK
      · skip
        rw [if_pos c6] at h
        refine GM_iconst (pc := 23) 0 (daX1_lacksTower_0 11 rfl) rfl (R32_b rfl) ?_
        cases h
        exact GM_zret (pc := 24) (daX1_lacksTower_0 12 rfl) rfl (Or.inl rfl) hK
theorem tX1_lacksTower (l : Launch) {v0 v1 v2 : Int} {μ : Mm} {t : Int} (h : fX1_lacksTower v0 v1 v2 μ = some t) : Ct l yX1_lacksTower mX1_lacksTower [(3, v0), (0, v1), (0, v2)] μ ([(0, t)], μ, 0, 0) :=
  Ct_of (by decide +kernel) rfl rfl (Nat.le_of_ble_eq_true rfl) (fun _ _ _ => trivial) (gX1_lacksTower_0 l h ⟨rfl, rfl⟩)
def mX1_reachByYears : MI := (RX1, cX1_reachByYears, 6, (some .int), "reachByYears", 2, 45, fun _ _ _ => True)
theorem cwX1_reachByYears : CWd yX1_reachByYears mX1_reachByYears 1 := ⟨ki_X1, kk_X1_reachByYears, ⟨by decide, by decide⟩, rfl⟩
def dtX1_reachByYears_0 : List (Nat × Instr × Nat) := [(0, .iconst 0, 1), (1, .istore_n 2, 1), (2, .aload_n 0, 1), (3, .getfield 81, 3), (6, .istore_n 3, 1), (7, .iload_n 3, 1), (8, .aload_n 0, 1), (9, .getfield 84, 3), (12, .if_icmp .gt 54, 3), (15, .iload_n 2, 1), (16, .iload_n 1, 1), (17, .if_icmp .ge 49, 3), (20, .aload_n 0, 1), (21, .iload_n 3, 1), (22, .invokevirtual 87, 3), (25, .istore 4, 2), (27, .iconst 0, 1), (28, .istore 5, 2), (30, .iload 5, 2), (32, .iload_n 1, 1), (33, .if_icmp .ge 20, 3), (36, .aload_n 0, 1), (37, .iload 5, 2), (39, .iload 4, 2), (41, .invokevirtual 128, 3), (44, .ifCond .ne 9, 3), (47, .iinc 5 1, 3), (50, .goto (-20), 3), (53, .iload_n 2, 1), (54, .iload 5, 2), (56, .invokestatic 131, 3), (59, .istore_n 2, 1), (60, .iinc 3 1, 3), (63, .goto (-56), 3), (66, .iload_n 2, 1), (67, .ireturn, 1)]
theorem ddX1_reachByYears_0 : (dtX1_reachByYears_0.all fun e => decide (decode mX1_reachByYears.2.1 e.1 = .ok (e.2.1, e.2.2))) = true := by decide +kernel
theorem daX1_reachByYears_0 (j : Nat) {pc n : Nat} {i : Instr} (h : dtX1_reachByYears_0[j]? = some (pc, i, n)) : decode mX1_reachByYears.2.1 pc = .ok (i, n) := dec_of (c := mX1_reachByYears.2.1) ddX1_reachByYears_0 h
def zX1_reachByYears_30 (l : Launch) (F : FI) (v0 v1 v2 v3 v4 : Int) (μ : Mm) (k n : Nat) : Int ⊕ Int → Prop
  | .inl v5 => GM l mX1_reachByYears F k n 30 [(0, (3, v0)), (1, (0, v1)), (2, (0, v2)), (3, (0, v3)), (4, (0, v4)), (5, (0, v5))] [] μ
  | .inr v5 => GM l mX1_reachByYears F k n 53 [(0, (3, v0)), (1, (0, v1)), (2, (0, v2)), (3, (0, v3)), (5, (0, v5))] [] μ
def sX1_reachByYears_30 (v0 v1 v2 v3 v4 : Int) (μ : Mm) : Int → Option (Int ⊕ Int) := fun v5 =>
  if v1 ≤ v5 then
    some (.inr v5)
  else
    chk (KD v0 = 1) (
    (fX1_lacksTower v0 v5 v4 μ).bind fun r3 =>
    if r3 = 0 then
      some (.inl (w32 (v5 + 1)))
    else
      some (.inr v5))
def zX1_reachByYears_7 (l : Launch) (F : FI) (v0 v1 : Int) (μ : Mm) (k n : Nat) : (Int × Int) ⊕ Int → Prop
  | .inl (v2, v3) => GM l mX1_reachByYears F k n 7 [(0, (3, v0)), (1, (0, v1)), (2, (0, v2)), (3, (0, v3))] [] μ
  | .inr v2 => GM l mX1_reachByYears F k n 66 [(2, (0, v2))] [] μ
def sX1_reachByYears_7 (v0 v1 : Int) (μ : Mm) : (Int × Int) → Option ((Int × Int) ⊕ Int) := fun (v2, v3) =>
  chk (KD v0 = 1) (
  if μ v0 6 < v3 then
    some (.inr v2)
  else
    if v1 ≤ v2 then
      some (.inr v2)
    else
      (fX1_yearFrom v0 v3 μ).bind fun r8 =>
      (lop (sX1_reachByYears_30 v0 v1 v2 v3 r8 μ) FU 0).bind fun v5_10 =>
        some (.inl (imax v2 v5_10, w32 (v3 + 1))))
def fX1_reachByYears (v0 v1 : Int) (μ : Mm) : Option Int :=
  chk (KD v0 = 1) (
  (lop (sX1_reachByYears_7 v0 v1 μ) FU (0, μ v0 5)).bind fun v2_13 =>
    some v2_13)
set_option maxRecDepth 20000 in
theorem qX1_reachByYears_30 (l : Launch) (F : FI) (v0 v1 v2 v3 v4 : Int) (μ : Mm) (k n : Nat) : ∀ (q : Int) (t : (Int ⊕ Int)), sX1_reachByYears_30 v0 v1 v2 v3 v4 μ q = some t → zX1_reachByYears_30 l F v0 v1 v2 v3 v4 μ k n t → zX1_reachByYears_30 l F v0 v1 v2 v3 v4 μ k n (.inl q) := by
  intro q t h hK
  obtain ⟨v5, hqq⟩ : ∃ z, z = q := ⟨q, rfl⟩
  subst hqq
  unfold sX1_reachByYears_30 at h
  try dsimp only at h
  show GM l mX1_reachByYears F k n 30 [(0, (3, v0)), (1, (0, v1)), (2, (0, v2)), (3, (0, v3)), (4, (0, v4)), (5, (0, v5))] [] μ
  refine GM_iload (pc := 30) 5 rfl (daX1_reachByYears_0 18 rfl) ?_
  refine GM_iload_n (pc := 32) 1 rfl (daX1_reachByYears_0 19 rfl) rfl ?_
  refine GM_icmp_ge (pc := 33) 53 (daX1_reachByYears_0 20 rfl) rfl (fun c1 => ?_) (fun c1 => ?_)
  · skip
    rw [if_pos c1] at h
    refine GM_pick [0, 1, 2, 3, 5] rfl ?_
    cases h
    exact hK
  · skip
    rw [if_neg c1] at h
    refine GM_aload_n (pc := 36) 0 rfl (daX1_reachByYears_0 21 rfl) rfl ?_
    refine GM_iload (pc := 37) 5 rfl (daX1_reachByYears_0 22 rfl) ?_
    refine GM_iload (pc := 39) 4 rfl (daX1_reachByYears_0 23 rfl) ?_
    obtain ⟨hc2, h⟩ := chk_inv h
    obtain ⟨r3, hf3, h⟩ := Option.bind_eq_some_iff.mp h
    refine GM_callV0 (pc := 41) [(0, v5), (0, v4)] (tX1_lacksTower l hf3) cwX1_lacksTower 1 (Nat.le_of_ble_eq_true rfl) rfl kv_X1_lacksTower ke_X1_lacksTower km_X1_128 hc2 ⟨Nat.le_of_ble_eq_true rfl, Nat.le_of_ble_eq_true rfl⟩ (Nat.le_of_ble_eq_true rfl) (Nat.le_of_ble_eq_true rfl) (daX1_reachByYears_0 24 rfl) ?_
    refine GM_if_ne (pc := 44) 53 (daX1_reachByYears_0 25 rfl) rfl (fun c4 => ?_) (fun c4 => ?_)
    · skip
      rw [if_neg c4] at h
      refine GM_pick [0, 1, 2, 3, 5] rfl ?_
      cases h
      exact hK
    · skip
      rw [if_pos c4] at h
      refine GM_iinc (L' := [(5, (0, w32 (v5 + 1))), (0, (3, v0)), (1, (0, v1)), (2, (0, v2)), (3, (0, v3)), (4, (0, v4))]) (pc := 47) 5 rfl (daX1_reachByYears_0 26 rfl) (Nat.le_of_ble_eq_true rfl) rfl ?_
      refine GM_goto (pc := 50) 30 (daX1_reachByYears_0 27 rfl) rfl ?_
      refine GM_pick [1, 2, 3, 4, 5, 0] rfl ?_
      cases h
      exact hK
set_option maxRecDepth 20000 in
theorem qX1_reachByYears_7 (l : Launch) (F : FI) (v0 v1 : Int) (μ : Mm) (k n : Nat) : ∀ (q : (Int × Int)) (t : ((Int × Int) ⊕ Int)), sX1_reachByYears_7 v0 v1 μ q = some t → zX1_reachByYears_7 l F v0 v1 μ k n t → zX1_reachByYears_7 l F v0 v1 μ k n (.inl q) := by
  intro q t h hK
  obtain ⟨v2, v3⟩ := q
  unfold sX1_reachByYears_7 at h
  try dsimp only at h
  show GM l mX1_reachByYears F k n 7 [(0, (3, v0)), (1, (0, v1)), (2, (0, v2)), (3, (0, v3))] [] μ
  refine GM_iload_n (pc := 7) 3 rfl (daX1_reachByYears_0 5 rfl) rfl ?_
  refine GM_aload_n (pc := 8) 0 rfl (daX1_reachByYears_0 6 rfl) rfl ?_
  obtain ⟨hc5, h⟩ := chk_inv h
  refine GM_getf (pc := 9) 1 6 0 6 kf_X1_84 (Nat.le_of_ble_eq_true rfl) (Nat.le_of_ble_eq_true rfl) rfl (daX1_reachByYears_0 7 rfl) hc5 rfl ?_
  refine GM_icmp_gt (pc := 12) 66 (daX1_reachByYears_0 8 rfl) rfl (fun c6 => ?_) (fun c6 => ?_)
  · skip
    rw [if_pos c6] at h
    refine GM_pick [2] rfl ?_
    cases h
    exact hK
  · skip
    rw [if_neg c6] at h
    refine GM_iload_n (pc := 15) 2 rfl (daX1_reachByYears_0 9 rfl) rfl ?_
    refine GM_iload_n (pc := 16) 1 rfl (daX1_reachByYears_0 10 rfl) rfl ?_
    refine GM_icmp_ge (pc := 17) 66 (daX1_reachByYears_0 11 rfl) rfl (fun c7 => ?_) (fun c7 => ?_)
    · skip
      rw [if_pos c7] at h
      refine GM_pick [2] rfl ?_
      cases h
      exact hK
    · skip
      rw [if_neg c7] at h
      refine GM_aload_n (pc := 20) 0 rfl (daX1_reachByYears_0 12 rfl) rfl ?_
      refine GM_iload_n (pc := 21) 3 rfl (daX1_reachByYears_0 13 rfl) rfl ?_
      obtain ⟨r8, hf8, h⟩ := Option.bind_eq_some_iff.mp h
      refine GM_callV0 (pc := 22) [(0, v3)] (tX1_yearFrom l hf8) cwX1_yearFrom 1 (Nat.le_of_ble_eq_true rfl) rfl kv_X1_yearFrom ke_X1_yearFrom km_X1_87 hc5 ⟨Nat.le_of_ble_eq_true rfl, Nat.le_of_ble_eq_true rfl⟩ (Nat.le_of_ble_eq_true rfl) (Nat.le_of_ble_eq_true rfl) (daX1_reachByYears_0 14 rfl) ?_
      refine GM_istore (L' := [(4, (0, r8)), (0, (3, v0)), (1, (0, v1)), (2, (0, v2)), (3, (0, v3))]) (pc := 25) (daX1_reachByYears_0 15 rfl) (Nat.le_of_ble_eq_true rfl) rfl ?_
      refine GM_iconst (pc := 27) 0 (daX1_reachByYears_0 16 rfl) rfl (R32_b rfl) ?_
      refine GM_istore (L' := [(5, (0, 0)), (4, (0, r8)), (0, (3, v0)), (1, (0, v1)), (2, (0, v2)), (3, (0, v3))]) (pc := 28) (daX1_reachByYears_0 17 rfl) (Nat.le_of_ble_eq_true rfl) rfl ?_
      refine GM_pick [2, 3, 4, 5, 1, 0] rfl ?_
      obtain ⟨x9, hqx9, h⟩ := Option.bind_eq_some_iff.mp h
      refine lop_ind (zX1_reachByYears_30 l F v0 v1 v2 v3 r8 μ k n) (qX1_reachByYears_30 l F v0 v1 v2 v3 r8 μ k n) FU _ x9 hqx9 ?_
      obtain ⟨v5_10, hqq⟩ : ∃ z, z = x9 := ⟨x9, rfl⟩
      subst hqq
      show GM l mX1_reachByYears F k n 53 [(0, (3, v0)), (1, (0, v1)), (2, (0, v2)), (3, (0, v3)), (5, (0, v5_10))] [] μ
      refine GM_iload_n (pc := 53) 2 rfl (daX1_reachByYears_0 28 rfl) rfl ?_
      refine GM_iload (pc := 54) 4 rfl (daX1_reachByYears_0 29 rfl) ?_
      refine GM_callS0 (pc := 56) [(0, v2), (0, v5_10)] (tJ9_max_7cf53 l (fJ9_max_eq v2 v5_10)) cwJ9_max_7cf53 ks_J9_max_7cf53 km_X1_131 ⟨Nat.le_of_ble_eq_true rfl, Nat.le_of_ble_eq_true rfl⟩ (Nat.le_of_ble_eq_true rfl) (Nat.le_of_ble_eq_true rfl) (daX1_reachByYears_0 30 rfl) ?_
      refine GM_istore_n (L' := [(2, (0, imax v2 v5_10)), (0, (3, v0)), (1, (0, v1)), (3, (0, v3)), (5, (0, v5_10))]) (pc := 59) (daX1_reachByYears_0 31 rfl) rfl (Nat.le_of_ble_eq_true rfl) rfl ?_
      refine GM_iinc (L' := [(3, (0, w32 (v3 + 1))), (2, (0, imax v2 v5_10)), (0, (3, v0)), (1, (0, v1)), (5, (0, v5_10))]) (pc := 60) 3 rfl (daX1_reachByYears_0 32 rfl) (Nat.le_of_ble_eq_true rfl) rfl ?_
      refine GM_goto (pc := 63) 7 (daX1_reachByYears_0 33 rfl) rfl ?_
      refine GM_pick [2, 3, 1, 0] rfl ?_
      cases h
      exact hK
set_option maxRecDepth 20000 in
theorem gX1_reachByYears_0 (l : Launch) {F : FI} {v0 v1 : Int} {μ : Mm} {t : Int} (h : fX1_reachByYears v0 v1 μ = some t) (hK : F.1 = [(0, t)] ∧ F.2.1 = μ) : GM l mX1_reachByYears F 0 0 0 [(0, (3, v0)), (1, (0, v1))] [] μ := by
  unfold fX1_reachByYears at h
  refine GM_iconst (pc := 0) 0 (daX1_reachByYears_0 0 rfl) rfl (R32_b rfl) ?_
  refine GM_istore_n (L' := [(2, (0, 0)), (0, (3, v0)), (1, (0, v1))]) (pc := 1) (daX1_reachByYears_0 1 rfl) rfl (Nat.le_of_ble_eq_true rfl) rfl ?_
  refine GM_aload_n (pc := 2) 1 rfl (daX1_reachByYears_0 2 rfl) rfl ?_
  obtain ⟨hc11, h⟩ := chk_inv h
  refine GM_getf (pc := 3) 1 5 0 5 kf_X1_81 (Nat.le_of_ble_eq_true rfl) (Nat.le_of_ble_eq_true rfl) rfl (daX1_reachByYears_0 3 rfl) hc11 rfl ?_
  refine GM_istore_n (L' := [(3, (0, μ v0 5)), (2, (0, 0)), (0, (3, v0)), (1, (0, v1))]) (pc := 6) (daX1_reachByYears_0 4 rfl) rfl (Nat.le_of_ble_eq_true rfl) rfl ?_
  refine GM_pick [2, 3, 1, 0] rfl ?_
  obtain ⟨x12, hqx12, h⟩ := Option.bind_eq_some_iff.mp h
  refine lop_ind (zX1_reachByYears_7 l F v0 v1 μ 0 0) (qX1_reachByYears_7 l F v0 v1 μ 0 0) FU _ x12 hqx12 ?_
  obtain ⟨v2_13, hqq⟩ : ∃ z, z = x12 := ⟨x12, rfl⟩
  subst hqq
  show GM l mX1_reachByYears F 0 0 66 [(2, (0, v2_13))] [] μ
  refine GM_iload_n (pc := 66) 0 rfl (daX1_reachByYears_0 34 rfl) rfl ?_
  cases h
  exact GM_iret (pc := 67) (daX1_reachByYears_0 35 rfl) rfl hK
theorem tX1_reachByYears (l : Launch) {v0 v1 : Int} {μ : Mm} {t : Int} (h : fX1_reachByYears v0 v1 μ = some t) : Ct l yX1_reachByYears mX1_reachByYears [(3, v0), (0, v1)] μ ([(0, t)], μ, 0, 0) :=
  Ct_of (by decide +kernel) rfl rfl (Nat.le_of_ble_eq_true rfl) (fun _ _ _ => trivial) (gX1_reachByYears_0 l h ⟨rfl, rfl⟩)
def mX1_reach : MI := (RX1, cX1_reach, 4, (some .int), "reach", 4, 97, fun _ _ _ => True)
theorem cwX1_reach : CWd yX1_reach mX1_reach 1 := ⟨ki_X1, kk_X1_reach, ⟨by decide, by decide⟩, rfl⟩
def dtX1_reach_0 : List (Nat × Instr × Nat) := [(0, .aload_n 0, 1), (1, .invokevirtual 98, 3), (4, .ifCond .ne 5, 3), (7, .iconst 0, 1), (8, .ireturn, 1), (9, .iconst 0, 1), (10, .istore_n 2, 1), (11, .iconst 0, 1), (12, .istore_n 3, 1), (13, .iload_n 3, 1), (14, .aload_n 0, 1), (15, .getfield 21, 3), (18, .getfield 91, 3), (21, .if_icmp .ge 41, 3), (24, .iload_n 3, 1), (25, .bipush 12, 2), (27, .if_icmp .ge 35, 3), (30, .aload_n 0, 1), (31, .getfield 36, 3), (34, .iload_n 3, 1), (35, .aload_n 0, 1), (36, .iload_n 1, 1), (37, .iload_n 3, 1), (38, .invokevirtual 111, 3), (41, .iastore, 1), (42, .aload_n 0, 1), (43, .iload_n 3, 1), (44, .invokevirtual 115, 3), (47, .ifCond .ne 6, 3), (50, .goto 12, 3), (53, .iinc 2 1, 3), (56, .iinc 3 1, 3), (59, .goto (-46), 3), (62, .aload_n 0, 1), (63, .getfield 49, 3), (66, .ifCond .eq 11, 3), (69, .aload_n 0, 1), (70, .iload_n 2, 1), (71, .invokevirtual 118, 3), (74, .goto 4, 3), (77, .iload_n 2, 1), (78, .ireturn, 1)]
theorem ddX1_reach_0 : (dtX1_reach_0.all fun e => decide (decode mX1_reach.2.1 e.1 = .ok (e.2.1, e.2.2))) = true := by decide +kernel
theorem daX1_reach_0 (j : Nat) {pc n : Nat} {i : Instr} (h : dtX1_reach_0[j]? = some (pc, i, n)) : decode mX1_reach.2.1 pc = .ok (i, n) := dec_of (c := mX1_reach.2.1) ddX1_reach_0 h
def zX1_reach_13 (l : Launch) (F : FI) (v0 v1 : Int) (k n : Nat) : (Int × Int × Mm) ⊕ ((Int × Mm) ⊕ (Int × Mm)) → Prop
  | .inl (v2, v3, μ) => GM l mX1_reach F k n 13 [(0, (3, v0)), (1, (0, v1)), (2, (0, v2)), (3, (0, v3))] [] μ
  | .inr (.inl (v2, μ)) => GM l mX1_reach F k n 62 [(0, (3, v0)), (2, (0, v2))] [] μ
  | .inr (.inr (v2, μ)) => GM l mX1_reach F k n 50 [(0, (3, v0)), (2, (0, v2))] [] μ
def sX1_reach_13 (v0 v1 : Int) : (Int × Int × Mm) → Option ((Int × Int × Mm) ⊕ ((Int × Mm) ⊕ (Int × Mm))) := fun (v2, v3, μ) =>
  chk (KD v0 = 1) (
  chk (KD (μ v0 1) = 6) (
  if μ (μ v0 1) 0 ≤ v3 then
    some (.inr (.inl (v2, μ)))
  else
    if 12 ≤ v3 then
      some (.inr (.inl (v2, μ)))
    else
      (fX1_rayFor v0 v1 v3 μ).bind fun r5 =>
      chk (KD (μ v0 9) = 12 ∧ 0 ≤ v3 ∧ v3 < LN (μ v0 9)) (
      lm (mst μ (μ v0 9) v3 r5) fun μ7 =>
      (fX1_holdsInAnyYear v0 v3 μ7).bind fun r8 =>
      if r8 = 0 then
        some (.inr (.inr (v2, μ7)))
      else
        some (.inl (w32 (v2 + 1), w32 (v3 + 1), μ7)))))
def jX1_reach_62 (v0 v2 : Int) (μ : Mm) : Option (Int × Mm) :=
  chk (KD v0 = 1) (
  if μ v0 8 = 0 then
    some (v2, μ)
  else
    (fX1_reachByYears v0 v2 μ).bind fun r12 =>
    some (r12, μ))
def fX1_reach (v0 v1 : Int) (μ : Mm) : Option (Int × Mm) :=
  chk (KD v0 = 1) (
  (fX1_canBe v0 μ).bind fun r14 =>
  if r14 = 0 then
    some (0, μ)
  else
    (lop (sX1_reach_13 v0 v1) FU (0, 0, μ)).bind fun x16 =>
      match x16 with
      | (.inl (v2_17, μ_17)) =>
          jX1_reach_62 v0 v2_17 μ_17
      | (.inr (v2_18, μ_18)) =>
          jX1_reach_62 v0 v2_18 μ_18)
set_option maxRecDepth 20000 in
theorem qX1_reach_13 (l : Launch) (F : FI) (v0 v1 : Int) (k n : Nat) : ∀ (q : (Int × Int × Mm)) (t : ((Int × Int × Mm) ⊕ ((Int × Mm) ⊕ (Int × Mm)))), sX1_reach_13 v0 v1 q = some t → zX1_reach_13 l F v0 v1 k n t → zX1_reach_13 l F v0 v1 k n (.inl q) := by
  intro q t h hK
  obtain ⟨v2, v3, μ⟩ := q
  unfold sX1_reach_13 at h
  try dsimp only at h
  show GM l mX1_reach F k n 13 [(0, (3, v0)), (1, (0, v1)), (2, (0, v2)), (3, (0, v3))] [] μ
  refine GM_iload_n (pc := 13) 3 rfl (daX1_reach_0 9 rfl) rfl ?_
  refine GM_aload_n (pc := 14) 0 rfl (daX1_reach_0 10 rfl) rfl ?_
  obtain ⟨hc1, h⟩ := chk_inv h
  refine GM_getf (pc := 15) 1 1 3 1 kf_X1_21 (Nat.le_of_ble_eq_true rfl) (Nat.le_of_ble_eq_true rfl) rfl (daX1_reach_0 11 rfl) hc1 rfl ?_
  obtain ⟨hc2, h⟩ := chk_inv h
  refine GM_getf (pc := 18) 6 0 0 0 kf_X1_91 (Nat.le_of_ble_eq_true rfl) (Nat.le_of_ble_eq_true rfl) rfl (daX1_reach_0 12 rfl) hc2 rfl ?_
  refine GM_icmp_ge (pc := 21) 62 (daX1_reach_0 13 rfl) rfl (fun c3 => ?_) (fun c3 => ?_)
  · skip
    rw [if_pos c3] at h
    refine GM_pick [0, 2] rfl ?_
    cases h
    exact hK
  · skip
    rw [if_neg c3] at h
    refine GM_iload_n (pc := 24) 3 rfl (daX1_reach_0 14 rfl) rfl ?_
    refine GM_bipush (pc := 25) 12 (daX1_reach_0 15 rfl) rfl (R32_b rfl) ?_
    refine GM_icmp_ge (pc := 27) 62 (daX1_reach_0 16 rfl) rfl (fun c4 => ?_) (fun c4 => ?_)
    · skip
      rw [if_pos c4] at h
      refine GM_pick [0, 2] rfl ?_
      cases h
      exact hK
    · skip
      rw [if_neg c4] at h
      refine GM_aload_n (pc := 30) 0 rfl (daX1_reach_0 17 rfl) rfl ?_
      refine GM_getf (pc := 31) 1 9 3 9 kf_X1_36 (Nat.le_of_ble_eq_true rfl) (Nat.le_of_ble_eq_true rfl) rfl (daX1_reach_0 18 rfl) hc1 rfl ?_
      refine GM_iload_n (pc := 34) 3 rfl (daX1_reach_0 19 rfl) rfl ?_
      refine GM_aload_n (pc := 35) 0 rfl (daX1_reach_0 20 rfl) rfl ?_
      refine GM_iload_n (pc := 36) 1 rfl (daX1_reach_0 21 rfl) rfl ?_
      refine GM_iload_n (pc := 37) 3 rfl (daX1_reach_0 22 rfl) rfl ?_
      obtain ⟨r5, hf5, h⟩ := Option.bind_eq_some_iff.mp h
      refine GM_callV0 (pc := 38) [(0, v1), (0, v3)] (tX1_rayFor l hf5) cwX1_rayFor 1 (Nat.le_of_ble_eq_true rfl) rfl kv_X1_rayFor ke_X1_rayFor km_X1_111 hc1 ⟨Nat.le_of_ble_eq_true rfl, Nat.le_of_ble_eq_true rfl⟩ (Nat.le_of_ble_eq_true rfl) (Nat.le_of_ble_eq_true rfl) (daX1_reach_0 23 rfl) ?_
      obtain ⟨hc6, h⟩ := chk_inv h
      obtain ⟨μ7, hμ7, h⟩ := lm_inv h
      refine GM_iast (pc := 41) (daX1_reach_0 24 rfl) hc6.1 hc6.2.1 hc6.2.2 ?_
      refine GM_mem hμ7 ?_
      refine GM_aload_n (pc := 42) 0 rfl (daX1_reach_0 25 rfl) rfl ?_
      refine GM_iload_n (pc := 43) 3 rfl (daX1_reach_0 26 rfl) rfl ?_
      obtain ⟨r8, hf8, h⟩ := Option.bind_eq_some_iff.mp h
      refine GM_callV0 (pc := 44) [(0, v3)] (tX1_holdsInAnyYear l hf8) cwX1_holdsInAnyYear 1 (Nat.le_of_ble_eq_true rfl) rfl kv_X1_holdsInAnyYear ke_X1_holdsInAnyYear km_X1_115 hc1 ⟨Nat.le_of_ble_eq_true rfl, Nat.le_of_ble_eq_true rfl⟩ (Nat.le_of_ble_eq_true rfl) (Nat.le_of_ble_eq_true rfl) (daX1_reach_0 27 rfl) ?_
      refine GM_if_ne (pc := 47) 53 (daX1_reach_0 28 rfl) rfl (fun c9 => ?_) (fun c9 => ?_)
      · skip
        rw [if_neg c9] at h
        refine GM_iinc (L' := [(2, (0, w32 (v2 + 1))), (0, (3, v0)), (1, (0, v1)), (3, (0, v3))]) (pc := 53) 2 rfl (daX1_reach_0 30 rfl) (Nat.le_of_ble_eq_true rfl) rfl ?_
        refine GM_iinc (L' := [(3, (0, w32 (v3 + 1))), (2, (0, w32 (v2 + 1))), (0, (3, v0)), (1, (0, v1))]) (pc := 56) 3 rfl (daX1_reach_0 31 rfl) (Nat.le_of_ble_eq_true rfl) rfl ?_
        refine GM_goto (pc := 59) 13 (daX1_reach_0 32 rfl) rfl ?_
        refine GM_pick [2, 3, 1, 0] rfl ?_
        cases h
        exact hK
      · skip
        rw [if_pos c9] at h
        refine GM_pick [0, 2] rfl ?_
        cases h
        exact hK
set_option maxRecDepth 20000 in
theorem gX1_reach_62 (l : Launch) {F : FI} {v0 v2 : Int} {μ : Mm} {t : (Int × Mm)} (h : jX1_reach_62 v0 v2 μ = some t) (hK : F.1 = [(0, t.1)] ∧ F.2.1 = t.2) : GM l mX1_reach F 0 0 62 [(0, (3, v0)), (2, (0, v2))] [] μ := by
  unfold jX1_reach_62 at h
  refine GM_aload_n (pc := 62) 0 rfl (daX1_reach_0 33 rfl) rfl ?_
  obtain ⟨hc10, h⟩ := chk_inv h
  refine GM_getf (pc := 63) 1 8 0 8 kf_X1_49 (Nat.le_of_ble_eq_true rfl) (Nat.le_of_ble_eq_true rfl) rfl (daX1_reach_0 34 rfl) hc10 rfl ?_
  refine GM_if_eq (pc := 66) 77 (daX1_reach_0 35 rfl) rfl (fun c11 => ?_) (fun c11 => ?_)
  · skip
    rw [if_pos c11] at h
    refine GM_iload_n (pc := 77) 1 rfl (daX1_reach_0 40 rfl) rfl ?_
    cases h
    exact GM_iret (pc := 78) (daX1_reach_0 41 rfl) rfl hK
  · skip
    rw [if_neg c11] at h
    refine GM_aload_n (pc := 69) 0 rfl (daX1_reach_0 36 rfl) rfl ?_
    refine GM_iload_n (pc := 70) 1 rfl (daX1_reach_0 37 rfl) rfl ?_
    obtain ⟨r12, hf12, h⟩ := Option.bind_eq_some_iff.mp h
    refine GM_callV0 (pc := 71) [(0, v2)] (tX1_reachByYears l hf12) cwX1_reachByYears 1 (Nat.le_of_ble_eq_true rfl) rfl kv_X1_reachByYears ke_X1_reachByYears km_X1_118 hc10 ⟨Nat.le_of_ble_eq_true rfl, Nat.le_of_ble_eq_true rfl⟩ (Nat.le_of_ble_eq_true rfl) (Nat.le_of_ble_eq_true rfl) (daX1_reach_0 38 rfl) ?_
    refine GM_goto (pc := 74) 78 (daX1_reach_0 39 rfl) rfl ?_
    cases h
    exact GM_iret (pc := 78) (daX1_reach_0 41 rfl) rfl hK
set_option maxRecDepth 20000 in
theorem gX1_reach_0 (l : Launch) {F : FI} {v0 v1 : Int} {μ : Mm} {t : (Int × Mm)} (h : fX1_reach v0 v1 μ = some t) (hK : F.1 = [(0, t.1)] ∧ F.2.1 = t.2) : GM l mX1_reach F 0 0 0 [(0, (3, v0)), (1, (0, v1))] [] μ := by
  unfold fX1_reach at h
  refine GM_aload_n (pc := 0) 0 rfl (daX1_reach_0 0 rfl) rfl ?_
  obtain ⟨hc13, h⟩ := chk_inv h
  obtain ⟨r14, hf14, h⟩ := Option.bind_eq_some_iff.mp h
  refine GM_callV0 (pc := 1) [] (tX1_canBe l hf14) cwX1_canBe 1 (Nat.le_of_ble_eq_true rfl) rfl kv_X1_canBe ke_X1_canBe km_X1_98 hc13 ⟨Nat.le_of_ble_eq_true rfl, Nat.le_of_ble_eq_true rfl⟩ (Nat.le_of_ble_eq_true rfl) (Nat.le_of_ble_eq_true rfl) (daX1_reach_0 1 rfl) ?_
  refine GM_if_ne (pc := 4) 9 (daX1_reach_0 2 rfl) rfl (fun c15 => ?_) (fun c15 => ?_)
  · skip
    rw [if_neg c15] at h
    refine GM_iconst (pc := 9) 0 (daX1_reach_0 5 rfl) rfl (R32_b rfl) ?_
    refine GM_istore_n (L' := [(2, (0, 0)), (0, (3, v0)), (1, (0, v1))]) (pc := 10) (daX1_reach_0 6 rfl) rfl (Nat.le_of_ble_eq_true rfl) rfl ?_
    refine GM_iconst (pc := 11) 0 (daX1_reach_0 7 rfl) rfl (R32_b rfl) ?_
    refine GM_istore_n (L' := [(3, (0, 0)), (2, (0, 0)), (0, (3, v0)), (1, (0, v1))]) (pc := 12) (daX1_reach_0 8 rfl) rfl (Nat.le_of_ble_eq_true rfl) rfl ?_
    refine GM_pick [2, 3, 1, 0] rfl ?_
    obtain ⟨x16, hqx16, h⟩ := Option.bind_eq_some_iff.mp h
    refine lop_ind (zX1_reach_13 l F v0 v1 0 0) (qX1_reach_13 l F v0 v1 0 0) FU _ x16 hqx16 ?_
    rcases x16 with ⟨v2_17, μ_17⟩ | ⟨v2_18, μ_18⟩
    · dsimp only at h
      show GM l mX1_reach F 0 0 62 [(0, (3, v0)), (2, (0, v2_17))] [] μ_17
      exact gX1_reach_62 l h hK
    · dsimp only at h
      show GM l mX1_reach F 0 0 50 [(0, (3, v0)), (2, (0, v2_18))] [] μ_18
      refine GM_goto (pc := 50) 62 (daX1_reach_0 29 rfl) rfl ?_
      exact gX1_reach_62 l h hK
  · skip
    rw [if_pos c15] at h
    refine GM_iconst (pc := 7) 0 (daX1_reach_0 3 rfl) rfl (R32_b rfl) ?_
    cases h
    exact GM_iret (pc := 8) (daX1_reach_0 4 rfl) rfl hK
theorem tX1_reach (l : Launch) {v0 v1 : Int} {μ : Mm} {t : (Int × Mm)} (h : fX1_reach v0 v1 μ = some t) : Ct l yX1_reach mX1_reach [(3, v0), (0, v1)] μ ([(0, t.1)], t.2, 0, 0) :=
  Ct_of (by decide +kernel) rfl rfl (Nat.le_of_ble_eq_true rfl) (fun _ _ _ => trivial) (gX1_reach_0 l h ⟨rfl, rfl⟩)
def mX1_leastStart : MI := (RX1, cX1_leastStart, 2, (some .int), "leastStart", 5, 120, fun _ _ _ => True)
theorem cwX1_leastStart : CWd yX1_leastStart mX1_leastStart 0 := ⟨ki_X1, kk_X1_leastStart, ⟨by decide, by decide⟩, rfl⟩
def dtX1_leastStart_0 : List (Nat × Instr × Nat) := [(0, .iconst 0, 1), (1, .istore_n 1, 1), (2, .iload_n 1, 1), (3, .aload_n 0, 1), (4, .getfield 28, 3), (7, .getfield 94, 3), (10, .if_icmp .ge 33, 3), (13, .aload_n 0, 1), (14, .invokevirtual 98, 3), (17, .ifCond .eq 26, 3), (20, .aload_n 0, 1), (21, .iload_n 1, 1), (22, .invokevirtual 136, 3), (25, .aload_n 0, 1), (26, .getfield 21, 3), (29, .getfield 91, 3), (32, .if_icmp .ne 5, 3), (35, .iload_n 1, 1), (36, .ireturn, 1), (37, .iinc 1 1, 3), (40, .goto (-38), 3), (43, .iconst (-1), 1), (44, .ireturn, 1)]
theorem ddX1_leastStart_0 : (dtX1_leastStart_0.all fun e => decide (decode mX1_leastStart.2.1 e.1 = .ok (e.2.1, e.2.2))) = true := by decide +kernel
theorem daX1_leastStart_0 (j : Nat) {pc n : Nat} {i : Instr} (h : dtX1_leastStart_0[j]? = some (pc, i, n)) : decode mX1_leastStart.2.1 pc = .ok (i, n) := dec_of (c := mX1_leastStart.2.1) ddX1_leastStart_0 h
def zX1_leastStart_2 (l : Launch) (F : FI) (v0 : Int) (k n : Nat) : (Int × Mm) ⊕ (Mm ⊕ (Int × Mm)) → Prop
  | .inl (v1, μ) => GM l mX1_leastStart F k n 2 [(0, (3, v0)), (1, (0, v1))] [] μ
  | .inr (.inl μ) => GM l mX1_leastStart F k n 43 [] [] μ
  | .inr (.inr (v1, μ)) => GM l mX1_leastStart F k n 35 [(1, (0, v1))] [] μ
def sX1_leastStart_2 (v0 : Int) : (Int × Mm) → Option ((Int × Mm) ⊕ (Mm ⊕ (Int × Mm))) := fun (v1, μ) =>
  chk (KD v0 = 1) (
  chk (KD (μ v0 2) = 7) (
  if μ (μ v0 2) 2 ≤ v1 then
    some (.inr (.inl μ))
  else
    (fX1_canBe v0 μ).bind fun r4 =>
    if r4 = 0 then
      some (.inr (.inl μ))
    else
      (fX1_reach v0 v1 μ).bind fun (r6, μ6) =>
      chk (KD (μ6 v0 1) = 6) (
      if r6 = μ6 (μ6 v0 1) 0 then
        some (.inr (.inr (v1, μ6)))
      else
        some (.inl (w32 (v1 + 1), μ6)))))
def fX1_leastStart (v0 : Int) (μ : Mm) : Option (Int × Mm) :=
  (lop (sX1_leastStart_2 v0) FU (0, μ)).bind fun x9 =>
    match x9 with
    | (.inl μ_10) =>
        some ((-1), μ_10)
    | (.inr (v1_11, μ_11)) =>
        some (v1_11, μ_11)
set_option maxRecDepth 20000 in
theorem qX1_leastStart_2 (l : Launch) (F : FI) (v0 : Int) (k n : Nat) : ∀ (q : (Int × Mm)) (t : ((Int × Mm) ⊕ (Mm ⊕ (Int × Mm)))), sX1_leastStart_2 v0 q = some t → zX1_leastStart_2 l F v0 k n t → zX1_leastStart_2 l F v0 k n (.inl q) := by
  intro q t h hK
  obtain ⟨v1, μ⟩ := q
  unfold sX1_leastStart_2 at h
  try dsimp only at h
  show GM l mX1_leastStart F k n 2 [(0, (3, v0)), (1, (0, v1))] [] μ
  refine GM_iload_n (pc := 2) 1 rfl (daX1_leastStart_0 2 rfl) rfl ?_
  refine GM_aload_n (pc := 3) 0 rfl (daX1_leastStart_0 3 rfl) rfl ?_
  obtain ⟨hc1, h⟩ := chk_inv h
  refine GM_getf (pc := 4) 1 2 3 2 kf_X1_28 (Nat.le_of_ble_eq_true rfl) (Nat.le_of_ble_eq_true rfl) rfl (daX1_leastStart_0 4 rfl) hc1 rfl ?_
  obtain ⟨hc2, h⟩ := chk_inv h
  refine GM_getf (pc := 7) 7 2 0 2 kf_X1_94 (Nat.le_of_ble_eq_true rfl) (Nat.le_of_ble_eq_true rfl) rfl (daX1_leastStart_0 5 rfl) hc2 rfl ?_
  refine GM_icmp_ge (pc := 10) 43 (daX1_leastStart_0 6 rfl) rfl (fun c3 => ?_) (fun c3 => ?_)
  · skip
    rw [if_pos c3] at h
    refine GM_pick [] rfl ?_
    cases h
    exact hK
  · skip
    rw [if_neg c3] at h
    refine GM_aload_n (pc := 13) 0 rfl (daX1_leastStart_0 7 rfl) rfl ?_
    obtain ⟨r4, hf4, h⟩ := Option.bind_eq_some_iff.mp h
    refine GM_callV0 (pc := 14) [] (tX1_canBe l hf4) cwX1_canBe 1 (Nat.le_of_ble_eq_true rfl) rfl kv_X1_canBe ke_X1_canBe km_X1_98 hc1 ⟨Nat.le_of_ble_eq_true rfl, Nat.le_of_ble_eq_true rfl⟩ (Nat.le_of_ble_eq_true rfl) (Nat.le_of_ble_eq_true rfl) (daX1_leastStart_0 8 rfl) ?_
    refine GM_if_eq (pc := 17) 43 (daX1_leastStart_0 9 rfl) rfl (fun c5 => ?_) (fun c5 => ?_)
    · skip
      rw [if_pos c5] at h
      refine GM_pick [] rfl ?_
      cases h
      exact hK
    · skip
      rw [if_neg c5] at h
      refine GM_aload_n (pc := 20) 0 rfl (daX1_leastStart_0 10 rfl) rfl ?_
      refine GM_iload_n (pc := 21) 1 rfl (daX1_leastStart_0 11 rfl) rfl ?_
      obtain ⟨⟨r6, μ6⟩, hf6, h⟩ := Option.bind_eq_some_iff.mp h
      dsimp only at h
      refine GM_callV0 (pc := 22) [(0, v1)] (tX1_reach l hf6) cwX1_reach 1 (Nat.le_of_ble_eq_true rfl) rfl kv_X1_reach ke_X1_reach km_X1_136 hc1 ⟨Nat.le_of_ble_eq_true rfl, Nat.le_of_ble_eq_true rfl⟩ (Nat.le_of_ble_eq_true rfl) (Nat.le_of_ble_eq_true rfl) (daX1_leastStart_0 12 rfl) ?_
      refine GM_aload_n (pc := 25) 0 rfl (daX1_leastStart_0 13 rfl) rfl ?_
      refine GM_getf (pc := 26) 1 1 3 1 kf_X1_21 (Nat.le_of_ble_eq_true rfl) (Nat.le_of_ble_eq_true rfl) rfl (daX1_leastStart_0 14 rfl) hc1 rfl ?_
      obtain ⟨hc7, h⟩ := chk_inv h
      refine GM_getf (pc := 29) 6 0 0 0 kf_X1_91 (Nat.le_of_ble_eq_true rfl) (Nat.le_of_ble_eq_true rfl) rfl (daX1_leastStart_0 15 rfl) hc7 rfl ?_
      refine GM_icmp_ne (pc := 32) 37 (daX1_leastStart_0 16 rfl) rfl (fun c8 => ?_) (fun c8 => ?_)
      · skip
        rw [if_neg c8] at h
        refine GM_iinc (L' := [(1, (0, w32 (v1 + 1))), (0, (3, v0))]) (pc := 37) 1 rfl (daX1_leastStart_0 19 rfl) (Nat.le_of_ble_eq_true rfl) rfl ?_
        refine GM_goto (pc := 40) 2 (daX1_leastStart_0 20 rfl) rfl ?_
        refine GM_pick [1, 0] rfl ?_
        cases h
        exact hK
      · skip
        rw [if_pos c8] at h
        refine GM_pick [1] rfl ?_
        cases h
        exact hK
set_option maxRecDepth 20000 in
theorem gX1_leastStart_0 (l : Launch) {F : FI} {v0 : Int} {μ : Mm} {t : (Int × Mm)} (h : fX1_leastStart v0 μ = some t) (hK : F.1 = [(0, t.1)] ∧ F.2.1 = t.2) : GM l mX1_leastStart F 0 0 0 [(0, (3, v0))] [] μ := by
  unfold fX1_leastStart at h
  refine GM_iconst (pc := 0) 0 (daX1_leastStart_0 0 rfl) rfl (R32_b rfl) ?_
  refine GM_istore_n (L' := [(1, (0, 0)), (0, (3, v0))]) (pc := 1) (daX1_leastStart_0 1 rfl) rfl (Nat.le_of_ble_eq_true rfl) rfl ?_
  refine GM_pick [1, 0] rfl ?_
  obtain ⟨x9, hqx9, h⟩ := Option.bind_eq_some_iff.mp h
  refine lop_ind (zX1_leastStart_2 l F v0 0 0) (qX1_leastStart_2 l F v0 0 0) FU _ x9 hqx9 ?_
  rcases x9 with μ_10 | ⟨v1_11, μ_11⟩
  · dsimp only at h
    show GM l mX1_leastStart F 0 0 43 [] [] μ_10
    refine GM_iconst (pc := 43) (-1) (daX1_leastStart_0 21 rfl) rfl (R32_b rfl) ?_
    cases h
    exact GM_iret (pc := 44) (daX1_leastStart_0 22 rfl) rfl hK
  · dsimp only at h
    show GM l mX1_leastStart F 0 0 35 [(1, (0, v1_11))] [] μ_11
    refine GM_iload_n (pc := 35) 0 rfl (daX1_leastStart_0 17 rfl) rfl ?_
    cases h
    exact GM_iret (pc := 36) (daX1_leastStart_0 18 rfl) rfl hK
theorem tX1_leastStart (l : Launch) {v0 : Int} {μ : Mm} {t : (Int × Mm)} (h : fX1_leastStart v0 μ = some t) : Ct l yX1_leastStart mX1_leastStart [(3, v0)] μ ([(0, t.1)], t.2, 0, 0) :=
  Ct_of (by decide +kernel) rfl rfl (Nat.le_of_ble_eq_true rfl) (fun _ _ _ => trivial) (gX1_leastStart_0 l h ⟨rfl, rfl⟩)
def mX1_greatestReach : MI := (RX1, cX1_greatestReach, 3, (some .int), "greatestReach", 5, 120, fun _ _ _ => True)
theorem cwX1_greatestReach : CWd yX1_greatestReach mX1_greatestReach 0 := ⟨ki_X1, kk_X1_greatestReach, ⟨by decide, by decide⟩, rfl⟩
def dtX1_greatestReach_0 : List (Nat × Instr × Nat) := [(0, .iconst 0, 1), (1, .istore_n 1, 1), (2, .iconst 0, 1), (3, .istore_n 2, 1), (4, .iload_n 2, 1), (5, .aload_n 0, 1), (6, .getfield 28, 3), (9, .getfield 94, 3), (12, .if_icmp .ge 37, 3), (15, .iload_n 1, 1), (16, .aload_n 0, 1), (17, .getfield 21, 3), (20, .getfield 91, 3), (23, .if_icmp .ge 26, 3), (26, .aload_n 0, 1), (27, .invokevirtual 98, 3), (30, .ifCond .eq 19, 3), (33, .iload_n 1, 1), (34, .aload_n 0, 1), (35, .iload_n 2, 1), (36, .invokevirtual 136, 3), (39, .invokestatic 131, 3), (42, .istore_n 1, 1), (43, .iinc 2 1, 3), (46, .goto (-42), 3), (49, .iload_n 1, 1), (50, .ireturn, 1)]
theorem ddX1_greatestReach_0 : (dtX1_greatestReach_0.all fun e => decide (decode mX1_greatestReach.2.1 e.1 = .ok (e.2.1, e.2.2))) = true := by decide +kernel
theorem daX1_greatestReach_0 (j : Nat) {pc n : Nat} {i : Instr} (h : dtX1_greatestReach_0[j]? = some (pc, i, n)) : decode mX1_greatestReach.2.1 pc = .ok (i, n) := dec_of (c := mX1_greatestReach.2.1) ddX1_greatestReach_0 h
def zX1_greatestReach_4 (l : Launch) (F : FI) (v0 : Int) (k n : Nat) : (Int × Int × Mm) ⊕ (Int × Mm) → Prop
  | .inl (v1, v2, μ) => GM l mX1_greatestReach F k n 4 [(0, (3, v0)), (1, (0, v1)), (2, (0, v2))] [] μ
  | .inr (v1, μ) => GM l mX1_greatestReach F k n 49 [(1, (0, v1))] [] μ
def sX1_greatestReach_4 (v0 : Int) : (Int × Int × Mm) → Option ((Int × Int × Mm) ⊕ (Int × Mm)) := fun (v1, v2, μ) =>
  chk (KD v0 = 1) (
  chk (KD (μ v0 2) = 7) (
  if μ (μ v0 2) 2 ≤ v2 then
    some (.inr (v1, μ))
  else
    chk (KD (μ v0 1) = 6) (
    if μ (μ v0 1) 0 ≤ v1 then
      some (.inr (v1, μ))
    else
      (fX1_canBe v0 μ).bind fun r6 =>
      if r6 = 0 then
        some (.inr (v1, μ))
      else
        (fX1_reach v0 v2 μ).bind fun (r8, μ8) =>
        some (.inl (imax v1 r8, w32 (v2 + 1), μ8)))))
def fX1_greatestReach (v0 : Int) (μ : Mm) : Option (Int × Mm) :=
  (lop (sX1_greatestReach_4 v0) FU (0, 0, μ)).bind fun x9 =>
    match x9 with
    | (v1_10, μ_10) =>
      some (v1_10, μ_10)
set_option maxRecDepth 20000 in
theorem qX1_greatestReach_4 (l : Launch) (F : FI) (v0 : Int) (k n : Nat) : ∀ (q : (Int × Int × Mm)) (t : ((Int × Int × Mm) ⊕ (Int × Mm))), sX1_greatestReach_4 v0 q = some t → zX1_greatestReach_4 l F v0 k n t → zX1_greatestReach_4 l F v0 k n (.inl q) := by
  intro q t h hK
  obtain ⟨v1, v2, μ⟩ := q
  unfold sX1_greatestReach_4 at h
  try dsimp only at h
  show GM l mX1_greatestReach F k n 4 [(0, (3, v0)), (1, (0, v1)), (2, (0, v2))] [] μ
  refine GM_iload_n (pc := 4) 2 rfl (daX1_greatestReach_0 4 rfl) rfl ?_
  refine GM_aload_n (pc := 5) 0 rfl (daX1_greatestReach_0 5 rfl) rfl ?_
  obtain ⟨hc1, h⟩ := chk_inv h
  refine GM_getf (pc := 6) 1 2 3 2 kf_X1_28 (Nat.le_of_ble_eq_true rfl) (Nat.le_of_ble_eq_true rfl) rfl (daX1_greatestReach_0 6 rfl) hc1 rfl ?_
  obtain ⟨hc2, h⟩ := chk_inv h
  refine GM_getf (pc := 9) 7 2 0 2 kf_X1_94 (Nat.le_of_ble_eq_true rfl) (Nat.le_of_ble_eq_true rfl) rfl (daX1_greatestReach_0 7 rfl) hc2 rfl ?_
  refine GM_icmp_ge (pc := 12) 49 (daX1_greatestReach_0 8 rfl) rfl (fun c3 => ?_) (fun c3 => ?_)
  · skip
    rw [if_pos c3] at h
    refine GM_pick [1] rfl ?_
    cases h
    exact hK
  · skip
    rw [if_neg c3] at h
    refine GM_iload_n (pc := 15) 1 rfl (daX1_greatestReach_0 9 rfl) rfl ?_
    refine GM_aload_n (pc := 16) 0 rfl (daX1_greatestReach_0 10 rfl) rfl ?_
    refine GM_getf (pc := 17) 1 1 3 1 kf_X1_21 (Nat.le_of_ble_eq_true rfl) (Nat.le_of_ble_eq_true rfl) rfl (daX1_greatestReach_0 11 rfl) hc1 rfl ?_
    obtain ⟨hc4, h⟩ := chk_inv h
    refine GM_getf (pc := 20) 6 0 0 0 kf_X1_91 (Nat.le_of_ble_eq_true rfl) (Nat.le_of_ble_eq_true rfl) rfl (daX1_greatestReach_0 12 rfl) hc4 rfl ?_
    refine GM_icmp_ge (pc := 23) 49 (daX1_greatestReach_0 13 rfl) rfl (fun c5 => ?_) (fun c5 => ?_)
    · skip
      rw [if_pos c5] at h
      refine GM_pick [1] rfl ?_
      cases h
      exact hK
    · skip
      rw [if_neg c5] at h
      refine GM_aload_n (pc := 26) 0 rfl (daX1_greatestReach_0 14 rfl) rfl ?_
      obtain ⟨r6, hf6, h⟩ := Option.bind_eq_some_iff.mp h
      refine GM_callV0 (pc := 27) [] (tX1_canBe l hf6) cwX1_canBe 1 (Nat.le_of_ble_eq_true rfl) rfl kv_X1_canBe ke_X1_canBe km_X1_98 hc1 ⟨Nat.le_of_ble_eq_true rfl, Nat.le_of_ble_eq_true rfl⟩ (Nat.le_of_ble_eq_true rfl) (Nat.le_of_ble_eq_true rfl) (daX1_greatestReach_0 15 rfl) ?_
      refine GM_if_eq (pc := 30) 49 (daX1_greatestReach_0 16 rfl) rfl (fun c7 => ?_) (fun c7 => ?_)
      · skip
        rw [if_pos c7] at h
        refine GM_pick [1] rfl ?_
        cases h
        exact hK
      · skip
        rw [if_neg c7] at h
        refine GM_iload_n (pc := 33) 1 rfl (daX1_greatestReach_0 17 rfl) rfl ?_
        refine GM_aload_n (pc := 34) 0 rfl (daX1_greatestReach_0 18 rfl) rfl ?_
        refine GM_iload_n (pc := 35) 2 rfl (daX1_greatestReach_0 19 rfl) rfl ?_
        obtain ⟨⟨r8, μ8⟩, hf8, h⟩ := Option.bind_eq_some_iff.mp h
        dsimp only at h
        refine GM_callV0 (pc := 36) [(0, v2)] (tX1_reach l hf8) cwX1_reach 1 (Nat.le_of_ble_eq_true rfl) rfl kv_X1_reach ke_X1_reach km_X1_136 hc1 ⟨Nat.le_of_ble_eq_true rfl, Nat.le_of_ble_eq_true rfl⟩ (Nat.le_of_ble_eq_true rfl) (Nat.le_of_ble_eq_true rfl) (daX1_greatestReach_0 20 rfl) ?_
        refine GM_callS0 (pc := 39) [(0, v1), (0, r8)] (tJ9_max_7cf53 l (fJ9_max_eq v1 r8)) cwJ9_max_7cf53 ks_J9_max_7cf53 km_X1_131 ⟨Nat.le_of_ble_eq_true rfl, Nat.le_of_ble_eq_true rfl⟩ (Nat.le_of_ble_eq_true rfl) (Nat.le_of_ble_eq_true rfl) (daX1_greatestReach_0 21 rfl) ?_
        refine GM_istore_n (L' := [(1, (0, imax v1 r8)), (0, (3, v0)), (2, (0, v2))]) (pc := 42) (daX1_greatestReach_0 22 rfl) rfl (Nat.le_of_ble_eq_true rfl) rfl ?_
        refine GM_iinc (L' := [(2, (0, w32 (v2 + 1))), (1, (0, imax v1 r8)), (0, (3, v0))]) (pc := 43) 2 rfl (daX1_greatestReach_0 23 rfl) (Nat.le_of_ble_eq_true rfl) rfl ?_
        refine GM_goto (pc := 46) 4 (daX1_greatestReach_0 24 rfl) rfl ?_
        refine GM_pick [2, 1, 0] rfl ?_
        cases h
        exact hK
set_option maxRecDepth 20000 in
theorem gX1_greatestReach_0 (l : Launch) {F : FI} {v0 : Int} {μ : Mm} {t : (Int × Mm)} (h : fX1_greatestReach v0 μ = some t) (hK : F.1 = [(0, t.1)] ∧ F.2.1 = t.2) : GM l mX1_greatestReach F 0 0 0 [(0, (3, v0))] [] μ := by
  unfold fX1_greatestReach at h
  refine GM_iconst (pc := 0) 0 (daX1_greatestReach_0 0 rfl) rfl (R32_b rfl) ?_
  refine GM_istore_n (L' := [(1, (0, 0)), (0, (3, v0))]) (pc := 1) (daX1_greatestReach_0 1 rfl) rfl (Nat.le_of_ble_eq_true rfl) rfl ?_
  refine GM_iconst (pc := 2) 0 (daX1_greatestReach_0 2 rfl) rfl (R32_b rfl) ?_
  refine GM_istore_n (L' := [(2, (0, 0)), (1, (0, 0)), (0, (3, v0))]) (pc := 3) (daX1_greatestReach_0 3 rfl) rfl (Nat.le_of_ble_eq_true rfl) rfl ?_
  refine GM_pick [2, 1, 0] rfl ?_
  obtain ⟨x9, hqx9, h⟩ := Option.bind_eq_some_iff.mp h
  refine lop_ind (zX1_greatestReach_4 l F v0 0 0) (qX1_greatestReach_4 l F v0 0 0) FU _ x9 hqx9 ?_
  obtain ⟨v1_10, μ_10⟩ := x9
  dsimp only at h
  show GM l mX1_greatestReach F 0 0 49 [(1, (0, v1_10))] [] μ_10
  refine GM_iload_n (pc := 49) 0 rfl (daX1_greatestReach_0 25 rfl) rfl ?_
  cases h
  exact GM_iret (pc := 50) (daX1_greatestReach_0 26 rfl) rfl hK
theorem tX1_greatestReach (l : Launch) {v0 : Int} {μ : Mm} {t : (Int × Mm)} (h : fX1_greatestReach v0 μ = some t) : Ct l yX1_greatestReach mX1_greatestReach [(3, v0)] μ ([(0, t.1)], t.2, 0, 0) :=
  Ct_of (by decide +kernel) rfl rfl (Nat.le_of_ble_eq_true rfl) (fun _ _ _ => trivial) (gX1_greatestReach_0 l h ⟨rfl, rfl⟩)
def mX1_markTops : MI := (RX1, cX1_markTops, 5, none, "markTops", 5, 120, fun _ _ _ => True)
theorem cwX1_markTops : CWd yX1_markTops mX1_markTops 2 := ⟨ki_X1, kk_X1_markTops, ⟨by decide, by decide⟩, rfl⟩
def dtX1_markTops_0 : List (Nat × Instr × Nat) := [(0, .iconst 0, 1), (1, .istore_n 3, 1), (2, .iload_n 3, 1), (3, .aload_n 0, 1), (4, .getfield 28, 3), (7, .getfield 94, 3), (10, .if_icmp .ge 63, 3), (13, .aload_n 0, 1), (14, .invokevirtual 98, 3), (17, .ifCond .eq 56, 3), (20, .aload_n 0, 1), (21, .iload_n 3, 1), (22, .invokevirtual 136, 3), (25, .aload_n 0, 1), (26, .getfield 21, 3), (29, .getfield 91, 3), (32, .if_icmp .ne 35, 3), (35, .aload_n 0, 1), (36, .getfield 28, 3), (39, .aload_n 0, 1), (40, .iload_n 3, 1), (41, .iload_n 1, 1), (42, .invokevirtual 111, 3), (45, .invokevirtual 139, 3), (48, .istore 4, 2), (50, .iload 4, 2), (52, .ifCond .lt 15, 3), (55, .iload 4, 2), (57, .aload_n 2, 1), (58, .arraylength, 1), (59, .if_icmp .ge 8, 3), (62, .aload_n 2, 1), (63, .iload 4, 2), (65, .iconst 1, 1), (66, .bastore, 1), (67, .iinc 3 1, 3), (70, .goto (-68), 3), (73, .return_, 1)]
theorem ddX1_markTops_0 : (dtX1_markTops_0.all fun e => decide (decode mX1_markTops.2.1 e.1 = .ok (e.2.1, e.2.2))) = true := by decide +kernel
theorem daX1_markTops_0 (j : Nat) {pc n : Nat} {i : Instr} (h : dtX1_markTops_0[j]? = some (pc, i, n)) : decode mX1_markTops.2.1 pc = .ok (i, n) := dec_of (c := mX1_markTops.2.1) ddX1_markTops_0 h
def zX1_markTops_2 (l : Launch) (F : FI) (v0 v1 v2 : Int) (k n : Nat) : (Int × Mm) ⊕ Mm → Prop
  | .inl (v3, μ) => GM l mX1_markTops F k n 2 [(0, (3, v0)), (1, (0, v1)), (2, (3, v2)), (3, (0, v3))] [] μ
  | .inr μ => GM l mX1_markTops F k n 73 [] [] μ
def sX1_markTops_2 (v0 v1 v2 : Int) : (Int × Mm) → Option ((Int × Mm) ⊕ Mm) := fun (v3, μ) =>
  chk (KD v0 = 1) (
  chk (KD (μ v0 2) = 7) (
  if μ (μ v0 2) 2 ≤ v3 then
    some (.inr μ)
  else
    (fX1_canBe v0 μ).bind fun r4 =>
    if r4 = 0 then
      some (.inr μ)
    else
      (fX1_reach v0 v3 μ).bind fun (r6, μ6) =>
      chk (KD (μ6 v0 1) = 6) (
      if r6 = μ6 (μ6 v0 1) 0 then
        (fX1_rayFor v0 v3 v1 μ6).bind fun r9 =>
        chk (KD (μ6 v0 2) = 7) (
        (fX7_topOfRay (μ6 v0 2) r9 μ6).bind fun r11 =>
        if r11 < 0 then
          some (.inl (w32 (v3 + 1), μ6))
        else
          chk (KD v2 = 14 ∧ 0 ≤ LN v2 ∧ LN v2 < 2147483648) (
          if LN v2 ≤ r11 then
            some (.inl (w32 (v3 + 1), μ6))
          else
            chk (0 ≤ r11 ∧ r11 < LN v2) (
            lm (mst μ6 v2 r11 1) fun μ16 =>
            some (.inl (w32 (v3 + 1), μ16)))))
      else
        some (.inl (w32 (v3 + 1), μ6)))))
def fX1_markTops (v0 v1 v2 : Int) (μ : Mm) : Option Mm :=
  (lop (sX1_markTops_2 v0 v1 v2) FU (0, μ)).bind fun μ_18 =>
    some μ_18
set_option maxRecDepth 20000 in
theorem qX1_markTops_2 (l : Launch) (F : FI) (v0 v1 v2 : Int) (k n : Nat) : ∀ (q : (Int × Mm)) (t : ((Int × Mm) ⊕ Mm)), sX1_markTops_2 v0 v1 v2 q = some t → zX1_markTops_2 l F v0 v1 v2 k n t → zX1_markTops_2 l F v0 v1 v2 k n (.inl q) := by
  intro q t h hK
  obtain ⟨v3, μ⟩ := q
  unfold sX1_markTops_2 at h
  try dsimp only at h
  show GM l mX1_markTops F k n 2 [(0, (3, v0)), (1, (0, v1)), (2, (3, v2)), (3, (0, v3))] [] μ
  refine GM_iload_n (pc := 2) 3 rfl (daX1_markTops_0 2 rfl) rfl ?_
  refine GM_aload_n (pc := 3) 0 rfl (daX1_markTops_0 3 rfl) rfl ?_
  obtain ⟨hc1, h⟩ := chk_inv h
  refine GM_getf (pc := 4) 1 2 3 2 kf_X1_28 (Nat.le_of_ble_eq_true rfl) (Nat.le_of_ble_eq_true rfl) rfl (daX1_markTops_0 4 rfl) hc1 rfl ?_
  obtain ⟨hc2, h⟩ := chk_inv h
  refine GM_getf (pc := 7) 7 2 0 2 kf_X1_94 (Nat.le_of_ble_eq_true rfl) (Nat.le_of_ble_eq_true rfl) rfl (daX1_markTops_0 5 rfl) hc2 rfl ?_
  refine GM_icmp_ge (pc := 10) 73 (daX1_markTops_0 6 rfl) rfl (fun c3 => ?_) (fun c3 => ?_)
  · skip
    rw [if_pos c3] at h
    refine GM_pick [] rfl ?_
    cases h
    exact hK
  · skip
    rw [if_neg c3] at h
    refine GM_aload_n (pc := 13) 0 rfl (daX1_markTops_0 7 rfl) rfl ?_
    obtain ⟨r4, hf4, h⟩ := Option.bind_eq_some_iff.mp h
    refine GM_callV0 (pc := 14) [] (tX1_canBe l hf4) cwX1_canBe 1 (Nat.le_of_ble_eq_true rfl) rfl kv_X1_canBe ke_X1_canBe km_X1_98 hc1 ⟨Nat.le_of_ble_eq_true rfl, Nat.le_of_ble_eq_true rfl⟩ (Nat.le_of_ble_eq_true rfl) (Nat.le_of_ble_eq_true rfl) (daX1_markTops_0 8 rfl) ?_
    refine GM_if_eq (pc := 17) 73 (daX1_markTops_0 9 rfl) rfl (fun c5 => ?_) (fun c5 => ?_)
    · skip
      rw [if_pos c5] at h
      refine GM_pick [] rfl ?_
      cases h
      exact hK
    · skip
      rw [if_neg c5] at h
      refine GM_aload_n (pc := 20) 0 rfl (daX1_markTops_0 10 rfl) rfl ?_
      refine GM_iload_n (pc := 21) 3 rfl (daX1_markTops_0 11 rfl) rfl ?_
      obtain ⟨⟨r6, μ6⟩, hf6, h⟩ := Option.bind_eq_some_iff.mp h
      dsimp only at h
      refine GM_callV0 (pc := 22) [(0, v3)] (tX1_reach l hf6) cwX1_reach 1 (Nat.le_of_ble_eq_true rfl) rfl kv_X1_reach ke_X1_reach km_X1_136 hc1 ⟨Nat.le_of_ble_eq_true rfl, Nat.le_of_ble_eq_true rfl⟩ (Nat.le_of_ble_eq_true rfl) (Nat.le_of_ble_eq_true rfl) (daX1_markTops_0 12 rfl) ?_
      refine GM_aload_n (pc := 25) 0 rfl (daX1_markTops_0 13 rfl) rfl ?_
      refine GM_getf (pc := 26) 1 1 3 1 kf_X1_21 (Nat.le_of_ble_eq_true rfl) (Nat.le_of_ble_eq_true rfl) rfl (daX1_markTops_0 14 rfl) hc1 rfl ?_
      obtain ⟨hc7, h⟩ := chk_inv h
      refine GM_getf (pc := 29) 6 0 0 0 kf_X1_91 (Nat.le_of_ble_eq_true rfl) (Nat.le_of_ble_eq_true rfl) rfl (daX1_markTops_0 15 rfl) hc7 rfl ?_
      refine GM_icmp_ne (pc := 32) 67 (daX1_markTops_0 16 rfl) rfl (fun c8 => ?_) (fun c8 => ?_)
      · skip
        rw [if_neg c8] at h
        refine GM_iinc (L' := [(3, (0, w32 (v3 + 1))), (0, (3, v0)), (1, (0, v1)), (2, (3, v2))]) (pc := 67) 3 rfl (daX1_markTops_0 35 rfl) (Nat.le_of_ble_eq_true rfl) rfl ?_
        refine GM_goto (pc := 70) 2 (daX1_markTops_0 36 rfl) rfl ?_
        refine GM_pick [1, 2, 3, 0] rfl ?_
        cases h
        exact hK
      · skip
        rw [if_pos c8] at h
        refine GM_aload_n (pc := 35) 0 rfl (daX1_markTops_0 17 rfl) rfl ?_
        refine GM_getf (pc := 36) 1 2 3 2 kf_X1_28 (Nat.le_of_ble_eq_true rfl) (Nat.le_of_ble_eq_true rfl) rfl (daX1_markTops_0 18 rfl) hc1 rfl ?_
        refine GM_aload_n (pc := 39) 0 rfl (daX1_markTops_0 19 rfl) rfl ?_
        refine GM_iload_n (pc := 40) 3 rfl (daX1_markTops_0 20 rfl) rfl ?_
        refine GM_iload_n (pc := 41) 1 rfl (daX1_markTops_0 21 rfl) rfl ?_
        obtain ⟨r9, hf9, h⟩ := Option.bind_eq_some_iff.mp h
        refine GM_callV0 (pc := 42) [(0, v3), (0, v1)] (tX1_rayFor l hf9) cwX1_rayFor 1 (Nat.le_of_ble_eq_true rfl) rfl kv_X1_rayFor ke_X1_rayFor km_X1_111 hc1 ⟨Nat.le_of_ble_eq_true rfl, Nat.le_of_ble_eq_true rfl⟩ (Nat.le_of_ble_eq_true rfl) (Nat.le_of_ble_eq_true rfl) (daX1_markTops_0 22 rfl) ?_
        obtain ⟨hc10, h⟩ := chk_inv h
        obtain ⟨r11, hf11, h⟩ := Option.bind_eq_some_iff.mp h
        refine GM_callV0 (pc := 45) [(0, r9)] (tX7_topOfRay l hf11) cwX7_topOfRay 7 (Nat.le_of_ble_eq_true rfl) rfl kv_X7_topOfRay ke_X7_topOfRay km_X1_139 hc10 ⟨Nat.le_of_ble_eq_true rfl, Nat.le_of_ble_eq_true rfl⟩ (Nat.le_of_ble_eq_true rfl) (Nat.le_of_ble_eq_true rfl) (daX1_markTops_0 23 rfl) ?_
        refine GM_istore (L' := [(4, (0, r11)), (0, (3, v0)), (1, (0, v1)), (2, (3, v2)), (3, (0, v3))]) (pc := 48) (daX1_markTops_0 24 rfl) (Nat.le_of_ble_eq_true rfl) rfl ?_
        refine GM_iload (pc := 50) 0 rfl (daX1_markTops_0 25 rfl) ?_
        refine GM_if_lt (pc := 52) 67 (daX1_markTops_0 26 rfl) rfl (fun c12 => ?_) (fun c12 => ?_)
        · skip
          rw [if_pos c12] at h
          refine GM_iinc (L' := [(3, (0, w32 (v3 + 1))), (4, (0, r11)), (0, (3, v0)), (1, (0, v1)), (2, (3, v2))]) (pc := 67) 4 rfl (daX1_markTops_0 35 rfl) (Nat.le_of_ble_eq_true rfl) rfl ?_
          refine GM_goto (pc := 70) 2 (daX1_markTops_0 36 rfl) rfl ?_
          refine GM_pick [2, 3, 4, 0] rfl ?_
          cases h
          exact hK
        · skip
          rw [if_neg c12] at h
          refine GM_iload (pc := 55) 0 rfl (daX1_markTops_0 27 rfl) ?_
          refine GM_aload_n (pc := 57) 3 rfl (daX1_markTops_0 28 rfl) rfl ?_
          obtain ⟨hc13, h⟩ := chk_inv h
          refine GM_zlen (pc := 58) (daX1_markTops_0 29 rfl) hc13.1 hc13.2.1 hc13.2.2 ?_
          refine GM_icmp_ge (pc := 59) 67 (daX1_markTops_0 30 rfl) rfl (fun c14 => ?_) (fun c14 => ?_)
          · skip
            rw [if_pos c14] at h
            refine GM_iinc (L' := [(3, (0, w32 (v3 + 1))), (4, (0, r11)), (0, (3, v0)), (1, (0, v1)), (2, (3, v2))]) (pc := 67) 4 rfl (daX1_markTops_0 35 rfl) (Nat.le_of_ble_eq_true rfl) rfl ?_
            refine GM_goto (pc := 70) 2 (daX1_markTops_0 36 rfl) rfl ?_
            refine GM_pick [2, 3, 4, 0] rfl ?_
            cases h
            exact hK
          · skip
            rw [if_neg c14] at h
            refine GM_aload_n (pc := 62) 3 rfl (daX1_markTops_0 31 rfl) rfl ?_
            refine GM_iload (pc := 63) 0 rfl (daX1_markTops_0 32 rfl) ?_
            refine GM_iconst (pc := 65) 1 (daX1_markTops_0 33 rfl) rfl (R32_b rfl) ?_
            obtain ⟨hc15, h⟩ := chk_inv h
            obtain ⟨μ16, hμ16, h⟩ := lm_inv h
            refine GM_zast (pc := 66) (daX1_markTops_0 34 rfl) hc13.1 hc15.1 hc15.2 (Or.inr rfl) ?_
            refine GM_mem hμ16 ?_
            refine GM_iinc (L' := [(3, (0, w32 (v3 + 1))), (4, (0, r11)), (0, (3, v0)), (1, (0, v1)), (2, (3, v2))]) (pc := 67) 4 rfl (daX1_markTops_0 35 rfl) (Nat.le_of_ble_eq_true rfl) rfl ?_
            refine GM_goto (pc := 70) 2 (daX1_markTops_0 36 rfl) rfl ?_
            refine GM_pick [2, 3, 4, 0] rfl ?_
            cases h
            exact hK
set_option maxRecDepth 20000 in
theorem gX1_markTops_0 (l : Launch) {F : FI} {v0 v1 v2 : Int} {μ : Mm} {t : Mm} (h : fX1_markTops v0 v1 v2 μ = some t) (hK : F.1 = [] ∧ F.2.1 = t) : GM l mX1_markTops F 0 0 0 [(0, (3, v0)), (1, (0, v1)), (2, (3, v2))] [] μ := by
  unfold fX1_markTops at h
  refine GM_iconst (pc := 0) 0 (daX1_markTops_0 0 rfl) rfl (R32_b rfl) ?_
  refine GM_istore_n (L' := [(3, (0, 0)), (0, (3, v0)), (1, (0, v1)), (2, (3, v2))]) (pc := 1) (daX1_markTops_0 1 rfl) rfl (Nat.le_of_ble_eq_true rfl) rfl ?_
  refine GM_pick [1, 2, 3, 0] rfl ?_
  obtain ⟨x17, hqx17, h⟩ := Option.bind_eq_some_iff.mp h
  refine lop_ind (zX1_markTops_2 l F v0 v1 v2 0 0) (qX1_markTops_2 l F v0 v1 v2 0 0) FU _ x17 hqx17 ?_
  obtain ⟨μ_18, hqq⟩ : ∃ z, z = x17 := ⟨x17, rfl⟩
  subst hqq
  show GM l mX1_markTops F 0 0 73 [] [] μ_18
  cases h
  exact GM_vret (pc := 73) (daX1_markTops_0 37 rfl) rfl hK
theorem tX1_markTops (l : Launch) {v0 v1 v2 : Int} {μ : Mm} {t : Mm} (h : fX1_markTops v0 v1 v2 μ = some t) : Ct l yX1_markTops mX1_markTops [(3, v0), (0, v1), (3, v2)] μ ([], t, 0, 0) :=
  Ct_of (by decide +kernel) rfl rfl (Nat.le_of_ble_eq_true rfl) (fun _ _ _ => trivial) (gX1_markTops_0 l h ⟨rfl, rfl⟩)
def mX1_findClashes : MI := (RX1, cX1_findClashes, 4, (some .int), "findClashes", 3, 75, fun _ _ _ => True)
theorem cwX1_findClashes : CWd yX1_findClashes mX1_findClashes 0 := ⟨ki_X1, kk_X1_findClashes, ⟨by decide, by decide⟩, rfl⟩
def dtX1_findClashes_0 : List (Nat × Instr × Nat) := [(0, .iconst 0, 1), (1, .istore_n 1, 1), (2, .iconst 0, 1), (3, .istore_n 2, 1), (4, .iload_n 2, 1), (5, .aload_n 0, 1), (6, .getfield 21, 3), (9, .getfield 91, 3), (12, .if_icmp .ge 82, 3), (15, .iload_n 2, 1), (16, .bipush 8, 2), (18, .if_icmp .ge 76, 3), (21, .aload_n 0, 1), (22, .getfield 39, 3), (25, .iload_n 2, 1), (26, .iconst 0, 1), (27, .iastore, 1), (28, .iconst 0, 1), (29, .istore_n 3, 1), (30, .iload_n 3, 1), (31, .iload_n 2, 1), (32, .if_icmp .ge 42, 3), (35, .aload_n 0, 1), (36, .iload_n 2, 1), (37, .iload_n 3, 1), (38, .invokevirtual 121, 3), (41, .ifCond .ne 27, 3), (44, .aload_n 0, 1), (45, .getfield 39, 3), (48, .iload_n 2, 1), (49, .dup2, 1), (50, .iaload, 1), (51, .iconst 1, 1), (52, .iload_n 3, 1), (53, .ishl, 1), (54, .ior, 1), (55, .iastore, 1), (56, .aload_n 0, 1), (57, .getfield 39, 3), (60, .iload_n 3, 1), (61, .dup2, 1), (62, .iaload, 1), (63, .iconst 1, 1), (64, .iload_n 2, 1), (65, .ishl, 1), (66, .ior, 1), (67, .iastore, 1), (68, .iinc 3 1, 3), (71, .goto (-41), 3), (74, .aload_n 0, 1), (75, .iload_n 2, 1), (76, .invokevirtual 125, 3), (79, .ifCond .eq 9, 3), (82, .iload_n 1, 1), (83, .iconst 1, 1), (84, .iload_n 2, 1), (85, .ishl, 1), (86, .ior, 1), (87, .istore_n 1, 1), (88, .iinc 2 1, 3), (91, .goto (-87), 3), (94, .iload_n 1, 1), (95, .ireturn, 1)]
theorem ddX1_findClashes_0 : (dtX1_findClashes_0.all fun e => decide (decode mX1_findClashes.2.1 e.1 = .ok (e.2.1, e.2.2))) = true := by decide +kernel
theorem daX1_findClashes_0 (j : Nat) {pc n : Nat} {i : Instr} (h : dtX1_findClashes_0[j]? = some (pc, i, n)) : decode mX1_findClashes.2.1 pc = .ok (i, n) := dec_of (c := mX1_findClashes.2.1) ddX1_findClashes_0 h
def zX1_findClashes_30 (l : Launch) (F : FI) (v0 v1 v2 : Int) (k n : Nat) : (Int × Mm) ⊕ Mm → Prop
  | .inl (v3, μ) => GM l mX1_findClashes F k n 30 [(0, (3, v0)), (1, (0, v1)), (2, (0, v2)), (3, (0, v3))] [] μ
  | .inr μ => GM l mX1_findClashes F k n 74 [(0, (3, v0)), (1, (0, v1)), (2, (0, v2))] [] μ
def sX1_findClashes_30 (v0 v1 v2 : Int) : (Int × Mm) → Option ((Int × Mm) ⊕ Mm) := fun (v3, μ) =>
  if v2 ≤ v3 then
    some (.inr μ)
  else
    chk (KD v0 = 1) (
    (fX1_agree v0 v2 v3 μ).bind fun r3 =>
    if r3 = 0 then
      chk (KD (μ v0 10) = 12 ∧ 0 ≤ v2 ∧ v2 < LN (μ v0 10)) (
      lm (mst μ (μ v0 10) v2 (ior (μ (μ v0 10) v2) (ishl 1 v3))) fun μ6 =>
      chk (KD (μ6 v0 10) = 12 ∧ 0 ≤ v3 ∧ v3 < LN (μ6 v0 10)) (
      lm (mst μ6 (μ6 v0 10) v3 (ior (μ6 (μ6 v0 10) v3) (ishl 1 v2))) fun μ8 =>
      some (.inl (w32 (v3 + 1), μ8))))
    else
      some (.inl (w32 (v3 + 1), μ)))
def zX1_findClashes_4 (l : Launch) (F : FI) (v0 : Int) (k n : Nat) : (Int × Int × Mm) ⊕ (Int × Mm) → Prop
  | .inl (v1, v2, μ) => GM l mX1_findClashes F k n 4 [(0, (3, v0)), (1, (0, v1)), (2, (0, v2))] [] μ
  | .inr (v1, μ) => GM l mX1_findClashes F k n 94 [(1, (0, v1))] [] μ
def sX1_findClashes_4 (v0 : Int) : (Int × Int × Mm) → Option ((Int × Int × Mm) ⊕ (Int × Mm)) := fun (v1, v2, μ) =>
  chk (KD v0 = 1) (
  chk (KD (μ v0 1) = 6) (
  if μ (μ v0 1) 0 ≤ v2 then
    some (.inr (v1, μ))
  else
    if 8 ≤ v2 then
      some (.inr (v1, μ))
    else
      chk (KD (μ v0 10) = 12 ∧ 0 ≤ v2 ∧ v2 < LN (μ v0 10)) (
      lm (mst μ (μ v0 10) v2 0) fun μ14 =>
      (lop (sX1_findClashes_30 v0 v1 v2) FU (0, μ14)).bind fun μ_16 =>
        (fX1_lacksLake v0 v2 μ_16).bind fun r17 =>
        if r17 = 0 then
          some (.inl (v1, w32 (v2 + 1), μ_16))
        else
          some (.inl (ior v1 (ishl 1 v2), w32 (v2 + 1), μ_16)))))
def fX1_findClashes (v0 : Int) (μ : Mm) : Option (Int × Mm) :=
  (lop (sX1_findClashes_4 v0) FU (0, 0, μ)).bind fun x19 =>
    match x19 with
    | (v1_20, μ_20) =>
      some (v1_20, μ_20)
set_option maxRecDepth 20000 in
theorem qX1_findClashes_30 (l : Launch) (F : FI) (v0 v1 v2 : Int) (k n : Nat) : ∀ (q : (Int × Mm)) (t : ((Int × Mm) ⊕ Mm)), sX1_findClashes_30 v0 v1 v2 q = some t → zX1_findClashes_30 l F v0 v1 v2 k n t → zX1_findClashes_30 l F v0 v1 v2 k n (.inl q) := by
  intro q t h hK
  obtain ⟨v3, μ⟩ := q
  unfold sX1_findClashes_30 at h
  try dsimp only at h
  show GM l mX1_findClashes F k n 30 [(0, (3, v0)), (1, (0, v1)), (2, (0, v2)), (3, (0, v3))] [] μ
  refine GM_iload_n (pc := 30) 3 rfl (daX1_findClashes_0 19 rfl) rfl ?_
  refine GM_iload_n (pc := 31) 2 rfl (daX1_findClashes_0 20 rfl) rfl ?_
  refine GM_icmp_ge (pc := 32) 74 (daX1_findClashes_0 21 rfl) rfl (fun c1 => ?_) (fun c1 => ?_)
  · skip
    rw [if_pos c1] at h
    refine GM_pick [0, 1, 2] rfl ?_
    cases h
    exact hK
  · skip
    rw [if_neg c1] at h
    refine GM_aload_n (pc := 35) 0 rfl (daX1_findClashes_0 22 rfl) rfl ?_
    refine GM_iload_n (pc := 36) 2 rfl (daX1_findClashes_0 23 rfl) rfl ?_
    refine GM_iload_n (pc := 37) 3 rfl (daX1_findClashes_0 24 rfl) rfl ?_
    obtain ⟨hc2, h⟩ := chk_inv h
    obtain ⟨r3, hf3, h⟩ := Option.bind_eq_some_iff.mp h
    refine GM_callV0 (pc := 38) [(0, v2), (0, v3)] (tX1_agree l hf3) cwX1_agree 1 (Nat.le_of_ble_eq_true rfl) rfl kv_X1_agree ke_X1_agree km_X1_121 hc2 ⟨Nat.le_of_ble_eq_true rfl, Nat.le_of_ble_eq_true rfl⟩ (Nat.le_of_ble_eq_true rfl) (Nat.le_of_ble_eq_true rfl) (daX1_findClashes_0 25 rfl) ?_
    refine GM_if_ne (pc := 41) 68 (daX1_findClashes_0 26 rfl) rfl (fun c4 => ?_) (fun c4 => ?_)
    · skip
      rw [if_neg c4] at h
      refine GM_iinc (L' := [(3, (0, w32 (v3 + 1))), (0, (3, v0)), (1, (0, v1)), (2, (0, v2))]) (pc := 68) 3 rfl (daX1_findClashes_0 47 rfl) (Nat.le_of_ble_eq_true rfl) rfl ?_
      refine GM_goto (pc := 71) 30 (daX1_findClashes_0 48 rfl) rfl ?_
      refine GM_pick [1, 2, 3, 0] rfl ?_
      cases h
      exact hK
    · skip
      rw [if_pos c4] at h
      refine GM_aload_n (pc := 44) 0 rfl (daX1_findClashes_0 27 rfl) rfl ?_
      refine GM_getf (pc := 45) 1 10 3 10 kf_X1_39 (Nat.le_of_ble_eq_true rfl) (Nat.le_of_ble_eq_true rfl) rfl (daX1_findClashes_0 28 rfl) hc2 rfl ?_
      refine GM_iload_n (pc := 48) 2 rfl (daX1_findClashes_0 29 rfl) rfl ?_
      refine GM_dup2 (pc := 49) (daX1_findClashes_0 30 rfl) (Nat.ne_of_beq_eq_false rfl) (Nat.ne_of_beq_eq_false rfl) ?_
      obtain ⟨hc5, h⟩ := chk_inv h
      refine GM_iald (pc := 50) (daX1_findClashes_0 31 rfl) hc5.1 hc5.2.1 hc5.2.2 ?_
      refine GM_iconst (pc := 51) 1 (daX1_findClashes_0 32 rfl) rfl (R32_b rfl) ?_
      refine GM_iload_n (pc := 52) 3 rfl (daX1_findClashes_0 33 rfl) rfl ?_
      refine GM_ishl (pc := 53) (daX1_findClashes_0 34 rfl) ?_
      refine GM_ior (pc := 54) (daX1_findClashes_0 35 rfl) ?_
      obtain ⟨μ6, hμ6, h⟩ := lm_inv h
      refine GM_iast (pc := 55) (daX1_findClashes_0 36 rfl) hc5.1 hc5.2.1 hc5.2.2 ?_
      refine GM_mem hμ6 ?_
      refine GM_aload_n (pc := 56) 0 rfl (daX1_findClashes_0 37 rfl) rfl ?_
      refine GM_getf (pc := 57) 1 10 3 10 kf_X1_39 (Nat.le_of_ble_eq_true rfl) (Nat.le_of_ble_eq_true rfl) rfl (daX1_findClashes_0 38 rfl) hc2 rfl ?_
      refine GM_iload_n (pc := 60) 3 rfl (daX1_findClashes_0 39 rfl) rfl ?_
      refine GM_dup2 (pc := 61) (daX1_findClashes_0 40 rfl) (Nat.ne_of_beq_eq_false rfl) (Nat.ne_of_beq_eq_false rfl) ?_
      obtain ⟨hc7, h⟩ := chk_inv h
      refine GM_iald (pc := 62) (daX1_findClashes_0 41 rfl) hc7.1 hc7.2.1 hc7.2.2 ?_
      refine GM_iconst (pc := 63) 1 (daX1_findClashes_0 42 rfl) rfl (R32_b rfl) ?_
      refine GM_iload_n (pc := 64) 2 rfl (daX1_findClashes_0 43 rfl) rfl ?_
      refine GM_ishl (pc := 65) (daX1_findClashes_0 44 rfl) ?_
      refine GM_ior (pc := 66) (daX1_findClashes_0 45 rfl) ?_
      obtain ⟨μ8, hμ8, h⟩ := lm_inv h
      refine GM_iast (pc := 67) (daX1_findClashes_0 46 rfl) hc7.1 hc7.2.1 hc7.2.2 ?_
      refine GM_mem hμ8 ?_
      refine GM_iinc (L' := [(3, (0, w32 (v3 + 1))), (0, (3, v0)), (1, (0, v1)), (2, (0, v2))]) (pc := 68) 3 rfl (daX1_findClashes_0 47 rfl) (Nat.le_of_ble_eq_true rfl) rfl ?_
      refine GM_goto (pc := 71) 30 (daX1_findClashes_0 48 rfl) rfl ?_
      refine GM_pick [1, 2, 3, 0] rfl ?_
      cases h
      exact hK
set_option maxRecDepth 20000 in
theorem qX1_findClashes_4 (l : Launch) (F : FI) (v0 : Int) (k n : Nat) : ∀ (q : (Int × Int × Mm)) (t : ((Int × Int × Mm) ⊕ (Int × Mm))), sX1_findClashes_4 v0 q = some t → zX1_findClashes_4 l F v0 k n t → zX1_findClashes_4 l F v0 k n (.inl q) := by
  intro q t h hK
  obtain ⟨v1, v2, μ⟩ := q
  unfold sX1_findClashes_4 at h
  try dsimp only at h
  show GM l mX1_findClashes F k n 4 [(0, (3, v0)), (1, (0, v1)), (2, (0, v2))] [] μ
  refine GM_iload_n (pc := 4) 2 rfl (daX1_findClashes_0 4 rfl) rfl ?_
  refine GM_aload_n (pc := 5) 0 rfl (daX1_findClashes_0 5 rfl) rfl ?_
  obtain ⟨hc9, h⟩ := chk_inv h
  refine GM_getf (pc := 6) 1 1 3 1 kf_X1_21 (Nat.le_of_ble_eq_true rfl) (Nat.le_of_ble_eq_true rfl) rfl (daX1_findClashes_0 6 rfl) hc9 rfl ?_
  obtain ⟨hc10, h⟩ := chk_inv h
  refine GM_getf (pc := 9) 6 0 0 0 kf_X1_91 (Nat.le_of_ble_eq_true rfl) (Nat.le_of_ble_eq_true rfl) rfl (daX1_findClashes_0 7 rfl) hc10 rfl ?_
  refine GM_icmp_ge (pc := 12) 94 (daX1_findClashes_0 8 rfl) rfl (fun c11 => ?_) (fun c11 => ?_)
  · skip
    rw [if_pos c11] at h
    refine GM_pick [1] rfl ?_
    cases h
    exact hK
  · skip
    rw [if_neg c11] at h
    refine GM_iload_n (pc := 15) 2 rfl (daX1_findClashes_0 9 rfl) rfl ?_
    refine GM_bipush (pc := 16) 8 (daX1_findClashes_0 10 rfl) rfl (R32_b rfl) ?_
    refine GM_icmp_ge (pc := 18) 94 (daX1_findClashes_0 11 rfl) rfl (fun c12 => ?_) (fun c12 => ?_)
    · skip
      rw [if_pos c12] at h
      refine GM_pick [1] rfl ?_
      cases h
      exact hK
    · skip
      rw [if_neg c12] at h
      refine GM_aload_n (pc := 21) 0 rfl (daX1_findClashes_0 12 rfl) rfl ?_
      refine GM_getf (pc := 22) 1 10 3 10 kf_X1_39 (Nat.le_of_ble_eq_true rfl) (Nat.le_of_ble_eq_true rfl) rfl (daX1_findClashes_0 13 rfl) hc9 rfl ?_
      refine GM_iload_n (pc := 25) 2 rfl (daX1_findClashes_0 14 rfl) rfl ?_
      refine GM_iconst (pc := 26) 0 (daX1_findClashes_0 15 rfl) rfl (R32_b rfl) ?_
      obtain ⟨hc13, h⟩ := chk_inv h
      obtain ⟨μ14, hμ14, h⟩ := lm_inv h
      refine GM_iast (pc := 27) (daX1_findClashes_0 16 rfl) hc13.1 hc13.2.1 hc13.2.2 ?_
      refine GM_mem hμ14 ?_
      refine GM_iconst (pc := 28) 0 (daX1_findClashes_0 17 rfl) rfl (R32_b rfl) ?_
      refine GM_istore_n (L' := [(3, (0, 0)), (0, (3, v0)), (1, (0, v1)), (2, (0, v2))]) (pc := 29) (daX1_findClashes_0 18 rfl) rfl (Nat.le_of_ble_eq_true rfl) rfl ?_
      refine GM_pick [1, 2, 3, 0] rfl ?_
      obtain ⟨x15, hqx15, h⟩ := Option.bind_eq_some_iff.mp h
      refine lop_ind (zX1_findClashes_30 l F v0 v1 v2 k n) (qX1_findClashes_30 l F v0 v1 v2 k n) FU _ x15 hqx15 ?_
      obtain ⟨μ_16, hqq⟩ : ∃ z, z = x15 := ⟨x15, rfl⟩
      subst hqq
      show GM l mX1_findClashes F k n 74 [(0, (3, v0)), (1, (0, v1)), (2, (0, v2))] [] μ_16
      refine GM_aload_n (pc := 74) 0 rfl (daX1_findClashes_0 49 rfl) rfl ?_
      refine GM_iload_n (pc := 75) 2 rfl (daX1_findClashes_0 50 rfl) rfl ?_
      obtain ⟨r17, hf17, h⟩ := Option.bind_eq_some_iff.mp h
      refine GM_callV0 (pc := 76) [(0, v2)] (tX1_lacksLake l hf17) cwX1_lacksLake 1 (Nat.le_of_ble_eq_true rfl) rfl kv_X1_lacksLake ke_X1_lacksLake km_X1_125 hc9 ⟨Nat.le_of_ble_eq_true rfl, Nat.le_of_ble_eq_true rfl⟩ (Nat.le_of_ble_eq_true rfl) (Nat.le_of_ble_eq_true rfl) (daX1_findClashes_0 51 rfl) ?_
      refine GM_if_eq (pc := 79) 88 (daX1_findClashes_0 52 rfl) rfl (fun c18 => ?_) (fun c18 => ?_)
      · skip
        rw [if_pos c18] at h
        refine GM_iinc (L' := [(2, (0, w32 (v2 + 1))), (0, (3, v0)), (1, (0, v1))]) (pc := 88) 2 rfl (daX1_findClashes_0 59 rfl) (Nat.le_of_ble_eq_true rfl) rfl ?_
        refine GM_goto (pc := 91) 4 (daX1_findClashes_0 60 rfl) rfl ?_
        refine GM_pick [1, 2, 0] rfl ?_
        cases h
        exact hK
      · skip
        rw [if_neg c18] at h
        refine GM_iload_n (pc := 82) 1 rfl (daX1_findClashes_0 53 rfl) rfl ?_
        refine GM_iconst (pc := 83) 1 (daX1_findClashes_0 54 rfl) rfl (R32_b rfl) ?_
        refine GM_iload_n (pc := 84) 2 rfl (daX1_findClashes_0 55 rfl) rfl ?_
        refine GM_ishl (pc := 85) (daX1_findClashes_0 56 rfl) ?_
        refine GM_ior (pc := 86) (daX1_findClashes_0 57 rfl) ?_
        refine GM_istore_n (L' := [(1, (0, ior v1 (ishl 1 v2))), (0, (3, v0)), (2, (0, v2))]) (pc := 87) (daX1_findClashes_0 58 rfl) rfl (Nat.le_of_ble_eq_true rfl) rfl ?_
        refine GM_iinc (L' := [(2, (0, w32 (v2 + 1))), (1, (0, ior v1 (ishl 1 v2))), (0, (3, v0))]) (pc := 88) 2 rfl (daX1_findClashes_0 59 rfl) (Nat.le_of_ble_eq_true rfl) rfl ?_
        refine GM_goto (pc := 91) 4 (daX1_findClashes_0 60 rfl) rfl ?_
        refine GM_pick [2, 1, 0] rfl ?_
        cases h
        exact hK
set_option maxRecDepth 20000 in
theorem gX1_findClashes_0 (l : Launch) {F : FI} {v0 : Int} {μ : Mm} {t : (Int × Mm)} (h : fX1_findClashes v0 μ = some t) (hK : F.1 = [(0, t.1)] ∧ F.2.1 = t.2) : GM l mX1_findClashes F 0 0 0 [(0, (3, v0))] [] μ := by
  unfold fX1_findClashes at h
  refine GM_iconst (pc := 0) 0 (daX1_findClashes_0 0 rfl) rfl (R32_b rfl) ?_
  refine GM_istore_n (L' := [(1, (0, 0)), (0, (3, v0))]) (pc := 1) (daX1_findClashes_0 1 rfl) rfl (Nat.le_of_ble_eq_true rfl) rfl ?_
  refine GM_iconst (pc := 2) 0 (daX1_findClashes_0 2 rfl) rfl (R32_b rfl) ?_
  refine GM_istore_n (L' := [(2, (0, 0)), (1, (0, 0)), (0, (3, v0))]) (pc := 3) (daX1_findClashes_0 3 rfl) rfl (Nat.le_of_ble_eq_true rfl) rfl ?_
  refine GM_pick [2, 1, 0] rfl ?_
  obtain ⟨x19, hqx19, h⟩ := Option.bind_eq_some_iff.mp h
  refine lop_ind (zX1_findClashes_4 l F v0 0 0) (qX1_findClashes_4 l F v0 0 0) FU _ x19 hqx19 ?_
  obtain ⟨v1_20, μ_20⟩ := x19
  dsimp only at h
  show GM l mX1_findClashes F 0 0 94 [(1, (0, v1_20))] [] μ_20
  refine GM_iload_n (pc := 94) 0 rfl (daX1_findClashes_0 61 rfl) rfl ?_
  cases h
  exact GM_iret (pc := 95) (daX1_findClashes_0 62 rfl) rfl hK
theorem tX1_findClashes (l : Launch) {v0 : Int} {μ : Mm} {t : (Int × Mm)} (h : fX1_findClashes v0 μ = some t) : Ct l yX1_findClashes mX1_findClashes [(3, v0)] μ ([(0, t.1)], t.2, 0, 0) :=
  Ct_of (by decide +kernel) rfl rfl (Nat.le_of_ble_eq_true rfl) (fun _ _ _ => trivial) (gX1_findClashes_0 l h ⟨rfl, rfl⟩)
def mX1_withoutTower : MI := (RX1, cX1_withoutTower, 4, (some .int), "withoutTower", 2, 45, fun _ _ _ => True)
theorem cwX1_withoutTower : CWd yX1_withoutTower mX1_withoutTower 1 := ⟨ki_X1, kk_X1_withoutTower, ⟨by decide, by decide⟩, rfl⟩
def dtX1_withoutTower_0 : List (Nat × Instr × Nat) := [(0, .iconst 0, 1), (1, .istore_n 2, 1), (2, .iconst 0, 1), (3, .istore_n 3, 1), (4, .iload_n 3, 1), (5, .aload_n 0, 1), (6, .getfield 21, 3), (9, .getfield 91, 3), (12, .if_icmp .ge 30, 3), (15, .iload_n 3, 1), (16, .bipush 8, 2), (18, .if_icmp .ge 24, 3), (21, .aload_n 0, 1), (22, .iload_n 3, 1), (23, .iload_n 1, 1), (24, .invokevirtual 128, 3), (27, .ifCond .eq 9, 3), (30, .iload_n 2, 1), (31, .iconst 1, 1), (32, .iload_n 3, 1), (33, .ishl, 1), (34, .ior, 1), (35, .istore_n 2, 1), (36, .iinc 3 1, 3), (39, .goto (-35), 3), (42, .iload_n 2, 1), (43, .ireturn, 1)]
theorem ddX1_withoutTower_0 : (dtX1_withoutTower_0.all fun e => decide (decode mX1_withoutTower.2.1 e.1 = .ok (e.2.1, e.2.2))) = true := by decide +kernel
theorem daX1_withoutTower_0 (j : Nat) {pc n : Nat} {i : Instr} (h : dtX1_withoutTower_0[j]? = some (pc, i, n)) : decode mX1_withoutTower.2.1 pc = .ok (i, n) := dec_of (c := mX1_withoutTower.2.1) ddX1_withoutTower_0 h
def zX1_withoutTower_4 (l : Launch) (F : FI) (v0 v1 : Int) (μ : Mm) (k n : Nat) : (Int × Int) ⊕ Int → Prop
  | .inl (v2, v3) => GM l mX1_withoutTower F k n 4 [(0, (3, v0)), (1, (0, v1)), (2, (0, v2)), (3, (0, v3))] [] μ
  | .inr v2 => GM l mX1_withoutTower F k n 42 [(2, (0, v2))] [] μ
def sX1_withoutTower_4 (v0 v1 : Int) (μ : Mm) : (Int × Int) → Option ((Int × Int) ⊕ Int) := fun (v2, v3) =>
  chk (KD v0 = 1) (
  chk (KD (μ v0 1) = 6) (
  if μ (μ v0 1) 0 ≤ v3 then
    some (.inr v2)
  else
    if 8 ≤ v3 then
      some (.inr v2)
    else
      (fX1_lacksTower v0 v3 v1 μ).bind fun r5 =>
      if r5 = 0 then
        some (.inl (v2, w32 (v3 + 1)))
      else
        some (.inl (ior v2 (ishl 1 v3), w32 (v3 + 1)))))
def fX1_withoutTower (v0 v1 : Int) (μ : Mm) : Option Int :=
  (lop (sX1_withoutTower_4 v0 v1 μ) FU (0, 0)).bind fun v2_8 =>
    some v2_8
set_option maxRecDepth 20000 in
theorem qX1_withoutTower_4 (l : Launch) (F : FI) (v0 v1 : Int) (μ : Mm) (k n : Nat) : ∀ (q : (Int × Int)) (t : ((Int × Int) ⊕ Int)), sX1_withoutTower_4 v0 v1 μ q = some t → zX1_withoutTower_4 l F v0 v1 μ k n t → zX1_withoutTower_4 l F v0 v1 μ k n (.inl q) := by
  intro q t h hK
  obtain ⟨v2, v3⟩ := q
  unfold sX1_withoutTower_4 at h
  try dsimp only at h
  show GM l mX1_withoutTower F k n 4 [(0, (3, v0)), (1, (0, v1)), (2, (0, v2)), (3, (0, v3))] [] μ
  refine GM_iload_n (pc := 4) 3 rfl (daX1_withoutTower_0 4 rfl) rfl ?_
  refine GM_aload_n (pc := 5) 0 rfl (daX1_withoutTower_0 5 rfl) rfl ?_
  obtain ⟨hc1, h⟩ := chk_inv h
  refine GM_getf (pc := 6) 1 1 3 1 kf_X1_21 (Nat.le_of_ble_eq_true rfl) (Nat.le_of_ble_eq_true rfl) rfl (daX1_withoutTower_0 6 rfl) hc1 rfl ?_
  obtain ⟨hc2, h⟩ := chk_inv h
  refine GM_getf (pc := 9) 6 0 0 0 kf_X1_91 (Nat.le_of_ble_eq_true rfl) (Nat.le_of_ble_eq_true rfl) rfl (daX1_withoutTower_0 7 rfl) hc2 rfl ?_
  refine GM_icmp_ge (pc := 12) 42 (daX1_withoutTower_0 8 rfl) rfl (fun c3 => ?_) (fun c3 => ?_)
  · skip
    rw [if_pos c3] at h
    refine GM_pick [2] rfl ?_
    cases h
    exact hK
  · skip
    rw [if_neg c3] at h
    refine GM_iload_n (pc := 15) 3 rfl (daX1_withoutTower_0 9 rfl) rfl ?_
    refine GM_bipush (pc := 16) 8 (daX1_withoutTower_0 10 rfl) rfl (R32_b rfl) ?_
    refine GM_icmp_ge (pc := 18) 42 (daX1_withoutTower_0 11 rfl) rfl (fun c4 => ?_) (fun c4 => ?_)
    · skip
      rw [if_pos c4] at h
      refine GM_pick [2] rfl ?_
      cases h
      exact hK
    · skip
      rw [if_neg c4] at h
      refine GM_aload_n (pc := 21) 0 rfl (daX1_withoutTower_0 12 rfl) rfl ?_
      refine GM_iload_n (pc := 22) 3 rfl (daX1_withoutTower_0 13 rfl) rfl ?_
      refine GM_iload_n (pc := 23) 1 rfl (daX1_withoutTower_0 14 rfl) rfl ?_
      obtain ⟨r5, hf5, h⟩ := Option.bind_eq_some_iff.mp h
      refine GM_callV0 (pc := 24) [(0, v3), (0, v1)] (tX1_lacksTower l hf5) cwX1_lacksTower 1 (Nat.le_of_ble_eq_true rfl) rfl kv_X1_lacksTower ke_X1_lacksTower km_X1_128 hc1 ⟨Nat.le_of_ble_eq_true rfl, Nat.le_of_ble_eq_true rfl⟩ (Nat.le_of_ble_eq_true rfl) (Nat.le_of_ble_eq_true rfl) (daX1_withoutTower_0 15 rfl) ?_
      refine GM_if_eq (pc := 27) 36 (daX1_withoutTower_0 16 rfl) rfl (fun c6 => ?_) (fun c6 => ?_)
      · skip
        rw [if_pos c6] at h
        refine GM_iinc (L' := [(3, (0, w32 (v3 + 1))), (0, (3, v0)), (1, (0, v1)), (2, (0, v2))]) (pc := 36) 3 rfl (daX1_withoutTower_0 23 rfl) (Nat.le_of_ble_eq_true rfl) rfl ?_
        refine GM_goto (pc := 39) 4 (daX1_withoutTower_0 24 rfl) rfl ?_
        refine GM_pick [1, 2, 3, 0] rfl ?_
        cases h
        exact hK
      · skip
        rw [if_neg c6] at h
        refine GM_iload_n (pc := 30) 2 rfl (daX1_withoutTower_0 17 rfl) rfl ?_
        refine GM_iconst (pc := 31) 1 (daX1_withoutTower_0 18 rfl) rfl (R32_b rfl) ?_
        refine GM_iload_n (pc := 32) 3 rfl (daX1_withoutTower_0 19 rfl) rfl ?_
        refine GM_ishl (pc := 33) (daX1_withoutTower_0 20 rfl) ?_
        refine GM_ior (pc := 34) (daX1_withoutTower_0 21 rfl) ?_
        refine GM_istore_n (L' := [(2, (0, ior v2 (ishl 1 v3))), (0, (3, v0)), (1, (0, v1)), (3, (0, v3))]) (pc := 35) (daX1_withoutTower_0 22 rfl) rfl (Nat.le_of_ble_eq_true rfl) rfl ?_
        refine GM_iinc (L' := [(3, (0, w32 (v3 + 1))), (2, (0, ior v2 (ishl 1 v3))), (0, (3, v0)), (1, (0, v1))]) (pc := 36) 3 rfl (daX1_withoutTower_0 23 rfl) (Nat.le_of_ble_eq_true rfl) rfl ?_
        refine GM_goto (pc := 39) 4 (daX1_withoutTower_0 24 rfl) rfl ?_
        refine GM_pick [2, 3, 1, 0] rfl ?_
        cases h
        exact hK
set_option maxRecDepth 20000 in
theorem gX1_withoutTower_0 (l : Launch) {F : FI} {v0 v1 : Int} {μ : Mm} {t : Int} (h : fX1_withoutTower v0 v1 μ = some t) (hK : F.1 = [(0, t)] ∧ F.2.1 = μ) : GM l mX1_withoutTower F 0 0 0 [(0, (3, v0)), (1, (0, v1))] [] μ := by
  unfold fX1_withoutTower at h
  refine GM_iconst (pc := 0) 0 (daX1_withoutTower_0 0 rfl) rfl (R32_b rfl) ?_
  refine GM_istore_n (L' := [(2, (0, 0)), (0, (3, v0)), (1, (0, v1))]) (pc := 1) (daX1_withoutTower_0 1 rfl) rfl (Nat.le_of_ble_eq_true rfl) rfl ?_
  refine GM_iconst (pc := 2) 0 (daX1_withoutTower_0 2 rfl) rfl (R32_b rfl) ?_
  refine GM_istore_n (L' := [(3, (0, 0)), (2, (0, 0)), (0, (3, v0)), (1, (0, v1))]) (pc := 3) (daX1_withoutTower_0 3 rfl) rfl (Nat.le_of_ble_eq_true rfl) rfl ?_
  refine GM_pick [2, 3, 1, 0] rfl ?_
  obtain ⟨x7, hqx7, h⟩ := Option.bind_eq_some_iff.mp h
  refine lop_ind (zX1_withoutTower_4 l F v0 v1 μ 0 0) (qX1_withoutTower_4 l F v0 v1 μ 0 0) FU _ x7 hqx7 ?_
  obtain ⟨v2_8, hqq⟩ : ∃ z, z = x7 := ⟨x7, rfl⟩
  subst hqq
  show GM l mX1_withoutTower F 0 0 42 [(2, (0, v2_8))] [] μ
  refine GM_iload_n (pc := 42) 0 rfl (daX1_withoutTower_0 25 rfl) rfl ?_
  cases h
  exact GM_iret (pc := 43) (daX1_withoutTower_0 26 rfl) rfl hK
theorem tX1_withoutTower (l : Launch) {v0 v1 : Int} {μ : Mm} {t : Int} (h : fX1_withoutTower v0 v1 μ = some t) : Ct l yX1_withoutTower mX1_withoutTower [(3, v0), (0, v1)] μ ([(0, t)], μ, 0, 0) :=
  Ct_of (by decide +kernel) rfl rfl (Nat.le_of_ble_eq_true rfl) (fun _ _ _ => trivial) (gX1_withoutTower_0 l h ⟨rfl, rfl⟩)
def mX1_firstClash : MI := (RX1, cX1_firstClash, 3, (some .int), "firstClash", 0, 0, fun _ _ _ => True)
theorem cwX1_firstClash : CWd yX1_firstClash mX1_firstClash 1 := ⟨ki_X1, kk_X1_firstClash, ⟨by decide, by decide⟩, rfl⟩
def dtX1_firstClash_0 : List (Nat × Instr × Nat) := [(0, .iconst 0, 1), (1, .istore_n 2, 1), (2, .iload_n 2, 1), (3, .aload_n 0, 1), (4, .getfield 21, 3), (7, .getfield 91, 3), (10, .if_icmp .ge 38, 3), (13, .iload_n 2, 1), (14, .bipush 8, 2), (16, .if_icmp .ge 32, 3), (19, .iload_n 1, 1), (20, .iload_n 2, 1), (21, .ishr, 1), (22, .iconst 1, 1), (23, .iand, 1), (24, .ifCond .ne 18, 3), (27, .aload_n 0, 1), (28, .getfield 39, 3), (31, .iload_n 2, 1), (32, .iaload, 1), (33, .iload_n 1, 1), (34, .iconst (-1), 1), (35, .ixor, 1), (36, .iand, 1), (37, .ifCond .eq 5, 3), (40, .iload_n 2, 1), (41, .ireturn, 1), (42, .iinc 2 1, 3), (45, .goto (-43), 3), (48, .iconst (-1), 1), (49, .ireturn, 1)]
theorem ddX1_firstClash_0 : (dtX1_firstClash_0.all fun e => decide (decode mX1_firstClash.2.1 e.1 = .ok (e.2.1, e.2.2))) = true := by decide +kernel
theorem daX1_firstClash_0 (j : Nat) {pc n : Nat} {i : Instr} (h : dtX1_firstClash_0[j]? = some (pc, i, n)) : decode mX1_firstClash.2.1 pc = .ok (i, n) := dec_of (c := mX1_firstClash.2.1) ddX1_firstClash_0 h
def zX1_firstClash_2 (l : Launch) (F : FI) (v0 v1 : Int) (μ : Mm) (k n : Nat) : Int ⊕ (Unit ⊕ Int) → Prop
  | .inl v2 => GM l mX1_firstClash F k n 2 [(0, (3, v0)), (1, (0, v1)), (2, (0, v2))] [] μ
  | .inr (.inl ()) => GM l mX1_firstClash F k n 48 [] [] μ
  | .inr (.inr v2) => GM l mX1_firstClash F k n 40 [(2, (0, v2))] [] μ
def sX1_firstClash_2 (v0 v1 : Int) (μ : Mm) : Int → Option (Int ⊕ (Unit ⊕ Int)) := fun v2 =>
  chk (KD v0 = 1) (
  chk (KD (μ v0 1) = 6) (
  if μ (μ v0 1) 0 ≤ v2 then
    some (.inr (.inl ()))
  else
    if 8 ≤ v2 then
      some (.inr (.inl ()))
    else
      if iand (ishr v1 v2) 1 = 0 then
        chk (KD (μ v0 10) = 12 ∧ 0 ≤ v2 ∧ v2 < LN (μ v0 10)) (
        if iand (μ (μ v0 10) v2) (ixor v1 (-1)) = 0 then
          some (.inl (w32 (v2 + 1)))
        else
          some (.inr (.inr v2)))
      else
        some (.inl (w32 (v2 + 1)))))
def fX1_firstClash (v0 v1 : Int) (μ : Mm) : Option Int :=
  (lop (sX1_firstClash_2 v0 v1 μ) FU 0).bind fun x8 =>
    match x8 with
    | (.inl ()) =>
        some (-1)
    | (.inr v2_10) =>
        some v2_10
set_option maxRecDepth 20000 in
theorem qX1_firstClash_2 (l : Launch) (F : FI) (v0 v1 : Int) (μ : Mm) (k n : Nat) : ∀ (q : Int) (t : (Int ⊕ (Unit ⊕ Int))), sX1_firstClash_2 v0 v1 μ q = some t → zX1_firstClash_2 l F v0 v1 μ k n t → zX1_firstClash_2 l F v0 v1 μ k n (.inl q) := by
  intro q t h hK
  obtain ⟨v2, hqq⟩ : ∃ z, z = q := ⟨q, rfl⟩
  subst hqq
  unfold sX1_firstClash_2 at h
  try dsimp only at h
  show GM l mX1_firstClash F k n 2 [(0, (3, v0)), (1, (0, v1)), (2, (0, v2))] [] μ
  refine GM_iload_n (pc := 2) 2 rfl (daX1_firstClash_0 2 rfl) rfl ?_
  refine GM_aload_n (pc := 3) 0 rfl (daX1_firstClash_0 3 rfl) rfl ?_
  obtain ⟨hc1, h⟩ := chk_inv h
  refine GM_getf (pc := 4) 1 1 3 1 kf_X1_21 (Nat.le_of_ble_eq_true rfl) (Nat.le_of_ble_eq_true rfl) rfl (daX1_firstClash_0 4 rfl) hc1 rfl ?_
  obtain ⟨hc2, h⟩ := chk_inv h
  refine GM_getf (pc := 7) 6 0 0 0 kf_X1_91 (Nat.le_of_ble_eq_true rfl) (Nat.le_of_ble_eq_true rfl) rfl (daX1_firstClash_0 5 rfl) hc2 rfl ?_
  refine GM_icmp_ge (pc := 10) 48 (daX1_firstClash_0 6 rfl) rfl (fun c3 => ?_) (fun c3 => ?_)
  · skip
    rw [if_pos c3] at h
    refine GM_pick [] rfl ?_
    cases h
    exact hK
  · skip
    rw [if_neg c3] at h
    refine GM_iload_n (pc := 13) 2 rfl (daX1_firstClash_0 7 rfl) rfl ?_
    refine GM_bipush (pc := 14) 8 (daX1_firstClash_0 8 rfl) rfl (R32_b rfl) ?_
    refine GM_icmp_ge (pc := 16) 48 (daX1_firstClash_0 9 rfl) rfl (fun c4 => ?_) (fun c4 => ?_)
    · skip
      rw [if_pos c4] at h
      refine GM_pick [] rfl ?_
      cases h
      exact hK
    · skip
      rw [if_neg c4] at h
      refine GM_iload_n (pc := 19) 1 rfl (daX1_firstClash_0 10 rfl) rfl ?_
      refine GM_iload_n (pc := 20) 2 rfl (daX1_firstClash_0 11 rfl) rfl ?_
      refine GM_ishr (pc := 21) (daX1_firstClash_0 12 rfl) ?_
      refine GM_iconst (pc := 22) 1 (daX1_firstClash_0 13 rfl) rfl (R32_b rfl) ?_
      refine GM_iand (pc := 23) (daX1_firstClash_0 14 rfl) ?_
      refine GM_if_ne (pc := 24) 42 (daX1_firstClash_0 15 rfl) rfl (fun c5 => ?_) (fun c5 => ?_)
      · skip
        rw [if_neg c5] at h
        refine GM_iinc (L' := [(2, (0, w32 (v2 + 1))), (0, (3, v0)), (1, (0, v1))]) (pc := 42) 2 rfl (daX1_firstClash_0 27 rfl) (Nat.le_of_ble_eq_true rfl) rfl ?_
        refine GM_goto (pc := 45) 2 (daX1_firstClash_0 28 rfl) rfl ?_
        refine GM_pick [1, 2, 0] rfl ?_
        cases h
        exact hK
      · skip
        rw [if_pos c5] at h
        refine GM_aload_n (pc := 27) 0 rfl (daX1_firstClash_0 16 rfl) rfl ?_
        refine GM_getf (pc := 28) 1 10 3 10 kf_X1_39 (Nat.le_of_ble_eq_true rfl) (Nat.le_of_ble_eq_true rfl) rfl (daX1_firstClash_0 17 rfl) hc1 rfl ?_
        refine GM_iload_n (pc := 31) 2 rfl (daX1_firstClash_0 18 rfl) rfl ?_
        obtain ⟨hc6, h⟩ := chk_inv h
        refine GM_iald (pc := 32) (daX1_firstClash_0 19 rfl) hc6.1 hc6.2.1 hc6.2.2 ?_
        refine GM_iload_n (pc := 33) 1 rfl (daX1_firstClash_0 20 rfl) rfl ?_
        refine GM_iconst (pc := 34) (-1) (daX1_firstClash_0 21 rfl) rfl (R32_b rfl) ?_
        refine GM_ixor (pc := 35) (daX1_firstClash_0 22 rfl) ?_
        refine GM_iand (pc := 36) (daX1_firstClash_0 23 rfl) ?_
        refine GM_if_eq (pc := 37) 42 (daX1_firstClash_0 24 rfl) rfl (fun c7 => ?_) (fun c7 => ?_)
        · skip
          rw [if_pos c7] at h
          refine GM_iinc (L' := [(2, (0, w32 (v2 + 1))), (0, (3, v0)), (1, (0, v1))]) (pc := 42) 2 rfl (daX1_firstClash_0 27 rfl) (Nat.le_of_ble_eq_true rfl) rfl ?_
          refine GM_goto (pc := 45) 2 (daX1_firstClash_0 28 rfl) rfl ?_
          refine GM_pick [1, 2, 0] rfl ?_
          cases h
          exact hK
        · skip
          rw [if_neg c7] at h
          refine GM_pick [2] rfl ?_
          cases h
          exact hK
set_option maxRecDepth 20000 in
theorem gX1_firstClash_0 (l : Launch) {F : FI} {v0 v1 : Int} {μ : Mm} {t : Int} (h : fX1_firstClash v0 v1 μ = some t) (hK : F.1 = [(0, t)] ∧ F.2.1 = μ) : GM l mX1_firstClash F 0 0 0 [(0, (3, v0)), (1, (0, v1))] [] μ := by
  unfold fX1_firstClash at h
  refine GM_iconst (pc := 0) 0 (daX1_firstClash_0 0 rfl) rfl (R32_b rfl) ?_
  refine GM_istore_n (L' := [(2, (0, 0)), (0, (3, v0)), (1, (0, v1))]) (pc := 1) (daX1_firstClash_0 1 rfl) rfl (Nat.le_of_ble_eq_true rfl) rfl ?_
  refine GM_pick [1, 2, 0] rfl ?_
  obtain ⟨x8, hqx8, h⟩ := Option.bind_eq_some_iff.mp h
  refine lop_ind (zX1_firstClash_2 l F v0 v1 μ 0 0) (qX1_firstClash_2 l F v0 v1 μ 0 0) FU _ x8 hqx8 ?_
  rcases x8 with _ | v2_10
  · dsimp only at h
    show GM l mX1_firstClash F 0 0 48 [] [] μ
    refine GM_iconst (pc := 48) (-1) (daX1_firstClash_0 29 rfl) rfl (R32_b rfl) ?_
    cases h
    exact GM_iret (pc := 49) (daX1_firstClash_0 30 rfl) rfl hK
  · dsimp only at h
    show GM l mX1_firstClash F 0 0 40 [(2, (0, v2_10))] [] μ
    refine GM_iload_n (pc := 40) 0 rfl (daX1_firstClash_0 25 rfl) rfl ?_
    cases h
    exact GM_iret (pc := 41) (daX1_firstClash_0 26 rfl) rfl hK
theorem tX1_firstClash (l : Launch) {v0 v1 : Int} {μ : Mm} {t : Int} (h : fX1_firstClash v0 v1 μ = some t) : Ct l yX1_firstClash mX1_firstClash [(3, v0), (0, v1)] μ ([(0, t)], μ, 0, 0) :=
  Ct_of (by decide +kernel) rfl rfl (Nat.le_of_ble_eq_true rfl) (fun _ _ _ => trivial) (gX1_firstClash_0 l h ⟨rfl, rfl⟩)
def mX1_isFewer : MI := (RX1, cX1_isFewer, 3, (some .boolean), "isFewer", 1, 20, fun _ _ _ => True)
theorem cwX1_isFewer : CWd yX1_isFewer mX1_isFewer 2 := ⟨ki_X1, kk_X1_isFewer, ⟨by decide, by decide⟩, rfl⟩
def dtX1_isFewer_0 : List (Nat × Instr × Nat) := [(0, .iload_n 0, 1), (1, .invokestatic 206, 3), (4, .iload_n 1, 1), (5, .invokestatic 206, 3), (8, .isub, 1), (9, .istore_n 2, 1), (10, .iload_n 1, 1), (11, .iconst (-1), 1), (12, .if_icmp .eq 16, 3), (15, .iload_n 2, 1), (16, .ifCond .lt 12, 3), (19, .iload_n 2, 1), (20, .ifCond .ne 12, 3), (23, .iload_n 0, 1), (24, .iload_n 1, 1), (25, .if_icmp .ge 7, 3), (28, .iconst 1, 1), (29, .goto 4, 3), (32, .iconst 0, 1), (33, .ireturn, 1)]
theorem ddX1_isFewer_0 : (dtX1_isFewer_0.all fun e => decide (decode mX1_isFewer.2.1 e.1 = .ok (e.2.1, e.2.2))) = true := by decide +kernel
theorem daX1_isFewer_0 (j : Nat) {pc n : Nat} {i : Instr} (h : dtX1_isFewer_0[j]? = some (pc, i, n)) : decode mX1_isFewer.2.1 pc = .ok (i, n) := dec_of (c := mX1_isFewer.2.1) ddX1_isFewer_0 h
def fX1_isFewer (v0 v1 : Int) : Option Int :=
  lt (w32 ((ibits v0) - (ibits v1))) fun y1 =>
  if v1 = (-1) then
    some 1
  else
    if y1 < 0 then
      some 1
    else
      if y1 = 0 then
        if v1 ≤ v0 then
          some 0
        else
          some 1
      else
        some 0
set_option maxRecDepth 20000 in
theorem gX1_isFewer_0 (l : Launch) {F : FI} {v0 v1 : Int} {μ : Mm} {t : Int} (h : fX1_isFewer v0 v1 = some t) (hK : F.1 = [(0, t)] ∧ F.2.1 = μ) : GM l mX1_isFewer F 0 0 0 [(0, (0, v0)), (1, (0, v1))] [] μ := by
  unfold fX1_isFewer at h
  refine GM_iload_n (pc := 0) 0 rfl (daX1_isFewer_0 0 rfl) rfl ?_
  refine GM_callS0 (pc := 1) [(0, v0)] (tJ6_bitCount_0f7a4 l (fJ6_bits_eq v0)) cwJ6_bitCount_0f7a4 ks_J6_bitCount_0f7a4 km_X1_206 ⟨Nat.le_of_ble_eq_true rfl, Nat.le_of_ble_eq_true rfl⟩ (Nat.le_of_ble_eq_true rfl) (Nat.le_of_ble_eq_true rfl) (daX1_isFewer_0 1 rfl) ?_
  refine GM_iload_n (pc := 4) 1 rfl (daX1_isFewer_0 2 rfl) rfl ?_
  refine GM_callS0 (pc := 5) [(0, v1)] (tJ6_bitCount_0f7a4 l (fJ6_bits_eq v1)) cwJ6_bitCount_0f7a4 ks_J6_bitCount_0f7a4 km_X1_206 ⟨Nat.le_of_ble_eq_true rfl, Nat.le_of_ble_eq_true rfl⟩ (Nat.le_of_ble_eq_true rfl) (Nat.le_of_ble_eq_true rfl) (daX1_isFewer_0 3 rfl) ?_
  refine GM_isub (pc := 8) (daX1_isFewer_0 4 rfl) ?_
  obtain ⟨y1, hy1, h⟩ := lt_inv h
  refine GM_top hy1 ?_
  refine GM_istore_n (L' := [(2, (0, y1)), (0, (0, v0)), (1, (0, v1))]) (pc := 9) (daX1_isFewer_0 5 rfl) rfl (Nat.le_of_ble_eq_true rfl) rfl ?_
  refine GM_iload_n (pc := 10) 2 rfl (daX1_isFewer_0 6 rfl) rfl ?_
  refine GM_iconst (pc := 11) (-1) (daX1_isFewer_0 7 rfl) rfl (R32_b rfl) ?_
  refine GM_icmp_eq (pc := 12) 28 (daX1_isFewer_0 8 rfl) rfl (fun c2 => ?_) (fun c2 => ?_)
  · skip
    rw [if_pos c2] at h
    refine GM_iconst (pc := 28) 1 (daX1_isFewer_0 16 rfl) rfl (R32_b rfl) ?_
    refine GM_goto (pc := 29) 33 (daX1_isFewer_0 17 rfl) rfl ?_
    cases h
    exact GM_zret (pc := 33) (daX1_isFewer_0 19 rfl) rfl (Or.inr rfl) hK
  · skip
    rw [if_neg c2] at h
    refine GM_iload_n (pc := 15) 0 rfl (daX1_isFewer_0 9 rfl) rfl ?_
    refine GM_if_lt (pc := 16) 28 (daX1_isFewer_0 10 rfl) rfl (fun c3 => ?_) (fun c3 => ?_)
    · skip
      rw [if_pos c3] at h
      refine GM_iconst (pc := 28) 1 (daX1_isFewer_0 16 rfl) rfl (R32_b rfl) ?_
      refine GM_goto (pc := 29) 33 (daX1_isFewer_0 17 rfl) rfl ?_
      cases h
      exact GM_zret (pc := 33) (daX1_isFewer_0 19 rfl) rfl (Or.inr rfl) hK
    · skip
      rw [if_neg c3] at h
      refine GM_iload_n (pc := 19) 0 rfl (daX1_isFewer_0 11 rfl) rfl ?_
      refine GM_if_ne (pc := 20) 32 (daX1_isFewer_0 12 rfl) rfl (fun c4 => ?_) (fun c4 => ?_)
      · skip
        rw [if_neg c4] at h
        refine GM_iconst (pc := 32) 0 (daX1_isFewer_0 18 rfl) rfl (R32_b rfl) ?_
        cases h
        exact GM_zret (pc := 33) (daX1_isFewer_0 19 rfl) rfl (Or.inl rfl) hK
      · skip
        rw [if_pos c4] at h
        refine GM_iload_n (pc := 23) 1 rfl (daX1_isFewer_0 13 rfl) rfl ?_
        refine GM_iload_n (pc := 24) 2 rfl (daX1_isFewer_0 14 rfl) rfl ?_
        refine GM_icmp_ge (pc := 25) 32 (daX1_isFewer_0 15 rfl) rfl (fun c5 => ?_) (fun c5 => ?_)
        · skip
          rw [if_pos c5] at h
          refine GM_iconst (pc := 32) 0 (daX1_isFewer_0 18 rfl) rfl (R32_b rfl) ?_
          cases h
          exact GM_zret (pc := 33) (daX1_isFewer_0 19 rfl) rfl (Or.inl rfl) hK
        · skip
          rw [if_neg c5] at h
          refine GM_iconst (pc := 28) 1 (daX1_isFewer_0 16 rfl) rfl (R32_b rfl) ?_
          refine GM_goto (pc := 29) 33 (daX1_isFewer_0 17 rfl) rfl ?_
          cases h
          exact GM_zret (pc := 33) (daX1_isFewer_0 19 rfl) rfl (Or.inr rfl) hK
theorem tX1_isFewer (l : Launch) {v0 v1 : Int} {μ : Mm} {t : Int} (h : fX1_isFewer v0 v1 = some t) : Ct l yX1_isFewer mX1_isFewer [(0, v0), (0, v1)] μ ([(0, t)], μ, 0, 0) :=
  Ct_of (by decide +kernel) rfl rfl (Nat.le_of_ble_eq_true rfl) (fun _ _ _ => trivial) (gX1_isFewer_0 l h ⟨rfl, rfl⟩)
def mX1_fewestWith : MI := (RX1, cX1_fewestWith, 9, (some .int), "fewestWith", 2, 42, fun _ _ _ => True)
theorem cwX1_fewestWith : CWd yX1_fewestWith mX1_fewestWith 2 := ⟨ki_X1, kk_X1_fewestWith, ⟨by decide, by decide⟩, rfl⟩
def dtX1_fewestWith_0 : List (Nat × Instr × Nat) := [(0, .iload_n 2, 1), (1, .istore_n 3, 1), (2, .iconst 1, 1), (3, .istore 4, 2), (5, .aload_n 0, 1), (6, .getfield 42, 3), (9, .iconst 0, 1), (10, .iload_n 1, 1), (11, .iastore, 1), (12, .iconst 0, 1), (13, .istore 5, 2), (15, .iload 5, 2), (17, .sipush 512, 3), (20, .if_icmp .ge 136, 3), (23, .iload 4, 2), (25, .ifCond .le 131, 3), (28, .iinc 4 (-1), 3), (31, .aload_n 0, 1), (32, .getfield 42, 3), (35, .iload 4, 2), (37, .iaload, 1), (38, .istore 6, 2), (40, .aload_n 0, 1), (41, .iload 6, 2), (43, .invokevirtual 203, 3), (46, .istore 7, 2), (48, .iload_n 3, 1), (49, .iconst (-1), 1), (50, .if_icmp .eq 15, 3), (53, .iload 6, 2), (55, .invokestatic 206, 3), (58, .iload_n 3, 1), (59, .invokestatic 206, 3), (62, .if_icmp .ge 7, 3), (65, .iconst 1, 1), (66, .goto 4, 3), (69, .iconst 0, 1), (70, .istore 8, 2), (72, .iload 7, 2), (74, .iconst (-1), 1), (75, .if_icmp .ne 22, 3), (78, .iload 6, 2), (80, .iload_n 3, 1), (81, .invokestatic 211, 3), (84, .ifCond .eq 8, 3), (87, .iload 6, 2), (89, .goto 4, 3), (92, .iload_n 3, 1), (93, .istore_n 3, 1), (94, .goto 56, 3), (97, .iload 8, 2), (99, .ifCond .eq 51, 3), (102, .iload 4, 2), (104, .iconst 1, 1), (105, .iadd, 1), (106, .aload_n 0, 1), (107, .getfield 42, 3), (110, .arraylength, 1), (111, .if_icmp .ge 39, 3), (114, .aload_n 0, 1), (115, .getfield 42, 3), (118, .iload 4, 2), (120, .iload 6, 2), (122, .aload_n 0, 1)]
theorem ddX1_fewestWith_0 : (dtX1_fewestWith_0.all fun e => decide (decode mX1_fewestWith.2.1 e.1 = .ok (e.2.1, e.2.2))) = true := by decide +kernel
theorem daX1_fewestWith_0 (j : Nat) {pc n : Nat} {i : Instr} (h : dtX1_fewestWith_0[j]? = some (pc, i, n)) : decode mX1_fewestWith.2.1 pc = .ok (i, n) := dec_of (c := mX1_fewestWith.2.1) ddX1_fewestWith_0 h
def dtX1_fewestWith_1 : List (Nat × Instr × Nat) := [(123, .getfield 39, 3), (126, .iload 7, 2), (128, .iaload, 1), (129, .ior, 1), (130, .iastore, 1), (131, .aload_n 0, 1), (132, .getfield 42, 3), (135, .iload 4, 2), (137, .iconst 1, 1), (138, .iadd, 1), (139, .iload 6, 2), (141, .iconst 1, 1), (142, .iload 7, 2), (144, .ishl, 1), (145, .ior, 1), (146, .iastore, 1), (147, .iinc 4 2, 3), (150, .iinc 5 1, 3), (153, .goto (-138), 3), (156, .iload_n 3, 1), (157, .ireturn, 1)]
theorem ddX1_fewestWith_1 : (dtX1_fewestWith_1.all fun e => decide (decode mX1_fewestWith.2.1 e.1 = .ok (e.2.1, e.2.2))) = true := by decide +kernel
theorem daX1_fewestWith_1 (j : Nat) {pc n : Nat} {i : Instr} (h : dtX1_fewestWith_1[j]? = some (pc, i, n)) : decode mX1_fewestWith.2.1 pc = .ok (i, n) := dec_of (c := mX1_fewestWith.2.1) ddX1_fewestWith_1 h
def jX1_fewestWith_70 (v0 v3 v4 v5 v6 v7 s0 : Int) (μ : Mm) : Option ((Int × Int × Int × Mm) ⊕ (Int × Mm)) :=
  if v7 = (-1) then
    (fX1_isFewer v6 v3).bind fun r11 =>
    if r11 = 0 then
      some (.inl (v3, v4, w32 (v5 + 1), μ))
    else
      some (.inl (v6, v4, w32 (v5 + 1), μ))
  else
    if s0 = 0 then
      some (.inl (v3, v4, w32 (v5 + 1), μ))
    else
      chk (KD v0 = 1) (
      chk (KD (μ v0 11) = 12 ∧ 0 ≤ LN (μ v0 11) ∧ LN (μ v0 11) < 2147483648) (
      if LN (μ v0 11) ≤ w32 (v4 + 1) then
        some (.inl (v3, v4, w32 (v5 + 1), μ))
      else
        chk (KD (μ v0 10) = 12 ∧ 0 ≤ v7 ∧ v7 < LN (μ v0 10)) (
        chk (0 ≤ v4 ∧ v4 < LN (μ v0 11)) (
        lm (mst μ (μ v0 11) v4 (ior v6 (μ (μ v0 10) v7))) fun μ8 =>
        chk (KD (μ8 v0 11) = 12 ∧ 0 ≤ w32 (v4 + 1) ∧ w32 (v4 + 1) < LN (μ8 v0 11)) (
        lm (mst μ8 (μ8 v0 11) (w32 (v4 + 1)) (ior v6 (ishl 1 v7))) fun μ10 =>
        some (.inl (v3, w32 (v4 + 2), w32 (v5 + 1), μ10)))))))
def jX1_fewestWith_65 (v0 v3 v4 v5 v6 v7 : Int) (μ : Mm) : Option ((Int × Int × Int × Mm) ⊕ (Int × Mm)) :=
  jX1_fewestWith_70 v0 v3 v4 v5 v6 v7 1 μ
def zX1_fewestWith_15 (l : Launch) (F : FI) (v0 : Int) (k n : Nat) : (Int × Int × Int × Mm) ⊕ (Int × Mm) → Prop
  | .inl (v3, v4, v5, μ) => GM l mX1_fewestWith F k n 15 [(0, (3, v0)), (3, (0, v3)), (4, (0, v4)), (5, (0, v5))] [] μ
  | .inr (v3, μ) => GM l mX1_fewestWith F k n 156 [(3, (0, v3))] [] μ
def sX1_fewestWith_15 (v0 : Int) : (Int × Int × Int × Mm) → Option ((Int × Int × Int × Mm) ⊕ (Int × Mm)) := fun (v3, v4, v5, μ) =>
  if 512 ≤ v5 then
    some (.inr (v3, μ))
  else
    if v4 ≤ 0 then
      some (.inr (v3, μ))
    else
      chk (KD v0 = 1) (
      chk (KD (μ v0 11) = 12 ∧ 0 ≤ w32 (v4 + (-1)) ∧ w32 (v4 + (-1)) < LN (μ v0 11)) (
      lt (μ (μ v0 11) (w32 (v4 + (-1)))) fun y17 =>
      (fX1_firstClash v0 y17 μ).bind fun r18 =>
      if v3 = (-1) then
        jX1_fewestWith_65 v0 v3 (w32 (v4 + (-1))) v5 y17 r18 μ
      else
        if ibits v3 ≤ ibits y17 then
          jX1_fewestWith_70 v0 v3 (w32 (v4 + (-1))) v5 y17 r18 0 μ
        else
          jX1_fewestWith_65 v0 v3 (w32 (v4 + (-1))) v5 y17 r18 μ))
def fX1_fewestWith (v0 v1 v2 : Int) (μ : Mm) : Option (Int × Mm) :=
  chk (KD v0 = 1) (
  chk (KD (μ v0 11) = 12 ∧ 0 < LN (μ v0 11)) (
  lm (mst μ (μ v0 11) 0 v1) fun μ23 =>
  (lop (sX1_fewestWith_15 v0) FU (v2, 1, 0, μ23)).bind fun x24 =>
    match x24 with
    | (v3_25, μ_25) =>
      some (v3_25, μ_25)))
set_option maxRecDepth 20000 in
theorem gX1_fewestWith_70 (l : Launch) {F : FI} {v0 v3 v4 v5 v6 v7 s0 : Int} {μ : Mm} {t : ((Int × Int × Int × Mm) ⊕ (Int × Mm))} {k n : Nat} (h : jX1_fewestWith_70 v0 v3 v4 v5 v6 v7 s0 μ = some t) (hK : zX1_fewestWith_15 l F v0 k n t) : GM l mX1_fewestWith F k n 70 [(0, (3, v0)), (3, (0, v3)), (4, (0, v4)), (5, (0, v5)), (6, (0, v6)), (7, (0, v7))] [(0, s0)] μ := by
  unfold jX1_fewestWith_70 at h
  refine GM_istore (L' := [(8, (0, s0)), (0, (3, v0)), (3, (0, v3)), (4, (0, v4)), (5, (0, v5)), (6, (0, v6)), (7, (0, v7))]) (pc := 70) (daX1_fewestWith_0 37 rfl) (Nat.le_of_ble_eq_true rfl) rfl ?_
  refine GM_iload (pc := 72) 6 rfl (daX1_fewestWith_0 38 rfl) ?_
  refine GM_iconst (pc := 74) (-1) (daX1_fewestWith_0 39 rfl) rfl (R32_b rfl) ?_
  refine GM_icmp_ne (pc := 75) 97 (daX1_fewestWith_0 40 rfl) rfl (fun c1 => ?_) (fun c1 => ?_)
  · skip
    rw [if_neg c1] at h
    refine GM_iload (pc := 97) 0 rfl (daX1_fewestWith_0 50 rfl) ?_
    refine GM_if_eq (pc := 99) 150 (daX1_fewestWith_0 51 rfl) rfl (fun c2 => ?_) (fun c2 => ?_)
    · skip
      rw [if_pos c2] at h
      refine GM_iinc (L' := [(5, (0, w32 (v5 + 1))), (8, (0, s0)), (0, (3, v0)), (3, (0, v3)), (4, (0, v4)), (6, (0, v6)), (7, (0, v7))]) (pc := 150) 4 rfl (daX1_fewestWith_1 17 rfl) (Nat.le_of_ble_eq_true rfl) rfl ?_
      refine GM_goto (pc := 153) 15 (daX1_fewestWith_1 18 rfl) rfl ?_
      refine GM_pick [2, 3, 4, 0] rfl ?_
      cases h
      exact hK
    · skip
      rw [if_neg c2] at h
      refine GM_iload (pc := 102) 3 rfl (daX1_fewestWith_0 52 rfl) ?_
      refine GM_iconst (pc := 104) 1 (daX1_fewestWith_0 53 rfl) rfl (R32_b rfl) ?_
      refine GM_iadd (pc := 105) (daX1_fewestWith_0 54 rfl) ?_
      refine GM_aload_n (pc := 106) 1 rfl (daX1_fewestWith_0 55 rfl) rfl ?_
      obtain ⟨hc3, h⟩ := chk_inv h
      refine GM_getf (pc := 107) 1 11 3 11 kf_X1_42 (Nat.le_of_ble_eq_true rfl) (Nat.le_of_ble_eq_true rfl) rfl (daX1_fewestWith_0 56 rfl) hc3 rfl ?_
      obtain ⟨hc4, h⟩ := chk_inv h
      refine GM_ileni (pc := 110) (daX1_fewestWith_0 57 rfl) hc4.1 hc4.2.1 hc4.2.2 ?_
      refine GM_icmp_ge (pc := 111) 150 (daX1_fewestWith_0 58 rfl) rfl (fun c5 => ?_) (fun c5 => ?_)
      · skip
        rw [if_pos c5] at h
        refine GM_iinc (L' := [(5, (0, w32 (v5 + 1))), (8, (0, s0)), (0, (3, v0)), (3, (0, v3)), (4, (0, v4)), (6, (0, v6)), (7, (0, v7))]) (pc := 150) 4 rfl (daX1_fewestWith_1 17 rfl) (Nat.le_of_ble_eq_true rfl) rfl ?_
        refine GM_goto (pc := 153) 15 (daX1_fewestWith_1 18 rfl) rfl ?_
        refine GM_pick [2, 3, 4, 0] rfl ?_
        cases h
        exact hK
      · skip
        rw [if_neg c5] at h
        refine GM_aload_n (pc := 114) 1 rfl (daX1_fewestWith_0 59 rfl) rfl ?_
        refine GM_getf (pc := 115) 1 11 3 11 kf_X1_42 (Nat.le_of_ble_eq_true rfl) (Nat.le_of_ble_eq_true rfl) rfl (daX1_fewestWith_0 60 rfl) hc3 rfl ?_
        refine GM_iload (pc := 118) 3 rfl (daX1_fewestWith_0 61 rfl) ?_
        refine GM_iload (pc := 120) 5 rfl (daX1_fewestWith_0 62 rfl) ?_
        refine GM_aload_n (pc := 122) 1 rfl (daX1_fewestWith_0 63 rfl) rfl ?_
        refine GM_getf (pc := 123) 1 10 3 10 kf_X1_39 (Nat.le_of_ble_eq_true rfl) (Nat.le_of_ble_eq_true rfl) rfl (daX1_fewestWith_1 0 rfl) hc3 rfl ?_
        refine GM_iload (pc := 126) 6 rfl (daX1_fewestWith_1 1 rfl) ?_
        obtain ⟨hc6, h⟩ := chk_inv h
        refine GM_iald (pc := 128) (daX1_fewestWith_1 2 rfl) hc6.1 hc6.2.1 hc6.2.2 ?_
        refine GM_ior (pc := 129) (daX1_fewestWith_1 3 rfl) ?_
        obtain ⟨hc7, h⟩ := chk_inv h
        obtain ⟨μ8, hμ8, h⟩ := lm_inv h
        refine GM_iast (pc := 130) (daX1_fewestWith_1 4 rfl) hc4.1 hc7.1 hc7.2 ?_
        refine GM_mem hμ8 ?_
        refine GM_aload_n (pc := 131) 1 rfl (daX1_fewestWith_1 5 rfl) rfl ?_
        refine GM_getf (pc := 132) 1 11 3 11 kf_X1_42 (Nat.le_of_ble_eq_true rfl) (Nat.le_of_ble_eq_true rfl) rfl (daX1_fewestWith_1 6 rfl) hc3 rfl ?_
        refine GM_iload (pc := 135) 3 rfl (daX1_fewestWith_1 7 rfl) ?_
        refine GM_iconst (pc := 137) 1 (daX1_fewestWith_1 8 rfl) rfl (R32_b rfl) ?_
        refine GM_iadd (pc := 138) (daX1_fewestWith_1 9 rfl) ?_
        refine GM_iload (pc := 139) 5 rfl (daX1_fewestWith_1 10 rfl) ?_
        refine GM_iconst (pc := 141) 1 (daX1_fewestWith_1 11 rfl) rfl (R32_b rfl) ?_
        refine GM_iload (pc := 142) 6 rfl (daX1_fewestWith_1 12 rfl) ?_
        refine GM_ishl (pc := 144) (daX1_fewestWith_1 13 rfl) ?_
        refine GM_ior (pc := 145) (daX1_fewestWith_1 14 rfl) ?_
        obtain ⟨hc9, h⟩ := chk_inv h
        obtain ⟨μ10, hμ10, h⟩ := lm_inv h
        refine GM_iast (pc := 146) (daX1_fewestWith_1 15 rfl) hc9.1 hc9.2.1 hc9.2.2 ?_
        refine GM_mem hμ10 ?_
        refine GM_iinc (L' := [(4, (0, w32 (v4 + 2))), (8, (0, s0)), (0, (3, v0)), (3, (0, v3)), (5, (0, v5)), (6, (0, v6)), (7, (0, v7))]) (pc := 147) 3 rfl (daX1_fewestWith_1 16 rfl) (Nat.le_of_ble_eq_true rfl) rfl ?_
        refine GM_iinc (L' := [(5, (0, w32 (v5 + 1))), (4, (0, w32 (v4 + 2))), (8, (0, s0)), (0, (3, v0)), (3, (0, v3)), (6, (0, v6)), (7, (0, v7))]) (pc := 150) 4 rfl (daX1_fewestWith_1 17 rfl) (Nat.le_of_ble_eq_true rfl) rfl ?_
        refine GM_goto (pc := 153) 15 (daX1_fewestWith_1 18 rfl) rfl ?_
        refine GM_pick [3, 4, 1, 0] rfl ?_
        cases h
        exact hK
  · skip
    rw [if_pos c1] at h
    refine GM_iload (pc := 78) 5 rfl (daX1_fewestWith_0 41 rfl) ?_
    refine GM_iload_n (pc := 80) 2 rfl (daX1_fewestWith_0 42 rfl) rfl ?_
    obtain ⟨r11, hf11, h⟩ := Option.bind_eq_some_iff.mp h
    refine GM_callS0 (pc := 81) [(0, v6), (0, v3)] (tX1_isFewer l hf11) cwX1_isFewer ks_X1_isFewer km_X1_211 ⟨Nat.le_of_ble_eq_true rfl, Nat.le_of_ble_eq_true rfl⟩ (Nat.le_of_ble_eq_true rfl) (Nat.le_of_ble_eq_true rfl) (daX1_fewestWith_0 43 rfl) ?_
    refine GM_if_eq (pc := 84) 92 (daX1_fewestWith_0 44 rfl) rfl (fun c12 => ?_) (fun c12 => ?_)
    · skip
      rw [if_pos c12] at h
      refine GM_iload_n (pc := 92) 2 rfl (daX1_fewestWith_0 47 rfl) rfl ?_
      refine GM_istore_n (L' := [(3, (0, v3)), (8, (0, s0)), (0, (3, v0)), (4, (0, v4)), (5, (0, v5)), (6, (0, v6)), (7, (0, v7))]) (pc := 93) (daX1_fewestWith_0 48 rfl) rfl (Nat.le_of_ble_eq_true rfl) rfl ?_
      refine GM_goto (pc := 94) 150 (daX1_fewestWith_0 49 rfl) rfl ?_
      refine GM_iinc (L' := [(5, (0, w32 (v5 + 1))), (3, (0, v3)), (8, (0, s0)), (0, (3, v0)), (4, (0, v4)), (6, (0, v6)), (7, (0, v7))]) (pc := 150) 4 rfl (daX1_fewestWith_1 17 rfl) (Nat.le_of_ble_eq_true rfl) rfl ?_
      refine GM_goto (pc := 153) 15 (daX1_fewestWith_1 18 rfl) rfl ?_
      refine GM_pick [3, 1, 4, 0] rfl ?_
      cases h
      exact hK
    · skip
      rw [if_neg c12] at h
      refine GM_iload (pc := 87) 5 rfl (daX1_fewestWith_0 45 rfl) ?_
      refine GM_goto (pc := 89) 93 (daX1_fewestWith_0 46 rfl) rfl ?_
      refine GM_istore_n (L' := [(3, (0, v6)), (8, (0, s0)), (0, (3, v0)), (4, (0, v4)), (5, (0, v5)), (6, (0, v6)), (7, (0, v7))]) (pc := 93) (daX1_fewestWith_0 48 rfl) rfl (Nat.le_of_ble_eq_true rfl) rfl ?_
      refine GM_goto (pc := 94) 150 (daX1_fewestWith_0 49 rfl) rfl ?_
      refine GM_iinc (L' := [(5, (0, w32 (v5 + 1))), (3, (0, v6)), (8, (0, s0)), (0, (3, v0)), (4, (0, v4)), (6, (0, v6)), (7, (0, v7))]) (pc := 150) 4 rfl (daX1_fewestWith_1 17 rfl) (Nat.le_of_ble_eq_true rfl) rfl ?_
      refine GM_goto (pc := 153) 15 (daX1_fewestWith_1 18 rfl) rfl ?_
      refine GM_pick [3, 1, 4, 0] rfl ?_
      cases h
      exact hK
set_option maxRecDepth 20000 in
theorem gX1_fewestWith_65 (l : Launch) {F : FI} {v0 v3 v4 v5 v6 v7 : Int} {μ : Mm} {t : ((Int × Int × Int × Mm) ⊕ (Int × Mm))} {k n : Nat} (h : jX1_fewestWith_65 v0 v3 v4 v5 v6 v7 μ = some t) (hK : zX1_fewestWith_15 l F v0 k n t) : GM l mX1_fewestWith F k n 65 [(0, (3, v0)), (3, (0, v3)), (4, (0, v4)), (5, (0, v5)), (6, (0, v6)), (7, (0, v7))] [] μ := by
  unfold jX1_fewestWith_65 at h
  refine GM_iconst (pc := 65) 1 (daX1_fewestWith_0 34 rfl) rfl (R32_b rfl) ?_
  refine GM_goto (pc := 66) 70 (daX1_fewestWith_0 35 rfl) rfl ?_
  exact gX1_fewestWith_70 l h hK
set_option maxRecDepth 20000 in
theorem qX1_fewestWith_15 (l : Launch) (F : FI) (v0 : Int) (k n : Nat) : ∀ (q : (Int × Int × Int × Mm)) (t : ((Int × Int × Int × Mm) ⊕ (Int × Mm))), sX1_fewestWith_15 v0 q = some t → zX1_fewestWith_15 l F v0 k n t → zX1_fewestWith_15 l F v0 k n (.inl q) := by
  intro q t h hK
  obtain ⟨v3, v4, v5, μ⟩ := q
  unfold sX1_fewestWith_15 at h
  try dsimp only at h
  show GM l mX1_fewestWith F k n 15 [(0, (3, v0)), (3, (0, v3)), (4, (0, v4)), (5, (0, v5))] [] μ
  refine GM_iload (pc := 15) 3 rfl (daX1_fewestWith_0 11 rfl) ?_
  refine GM_sipush (pc := 17) 512 (daX1_fewestWith_0 12 rfl) rfl (R32_b rfl) ?_
  refine GM_icmp_ge (pc := 20) 156 (daX1_fewestWith_0 13 rfl) rfl (fun c13 => ?_) (fun c13 => ?_)
  · skip
    rw [if_pos c13] at h
    refine GM_pick [1] rfl ?_
    cases h
    exact hK
  · skip
    rw [if_neg c13] at h
    refine GM_iload (pc := 23) 2 rfl (daX1_fewestWith_0 14 rfl) ?_
    refine GM_if_le (pc := 25) 156 (daX1_fewestWith_0 15 rfl) rfl (fun c14 => ?_) (fun c14 => ?_)
    · skip
      rw [if_pos c14] at h
      refine GM_pick [1] rfl ?_
      cases h
      exact hK
    · skip
      rw [if_neg c14] at h
      refine GM_iinc (L' := [(4, (0, w32 (v4 + (-1)))), (0, (3, v0)), (3, (0, v3)), (5, (0, v5))]) (pc := 28) 2 rfl (daX1_fewestWith_0 16 rfl) (Nat.le_of_ble_eq_true rfl) rfl ?_
      refine GM_aload_n (pc := 31) 1 rfl (daX1_fewestWith_0 17 rfl) rfl ?_
      obtain ⟨hc15, h⟩ := chk_inv h
      refine GM_getf (pc := 32) 1 11 3 11 kf_X1_42 (Nat.le_of_ble_eq_true rfl) (Nat.le_of_ble_eq_true rfl) rfl (daX1_fewestWith_0 18 rfl) hc15 rfl ?_
      refine GM_iload (pc := 35) 0 rfl (daX1_fewestWith_0 19 rfl) ?_
      obtain ⟨hc16, h⟩ := chk_inv h
      refine GM_iald (pc := 37) (daX1_fewestWith_0 20 rfl) hc16.1 hc16.2.1 hc16.2.2 ?_
      obtain ⟨y17, hy17, h⟩ := lt_inv h
      refine GM_top hy17 ?_
      refine GM_istore (L' := [(6, (0, y17)), (4, (0, w32 (v4 + (-1)))), (0, (3, v0)), (3, (0, v3)), (5, (0, v5))]) (pc := 38) (daX1_fewestWith_0 21 rfl) (Nat.le_of_ble_eq_true rfl) rfl ?_
      refine GM_aload_n (pc := 40) 2 rfl (daX1_fewestWith_0 22 rfl) rfl ?_
      refine GM_iload (pc := 41) 0 rfl (daX1_fewestWith_0 23 rfl) ?_
      obtain ⟨r18, hf18, h⟩ := Option.bind_eq_some_iff.mp h
      refine GM_callV0 (pc := 43) [(0, y17)] (tX1_firstClash l hf18) cwX1_firstClash 1 (Nat.le_of_ble_eq_true rfl) rfl kv_X1_firstClash ke_X1_firstClash km_X1_203 hc15 ⟨Nat.le_of_ble_eq_true rfl, Nat.le_of_ble_eq_true rfl⟩ (Nat.le_of_ble_eq_true rfl) (Nat.le_of_ble_eq_true rfl) (daX1_fewestWith_0 24 rfl) ?_
      refine GM_istore (L' := [(7, (0, r18)), (6, (0, y17)), (4, (0, w32 (v4 + (-1)))), (0, (3, v0)), (3, (0, v3)), (5, (0, v5))]) (pc := 46) (daX1_fewestWith_0 25 rfl) (Nat.le_of_ble_eq_true rfl) rfl ?_
      refine GM_iload_n (pc := 48) 4 rfl (daX1_fewestWith_0 26 rfl) rfl ?_
      refine GM_iconst (pc := 49) (-1) (daX1_fewestWith_0 27 rfl) rfl (R32_b rfl) ?_
      refine GM_icmp_eq (pc := 50) 65 (daX1_fewestWith_0 28 rfl) rfl (fun c19 => ?_) (fun c19 => ?_)
      · skip
        rw [if_pos c19] at h
        refine GM_pick [3, 4, 2, 5, 1, 0] rfl ?_
        exact gX1_fewestWith_65 l h hK
      · skip
        rw [if_neg c19] at h
        refine GM_iload (pc := 53) 1 rfl (daX1_fewestWith_0 29 rfl) ?_
        refine GM_callS0 (pc := 55) [(0, y17)] (tJ6_bitCount_0f7a4 l (fJ6_bits_eq y17)) cwJ6_bitCount_0f7a4 ks_J6_bitCount_0f7a4 km_X1_206 ⟨Nat.le_of_ble_eq_true rfl, Nat.le_of_ble_eq_true rfl⟩ (Nat.le_of_ble_eq_true rfl) (Nat.le_of_ble_eq_true rfl) (daX1_fewestWith_0 30 rfl) ?_
        refine GM_iload_n (pc := 58) 4 rfl (daX1_fewestWith_0 31 rfl) rfl ?_
        refine GM_callS0 (pc := 59) [(0, v3)] (tJ6_bitCount_0f7a4 l (fJ6_bits_eq v3)) cwJ6_bitCount_0f7a4 ks_J6_bitCount_0f7a4 km_X1_206 ⟨Nat.le_of_ble_eq_true rfl, Nat.le_of_ble_eq_true rfl⟩ (Nat.le_of_ble_eq_true rfl) (Nat.le_of_ble_eq_true rfl) (daX1_fewestWith_0 32 rfl) ?_
        refine GM_icmp_ge (pc := 62) 69 (daX1_fewestWith_0 33 rfl) rfl (fun c20 => ?_) (fun c20 => ?_)
        · skip
          rw [if_pos c20] at h
          refine GM_iconst (pc := 69) 0 (daX1_fewestWith_0 36 rfl) rfl (R32_b rfl) ?_
          refine GM_pick [3, 4, 2, 5, 1, 0] rfl ?_
          exact gX1_fewestWith_70 l h hK
        · skip
          rw [if_neg c20] at h
          refine GM_pick [3, 4, 2, 5, 1, 0] rfl ?_
          exact gX1_fewestWith_65 l h hK
set_option maxRecDepth 20000 in
theorem gX1_fewestWith_0 (l : Launch) {F : FI} {v0 v1 v2 : Int} {μ : Mm} {t : (Int × Mm)} (h : fX1_fewestWith v0 v1 v2 μ = some t) (hK : F.1 = [(0, t.1)] ∧ F.2.1 = t.2) : GM l mX1_fewestWith F 0 0 0 [(0, (3, v0)), (1, (0, v1)), (2, (0, v2))] [] μ := by
  unfold fX1_fewestWith at h
  refine GM_iload_n (pc := 0) 2 rfl (daX1_fewestWith_0 0 rfl) rfl ?_
  refine GM_istore_n (L' := [(3, (0, v2)), (0, (3, v0)), (1, (0, v1)), (2, (0, v2))]) (pc := 1) (daX1_fewestWith_0 1 rfl) rfl (Nat.le_of_ble_eq_true rfl) rfl ?_
  refine GM_iconst (pc := 2) 1 (daX1_fewestWith_0 2 rfl) rfl (R32_b rfl) ?_
  refine GM_istore (L' := [(4, (0, 1)), (3, (0, v2)), (0, (3, v0)), (1, (0, v1)), (2, (0, v2))]) (pc := 3) (daX1_fewestWith_0 3 rfl) (Nat.le_of_ble_eq_true rfl) rfl ?_
  refine GM_aload_n (pc := 5) 2 rfl (daX1_fewestWith_0 4 rfl) rfl ?_
  obtain ⟨hc21, h⟩ := chk_inv h
  refine GM_getf (pc := 6) 1 11 3 11 kf_X1_42 (Nat.le_of_ble_eq_true rfl) (Nat.le_of_ble_eq_true rfl) rfl (daX1_fewestWith_0 5 rfl) hc21 rfl ?_
  refine GM_iconst (pc := 9) 0 (daX1_fewestWith_0 6 rfl) rfl (R32_b rfl) ?_
  refine GM_iload_n (pc := 10) 3 rfl (daX1_fewestWith_0 7 rfl) rfl ?_
  obtain ⟨hc22, h⟩ := chk_inv h
  obtain ⟨μ23, hμ23, h⟩ := lm_inv h
  refine GM_iast (pc := 11) (daX1_fewestWith_0 8 rfl) hc22.1 (by decide) hc22.2 ?_
  refine GM_mem hμ23 ?_
  refine GM_iconst (pc := 12) 0 (daX1_fewestWith_0 9 rfl) rfl (R32_b rfl) ?_
  refine GM_istore (L' := [(5, (0, 0)), (4, (0, 1)), (3, (0, v2)), (0, (3, v0)), (1, (0, v1)), (2, (0, v2))]) (pc := 13) (daX1_fewestWith_0 10 rfl) (Nat.le_of_ble_eq_true rfl) rfl ?_
  refine GM_pick [3, 2, 1, 0] rfl ?_
  obtain ⟨x24, hqx24, h⟩ := Option.bind_eq_some_iff.mp h
  refine lop_ind (zX1_fewestWith_15 l F v0 0 0) (qX1_fewestWith_15 l F v0 0 0) FU _ x24 hqx24 ?_
  obtain ⟨v3_25, μ_25⟩ := x24
  dsimp only at h
  show GM l mX1_fewestWith F 0 0 156 [(3, (0, v3_25))] [] μ_25
  refine GM_iload_n (pc := 156) 0 rfl (daX1_fewestWith_1 19 rfl) rfl ?_
  cases h
  exact GM_iret (pc := 157) (daX1_fewestWith_1 20 rfl) rfl hK
theorem tX1_fewestWith (l : Launch) {v0 v1 v2 : Int} {μ : Mm} {t : (Int × Mm)} (h : fX1_fewestWith v0 v1 v2 μ = some t) : Ct l yX1_fewestWith mX1_fewestWith [(3, v0), (0, v1), (0, v2)] μ ([(0, t.1)], t.2, 0, 0) :=
  Ct_of (by decide +kernel) rfl rfl (Nat.le_of_ble_eq_true rfl) (fun _ _ _ => trivial) (gX1_fewestWith_0 l h ⟨rfl, rfl⟩)
def mX1_doubted : MI := (RX1, cX1_doubted, 6, (some .int), "doubted", 4, 98, fun _ _ _ => True)
theorem cwX1_doubted : CWd yX1_doubted mX1_doubted 1 := ⟨ki_X1, kk_X1_doubted, ⟨by decide, by decide⟩, rfl⟩
def dtX1_doubted_0 : List (Nat × Instr × Nat) := [(0, .iload_n 1, 1), (1, .istore_n 2, 1), (2, .iconst 0, 1), (3, .istore_n 3, 1), (4, .iload_n 3, 1), (5, .aload_n 0, 1), (6, .getfield 28, 3), (9, .getfield 94, 3), (12, .if_icmp .ge 71, 3), (15, .aload_n 0, 1), (16, .invokevirtual 98, 3), (19, .ifCond .eq 64, 3), (22, .iload_n 2, 1), (23, .ifCond .eq 60, 3), (26, .aload_n 0, 1), (27, .iload_n 3, 1), (28, .invokevirtual 190, 3), (31, .aload_n 0, 1), (32, .invokevirtual 193, 3), (35, .istore 4, 2), (37, .aload_n 0, 1), (38, .getfield 81, 3), (41, .istore 5, 2), (43, .iload 5, 2), (45, .aload_n 0, 1), (46, .getfield 84, 3), (49, .if_icmp .gt 28, 3), (52, .aload_n 0, 1), (53, .iload 4, 2), (55, .aload_n 0, 1), (56, .aload_n 0, 1), (57, .iload 5, 2), (59, .invokevirtual 87, 3), (62, .invokevirtual 197, 3), (65, .ior, 1), (66, .iload_n 2, 1), (67, .invokevirtual 200, 3), (70, .istore_n 2, 1), (71, .iinc 5 1, 3), (74, .goto (-31), 3), (77, .iinc 3 1, 3), (80, .goto (-76), 3), (83, .iload_n 2, 1), (84, .ireturn, 1)]
theorem ddX1_doubted_0 : (dtX1_doubted_0.all fun e => decide (decode mX1_doubted.2.1 e.1 = .ok (e.2.1, e.2.2))) = true := by decide +kernel
theorem daX1_doubted_0 (j : Nat) {pc n : Nat} {i : Instr} (h : dtX1_doubted_0[j]? = some (pc, i, n)) : decode mX1_doubted.2.1 pc = .ok (i, n) := dec_of (c := mX1_doubted.2.1) ddX1_doubted_0 h
def zX1_doubted_43 (l : Launch) (F : FI) (v0 v3 v4 : Int) (k n : Nat) : (Int × Int × Mm) ⊕ (Int × Mm) → Prop
  | .inl (v2, v5, μ) => GM l mX1_doubted F k n 43 [(0, (3, v0)), (2, (0, v2)), (3, (0, v3)), (4, (0, v4)), (5, (0, v5))] [] μ
  | .inr (v2, μ) => GM l mX1_doubted F k n 77 [(0, (3, v0)), (2, (0, v2)), (3, (0, v3))] [] μ
def sX1_doubted_43 (v0 v3 v4 : Int) : (Int × Int × Mm) → Option ((Int × Int × Mm) ⊕ (Int × Mm)) := fun (v2, v5, μ) =>
  chk (KD v0 = 1) (
  if μ v0 6 < v5 then
    some (.inr (v2, μ))
  else
    (fX1_yearFrom v0 v5 μ).bind fun r3 =>
    (fX1_withoutTower v0 r3 μ).bind fun r4 =>
    (fX1_fewestWith v0 (ior v4 r4) v2 μ).bind fun (r5, μ5) =>
    some (.inl (r5, w32 (v5 + 1), μ5)))
def zX1_doubted_4 (l : Launch) (F : FI) (v0 : Int) (k n : Nat) : (Int × Int × Mm) ⊕ (Int × Mm) → Prop
  | .inl (v2, v3, μ) => GM l mX1_doubted F k n 4 [(0, (3, v0)), (2, (0, v2)), (3, (0, v3))] [] μ
  | .inr (v2, μ) => GM l mX1_doubted F k n 83 [(2, (0, v2))] [] μ
def sX1_doubted_4 (v0 : Int) : (Int × Int × Mm) → Option ((Int × Int × Mm) ⊕ (Int × Mm)) := fun (v2, v3, μ) =>
  chk (KD v0 = 1) (
  chk (KD (μ v0 2) = 7) (
  if μ (μ v0 2) 2 ≤ v3 then
    some (.inr (v2, μ))
  else
    (fX1_canBe v0 μ).bind fun r9 =>
    if r9 = 0 then
      some (.inr (v2, μ))
    else
      if v2 = 0 then
        some (.inr (v2, μ))
      else
        (fX1_stand v0 v3 μ).bind fun μ12 =>
        (fX1_findClashes v0 μ12).bind fun (r13, μ13) =>
        (lop (sX1_doubted_43 v0 v3 r13) FU (v2, μ13 v0 5, μ13)).bind fun x14 =>
          match x14 with
          | (v2_15, μ_15) =>
            some (.inl (v2_15, w32 (v3 + 1), μ_15))))
def fX1_doubted (v0 v1 : Int) (μ : Mm) : Option (Int × Mm) :=
  (lop (sX1_doubted_4 v0) FU (v1, 0, μ)).bind fun x16 =>
    match x16 with
    | (v2_17, μ_17) =>
      some (v2_17, μ_17)
set_option maxRecDepth 20000 in
theorem qX1_doubted_43 (l : Launch) (F : FI) (v0 v3 v4 : Int) (k n : Nat) : ∀ (q : (Int × Int × Mm)) (t : ((Int × Int × Mm) ⊕ (Int × Mm))), sX1_doubted_43 v0 v3 v4 q = some t → zX1_doubted_43 l F v0 v3 v4 k n t → zX1_doubted_43 l F v0 v3 v4 k n (.inl q) := by
  intro q t h hK
  obtain ⟨v2, v5, μ⟩ := q
  unfold sX1_doubted_43 at h
  try dsimp only at h
  show GM l mX1_doubted F k n 43 [(0, (3, v0)), (2, (0, v2)), (3, (0, v3)), (4, (0, v4)), (5, (0, v5))] [] μ
  refine GM_iload (pc := 43) 4 rfl (daX1_doubted_0 23 rfl) ?_
  refine GM_aload_n (pc := 45) 0 rfl (daX1_doubted_0 24 rfl) rfl ?_
  obtain ⟨hc1, h⟩ := chk_inv h
  refine GM_getf (pc := 46) 1 6 0 6 kf_X1_84 (Nat.le_of_ble_eq_true rfl) (Nat.le_of_ble_eq_true rfl) rfl (daX1_doubted_0 25 rfl) hc1 rfl ?_
  refine GM_icmp_gt (pc := 49) 77 (daX1_doubted_0 26 rfl) rfl (fun c2 => ?_) (fun c2 => ?_)
  · skip
    rw [if_pos c2] at h
    refine GM_pick [0, 1, 2] rfl ?_
    cases h
    exact hK
  · skip
    rw [if_neg c2] at h
    refine GM_aload_n (pc := 52) 0 rfl (daX1_doubted_0 27 rfl) rfl ?_
    refine GM_iload (pc := 53) 3 rfl (daX1_doubted_0 28 rfl) ?_
    refine GM_aload_n (pc := 55) 0 rfl (daX1_doubted_0 29 rfl) rfl ?_
    refine GM_aload_n (pc := 56) 0 rfl (daX1_doubted_0 30 rfl) rfl ?_
    refine GM_iload (pc := 57) 4 rfl (daX1_doubted_0 31 rfl) ?_
    obtain ⟨r3, hf3, h⟩ := Option.bind_eq_some_iff.mp h
    refine GM_callV0 (pc := 59) [(0, v5)] (tX1_yearFrom l hf3) cwX1_yearFrom 1 (Nat.le_of_ble_eq_true rfl) rfl kv_X1_yearFrom ke_X1_yearFrom km_X1_87 hc1 ⟨Nat.le_of_ble_eq_true rfl, Nat.le_of_ble_eq_true rfl⟩ (Nat.le_of_ble_eq_true rfl) (Nat.le_of_ble_eq_true rfl) (daX1_doubted_0 32 rfl) ?_
    obtain ⟨r4, hf4, h⟩ := Option.bind_eq_some_iff.mp h
    refine GM_callV0 (pc := 62) [(0, r3)] (tX1_withoutTower l hf4) cwX1_withoutTower 1 (Nat.le_of_ble_eq_true rfl) rfl kv_X1_withoutTower ke_X1_withoutTower km_X1_197 hc1 ⟨Nat.le_of_ble_eq_true rfl, Nat.le_of_ble_eq_true rfl⟩ (Nat.le_of_ble_eq_true rfl) (Nat.le_of_ble_eq_true rfl) (daX1_doubted_0 33 rfl) ?_
    refine GM_ior (pc := 65) (daX1_doubted_0 34 rfl) ?_
    refine GM_iload_n (pc := 66) 1 rfl (daX1_doubted_0 35 rfl) rfl ?_
    obtain ⟨⟨r5, μ5⟩, hf5, h⟩ := Option.bind_eq_some_iff.mp h
    dsimp only at h
    refine GM_callV0 (pc := 67) [(0, ior v4 r4), (0, v2)] (tX1_fewestWith l hf5) cwX1_fewestWith 1 (Nat.le_of_ble_eq_true rfl) rfl kv_X1_fewestWith ke_X1_fewestWith km_X1_200 hc1 ⟨Nat.le_of_ble_eq_true rfl, Nat.le_of_ble_eq_true rfl⟩ (Nat.le_of_ble_eq_true rfl) (Nat.le_of_ble_eq_true rfl) (daX1_doubted_0 36 rfl) ?_
    refine GM_istore_n (L' := [(2, (0, r5)), (0, (3, v0)), (3, (0, v3)), (4, (0, v4)), (5, (0, v5))]) (pc := 70) (daX1_doubted_0 37 rfl) rfl (Nat.le_of_ble_eq_true rfl) rfl ?_
    refine GM_iinc (L' := [(5, (0, w32 (v5 + 1))), (2, (0, r5)), (0, (3, v0)), (3, (0, v3)), (4, (0, v4))]) (pc := 71) 4 rfl (daX1_doubted_0 38 rfl) (Nat.le_of_ble_eq_true rfl) rfl ?_
    refine GM_goto (pc := 74) 43 (daX1_doubted_0 39 rfl) rfl ?_
    refine GM_pick [2, 1, 3, 4, 0] rfl ?_
    cases h
    exact hK
set_option maxRecDepth 20000 in
theorem qX1_doubted_4 (l : Launch) (F : FI) (v0 : Int) (k n : Nat) : ∀ (q : (Int × Int × Mm)) (t : ((Int × Int × Mm) ⊕ (Int × Mm))), sX1_doubted_4 v0 q = some t → zX1_doubted_4 l F v0 k n t → zX1_doubted_4 l F v0 k n (.inl q) := by
  intro q t h hK
  obtain ⟨v2, v3, μ⟩ := q
  unfold sX1_doubted_4 at h
  try dsimp only at h
  show GM l mX1_doubted F k n 4 [(0, (3, v0)), (2, (0, v2)), (3, (0, v3))] [] μ
  refine GM_iload_n (pc := 4) 2 rfl (daX1_doubted_0 4 rfl) rfl ?_
  refine GM_aload_n (pc := 5) 0 rfl (daX1_doubted_0 5 rfl) rfl ?_
  obtain ⟨hc6, h⟩ := chk_inv h
  refine GM_getf (pc := 6) 1 2 3 2 kf_X1_28 (Nat.le_of_ble_eq_true rfl) (Nat.le_of_ble_eq_true rfl) rfl (daX1_doubted_0 6 rfl) hc6 rfl ?_
  obtain ⟨hc7, h⟩ := chk_inv h
  refine GM_getf (pc := 9) 7 2 0 2 kf_X1_94 (Nat.le_of_ble_eq_true rfl) (Nat.le_of_ble_eq_true rfl) rfl (daX1_doubted_0 7 rfl) hc7 rfl ?_
  refine GM_icmp_ge (pc := 12) 83 (daX1_doubted_0 8 rfl) rfl (fun c8 => ?_) (fun c8 => ?_)
  · skip
    rw [if_pos c8] at h
    refine GM_pick [1] rfl ?_
    cases h
    exact hK
  · skip
    rw [if_neg c8] at h
    refine GM_aload_n (pc := 15) 0 rfl (daX1_doubted_0 9 rfl) rfl ?_
    obtain ⟨r9, hf9, h⟩ := Option.bind_eq_some_iff.mp h
    refine GM_callV0 (pc := 16) [] (tX1_canBe l hf9) cwX1_canBe 1 (Nat.le_of_ble_eq_true rfl) rfl kv_X1_canBe ke_X1_canBe km_X1_98 hc6 ⟨Nat.le_of_ble_eq_true rfl, Nat.le_of_ble_eq_true rfl⟩ (Nat.le_of_ble_eq_true rfl) (Nat.le_of_ble_eq_true rfl) (daX1_doubted_0 10 rfl) ?_
    refine GM_if_eq (pc := 19) 83 (daX1_doubted_0 11 rfl) rfl (fun c10 => ?_) (fun c10 => ?_)
    · skip
      rw [if_pos c10] at h
      refine GM_pick [1] rfl ?_
      cases h
      exact hK
    · skip
      rw [if_neg c10] at h
      refine GM_iload_n (pc := 22) 1 rfl (daX1_doubted_0 12 rfl) rfl ?_
      refine GM_if_eq (pc := 23) 83 (daX1_doubted_0 13 rfl) rfl (fun c11 => ?_) (fun c11 => ?_)
      · skip
        rw [if_pos c11] at h
        refine GM_pick [1] rfl ?_
        cases h
        exact hK
      · skip
        rw [if_neg c11] at h
        refine GM_aload_n (pc := 26) 0 rfl (daX1_doubted_0 14 rfl) rfl ?_
        refine GM_iload_n (pc := 27) 2 rfl (daX1_doubted_0 15 rfl) rfl ?_
        obtain ⟨μ12, hf12, h⟩ := Option.bind_eq_some_iff.mp h
        refine GM_callV0 (pc := 28) [(0, v3)] (tX1_stand l hf12) cwX1_stand 1 (Nat.le_of_ble_eq_true rfl) rfl kv_X1_stand ke_X1_stand km_X1_190 hc6 ⟨Nat.le_of_ble_eq_true rfl, Nat.le_of_ble_eq_true rfl⟩ (Nat.le_of_ble_eq_true rfl) (Nat.le_of_ble_eq_true rfl) (daX1_doubted_0 16 rfl) ?_
        refine GM_aload_n (pc := 31) 0 rfl (daX1_doubted_0 17 rfl) rfl ?_
        obtain ⟨⟨r13, μ13⟩, hf13, h⟩ := Option.bind_eq_some_iff.mp h
        dsimp only at h
        refine GM_callV0 (pc := 32) [] (tX1_findClashes l hf13) cwX1_findClashes 1 (Nat.le_of_ble_eq_true rfl) rfl kv_X1_findClashes ke_X1_findClashes km_X1_193 hc6 ⟨Nat.le_of_ble_eq_true rfl, Nat.le_of_ble_eq_true rfl⟩ (Nat.le_of_ble_eq_true rfl) (Nat.le_of_ble_eq_true rfl) (daX1_doubted_0 18 rfl) ?_
        refine GM_istore (L' := [(4, (0, r13)), (0, (3, v0)), (2, (0, v2)), (3, (0, v3))]) (pc := 35) (daX1_doubted_0 19 rfl) (Nat.le_of_ble_eq_true rfl) rfl ?_
        refine GM_aload_n (pc := 37) 1 rfl (daX1_doubted_0 20 rfl) rfl ?_
        refine GM_getf (pc := 38) 1 5 0 5 kf_X1_81 (Nat.le_of_ble_eq_true rfl) (Nat.le_of_ble_eq_true rfl) rfl (daX1_doubted_0 21 rfl) hc6 rfl ?_
        refine GM_istore (L' := [(5, (0, μ13 v0 5)), (4, (0, r13)), (0, (3, v0)), (2, (0, v2)), (3, (0, v3))]) (pc := 41) (daX1_doubted_0 22 rfl) (Nat.le_of_ble_eq_true rfl) rfl ?_
        refine GM_pick [2, 3, 4, 1, 0] rfl ?_
        obtain ⟨x14, hqx14, h⟩ := Option.bind_eq_some_iff.mp h
        refine lop_ind (zX1_doubted_43 l F v0 v3 r13 k n) (qX1_doubted_43 l F v0 v3 r13 k n) FU _ x14 hqx14 ?_
        obtain ⟨v2_15, μ_15⟩ := x14
        dsimp only at h
        show GM l mX1_doubted F k n 77 [(0, (3, v0)), (2, (0, v2_15)), (3, (0, v3))] [] μ_15
        refine GM_iinc (L' := [(3, (0, w32 (v3 + 1))), (0, (3, v0)), (2, (0, v2_15))]) (pc := 77) 2 rfl (daX1_doubted_0 40 rfl) (Nat.le_of_ble_eq_true rfl) rfl ?_
        refine GM_goto (pc := 80) 4 (daX1_doubted_0 41 rfl) rfl ?_
        refine GM_pick [1, 2, 0] rfl ?_
        cases h
        exact hK
set_option maxRecDepth 20000 in
theorem gX1_doubted_0 (l : Launch) {F : FI} {v0 v1 : Int} {μ : Mm} {t : (Int × Mm)} (h : fX1_doubted v0 v1 μ = some t) (hK : F.1 = [(0, t.1)] ∧ F.2.1 = t.2) : GM l mX1_doubted F 0 0 0 [(0, (3, v0)), (1, (0, v1))] [] μ := by
  unfold fX1_doubted at h
  refine GM_iload_n (pc := 0) 1 rfl (daX1_doubted_0 0 rfl) rfl ?_
  refine GM_istore_n (L' := [(2, (0, v1)), (0, (3, v0)), (1, (0, v1))]) (pc := 1) (daX1_doubted_0 1 rfl) rfl (Nat.le_of_ble_eq_true rfl) rfl ?_
  refine GM_iconst (pc := 2) 0 (daX1_doubted_0 2 rfl) rfl (R32_b rfl) ?_
  refine GM_istore_n (L' := [(3, (0, 0)), (2, (0, v1)), (0, (3, v0)), (1, (0, v1))]) (pc := 3) (daX1_doubted_0 3 rfl) rfl (Nat.le_of_ble_eq_true rfl) rfl ?_
  refine GM_pick [2, 1, 0] rfl ?_
  obtain ⟨x16, hqx16, h⟩ := Option.bind_eq_some_iff.mp h
  refine lop_ind (zX1_doubted_4 l F v0 0 0) (qX1_doubted_4 l F v0 0 0) FU _ x16 hqx16 ?_
  obtain ⟨v2_17, μ_17⟩ := x16
  dsimp only at h
  show GM l mX1_doubted F 0 0 83 [(2, (0, v2_17))] [] μ_17
  refine GM_iload_n (pc := 83) 0 rfl (daX1_doubted_0 42 rfl) rfl ?_
  cases h
  exact GM_iret (pc := 84) (daX1_doubted_0 43 rfl) rfl hK
theorem tX1_doubted (l : Launch) {v0 v1 : Int} {μ : Mm} {t : (Int × Mm)} (h : fX1_doubted v0 v1 μ = some t) : Ct l yX1_doubted mX1_doubted [(3, v0), (0, v1)] μ ([(0, t.1)], t.2, 0, 0) :=
  Ct_of (by decide +kernel) rfl rfl (Nat.le_of_ble_eq_true rfl) (fun _ _ _ => trivial) (gX1_doubted_0 l h ⟨rfl, rfl⟩)
def mX1_commonDivisor : MI := (RX1, cX1_commonDivisor, 11, (some .long), "commonDivisor", 0, 0, fun _ _ _ => True)
theorem cwX1_commonDivisor : CWd yX1_commonDivisor mX1_commonDivisor 2 := ⟨ki_X1, kk_X1_commonDivisor, ⟨by decide, by decide⟩, rfl⟩
def dtX1_commonDivisor_0 : List (Nat × Instr × Nat) := [(0, .lload_n 0, 1), (1, .lstore 4, 2), (3, .lload_n 2, 1), (4, .lstore 6, 2), (6, .iconst 0, 1), (7, .istore 8, 2), (9, .iload 8, 2), (11, .bipush 64, 2), (13, .if_icmp .ge 31, 3), (16, .lload 6, 2), (18, .lconst 0, 1), (19, .lcmp, 1), (20, .ifCond .eq 24, 3), (23, .lload 4, 2), (25, .lload 6, 2), (27, .lrem, 1), (28, .lstore 9, 2), (30, .lload 6, 2), (32, .lstore 4, 2), (34, .lload 9, 2), (36, .lstore 6, 2), (38, .iinc 8 1, 3), (41, .goto (-32), 3), (44, .lload 4, 2), (46, .lreturn, 1)]
theorem ddX1_commonDivisor_0 : (dtX1_commonDivisor_0.all fun e => decide (decode mX1_commonDivisor.2.1 e.1 = .ok (e.2.1, e.2.2))) = true := by decide +kernel
theorem daX1_commonDivisor_0 (j : Nat) {pc n : Nat} {i : Instr} (h : dtX1_commonDivisor_0[j]? = some (pc, i, n)) : decode mX1_commonDivisor.2.1 pc = .ok (i, n) := dec_of (c := mX1_commonDivisor.2.1) ddX1_commonDivisor_0 h
def zX1_commonDivisor_9 (l : Launch) (F : FI) (μ : Mm) (k n : Nat) : (Int × Int × Int) ⊕ Int → Prop
  | .inl (v4, v6, v8) => GM l mX1_commonDivisor F k n 9 [(4, (2, v4)), (6, (2, v6)), (8, (0, v8))] [] μ
  | .inr v4 => GM l mX1_commonDivisor F k n 44 [(4, (2, v4))] [] μ
def sX1_commonDivisor_9 : (Int × Int × Int) → Option ((Int × Int × Int) ⊕ Int) := fun (v4, v6, v8) =>
  if 64 ≤ v8 then
    some (.inr v4)
  else
    if v6 = 0 then
      some (.inr v4)
    else
      chk (v6 ≠ 0) (
      some (.inl (v6, v4.tmod v6, w32 (v8 + 1))))
def fX1_commonDivisor (v0 v2 : Int) : Option Int :=
  (lop (sX1_commonDivisor_9) FU (v0, v2, 0)).bind fun v4_5 =>
    some v4_5
set_option maxRecDepth 20000 in
theorem qX1_commonDivisor_9 (l : Launch) (F : FI) (μ : Mm) (k n : Nat) : ∀ (q : (Int × Int × Int)) (t : ((Int × Int × Int) ⊕ Int)), sX1_commonDivisor_9 q = some t → zX1_commonDivisor_9 l F μ k n t → zX1_commonDivisor_9 l F μ k n (.inl q) := by
  intro q t h hK
  obtain ⟨v4, v6, v8⟩ := q
  unfold sX1_commonDivisor_9 at h
  try dsimp only at h
  show GM l mX1_commonDivisor F k n 9 [(4, (2, v4)), (6, (2, v6)), (8, (0, v8))] [] μ
  refine GM_iload (pc := 9) 2 rfl (daX1_commonDivisor_0 6 rfl) ?_
  refine GM_bipush (pc := 11) 64 (daX1_commonDivisor_0 7 rfl) rfl (R32_b rfl) ?_
  refine GM_icmp_ge (pc := 13) 44 (daX1_commonDivisor_0 8 rfl) rfl (fun c1 => ?_) (fun c1 => ?_)
  · skip
    rw [if_pos c1] at h
    refine GM_pick [0] rfl ?_
    cases h
    exact hK
  · skip
    rw [if_neg c1] at h
    refine GM_lload (pc := 16) 1 rfl (daX1_commonDivisor_0 9 rfl) ?_
    refine GM_lconst (pc := 18) 0 (daX1_commonDivisor_0 10 rfl) rfl (R64_b rfl) ?_
    refine GM_lcmp (pc := 19) (daX1_commonDivisor_0 11 rfl) ?_
    refine GM_if_eq (pc := 20) 44 (daX1_commonDivisor_0 12 rfl) rfl (fun c2 => ?_) (fun c2 => ?_)
    · skip
      have c2 := lcmp_eq.mp c2
      rw [if_pos c2] at h
      refine GM_pick [0] rfl ?_
      cases h
      exact hK
    · skip
      have c2 := (not_congr lcmp_eq).mp c2
      rw [if_neg c2] at h
      refine GM_lload (pc := 23) 0 rfl (daX1_commonDivisor_0 13 rfl) ?_
      refine GM_lload (pc := 25) 1 rfl (daX1_commonDivisor_0 14 rfl) ?_
      obtain ⟨hc3, h⟩ := chk_inv h
      refine GM_lrem (pc := 27) (daX1_commonDivisor_0 15 rfl) hc3 ?_
      refine GM_lstore (L' := [(9, (2, v4.tmod v6)), (4, (2, v4)), (6, (2, v6)), (8, (0, v8))]) (pc := 28) (daX1_commonDivisor_0 16 rfl) (Nat.le_of_ble_eq_true rfl) rfl ?_
      refine GM_lload (pc := 30) 2 rfl (daX1_commonDivisor_0 17 rfl) ?_
      refine GM_lstore (L' := [(4, (2, v6)), (9, (2, v4.tmod v6)), (6, (2, v6)), (8, (0, v8))]) (pc := 32) (daX1_commonDivisor_0 18 rfl) (Nat.le_of_ble_eq_true rfl) rfl ?_
      refine GM_lload (pc := 34) 1 rfl (daX1_commonDivisor_0 19 rfl) ?_
      refine GM_lstore (L' := [(6, (2, v4.tmod v6)), (4, (2, v6)), (9, (2, v4.tmod v6)), (8, (0, v8))]) (pc := 36) (daX1_commonDivisor_0 20 rfl) (Nat.le_of_ble_eq_true rfl) rfl ?_
      refine GM_iinc (L' := [(8, (0, w32 (v8 + 1))), (6, (2, v4.tmod v6)), (4, (2, v6)), (9, (2, v4.tmod v6))]) (pc := 38) 3 rfl (daX1_commonDivisor_0 21 rfl) (Nat.le_of_ble_eq_true rfl) rfl ?_
      refine GM_goto (pc := 41) 9 (daX1_commonDivisor_0 22 rfl) rfl ?_
      refine GM_pick [2, 1, 0] rfl ?_
      cases h
      exact hK
set_option maxRecDepth 20000 in
theorem gX1_commonDivisor_0 (l : Launch) {F : FI} {v0 v2 : Int} {μ : Mm} {t : Int} (h : fX1_commonDivisor v0 v2 = some t) (hK : F.1 = [(2, t)] ∧ F.2.1 = μ) : GM l mX1_commonDivisor F 0 0 0 [(0, (2, v0)), (2, (2, v2))] [] μ := by
  unfold fX1_commonDivisor at h
  refine GM_lload_n (pc := 0) 0 rfl (daX1_commonDivisor_0 0 rfl) rfl ?_
  refine GM_lstore (L' := [(4, (2, v0)), (0, (2, v0)), (2, (2, v2))]) (pc := 1) (daX1_commonDivisor_0 1 rfl) (Nat.le_of_ble_eq_true rfl) rfl ?_
  refine GM_lload_n (pc := 3) 2 rfl (daX1_commonDivisor_0 2 rfl) rfl ?_
  refine GM_lstore (L' := [(6, (2, v2)), (4, (2, v0)), (0, (2, v0)), (2, (2, v2))]) (pc := 4) (daX1_commonDivisor_0 3 rfl) (Nat.le_of_ble_eq_true rfl) rfl ?_
  refine GM_iconst (pc := 6) 0 (daX1_commonDivisor_0 4 rfl) rfl (R32_b rfl) ?_
  refine GM_istore (L' := [(8, (0, 0)), (6, (2, v2)), (4, (2, v0)), (0, (2, v0)), (2, (2, v2))]) (pc := 7) (daX1_commonDivisor_0 5 rfl) (Nat.le_of_ble_eq_true rfl) rfl ?_
  refine GM_pick [2, 1, 0] rfl ?_
  obtain ⟨x4, hqx4, h⟩ := Option.bind_eq_some_iff.mp h
  refine lop_ind (zX1_commonDivisor_9 l F μ 0 0) (qX1_commonDivisor_9 l F μ 0 0) FU _ x4 hqx4 ?_
  obtain ⟨v4_5, hqq⟩ : ∃ z, z = x4 := ⟨x4, rfl⟩
  subst hqq
  show GM l mX1_commonDivisor F 0 0 44 [(4, (2, v4_5))] [] μ
  refine GM_lload (pc := 44) 0 rfl (daX1_commonDivisor_0 23 rfl) ?_
  cases h
  exact GM_lret (pc := 46) (daX1_commonDivisor_0 24 rfl) rfl hK
theorem tX1_commonDivisor (l : Launch) {v0 v2 : Int} {μ : Mm} {t : Int} (h : fX1_commonDivisor v0 v2 = some t) : Ct l yX1_commonDivisor mX1_commonDivisor [(2, v0), (2, v2)] μ ([(2, t)], μ, 0, 0) :=
  Ct_of (by decide +kernel) rfl rfl (Nat.le_of_ble_eq_true rfl) (fun _ _ _ => trivial) (gX1_commonDivisor_0 l h ⟨rfl, rfl⟩)
def mX1_stretched : MI := (RX1, cX1_stretched, 16, (some .int), "stretched", 4, 88, fun _ _ _ => True)
theorem cwX1_stretched : CWd yX1_stretched mX1_stretched 3 := ⟨ki_X1, kk_X1_stretched, ⟨by decide, by decide⟩, rfl⟩
def dtX1_stretched_0 : List (Nat × Instr × Nat) := [(0, .aload_n 0, 1), (1, .iload_n 1, 1), (2, .invokevirtual 190, 3), (5, .lconst 0, 1), (6, .lstore 4, 2), (8, .lconst 0, 1), (9, .lstore 6, 2), (11, .iconst 0, 1), (12, .istore 8, 2), (14, .iload 8, 2), (16, .aload_n 0, 1), (17, .getfield 21, 3), (20, .getfield 91, 3), (23, .if_icmp .ge 149, 3), (26, .iload 8, 2), (28, .bipush 12, 2), (30, .if_icmp .ge 142, 3), (33, .aload_n 0, 1), (34, .getfield 36, 3), (37, .iload 8, 2), (39, .iaload, 1), (40, .istore 9, 2), (42, .iload 9, 2), (44, .ifCond .lt 122, 3), (47, .iload 9, 2), (49, .bipush 90, 2), (51, .if_icmp .ge 115, 3), (54, .aload_n 0, 1), (55, .getfield 28, 3), (58, .getfield 161, 3), (61, .iload 9, 2), (63, .iaload, 1), (64, .ifCond .le 102, 3), (67, .aload_n 0, 1), (68, .getfield 21, 3), (71, .getfield 145, 3), (74, .iload 8, 2), (76, .iaload, 1), (77, .i2l, 1), (78, .aload_n 0, 1), (79, .getfield 21, 3), (82, .getfield 145, 3), (85, .iload 8, 2), (87, .iaload, 1), (88, .i2l, 1), (89, .lmul, 1), (90, .aload_n 0, 1), (91, .getfield 28, 3), (94, .getfield 164, 3), (97, .iload 9, 2), (99, .iaload, 1), (100, .i2l, 1), (101, .lmul, 1), (102, .lstore 10, 2), (104, .aload_n 0, 1), (105, .getfield 28, 3), (108, .getfield 161, 3), (111, .iload 9, 2), (113, .iaload, 1), (114, .i2l, 1), (115, .lstore 12, 2), (117, .lload 10, 2), (119, .lload 6, 2), (121, .lmul, 1)]
theorem ddX1_stretched_0 : (dtX1_stretched_0.all fun e => decide (decode mX1_stretched.2.1 e.1 = .ok (e.2.1, e.2.2))) = true := by decide +kernel
theorem daX1_stretched_0 (j : Nat) {pc n : Nat} {i : Instr} (h : dtX1_stretched_0[j]? = some (pc, i, n)) : decode mX1_stretched.2.1 pc = .ok (i, n) := dec_of (c := mX1_stretched.2.1) ddX1_stretched_0 h
def dtX1_stretched_1 : List (Nat × Instr × Nat) := [(122, .lload 4, 2), (124, .lload 12, 2), (126, .lmul, 1), (127, .lsub, 1), (128, .lstore 14, 2), (130, .lload 6, 2), (132, .lconst 0, 1), (133, .lcmp, 1), (134, .ifCond .eq 24, 3), (137, .iload_n 2, 1), (138, .ifCond .eq 13, 3), (141, .lload 14, 2), (143, .lconst 0, 1), (144, .lcmp, 1), (145, .ifCond .le 21, 3), (148, .goto 10, 3), (151, .lload 14, 2), (153, .lconst 0, 1), (154, .lcmp, 1), (155, .ifCond .ge 11, 3), (158, .lload 10, 2), (160, .lstore 4, 2), (162, .lload 12, 2), (164, .lstore 6, 2), (166, .iinc 8 1, 3), (169, .goto (-155), 3), (172, .lload 4, 2), (174, .lload 6, 2), (176, .invokestatic 214, 3), (179, .lstore 8, 2), (181, .lload 6, 2), (183, .lconst 0, 1), (184, .lcmp, 1), (185, .ifCond .le 28, 3), (188, .lload 8, 2), (190, .lconst 0, 1), (191, .lcmp, 1), (192, .ifCond .le 21, 3), (195, .iload_n 3, 1), (196, .ifCond .eq 8, 3), (199, .lload 6, 2), (201, .goto 5, 3), (204, .lload 4, 2), (206, .lload 8, 2), (208, .ldiv, 1), (209, .l2i, 1), (210, .goto 4, 3), (213, .iconst (-1), 1), (214, .ireturn, 1)]
theorem ddX1_stretched_1 : (dtX1_stretched_1.all fun e => decide (decode mX1_stretched.2.1 e.1 = .ok (e.2.1, e.2.2))) = true := by decide +kernel
theorem daX1_stretched_1 (j : Nat) {pc n : Nat} {i : Instr} (h : dtX1_stretched_1[j]? = some (pc, i, n)) : decode mX1_stretched.2.1 pc = .ok (i, n) := dec_of (c := mX1_stretched.2.1) ddX1_stretched_1 h
def zX1_stretched_14 (l : Launch) (F : FI) (v0 v2 v3 : Int) (μ : Mm) (k n : Nat) : (Int × Int × Int) ⊕ (Int × Int) → Prop
  | .inl (v4, v6, v8) => GM l mX1_stretched F k n 14 [(0, (3, v0)), (2, (0, v2)), (3, (0, v3)), (4, (2, v4)), (6, (2, v6)), (8, (0, v8))] [] μ
  | .inr (v4, v6) => GM l mX1_stretched F k n 172 [(3, (0, v3)), (4, (2, v4)), (6, (2, v6))] [] μ
def sX1_stretched_14 (v0 v2 v3 : Int) (μ : Mm) : (Int × Int × Int) → Option ((Int × Int × Int) ⊕ (Int × Int)) := fun (v4, v6, v8) =>
  chk (KD v0 = 1) (
  chk (KD (μ v0 1) = 6) (
  if μ (μ v0 1) 0 ≤ v8 then
    some (.inr (v4, v6))
  else
    if 12 ≤ v8 then
      some (.inr (v4, v6))
    else
      chk (KD (μ v0 9) = 12 ∧ 0 ≤ v8 ∧ v8 < LN (μ v0 9)) (
      if μ (μ v0 9) v8 < 0 then
        some (.inl (v4, v6, w32 (v8 + 1)))
      else
        if 90 ≤ μ (μ v0 9) v8 then
          some (.inl (v4, v6, w32 (v8 + 1)))
        else
          chk (KD (μ v0 2) = 7) (
          chk (KD (μ (μ v0 2) 5) = 12 ∧ 0 ≤ μ (μ v0 9) v8 ∧ μ (μ v0 9) v8 < LN (μ (μ v0 2) 5)) (
          if μ (μ (μ v0 2) 5) (μ (μ v0 9) v8) ≤ 0 then
            some (.inl (v4, v6, w32 (v8 + 1)))
          else
            chk (KD (μ (μ v0 1) 7) = 12 ∧ v8 < LN (μ (μ v0 1) 7)) (
            chk (KD (μ (μ v0 2) 6) = 12 ∧ μ (μ v0 9) v8 < LN (μ (μ v0 2) 6)) (
            lt (w64 ((w64 ((μ (μ (μ v0 1) 7) v8) * (μ (μ (μ v0 1) 7) v8))) * (μ (μ (μ v0 2) 6) (μ (μ v0 9) v8)))) fun y13 =>
            lt (μ (μ (μ v0 2) 5) (μ (μ v0 9) v8)) fun y14 =>
            lt (w64 ((w64 (y13 * v6)) - (w64 (v4 * y14)))) fun y15 =>
            if v6 = 0 then
              some (.inl (y13, y14, w32 (v8 + 1)))
            else
              if v2 = 0 then
                if 0 ≤ y15 then
                  some (.inl (v4, v6, w32 (v8 + 1)))
                else
                  some (.inl (y13, y14, w32 (v8 + 1)))
              else
                if y15 ≤ 0 then
                  some (.inl (v4, v6, w32 (v8 + 1)))
                else
                  some (.inl (y13, y14, w32 (v8 + 1))))))))))
def fX1_stretched (v0 v1 v2 v3 : Int) (μ : Mm) : Option (Int × Mm) :=
  chk (KD v0 = 1) (
  (fX1_stand v0 v1 μ).bind fun μ21 =>
  (lop (sX1_stretched_14 v0 v2 v3 μ21) FU (0, 0, 0)).bind fun x22 =>
    match x22 with
    | (v4_23, v6_23) =>
      (fX1_commonDivisor v4_23 v6_23).bind fun r24 =>
      if v6_23 ≤ 0 then
        some ((-1), μ21)
      else
        if r24 ≤ 0 then
          some ((-1), μ21)
        else
          if v3 = 0 then
            chk (r24 ≠ 0) (
            some (w32 (w64 (v4_23.tdiv r24)), μ21))
          else
            chk (r24 ≠ 0) (
            some (w32 (w64 (v6_23.tdiv r24)), μ21)))
set_option maxRecDepth 20000 in
theorem qX1_stretched_14 (l : Launch) (F : FI) (v0 v2 v3 : Int) (μ : Mm) (k n : Nat) : ∀ (q : (Int × Int × Int)) (t : ((Int × Int × Int) ⊕ (Int × Int))), sX1_stretched_14 v0 v2 v3 μ q = some t → zX1_stretched_14 l F v0 v2 v3 μ k n t → zX1_stretched_14 l F v0 v2 v3 μ k n (.inl q) := by
  intro q t h hK
  obtain ⟨v4, v6, v8⟩ := q
  unfold sX1_stretched_14 at h
  try dsimp only at h
  show GM l mX1_stretched F k n 14 [(0, (3, v0)), (2, (0, v2)), (3, (0, v3)), (4, (2, v4)), (6, (2, v6)), (8, (0, v8))] [] μ
  refine GM_iload (pc := 14) 5 rfl (daX1_stretched_0 9 rfl) ?_
  refine GM_aload_n (pc := 16) 0 rfl (daX1_stretched_0 10 rfl) rfl ?_
  obtain ⟨hc1, h⟩ := chk_inv h
  refine GM_getf (pc := 17) 1 1 3 1 kf_X1_21 (Nat.le_of_ble_eq_true rfl) (Nat.le_of_ble_eq_true rfl) rfl (daX1_stretched_0 11 rfl) hc1 rfl ?_
  obtain ⟨hc2, h⟩ := chk_inv h
  refine GM_getf (pc := 20) 6 0 0 0 kf_X1_91 (Nat.le_of_ble_eq_true rfl) (Nat.le_of_ble_eq_true rfl) rfl (daX1_stretched_0 12 rfl) hc2 rfl ?_
  refine GM_icmp_ge (pc := 23) 172 (daX1_stretched_0 13 rfl) rfl (fun c3 => ?_) (fun c3 => ?_)
  · skip
    rw [if_pos c3] at h
    refine GM_pick [2, 3, 4] rfl ?_
    cases h
    exact hK
  · skip
    rw [if_neg c3] at h
    refine GM_iload (pc := 26) 5 rfl (daX1_stretched_0 14 rfl) ?_
    refine GM_bipush (pc := 28) 12 (daX1_stretched_0 15 rfl) rfl (R32_b rfl) ?_
    refine GM_icmp_ge (pc := 30) 172 (daX1_stretched_0 16 rfl) rfl (fun c4 => ?_) (fun c4 => ?_)
    · skip
      rw [if_pos c4] at h
      refine GM_pick [2, 3, 4] rfl ?_
      cases h
      exact hK
    · skip
      rw [if_neg c4] at h
      refine GM_aload_n (pc := 33) 0 rfl (daX1_stretched_0 17 rfl) rfl ?_
      refine GM_getf (pc := 34) 1 9 3 9 kf_X1_36 (Nat.le_of_ble_eq_true rfl) (Nat.le_of_ble_eq_true rfl) rfl (daX1_stretched_0 18 rfl) hc1 rfl ?_
      refine GM_iload (pc := 37) 5 rfl (daX1_stretched_0 19 rfl) ?_
      obtain ⟨hc5, h⟩ := chk_inv h
      refine GM_iald (pc := 39) (daX1_stretched_0 20 rfl) hc5.1 hc5.2.1 hc5.2.2 ?_
      refine GM_istore (L' := [(9, (0, μ (μ v0 9) v8)), (0, (3, v0)), (2, (0, v2)), (3, (0, v3)), (4, (2, v4)), (6, (2, v6)), (8, (0, v8))]) (pc := 40) (daX1_stretched_0 21 rfl) (Nat.le_of_ble_eq_true rfl) rfl ?_
      refine GM_iload (pc := 42) 0 rfl (daX1_stretched_0 22 rfl) ?_
      refine GM_if_lt (pc := 44) 166 (daX1_stretched_0 23 rfl) rfl (fun c6 => ?_) (fun c6 => ?_)
      · skip
        rw [if_pos c6] at h
        refine GM_iinc (L' := [(8, (0, w32 (v8 + 1))), (9, (0, μ (μ v0 9) v8)), (0, (3, v0)), (2, (0, v2)), (3, (0, v3)), (4, (2, v4)), (6, (2, v6))]) (pc := 166) 6 rfl (daX1_stretched_1 24 rfl) (Nat.le_of_ble_eq_true rfl) rfl ?_
        refine GM_goto (pc := 169) 14 (daX1_stretched_1 25 rfl) rfl ?_
        refine GM_pick [2, 3, 4, 5, 6, 0] rfl ?_
        cases h
        exact hK
      · skip
        rw [if_neg c6] at h
        refine GM_iload (pc := 47) 0 rfl (daX1_stretched_0 24 rfl) ?_
        refine GM_bipush (pc := 49) 90 (daX1_stretched_0 25 rfl) rfl (R32_b rfl) ?_
        refine GM_icmp_ge (pc := 51) 166 (daX1_stretched_0 26 rfl) rfl (fun c7 => ?_) (fun c7 => ?_)
        · skip
          rw [if_pos c7] at h
          refine GM_iinc (L' := [(8, (0, w32 (v8 + 1))), (9, (0, μ (μ v0 9) v8)), (0, (3, v0)), (2, (0, v2)), (3, (0, v3)), (4, (2, v4)), (6, (2, v6))]) (pc := 166) 6 rfl (daX1_stretched_1 24 rfl) (Nat.le_of_ble_eq_true rfl) rfl ?_
          refine GM_goto (pc := 169) 14 (daX1_stretched_1 25 rfl) rfl ?_
          refine GM_pick [2, 3, 4, 5, 6, 0] rfl ?_
          cases h
          exact hK
        · skip
          rw [if_neg c7] at h
          refine GM_aload_n (pc := 54) 1 rfl (daX1_stretched_0 27 rfl) rfl ?_
          refine GM_getf (pc := 55) 1 2 3 2 kf_X1_28 (Nat.le_of_ble_eq_true rfl) (Nat.le_of_ble_eq_true rfl) rfl (daX1_stretched_0 28 rfl) hc1 rfl ?_
          obtain ⟨hc8, h⟩ := chk_inv h
          refine GM_getf (pc := 58) 7 5 3 5 kf_X1_161 (Nat.le_of_ble_eq_true rfl) (Nat.le_of_ble_eq_true rfl) rfl (daX1_stretched_0 29 rfl) hc8 rfl ?_
          refine GM_iload (pc := 61) 0 rfl (daX1_stretched_0 30 rfl) ?_
          obtain ⟨hc9, h⟩ := chk_inv h
          refine GM_iald (pc := 63) (daX1_stretched_0 31 rfl) hc9.1 hc9.2.1 hc9.2.2 ?_
          refine GM_if_le (pc := 64) 166 (daX1_stretched_0 32 rfl) rfl (fun c10 => ?_) (fun c10 => ?_)
          · skip
            rw [if_pos c10] at h
            refine GM_iinc (L' := [(8, (0, w32 (v8 + 1))), (9, (0, μ (μ v0 9) v8)), (0, (3, v0)), (2, (0, v2)), (3, (0, v3)), (4, (2, v4)), (6, (2, v6))]) (pc := 166) 6 rfl (daX1_stretched_1 24 rfl) (Nat.le_of_ble_eq_true rfl) rfl ?_
            refine GM_goto (pc := 169) 14 (daX1_stretched_1 25 rfl) rfl ?_
            refine GM_pick [2, 3, 4, 5, 6, 0] rfl ?_
            cases h
            exact hK
          · skip
            rw [if_neg c10] at h
            refine GM_aload_n (pc := 67) 1 rfl (daX1_stretched_0 33 rfl) rfl ?_
            refine GM_getf (pc := 68) 1 1 3 1 kf_X1_21 (Nat.le_of_ble_eq_true rfl) (Nat.le_of_ble_eq_true rfl) rfl (daX1_stretched_0 34 rfl) hc1 rfl ?_
            refine GM_getf (pc := 71) 6 7 3 7 kf_X1_145 (Nat.le_of_ble_eq_true rfl) (Nat.le_of_ble_eq_true rfl) rfl (daX1_stretched_0 35 rfl) hc2 rfl ?_
            refine GM_iload (pc := 74) 6 rfl (daX1_stretched_0 36 rfl) ?_
            obtain ⟨hc11, h⟩ := chk_inv h
            refine GM_iald (pc := 76) (daX1_stretched_0 37 rfl) hc11.1 hc5.2.1 hc11.2 ?_
            refine GM_i2l (pc := 77) (daX1_stretched_0 38 rfl) ?_
            refine GM_aload_n (pc := 78) 1 rfl (daX1_stretched_0 39 rfl) rfl ?_
            refine GM_getf (pc := 79) 1 1 3 1 kf_X1_21 (Nat.le_of_ble_eq_true rfl) (Nat.le_of_ble_eq_true rfl) rfl (daX1_stretched_0 40 rfl) hc1 rfl ?_
            refine GM_getf (pc := 82) 6 7 3 7 kf_X1_145 (Nat.le_of_ble_eq_true rfl) (Nat.le_of_ble_eq_true rfl) rfl (daX1_stretched_0 41 rfl) hc2 rfl ?_
            refine GM_iload (pc := 85) 6 rfl (daX1_stretched_0 42 rfl) ?_
            refine GM_iald (pc := 87) (daX1_stretched_0 43 rfl) hc11.1 hc5.2.1 hc11.2 ?_
            refine GM_i2l (pc := 88) (daX1_stretched_0 44 rfl) ?_
            refine GM_lmul (pc := 89) (daX1_stretched_0 45 rfl) ?_
            refine GM_aload_n (pc := 90) 1 rfl (daX1_stretched_0 46 rfl) rfl ?_
            refine GM_getf (pc := 91) 1 2 3 2 kf_X1_28 (Nat.le_of_ble_eq_true rfl) (Nat.le_of_ble_eq_true rfl) rfl (daX1_stretched_0 47 rfl) hc1 rfl ?_
            refine GM_getf (pc := 94) 7 6 3 6 kf_X1_164 (Nat.le_of_ble_eq_true rfl) (Nat.le_of_ble_eq_true rfl) rfl (daX1_stretched_0 48 rfl) hc8 rfl ?_
            refine GM_iload (pc := 97) 0 rfl (daX1_stretched_0 49 rfl) ?_
            obtain ⟨hc12, h⟩ := chk_inv h
            refine GM_iald (pc := 99) (daX1_stretched_0 50 rfl) hc12.1 hc9.2.1 hc12.2 ?_
            refine GM_i2l (pc := 100) (daX1_stretched_0 51 rfl) ?_
            refine GM_lmul (pc := 101) (daX1_stretched_0 52 rfl) ?_
            obtain ⟨y13, hy13, h⟩ := lt_inv h
            refine GM_top hy13 ?_
            refine GM_lstore (L' := [(10, (2, y13)), (9, (0, μ (μ v0 9) v8)), (0, (3, v0)), (2, (0, v2)), (3, (0, v3)), (4, (2, v4)), (6, (2, v6)), (8, (0, v8))]) (pc := 102) (daX1_stretched_0 53 rfl) (Nat.le_of_ble_eq_true rfl) rfl ?_
            refine GM_aload_n (pc := 104) 2 rfl (daX1_stretched_0 54 rfl) rfl ?_
            refine GM_getf (pc := 105) 1 2 3 2 kf_X1_28 (Nat.le_of_ble_eq_true rfl) (Nat.le_of_ble_eq_true rfl) rfl (daX1_stretched_0 55 rfl) hc1 rfl ?_
            refine GM_getf (pc := 108) 7 5 3 5 kf_X1_161 (Nat.le_of_ble_eq_true rfl) (Nat.le_of_ble_eq_true rfl) rfl (daX1_stretched_0 56 rfl) hc8 rfl ?_
            refine GM_iload (pc := 111) 1 rfl (daX1_stretched_0 57 rfl) ?_
            refine GM_iald (pc := 113) (daX1_stretched_0 58 rfl) hc9.1 hc9.2.1 hc9.2.2 ?_
            refine GM_i2l (pc := 114) (daX1_stretched_0 59 rfl) ?_
            obtain ⟨y14, hy14, h⟩ := lt_inv h
            refine GM_top hy14 ?_
            refine GM_lstore (L' := [(12, (2, y14)), (10, (2, y13)), (9, (0, μ (μ v0 9) v8)), (0, (3, v0)), (2, (0, v2)), (3, (0, v3)), (4, (2, v4)), (6, (2, v6)), (8, (0, v8))]) (pc := 115) (daX1_stretched_0 60 rfl) (Nat.le_of_ble_eq_true rfl) rfl ?_
            refine GM_lload (pc := 117) 1 rfl (daX1_stretched_0 61 rfl) ?_
            refine GM_lload (pc := 119) 7 rfl (daX1_stretched_0 62 rfl) ?_
            refine GM_lmul (pc := 121) (daX1_stretched_0 63 rfl) ?_
            refine GM_lload (pc := 122) 6 rfl (daX1_stretched_1 0 rfl) ?_
            refine GM_lload (pc := 124) 0 rfl (daX1_stretched_1 1 rfl) ?_
            refine GM_lmul (pc := 126) (daX1_stretched_1 2 rfl) ?_
            refine GM_lsub (pc := 127) (daX1_stretched_1 3 rfl) ?_
            obtain ⟨y15, hy15, h⟩ := lt_inv h
            refine GM_top hy15 ?_
            refine GM_lstore (L' := [(14, (2, y15)), (12, (2, y14)), (10, (2, y13)), (9, (0, μ (μ v0 9) v8)), (0, (3, v0)), (2, (0, v2)), (3, (0, v3)), (4, (2, v4)), (6, (2, v6)), (8, (0, v8))]) (pc := 128) (daX1_stretched_1 4 rfl) (Nat.le_of_ble_eq_true rfl) rfl ?_
            refine GM_lload (pc := 130) 8 rfl (daX1_stretched_1 5 rfl) ?_
            refine GM_lconst (pc := 132) 0 (daX1_stretched_1 6 rfl) rfl (R64_b rfl) ?_
            refine GM_lcmp (pc := 133) (daX1_stretched_1 7 rfl) ?_
            refine GM_if_eq (pc := 134) 158 (daX1_stretched_1 8 rfl) rfl (fun c16 => ?_) (fun c16 => ?_)
            · skip
              have c16 := lcmp_eq.mp c16
              rw [if_pos c16] at h
              refine GM_lload (pc := 158) 2 rfl (daX1_stretched_1 20 rfl) ?_
              refine GM_lstore (L' := [(4, (2, y13)), (14, (2, y15)), (12, (2, y14)), (10, (2, y13)), (9, (0, μ (μ v0 9) v8)), (0, (3, v0)), (2, (0, v2)), (3, (0, v3)), (6, (2, v6)), (8, (0, v8))]) (pc := 160) (daX1_stretched_1 21 rfl) (Nat.le_of_ble_eq_true rfl) rfl ?_
              refine GM_lload (pc := 162) 2 rfl (daX1_stretched_1 22 rfl) ?_
              refine GM_lstore (L' := [(6, (2, y14)), (4, (2, y13)), (14, (2, y15)), (12, (2, y14)), (10, (2, y13)), (9, (0, μ (μ v0 9) v8)), (0, (3, v0)), (2, (0, v2)), (3, (0, v3)), (8, (0, v8))]) (pc := 164) (daX1_stretched_1 23 rfl) (Nat.le_of_ble_eq_true rfl) rfl ?_
              refine GM_iinc (L' := [(8, (0, w32 (v8 + 1))), (6, (2, y14)), (4, (2, y13)), (14, (2, y15)), (12, (2, y14)), (10, (2, y13)), (9, (0, μ (μ v0 9) v8)), (0, (3, v0)), (2, (0, v2)), (3, (0, v3))]) (pc := 166) 9 rfl (daX1_stretched_1 24 rfl) (Nat.le_of_ble_eq_true rfl) rfl ?_
              refine GM_goto (pc := 169) 14 (daX1_stretched_1 25 rfl) rfl ?_
              refine GM_pick [7, 8, 9, 2, 1, 0] rfl ?_
              cases h
              exact hK
            · skip
              have c16 := (not_congr lcmp_eq).mp c16
              rw [if_neg c16] at h
              refine GM_iload_n (pc := 137) 5 rfl (daX1_stretched_1 9 rfl) rfl ?_
              refine GM_if_eq (pc := 138) 151 (daX1_stretched_1 10 rfl) rfl (fun c17 => ?_) (fun c17 => ?_)
              · skip
                rw [if_pos c17] at h
                refine GM_lload (pc := 151) 0 rfl (daX1_stretched_1 16 rfl) ?_
                refine GM_lconst (pc := 153) 0 (daX1_stretched_1 17 rfl) rfl (R64_b rfl) ?_
                refine GM_lcmp (pc := 154) (daX1_stretched_1 18 rfl) ?_
                refine GM_if_ge (pc := 155) 166 (daX1_stretched_1 19 rfl) rfl (fun c18 => ?_) (fun c18 => ?_)
                · skip
                  have c18 := lcmp_ge.mp c18
                  rw [if_pos c18] at h
                  refine GM_iinc (L' := [(8, (0, w32 (v8 + 1))), (14, (2, y15)), (12, (2, y14)), (10, (2, y13)), (9, (0, μ (μ v0 9) v8)), (0, (3, v0)), (2, (0, v2)), (3, (0, v3)), (4, (2, v4)), (6, (2, v6))]) (pc := 166) 9 rfl (daX1_stretched_1 24 rfl) (Nat.le_of_ble_eq_true rfl) rfl ?_
                  refine GM_goto (pc := 169) 14 (daX1_stretched_1 25 rfl) rfl ?_
                  refine GM_pick [5, 6, 7, 8, 9, 0] rfl ?_
                  cases h
                  exact hK
                · skip
                  have c18 := (not_congr lcmp_ge).mp c18
                  rw [if_neg c18] at h
                  refine GM_lload (pc := 158) 2 rfl (daX1_stretched_1 20 rfl) ?_
                  refine GM_lstore (L' := [(4, (2, y13)), (14, (2, y15)), (12, (2, y14)), (10, (2, y13)), (9, (0, μ (μ v0 9) v8)), (0, (3, v0)), (2, (0, v2)), (3, (0, v3)), (6, (2, v6)), (8, (0, v8))]) (pc := 160) (daX1_stretched_1 21 rfl) (Nat.le_of_ble_eq_true rfl) rfl ?_
                  refine GM_lload (pc := 162) 2 rfl (daX1_stretched_1 22 rfl) ?_
                  refine GM_lstore (L' := [(6, (2, y14)), (4, (2, y13)), (14, (2, y15)), (12, (2, y14)), (10, (2, y13)), (9, (0, μ (μ v0 9) v8)), (0, (3, v0)), (2, (0, v2)), (3, (0, v3)), (8, (0, v8))]) (pc := 164) (daX1_stretched_1 23 rfl) (Nat.le_of_ble_eq_true rfl) rfl ?_
                  refine GM_iinc (L' := [(8, (0, w32 (v8 + 1))), (6, (2, y14)), (4, (2, y13)), (14, (2, y15)), (12, (2, y14)), (10, (2, y13)), (9, (0, μ (μ v0 9) v8)), (0, (3, v0)), (2, (0, v2)), (3, (0, v3))]) (pc := 166) 9 rfl (daX1_stretched_1 24 rfl) (Nat.le_of_ble_eq_true rfl) rfl ?_
                  refine GM_goto (pc := 169) 14 (daX1_stretched_1 25 rfl) rfl ?_
                  refine GM_pick [7, 8, 9, 2, 1, 0] rfl ?_
                  cases h
                  exact hK
              · skip
                rw [if_neg c17] at h
                refine GM_lload (pc := 141) 0 rfl (daX1_stretched_1 11 rfl) ?_
                refine GM_lconst (pc := 143) 0 (daX1_stretched_1 12 rfl) rfl (R64_b rfl) ?_
                refine GM_lcmp (pc := 144) (daX1_stretched_1 13 rfl) ?_
                refine GM_if_le (pc := 145) 166 (daX1_stretched_1 14 rfl) rfl (fun c19 => ?_) (fun c19 => ?_)
                · skip
                  have c19 := lcmp_le.mp c19
                  rw [if_pos c19] at h
                  refine GM_iinc (L' := [(8, (0, w32 (v8 + 1))), (14, (2, y15)), (12, (2, y14)), (10, (2, y13)), (9, (0, μ (μ v0 9) v8)), (0, (3, v0)), (2, (0, v2)), (3, (0, v3)), (4, (2, v4)), (6, (2, v6))]) (pc := 166) 9 rfl (daX1_stretched_1 24 rfl) (Nat.le_of_ble_eq_true rfl) rfl ?_
                  refine GM_goto (pc := 169) 14 (daX1_stretched_1 25 rfl) rfl ?_
                  refine GM_pick [5, 6, 7, 8, 9, 0] rfl ?_
                  cases h
                  exact hK
                · skip
                  have c19 := (not_congr lcmp_le).mp c19
                  rw [if_neg c19] at h
                  refine GM_goto (pc := 148) 158 (daX1_stretched_1 15 rfl) rfl ?_
                  refine GM_lload (pc := 158) 2 rfl (daX1_stretched_1 20 rfl) ?_
                  refine GM_lstore (L' := [(4, (2, y13)), (14, (2, y15)), (12, (2, y14)), (10, (2, y13)), (9, (0, μ (μ v0 9) v8)), (0, (3, v0)), (2, (0, v2)), (3, (0, v3)), (6, (2, v6)), (8, (0, v8))]) (pc := 160) (daX1_stretched_1 21 rfl) (Nat.le_of_ble_eq_true rfl) rfl ?_
                  refine GM_lload (pc := 162) 2 rfl (daX1_stretched_1 22 rfl) ?_
                  refine GM_lstore (L' := [(6, (2, y14)), (4, (2, y13)), (14, (2, y15)), (12, (2, y14)), (10, (2, y13)), (9, (0, μ (μ v0 9) v8)), (0, (3, v0)), (2, (0, v2)), (3, (0, v3)), (8, (0, v8))]) (pc := 164) (daX1_stretched_1 23 rfl) (Nat.le_of_ble_eq_true rfl) rfl ?_
                  refine GM_iinc (L' := [(8, (0, w32 (v8 + 1))), (6, (2, y14)), (4, (2, y13)), (14, (2, y15)), (12, (2, y14)), (10, (2, y13)), (9, (0, μ (μ v0 9) v8)), (0, (3, v0)), (2, (0, v2)), (3, (0, v3))]) (pc := 166) 9 rfl (daX1_stretched_1 24 rfl) (Nat.le_of_ble_eq_true rfl) rfl ?_
                  refine GM_goto (pc := 169) 14 (daX1_stretched_1 25 rfl) rfl ?_
                  refine GM_pick [7, 8, 9, 2, 1, 0] rfl ?_
                  cases h
                  exact hK
set_option maxRecDepth 20000 in
theorem gX1_stretched_0 (l : Launch) {F : FI} {v0 v1 v2 v3 : Int} {μ : Mm} {t : (Int × Mm)} (h : fX1_stretched v0 v1 v2 v3 μ = some t) (hK : F.1 = [(0, t.1)] ∧ F.2.1 = t.2) : GM l mX1_stretched F 0 0 0 [(0, (3, v0)), (1, (0, v1)), (2, (0, v2)), (3, (0, v3))] [] μ := by
  unfold fX1_stretched at h
  refine GM_aload_n (pc := 0) 0 rfl (daX1_stretched_0 0 rfl) rfl ?_
  refine GM_iload_n (pc := 1) 1 rfl (daX1_stretched_0 1 rfl) rfl ?_
  obtain ⟨hc20, h⟩ := chk_inv h
  obtain ⟨μ21, hf21, h⟩ := Option.bind_eq_some_iff.mp h
  refine GM_callV0 (pc := 2) [(0, v1)] (tX1_stand l hf21) cwX1_stand 1 (Nat.le_of_ble_eq_true rfl) rfl kv_X1_stand ke_X1_stand km_X1_190 hc20 ⟨Nat.le_of_ble_eq_true rfl, Nat.le_of_ble_eq_true rfl⟩ (Nat.le_of_ble_eq_true rfl) (Nat.le_of_ble_eq_true rfl) (daX1_stretched_0 2 rfl) ?_
  refine GM_lconst (pc := 5) 0 (daX1_stretched_0 3 rfl) rfl (R64_b rfl) ?_
  refine GM_lstore (L' := [(4, (2, 0)), (0, (3, v0)), (1, (0, v1)), (2, (0, v2)), (3, (0, v3))]) (pc := 6) (daX1_stretched_0 4 rfl) (Nat.le_of_ble_eq_true rfl) rfl ?_
  refine GM_lconst (pc := 8) 0 (daX1_stretched_0 5 rfl) rfl (R64_b rfl) ?_
  refine GM_lstore (L' := [(6, (2, 0)), (4, (2, 0)), (0, (3, v0)), (1, (0, v1)), (2, (0, v2)), (3, (0, v3))]) (pc := 9) (daX1_stretched_0 6 rfl) (Nat.le_of_ble_eq_true rfl) rfl ?_
  refine GM_iconst (pc := 11) 0 (daX1_stretched_0 7 rfl) rfl (R32_b rfl) ?_
  refine GM_istore (L' := [(8, (0, 0)), (6, (2, 0)), (4, (2, 0)), (0, (3, v0)), (1, (0, v1)), (2, (0, v2)), (3, (0, v3))]) (pc := 12) (daX1_stretched_0 8 rfl) (Nat.le_of_ble_eq_true rfl) rfl ?_
  refine GM_pick [3, 5, 6, 2, 1, 0] rfl ?_
  obtain ⟨x22, hqx22, h⟩ := Option.bind_eq_some_iff.mp h
  refine lop_ind (zX1_stretched_14 l F v0 v2 v3 μ21 0 0) (qX1_stretched_14 l F v0 v2 v3 μ21 0 0) FU _ x22 hqx22 ?_
  obtain ⟨v4_23, v6_23⟩ := x22
  dsimp only at h
  show GM l mX1_stretched F 0 0 172 [(3, (0, v3)), (4, (2, v4_23)), (6, (2, v6_23))] [] μ21
  refine GM_lload (pc := 172) 1 rfl (daX1_stretched_1 26 rfl) ?_
  refine GM_lload (pc := 174) 2 rfl (daX1_stretched_1 27 rfl) ?_
  obtain ⟨r24, hf24, h⟩ := Option.bind_eq_some_iff.mp h
  refine GM_callS0 (pc := 176) [(2, v4_23), (2, v6_23)] (tX1_commonDivisor l hf24) cwX1_commonDivisor ks_X1_commonDivisor km_X1_214 ⟨Nat.le_of_ble_eq_true rfl, Nat.le_of_ble_eq_true rfl⟩ (Nat.le_of_ble_eq_true rfl) (Nat.le_of_ble_eq_true rfl) (daX1_stretched_1 28 rfl) ?_
  refine GM_lstore (L' := [(8, (2, r24)), (3, (0, v3)), (4, (2, v4_23)), (6, (2, v6_23))]) (pc := 179) (daX1_stretched_1 29 rfl) (Nat.le_of_ble_eq_true rfl) rfl ?_
  refine GM_lload (pc := 181) 3 rfl (daX1_stretched_1 30 rfl) ?_
  refine GM_lconst (pc := 183) 0 (daX1_stretched_1 31 rfl) rfl (R64_b rfl) ?_
  refine GM_lcmp (pc := 184) (daX1_stretched_1 32 rfl) ?_
  refine GM_if_le (pc := 185) 213 (daX1_stretched_1 33 rfl) rfl (fun c25 => ?_) (fun c25 => ?_)
  · skip
    have c25 := lcmp_le.mp c25
    rw [if_pos c25] at h
    refine GM_iconst (pc := 213) (-1) (daX1_stretched_1 47 rfl) rfl (R32_b rfl) ?_
    cases h
    exact GM_iret (pc := 214) (daX1_stretched_1 48 rfl) rfl hK
  · skip
    have c25 := (not_congr lcmp_le).mp c25
    rw [if_neg c25] at h
    refine GM_lload (pc := 188) 0 rfl (daX1_stretched_1 34 rfl) ?_
    refine GM_lconst (pc := 190) 0 (daX1_stretched_1 35 rfl) rfl (R64_b rfl) ?_
    refine GM_lcmp (pc := 191) (daX1_stretched_1 36 rfl) ?_
    refine GM_if_le (pc := 192) 213 (daX1_stretched_1 37 rfl) rfl (fun c26 => ?_) (fun c26 => ?_)
    · skip
      have c26 := lcmp_le.mp c26
      rw [if_pos c26] at h
      refine GM_iconst (pc := 213) (-1) (daX1_stretched_1 47 rfl) rfl (R32_b rfl) ?_
      cases h
      exact GM_iret (pc := 214) (daX1_stretched_1 48 rfl) rfl hK
    · skip
      have c26 := (not_congr lcmp_le).mp c26
      rw [if_neg c26] at h
      refine GM_iload_n (pc := 195) 1 rfl (daX1_stretched_1 38 rfl) rfl ?_
      refine GM_if_eq (pc := 196) 204 (daX1_stretched_1 39 rfl) rfl (fun c27 => ?_) (fun c27 => ?_)
      · skip
        rw [if_pos c27] at h
        refine GM_lload (pc := 204) 2 rfl (daX1_stretched_1 42 rfl) ?_
        refine GM_lload (pc := 206) 0 rfl (daX1_stretched_1 43 rfl) ?_
        obtain ⟨hc28, h⟩ := chk_inv h
        refine GM_ldiv (pc := 208) (daX1_stretched_1 44 rfl) hc28 ?_
        refine GM_l2i (pc := 209) (daX1_stretched_1 45 rfl) ?_
        refine GM_goto (pc := 210) 214 (daX1_stretched_1 46 rfl) rfl ?_
        cases h
        exact GM_iret (pc := 214) (daX1_stretched_1 48 rfl) rfl hK
      · skip
        rw [if_neg c27] at h
        refine GM_lload (pc := 199) 3 rfl (daX1_stretched_1 40 rfl) ?_
        refine GM_goto (pc := 201) 206 (daX1_stretched_1 41 rfl) rfl ?_
        refine GM_lload (pc := 206) 0 rfl (daX1_stretched_1 43 rfl) ?_
        obtain ⟨hc29, h⟩ := chk_inv h
        refine GM_ldiv (pc := 208) (daX1_stretched_1 44 rfl) hc29 ?_
        refine GM_l2i (pc := 209) (daX1_stretched_1 45 rfl) ?_
        refine GM_goto (pc := 210) 214 (daX1_stretched_1 46 rfl) rfl ?_
        cases h
        exact GM_iret (pc := 214) (daX1_stretched_1 48 rfl) rfl hK
theorem tX1_stretched (l : Launch) {v0 v1 v2 v3 : Int} {μ : Mm} {t : (Int × Mm)} (h : fX1_stretched v0 v1 v2 v3 μ = some t) : Ct l yX1_stretched mX1_stretched [(3, v0), (0, v1), (0, v2), (0, v3)] μ ([(0, t.1)], t.2, 0, 0) :=
  Ct_of (by decide +kernel) rfl rfl (Nat.le_of_ble_eq_true rfl) (fun _ _ _ => trivial) (gX1_stretched_0 l h ⟨rfl, rfl⟩)
def mX1_countWrong : MI := (RX1, cX1_countWrong, 6, (some .int), "countWrong", 4, 88, fun _ _ _ => True)
theorem cwX1_countWrong : CWd yX1_countWrong mX1_countWrong 2 := ⟨ki_X1, kk_X1_countWrong, ⟨by decide, by decide⟩, rfl⟩
def dtX1_countWrong_0 : List (Nat × Instr × Nat) := [(0, .aload_n 0, 1), (1, .iload_n 1, 1), (2, .invokevirtual 190, 3), (5, .iconst 0, 1), (6, .istore_n 3, 1), (7, .iconst 1, 1), (8, .istore 4, 2), (10, .iload 4, 2), (12, .aload_n 0, 1), (13, .getfield 21, 3), (16, .getfield 91, 3), (19, .if_icmp .ge 51, 3), (22, .iload 4, 2), (24, .bipush 12, 2), (26, .if_icmp .ge 44, 3), (29, .iconst 0, 1), (30, .istore 5, 2), (32, .iload 5, 2), (34, .iload 4, 2), (36, .if_icmp .ge 28, 3), (39, .iload_n 3, 1), (40, .iload_n 2, 1), (41, .if_icmp .ge 23, 3), (44, .aload_n 0, 1), (45, .iload 4, 2), (47, .iload 5, 2), (49, .invokevirtual 121, 3), (52, .ifCond .ne 6, 3), (55, .iinc 3 1, 3), (58, .iinc 5 1, 3), (61, .goto (-29), 3), (64, .iinc 4 1, 3), (67, .goto (-57), 3), (70, .iload_n 3, 1), (71, .ireturn, 1)]
theorem ddX1_countWrong_0 : (dtX1_countWrong_0.all fun e => decide (decode mX1_countWrong.2.1 e.1 = .ok (e.2.1, e.2.2))) = true := by decide +kernel
theorem daX1_countWrong_0 (j : Nat) {pc n : Nat} {i : Instr} (h : dtX1_countWrong_0[j]? = some (pc, i, n)) : decode mX1_countWrong.2.1 pc = .ok (i, n) := dec_of (c := mX1_countWrong.2.1) ddX1_countWrong_0 h
def zX1_countWrong_32 (l : Launch) (F : FI) (v0 v2 v4 : Int) (μ : Mm) (k n : Nat) : (Int × Int) ⊕ Int → Prop
  | .inl (v3, v5) => GM l mX1_countWrong F k n 32 [(0, (3, v0)), (2, (0, v2)), (3, (0, v3)), (4, (0, v4)), (5, (0, v5))] [] μ
  | .inr v3 => GM l mX1_countWrong F k n 64 [(0, (3, v0)), (2, (0, v2)), (3, (0, v3)), (4, (0, v4))] [] μ
def sX1_countWrong_32 (v0 v2 v4 : Int) (μ : Mm) : (Int × Int) → Option ((Int × Int) ⊕ Int) := fun (v3, v5) =>
  if v4 ≤ v5 then
    some (.inr v3)
  else
    if v2 ≤ v3 then
      some (.inr v3)
    else
      chk (KD v0 = 1) (
      (fX1_agree v0 v4 v5 μ).bind fun r4 =>
      if r4 = 0 then
        some (.inl (w32 (v3 + 1), w32 (v5 + 1)))
      else
        some (.inl (v3, w32 (v5 + 1))))
def zX1_countWrong_10 (l : Launch) (F : FI) (v0 v2 : Int) (μ : Mm) (k n : Nat) : (Int × Int) ⊕ Int → Prop
  | .inl (v3, v4) => GM l mX1_countWrong F k n 10 [(0, (3, v0)), (2, (0, v2)), (3, (0, v3)), (4, (0, v4))] [] μ
  | .inr v3 => GM l mX1_countWrong F k n 70 [(3, (0, v3))] [] μ
def sX1_countWrong_10 (v0 v2 : Int) (μ : Mm) : (Int × Int) → Option ((Int × Int) ⊕ Int) := fun (v3, v4) =>
  chk (KD v0 = 1) (
  chk (KD (μ v0 1) = 6) (
  if μ (μ v0 1) 0 ≤ v4 then
    some (.inr v3)
  else
    if 12 ≤ v4 then
      some (.inr v3)
    else
      (lop (sX1_countWrong_32 v0 v2 v4 μ) FU (v3, 0)).bind fun v3_11 =>
        some (.inl (v3_11, w32 (v4 + 1)))))
def fX1_countWrong (v0 v1 v2 : Int) (μ : Mm) : Option (Int × Mm) :=
  chk (KD v0 = 1) (
  (fX1_stand v0 v1 μ).bind fun μ13 =>
  (lop (sX1_countWrong_10 v0 v2 μ13) FU (0, 1)).bind fun v3_15 =>
    some (v3_15, μ13))
set_option maxRecDepth 20000 in
theorem qX1_countWrong_32 (l : Launch) (F : FI) (v0 v2 v4 : Int) (μ : Mm) (k n : Nat) : ∀ (q : (Int × Int)) (t : ((Int × Int) ⊕ Int)), sX1_countWrong_32 v0 v2 v4 μ q = some t → zX1_countWrong_32 l F v0 v2 v4 μ k n t → zX1_countWrong_32 l F v0 v2 v4 μ k n (.inl q) := by
  intro q t h hK
  obtain ⟨v3, v5⟩ := q
  unfold sX1_countWrong_32 at h
  try dsimp only at h
  show GM l mX1_countWrong F k n 32 [(0, (3, v0)), (2, (0, v2)), (3, (0, v3)), (4, (0, v4)), (5, (0, v5))] [] μ
  refine GM_iload (pc := 32) 4 rfl (daX1_countWrong_0 17 rfl) ?_
  refine GM_iload (pc := 34) 3 rfl (daX1_countWrong_0 18 rfl) ?_
  refine GM_icmp_ge (pc := 36) 64 (daX1_countWrong_0 19 rfl) rfl (fun c1 => ?_) (fun c1 => ?_)
  · skip
    rw [if_pos c1] at h
    refine GM_pick [0, 1, 2, 3] rfl ?_
    cases h
    exact hK
  · skip
    rw [if_neg c1] at h
    refine GM_iload_n (pc := 39) 2 rfl (daX1_countWrong_0 20 rfl) rfl ?_
    refine GM_iload_n (pc := 40) 1 rfl (daX1_countWrong_0 21 rfl) rfl ?_
    refine GM_icmp_ge (pc := 41) 64 (daX1_countWrong_0 22 rfl) rfl (fun c2 => ?_) (fun c2 => ?_)
    · skip
      rw [if_pos c2] at h
      refine GM_pick [0, 1, 2, 3] rfl ?_
      cases h
      exact hK
    · skip
      rw [if_neg c2] at h
      refine GM_aload_n (pc := 44) 0 rfl (daX1_countWrong_0 23 rfl) rfl ?_
      refine GM_iload (pc := 45) 3 rfl (daX1_countWrong_0 24 rfl) ?_
      refine GM_iload (pc := 47) 4 rfl (daX1_countWrong_0 25 rfl) ?_
      obtain ⟨hc3, h⟩ := chk_inv h
      obtain ⟨r4, hf4, h⟩ := Option.bind_eq_some_iff.mp h
      refine GM_callV0 (pc := 49) [(0, v4), (0, v5)] (tX1_agree l hf4) cwX1_agree 1 (Nat.le_of_ble_eq_true rfl) rfl kv_X1_agree ke_X1_agree km_X1_121 hc3 ⟨Nat.le_of_ble_eq_true rfl, Nat.le_of_ble_eq_true rfl⟩ (Nat.le_of_ble_eq_true rfl) (Nat.le_of_ble_eq_true rfl) (daX1_countWrong_0 26 rfl) ?_
      refine GM_if_ne (pc := 52) 58 (daX1_countWrong_0 27 rfl) rfl (fun c5 => ?_) (fun c5 => ?_)
      · skip
        rw [if_neg c5] at h
        refine GM_iinc (L' := [(5, (0, w32 (v5 + 1))), (0, (3, v0)), (2, (0, v2)), (3, (0, v3)), (4, (0, v4))]) (pc := 58) 4 rfl (daX1_countWrong_0 29 rfl) (Nat.le_of_ble_eq_true rfl) rfl ?_
        refine GM_goto (pc := 61) 32 (daX1_countWrong_0 30 rfl) rfl ?_
        refine GM_pick [1, 2, 3, 4, 0] rfl ?_
        cases h
        exact hK
      · skip
        rw [if_pos c5] at h
        refine GM_iinc (L' := [(3, (0, w32 (v3 + 1))), (0, (3, v0)), (2, (0, v2)), (4, (0, v4)), (5, (0, v5))]) (pc := 55) 2 rfl (daX1_countWrong_0 28 rfl) (Nat.le_of_ble_eq_true rfl) rfl ?_
        refine GM_iinc (L' := [(5, (0, w32 (v5 + 1))), (3, (0, w32 (v3 + 1))), (0, (3, v0)), (2, (0, v2)), (4, (0, v4))]) (pc := 58) 4 rfl (daX1_countWrong_0 29 rfl) (Nat.le_of_ble_eq_true rfl) rfl ?_
        refine GM_goto (pc := 61) 32 (daX1_countWrong_0 30 rfl) rfl ?_
        refine GM_pick [2, 3, 1, 4, 0] rfl ?_
        cases h
        exact hK
set_option maxRecDepth 20000 in
theorem qX1_countWrong_10 (l : Launch) (F : FI) (v0 v2 : Int) (μ : Mm) (k n : Nat) : ∀ (q : (Int × Int)) (t : ((Int × Int) ⊕ Int)), sX1_countWrong_10 v0 v2 μ q = some t → zX1_countWrong_10 l F v0 v2 μ k n t → zX1_countWrong_10 l F v0 v2 μ k n (.inl q) := by
  intro q t h hK
  obtain ⟨v3, v4⟩ := q
  unfold sX1_countWrong_10 at h
  try dsimp only at h
  show GM l mX1_countWrong F k n 10 [(0, (3, v0)), (2, (0, v2)), (3, (0, v3)), (4, (0, v4))] [] μ
  refine GM_iload (pc := 10) 3 rfl (daX1_countWrong_0 7 rfl) ?_
  refine GM_aload_n (pc := 12) 0 rfl (daX1_countWrong_0 8 rfl) rfl ?_
  obtain ⟨hc6, h⟩ := chk_inv h
  refine GM_getf (pc := 13) 1 1 3 1 kf_X1_21 (Nat.le_of_ble_eq_true rfl) (Nat.le_of_ble_eq_true rfl) rfl (daX1_countWrong_0 9 rfl) hc6 rfl ?_
  obtain ⟨hc7, h⟩ := chk_inv h
  refine GM_getf (pc := 16) 6 0 0 0 kf_X1_91 (Nat.le_of_ble_eq_true rfl) (Nat.le_of_ble_eq_true rfl) rfl (daX1_countWrong_0 10 rfl) hc7 rfl ?_
  refine GM_icmp_ge (pc := 19) 70 (daX1_countWrong_0 11 rfl) rfl (fun c8 => ?_) (fun c8 => ?_)
  · skip
    rw [if_pos c8] at h
    refine GM_pick [2] rfl ?_
    cases h
    exact hK
  · skip
    rw [if_neg c8] at h
    refine GM_iload (pc := 22) 3 rfl (daX1_countWrong_0 12 rfl) ?_
    refine GM_bipush (pc := 24) 12 (daX1_countWrong_0 13 rfl) rfl (R32_b rfl) ?_
    refine GM_icmp_ge (pc := 26) 70 (daX1_countWrong_0 14 rfl) rfl (fun c9 => ?_) (fun c9 => ?_)
    · skip
      rw [if_pos c9] at h
      refine GM_pick [2] rfl ?_
      cases h
      exact hK
    · skip
      rw [if_neg c9] at h
      refine GM_iconst (pc := 29) 0 (daX1_countWrong_0 15 rfl) rfl (R32_b rfl) ?_
      refine GM_istore (L' := [(5, (0, 0)), (0, (3, v0)), (2, (0, v2)), (3, (0, v3)), (4, (0, v4))]) (pc := 30) (daX1_countWrong_0 16 rfl) (Nat.le_of_ble_eq_true rfl) rfl ?_
      refine GM_pick [1, 2, 3, 4, 0] rfl ?_
      obtain ⟨x10, hqx10, h⟩ := Option.bind_eq_some_iff.mp h
      refine lop_ind (zX1_countWrong_32 l F v0 v2 v4 μ k n) (qX1_countWrong_32 l F v0 v2 v4 μ k n) FU _ x10 hqx10 ?_
      obtain ⟨v3_11, hqq⟩ : ∃ z, z = x10 := ⟨x10, rfl⟩
      subst hqq
      show GM l mX1_countWrong F k n 64 [(0, (3, v0)), (2, (0, v2)), (3, (0, v3_11)), (4, (0, v4))] [] μ
      refine GM_iinc (L' := [(4, (0, w32 (v4 + 1))), (0, (3, v0)), (2, (0, v2)), (3, (0, v3_11))]) (pc := 64) 3 rfl (daX1_countWrong_0 31 rfl) (Nat.le_of_ble_eq_true rfl) rfl ?_
      refine GM_goto (pc := 67) 10 (daX1_countWrong_0 32 rfl) rfl ?_
      refine GM_pick [1, 2, 3, 0] rfl ?_
      cases h
      exact hK
set_option maxRecDepth 20000 in
theorem gX1_countWrong_0 (l : Launch) {F : FI} {v0 v1 v2 : Int} {μ : Mm} {t : (Int × Mm)} (h : fX1_countWrong v0 v1 v2 μ = some t) (hK : F.1 = [(0, t.1)] ∧ F.2.1 = t.2) : GM l mX1_countWrong F 0 0 0 [(0, (3, v0)), (1, (0, v1)), (2, (0, v2))] [] μ := by
  unfold fX1_countWrong at h
  refine GM_aload_n (pc := 0) 0 rfl (daX1_countWrong_0 0 rfl) rfl ?_
  refine GM_iload_n (pc := 1) 1 rfl (daX1_countWrong_0 1 rfl) rfl ?_
  obtain ⟨hc12, h⟩ := chk_inv h
  obtain ⟨μ13, hf13, h⟩ := Option.bind_eq_some_iff.mp h
  refine GM_callV0 (pc := 2) [(0, v1)] (tX1_stand l hf13) cwX1_stand 1 (Nat.le_of_ble_eq_true rfl) rfl kv_X1_stand ke_X1_stand km_X1_190 hc12 ⟨Nat.le_of_ble_eq_true rfl, Nat.le_of_ble_eq_true rfl⟩ (Nat.le_of_ble_eq_true rfl) (Nat.le_of_ble_eq_true rfl) (daX1_countWrong_0 2 rfl) ?_
  refine GM_iconst (pc := 5) 0 (daX1_countWrong_0 3 rfl) rfl (R32_b rfl) ?_
  refine GM_istore_n (L' := [(3, (0, 0)), (0, (3, v0)), (1, (0, v1)), (2, (0, v2))]) (pc := 6) (daX1_countWrong_0 4 rfl) rfl (Nat.le_of_ble_eq_true rfl) rfl ?_
  refine GM_iconst (pc := 7) 1 (daX1_countWrong_0 5 rfl) rfl (R32_b rfl) ?_
  refine GM_istore (L' := [(4, (0, 1)), (3, (0, 0)), (0, (3, v0)), (1, (0, v1)), (2, (0, v2))]) (pc := 8) (daX1_countWrong_0 6 rfl) (Nat.le_of_ble_eq_true rfl) rfl ?_
  refine GM_pick [2, 4, 1, 0] rfl ?_
  obtain ⟨x14, hqx14, h⟩ := Option.bind_eq_some_iff.mp h
  refine lop_ind (zX1_countWrong_10 l F v0 v2 μ13 0 0) (qX1_countWrong_10 l F v0 v2 μ13 0 0) FU _ x14 hqx14 ?_
  obtain ⟨v3_15, hqq⟩ : ∃ z, z = x14 := ⟨x14, rfl⟩
  subst hqq
  show GM l mX1_countWrong F 0 0 70 [(3, (0, v3_15))] [] μ13
  refine GM_iload_n (pc := 70) 0 rfl (daX1_countWrong_0 33 rfl) rfl ?_
  cases h
  exact GM_iret (pc := 71) (daX1_countWrong_0 34 rfl) rfl hK
theorem tX1_countWrong (l : Launch) {v0 v1 v2 : Int} {μ : Mm} {t : (Int × Mm)} (h : fX1_countWrong v0 v1 v2 μ = some t) : Ct l yX1_countWrong mX1_countWrong [(3, v0), (0, v1), (0, v2)] μ ([(0, t.1)], t.2, 0, 0) :=
  Ct_of (by decide +kernel) rfl rfl (Nat.le_of_ble_eq_true rfl) (fun _ _ _ => trivial) (gX1_countWrong_0 l h ⟨rfl, rfl⟩)
def mX1_leastWrong : MI := (RX1, cX1_leastWrong, 4, (some .int), "leastWrong", 5, 113, fun _ _ _ => True)
theorem cwX1_leastWrong : CWd yX1_leastWrong mX1_leastWrong 1 := ⟨ki_X1, kk_X1_leastWrong, ⟨by decide, by decide⟩, rfl⟩
def dtX1_leastWrong_0 : List (Nat × Instr × Nat) := [(0, .iload_n 1, 1), (1, .istore_n 2, 1), (2, .iconst 0, 1), (3, .istore_n 3, 1), (4, .iload_n 3, 1), (5, .aload_n 0, 1), (6, .getfield 28, 3), (9, .getfield 94, 3), (12, .if_icmp .ge 27, 3), (15, .aload_n 0, 1), (16, .invokevirtual 98, 3), (19, .ifCond .eq 20, 3), (22, .iload_n 2, 1), (23, .aload_n 0, 1), (24, .iload_n 3, 1), (25, .iload_n 2, 1), (26, .invokevirtual 218, 3), (29, .invokestatic 221, 3), (32, .istore_n 2, 1), (33, .iinc 3 1, 3), (36, .goto (-32), 3), (39, .iload_n 2, 1), (40, .ireturn, 1)]
theorem ddX1_leastWrong_0 : (dtX1_leastWrong_0.all fun e => decide (decode mX1_leastWrong.2.1 e.1 = .ok (e.2.1, e.2.2))) = true := by decide +kernel
theorem daX1_leastWrong_0 (j : Nat) {pc n : Nat} {i : Instr} (h : dtX1_leastWrong_0[j]? = some (pc, i, n)) : decode mX1_leastWrong.2.1 pc = .ok (i, n) := dec_of (c := mX1_leastWrong.2.1) ddX1_leastWrong_0 h
def zX1_leastWrong_4 (l : Launch) (F : FI) (v0 : Int) (k n : Nat) : (Int × Int × Mm) ⊕ (Int × Mm) → Prop
  | .inl (v2, v3, μ) => GM l mX1_leastWrong F k n 4 [(0, (3, v0)), (2, (0, v2)), (3, (0, v3))] [] μ
  | .inr (v2, μ) => GM l mX1_leastWrong F k n 39 [(2, (0, v2))] [] μ
def sX1_leastWrong_4 (v0 : Int) : (Int × Int × Mm) → Option ((Int × Int × Mm) ⊕ (Int × Mm)) := fun (v2, v3, μ) =>
  chk (KD v0 = 1) (
  chk (KD (μ v0 2) = 7) (
  if μ (μ v0 2) 2 ≤ v3 then
    some (.inr (v2, μ))
  else
    (fX1_canBe v0 μ).bind fun r4 =>
    if r4 = 0 then
      some (.inr (v2, μ))
    else
      (fX1_countWrong v0 v3 v2 μ).bind fun (r6, μ6) =>
      some (.inl (imin v2 r6, w32 (v3 + 1), μ6))))
def fX1_leastWrong (v0 v1 : Int) (μ : Mm) : Option (Int × Mm) :=
  (lop (sX1_leastWrong_4 v0) FU (v1, 0, μ)).bind fun x7 =>
    match x7 with
    | (v2_8, μ_8) =>
      some (v2_8, μ_8)
set_option maxRecDepth 20000 in
theorem qX1_leastWrong_4 (l : Launch) (F : FI) (v0 : Int) (k n : Nat) : ∀ (q : (Int × Int × Mm)) (t : ((Int × Int × Mm) ⊕ (Int × Mm))), sX1_leastWrong_4 v0 q = some t → zX1_leastWrong_4 l F v0 k n t → zX1_leastWrong_4 l F v0 k n (.inl q) := by
  intro q t h hK
  obtain ⟨v2, v3, μ⟩ := q
  unfold sX1_leastWrong_4 at h
  try dsimp only at h
  show GM l mX1_leastWrong F k n 4 [(0, (3, v0)), (2, (0, v2)), (3, (0, v3))] [] μ
  refine GM_iload_n (pc := 4) 2 rfl (daX1_leastWrong_0 4 rfl) rfl ?_
  refine GM_aload_n (pc := 5) 0 rfl (daX1_leastWrong_0 5 rfl) rfl ?_
  obtain ⟨hc1, h⟩ := chk_inv h
  refine GM_getf (pc := 6) 1 2 3 2 kf_X1_28 (Nat.le_of_ble_eq_true rfl) (Nat.le_of_ble_eq_true rfl) rfl (daX1_leastWrong_0 6 rfl) hc1 rfl ?_
  obtain ⟨hc2, h⟩ := chk_inv h
  refine GM_getf (pc := 9) 7 2 0 2 kf_X1_94 (Nat.le_of_ble_eq_true rfl) (Nat.le_of_ble_eq_true rfl) rfl (daX1_leastWrong_0 7 rfl) hc2 rfl ?_
  refine GM_icmp_ge (pc := 12) 39 (daX1_leastWrong_0 8 rfl) rfl (fun c3 => ?_) (fun c3 => ?_)
  · skip
    rw [if_pos c3] at h
    refine GM_pick [1] rfl ?_
    cases h
    exact hK
  · skip
    rw [if_neg c3] at h
    refine GM_aload_n (pc := 15) 0 rfl (daX1_leastWrong_0 9 rfl) rfl ?_
    obtain ⟨r4, hf4, h⟩ := Option.bind_eq_some_iff.mp h
    refine GM_callV0 (pc := 16) [] (tX1_canBe l hf4) cwX1_canBe 1 (Nat.le_of_ble_eq_true rfl) rfl kv_X1_canBe ke_X1_canBe km_X1_98 hc1 ⟨Nat.le_of_ble_eq_true rfl, Nat.le_of_ble_eq_true rfl⟩ (Nat.le_of_ble_eq_true rfl) (Nat.le_of_ble_eq_true rfl) (daX1_leastWrong_0 10 rfl) ?_
    refine GM_if_eq (pc := 19) 39 (daX1_leastWrong_0 11 rfl) rfl (fun c5 => ?_) (fun c5 => ?_)
    · skip
      rw [if_pos c5] at h
      refine GM_pick [1] rfl ?_
      cases h
      exact hK
    · skip
      rw [if_neg c5] at h
      refine GM_iload_n (pc := 22) 1 rfl (daX1_leastWrong_0 12 rfl) rfl ?_
      refine GM_aload_n (pc := 23) 0 rfl (daX1_leastWrong_0 13 rfl) rfl ?_
      refine GM_iload_n (pc := 24) 2 rfl (daX1_leastWrong_0 14 rfl) rfl ?_
      refine GM_iload_n (pc := 25) 1 rfl (daX1_leastWrong_0 15 rfl) rfl ?_
      obtain ⟨⟨r6, μ6⟩, hf6, h⟩ := Option.bind_eq_some_iff.mp h
      dsimp only at h
      refine GM_callV0 (pc := 26) [(0, v3), (0, v2)] (tX1_countWrong l hf6) cwX1_countWrong 1 (Nat.le_of_ble_eq_true rfl) rfl kv_X1_countWrong ke_X1_countWrong km_X1_218 hc1 ⟨Nat.le_of_ble_eq_true rfl, Nat.le_of_ble_eq_true rfl⟩ (Nat.le_of_ble_eq_true rfl) (Nat.le_of_ble_eq_true rfl) (daX1_leastWrong_0 16 rfl) ?_
      refine GM_callS0 (pc := 29) [(0, v2), (0, r6)] (tJ9_min_7cf53 l (fJ9_min_eq v2 r6)) cwJ9_min_7cf53 ks_J9_min_7cf53 km_X1_221 ⟨Nat.le_of_ble_eq_true rfl, Nat.le_of_ble_eq_true rfl⟩ (Nat.le_of_ble_eq_true rfl) (Nat.le_of_ble_eq_true rfl) (daX1_leastWrong_0 17 rfl) ?_
      refine GM_istore_n (L' := [(2, (0, imin v2 r6)), (0, (3, v0)), (3, (0, v3))]) (pc := 32) (daX1_leastWrong_0 18 rfl) rfl (Nat.le_of_ble_eq_true rfl) rfl ?_
      refine GM_iinc (L' := [(3, (0, w32 (v3 + 1))), (2, (0, imin v2 r6)), (0, (3, v0))]) (pc := 33) 2 rfl (daX1_leastWrong_0 19 rfl) (Nat.le_of_ble_eq_true rfl) rfl ?_
      refine GM_goto (pc := 36) 4 (daX1_leastWrong_0 20 rfl) rfl ?_
      refine GM_pick [2, 1, 0] rfl ?_
      cases h
      exact hK
set_option maxRecDepth 20000 in
theorem gX1_leastWrong_0 (l : Launch) {F : FI} {v0 v1 : Int} {μ : Mm} {t : (Int × Mm)} (h : fX1_leastWrong v0 v1 μ = some t) (hK : F.1 = [(0, t.1)] ∧ F.2.1 = t.2) : GM l mX1_leastWrong F 0 0 0 [(0, (3, v0)), (1, (0, v1))] [] μ := by
  unfold fX1_leastWrong at h
  refine GM_iload_n (pc := 0) 1 rfl (daX1_leastWrong_0 0 rfl) rfl ?_
  refine GM_istore_n (L' := [(2, (0, v1)), (0, (3, v0)), (1, (0, v1))]) (pc := 1) (daX1_leastWrong_0 1 rfl) rfl (Nat.le_of_ble_eq_true rfl) rfl ?_
  refine GM_iconst (pc := 2) 0 (daX1_leastWrong_0 2 rfl) rfl (R32_b rfl) ?_
  refine GM_istore_n (L' := [(3, (0, 0)), (2, (0, v1)), (0, (3, v0)), (1, (0, v1))]) (pc := 3) (daX1_leastWrong_0 3 rfl) rfl (Nat.le_of_ble_eq_true rfl) rfl ?_
  refine GM_pick [2, 1, 0] rfl ?_
  obtain ⟨x7, hqx7, h⟩ := Option.bind_eq_some_iff.mp h
  refine lop_ind (zX1_leastWrong_4 l F v0 0 0) (qX1_leastWrong_4 l F v0 0 0) FU _ x7 hqx7 ?_
  obtain ⟨v2_8, μ_8⟩ := x7
  dsimp only at h
  show GM l mX1_leastWrong F 0 0 39 [(2, (0, v2_8))] [] μ_8
  refine GM_iload_n (pc := 39) 0 rfl (daX1_leastWrong_0 21 rfl) rfl ?_
  cases h
  exact GM_iret (pc := 40) (daX1_leastWrong_0 22 rfl) rfl hK
theorem tX1_leastWrong (l : Launch) {v0 v1 : Int} {μ : Mm} {t : (Int × Mm)} (h : fX1_leastWrong v0 v1 μ = some t) : Ct l yX1_leastWrong mX1_leastWrong [(3, v0), (0, v1)] μ ([(0, t.1)], t.2, 0, 0) :=
  Ct_of (by decide +kernel) rfl rfl (Nat.le_of_ble_eq_true rfl) (fun _ _ _ => trivial) (gX1_leastWrong_0 l h ⟨rfl, rfl⟩)
