def mX3_init : MI := (RX3, cX3_init, 1, none, "<init>", 2, 36, fun _ _ _ => True)
theorem cwX3_init : CWd yX3_init mX3_init 0 := ⟨ki_X3, kk_X3_init, ⟨by decide, by decide⟩, rfl⟩
def dtX3_init_0 : List (Nat × Instr × Nat) := [(0, .aload_n 0, 1), (1, .invokespecial 3, 3), (4, .aload_n 0, 1), (5, .new 9, 3), (8, .dup, 1), (9, .invokespecial 11, 3), (12, .putfield 12, 3), (15, .aload_n 0, 1), (16, .new 18, 3), (19, .dup, 1), (20, .invokespecial 20, 3), (23, .putfield 21, 3), (26, .aload_n 0, 1), (27, .iconst 0, 1), (28, .newarray .int, 2), (30, .putfield 25, 3), (33, .return_, 1)]
theorem ddX3_init_0 : (dtX3_init_0.all fun e => decide (decode mX3_init.2.1 e.1 = .ok (e.2.1, e.2.2))) = true := by decide +kernel
theorem daX3_init_0 (j : Nat) {pc n : Nat} {i : Instr} (h : dtX3_init_0[j]? = some (pc, i, n)) : decode mX3_init.2.1 pc = .ok (i, n) := dec_of (c := mX3_init.2.1) ddX3_init_0 h
def fX3_init (v0 : Int) (μ : Mm) : Option (Mm × Nat × Nat) :=
  chk (v0 ≠ 0) (
  chk (KD (v0 + 10) = 2 ∧ μ 0 (v0 + 10) = 0) (
  pay 1 11 (
  lm (mnw μ (v0 + 10)) fun μ4 =>
  chk (v0 + 10 ≠ 0) (
  (fX2_init (v0 + 10) μ4).bind fun (μ6, c6, n6) =>
  pay c6 n6 (
  chk (KD v0 = 3) (
  lm (mst μ6 v0 0 (v0 + 10)) fun μ9 =>
  chk (KD (v0 + 20) = 6 ∧ μ9 0 (v0 + 20) = 0) (
  pay 1 9 (
  lm (mnw μ9 (v0 + 20)) fun μ12 =>
  chk (v0 + 20 ≠ 0) (
  (fX6_init (v0 + 20) μ12).bind fun (μ14, c14, n14) =>
  pay c14 n14 (
  lm (mst μ14 v0 1 (v0 + 20)) fun μ16 =>
  chk (KD (v0 + 1) = 12 ∧ LN (v0 + 1) = 0 ∧ μ16 0 (v0 + 1) = 0) (
  pay 1 0 (
  lm (mnw μ16 (v0 + 1)) fun μ19 =>
  lm (mst μ19 v0 4 (v0 + 1)) fun μ20 =>
  some (μ20, 0, 0)))))))))))))
set_option maxRecDepth 20000 in
theorem gX3_init_0 (l : Launch) {F : FI} {v0 : Int} {μ : Mm} {t : Mm} {c0 n0 k n : Nat} (h : fX3_init v0 μ = some (t, c0, n0)) (hK : F.1 = [] ∧ F.2.1 = t) : GM l mX3_init F (c0 + k) (n0 + n) 0 [(0, (3, v0))] [] μ := by
  unfold fX3_init at h
  refine GM_aload_n (pc := 0) 0 rfl (daX3_init_0 0 rfl) rfl ?_
  obtain ⟨hc1, h⟩ := chk_inv h
  refine GM_objInit (pc := 1) km_X3_3 kv__java_lang_Object__init____V_ kk_obj (daX3_init_0 1 rfl) hc1 ⟨Nat.le_of_ble_eq_true rfl, Nat.le_of_ble_eq_true rfl⟩ ?_
  refine GM_aload_n (pc := 4) 0 rfl (daX3_init_0 2 rfl) rfl ?_
  obtain ⟨hc2, h⟩ := chk_inv h
  obtain ⟨c3, n3, hp, e1, e2⟩ := pay_inv h
  subst e1 e2
  replace h := hp
  clear hp
  rw [Nat.add_assoc, Nat.add_assoc]
  obtain ⟨μ4, hμ4, h⟩ := lm_inv h
  refine GM_new (pc := 5) 2 (v0 + 10) (by decide) kc_X3_9 (daX3_init_0 3 rfl) hc2.1 hc2.2 ?_
  refine GM_mem hμ4 ?_
  refine GM_dup (pc := 8) (daX3_init_0 4 rfl) (Nat.ne_of_beq_eq_false rfl) ?_
  obtain ⟨hc5, h⟩ := chk_inv h
  obtain ⟨⟨μ6, c6, n6⟩, hf6, h⟩ := Option.bind_eq_some_iff.mp h
  dsimp only at h
  obtain ⟨c7, n7, hp, e1, e2⟩ := pay_inv h
  subst e1 e2
  replace h := hp
  clear hp
  rw [Nat.add_assoc, Nat.add_assoc]
  refine GM_callIN (pc := 9) [] (tX2_init l hf6) cwX2_init "HillSketch" rfl rfl kv_X2_init (by decide) hc5 ⟨Nat.le_of_ble_eq_true rfl, Nat.le_of_ble_eq_true rfl⟩ (Nat.le_of_ble_eq_true rfl) (Nat.le_of_ble_eq_true rfl) (daX3_init_0 5 rfl) ?_
  obtain ⟨hc8, h⟩ := chk_inv h
  obtain ⟨μ9, hμ9, h⟩ := lm_inv h
  refine GM_putF (pc := 12) 3 0 3 kf_X3_12 (Nat.le_of_ble_eq_true rfl) (Nat.le_of_ble_eq_true rfl) rfl rfl rfl rfl (daX3_init_0 6 rfl) hc8 (fun q => absurd q (by decide)) ?_
  refine GM_mem hμ9 ?_
  refine GM_aload_n (pc := 15) 0 rfl (daX3_init_0 7 rfl) rfl ?_
  obtain ⟨hc10, h⟩ := chk_inv h
  obtain ⟨c11, n11, hp, e1, e2⟩ := pay_inv h
  subst e1 e2
  replace h := hp
  clear hp
  rw [Nat.add_assoc, Nat.add_assoc]
  obtain ⟨μ12, hμ12, h⟩ := lm_inv h
  refine GM_new (pc := 16) 6 (v0 + 20) (by decide) kc_X3_18 (daX3_init_0 8 rfl) hc10.1 hc10.2 ?_
  refine GM_mem hμ12 ?_
  refine GM_dup (pc := 19) (daX3_init_0 9 rfl) (Nat.ne_of_beq_eq_false rfl) ?_
  obtain ⟨hc13, h⟩ := chk_inv h
  obtain ⟨⟨μ14, c14, n14⟩, hf14, h⟩ := Option.bind_eq_some_iff.mp h
  dsimp only at h
  obtain ⟨c15, n15, hp, e1, e2⟩ := pay_inv h
  subst e1 e2
  replace h := hp
  clear hp
  rw [Nat.add_assoc, Nat.add_assoc]
  refine GM_callIN (pc := 20) [] (tX6_init l hf14) cwX6_init "HillSketch" rfl rfl kv_X6_init (by decide) hc13 ⟨Nat.le_of_ble_eq_true rfl, Nat.le_of_ble_eq_true rfl⟩ (Nat.le_of_ble_eq_true rfl) (Nat.le_of_ble_eq_true rfl) (daX3_init_0 10 rfl) ?_
  obtain ⟨μ16, hμ16, h⟩ := lm_inv h
  refine GM_putF (pc := 23) 3 1 3 kf_X3_21 (Nat.le_of_ble_eq_true rfl) (Nat.le_of_ble_eq_true rfl) rfl rfl rfl rfl (daX3_init_0 11 rfl) hc8 (fun q => absurd q (by decide)) ?_
  refine GM_mem hμ16 ?_
  refine GM_aload_n (pc := 26) 0 rfl (daX3_init_0 12 rfl) rfl ?_
  refine GM_iconst (pc := 27) 0 (daX3_init_0 13 rfl) rfl (R32_b rfl) ?_
  obtain ⟨hc17, h⟩ := chk_inv h
  obtain ⟨c18, n18, hp, e1, e2⟩ := pay_inv h
  subst e1 e2
  replace h := hp
  clear hp
  rw [Nat.add_assoc, Nat.add_assoc]
  obtain ⟨μ19, hμ19, h⟩ := lm_inv h
  refine GM_newi (pc := 28) (N := 0) (v0 + 1) (daX3_init_0 14 rfl) hc17.1 hc17.2.1 (Nat.le_of_ble_eq_true rfl) hc17.2.2 ?_
  refine GM_mem hμ19 ?_
  obtain ⟨μ20, hμ20, h⟩ := lm_inv h
  refine GM_putf (pc := 30) 3 4 3 kf_X3_25 (Nat.le_of_ble_eq_true rfl) (Nat.le_of_ble_eq_true rfl) rfl rfl (daX3_init_0 15 rfl) hc8 (fun q => absurd q (by decide)) ?_
  refine GM_mem hμ20 ?_
  cases h
  exact GM_vret (pc := 33) (daX3_init_0 16 rfl) rfl hK
theorem tX3_init (l : Launch) {v0 : Int} {μ : Mm} {t : Mm} {c0 n0 : Nat} (h : fX3_init v0 μ = some (t, c0, n0)) : Ct l yX3_init mX3_init [(3, v0)] μ ([], t, c0, n0) :=
  Ct_of (by decide +kernel) rfl rfl (Nat.le_of_ble_eq_true rfl) (fun _ _ _ => trivial) (gX3_init_0 (k := 0) (n := 0) l h ⟨rfl, rfl⟩)
def mX3_byteAt : MI := (RX3, cX3_byteAt, 2, (some .int), "byteAt", 0, 0, fun _ _ _ => True)
theorem cwX3_byteAt : CWd yX3_byteAt mX3_byteAt 1 := ⟨ki_X3, kk_X3_byteAt, ⟨by decide, by decide⟩, rfl⟩
def dtX3_byteAt_0 : List (Nat × Instr × Nat) := [(0, .iload_n 1, 1), (1, .ifCond .lt 29, 3), (4, .iload_n 1, 1), (5, .aload_n 0, 1), (6, .getfield 53, 3), (9, .if_icmp .ge 21, 3), (12, .iload_n 1, 1), (13, .aload_n 0, 1), (14, .getfield 25, 3), (17, .arraylength, 1), (18, .if_icmp .ge 12, 3), (21, .aload_n 0, 1), (22, .getfield 25, 3), (25, .iload_n 1, 1), (26, .iaload, 1), (27, .goto 4, 3), (30, .iconst (-1), 1), (31, .ireturn, 1)]
theorem ddX3_byteAt_0 : (dtX3_byteAt_0.all fun e => decide (decode mX3_byteAt.2.1 e.1 = .ok (e.2.1, e.2.2))) = true := by decide +kernel
theorem daX3_byteAt_0 (j : Nat) {pc n : Nat} {i : Instr} (h : dtX3_byteAt_0[j]? = some (pc, i, n)) : decode mX3_byteAt.2.1 pc = .ok (i, n) := dec_of (c := mX3_byteAt.2.1) ddX3_byteAt_0 h
def fX3_byteAt (v0 v1 : Int) (μ : Mm) : Option Int :=
  if v1 < 0 then
    some (-1)
  else
    chk (KD v0 = 3) (
    if μ v0 5 ≤ v1 then
      some (-1)
    else
      chk (KD (μ v0 4) = 12 ∧ 0 ≤ LN (μ v0 4) ∧ LN (μ v0 4) < 2147483648) (
      if LN (μ v0 4) ≤ v1 then
        some (-1)
      else
        chk (0 ≤ v1 ∧ v1 < LN (μ v0 4)) (
        some (μ (μ v0 4) v1))))
set_option maxRecDepth 20000 in
theorem gX3_byteAt_0 (l : Launch) {F : FI} {v0 v1 : Int} {μ : Mm} {t : Int} (h : fX3_byteAt v0 v1 μ = some t) (hK : F.1 = [(0, t)] ∧ F.2.1 = μ) : GM l mX3_byteAt F 0 0 0 [(0, (3, v0)), (1, (0, v1))] [] μ := by
  unfold fX3_byteAt at h
  refine GM_iload_n (pc := 0) 1 rfl (daX3_byteAt_0 0 rfl) rfl ?_
  refine GM_if_lt (pc := 1) 30 (daX3_byteAt_0 1 rfl) rfl (fun c1 => ?_) (fun c1 => ?_)
  · skip
    rw [if_pos c1] at h
    refine GM_iconst (pc := 30) (-1) (daX3_byteAt_0 16 rfl) rfl (R32_b rfl) ?_
    cases h
    exact GM_iret (pc := 31) (daX3_byteAt_0 17 rfl) rfl hK
  · skip
    rw [if_neg c1] at h
    refine GM_iload_n (pc := 4) 1 rfl (daX3_byteAt_0 2 rfl) rfl ?_
    refine GM_aload_n (pc := 5) 0 rfl (daX3_byteAt_0 3 rfl) rfl ?_
    obtain ⟨hc2, h⟩ := chk_inv h
    refine GM_getf (pc := 6) 3 5 0 5 kf_X3_53 (Nat.le_of_ble_eq_true rfl) (Nat.le_of_ble_eq_true rfl) rfl (daX3_byteAt_0 4 rfl) hc2 rfl ?_
    refine GM_icmp_ge (pc := 9) 30 (daX3_byteAt_0 5 rfl) rfl (fun c3 => ?_) (fun c3 => ?_)
    · skip
      rw [if_pos c3] at h
      refine GM_iconst (pc := 30) (-1) (daX3_byteAt_0 16 rfl) rfl (R32_b rfl) ?_
      cases h
      exact GM_iret (pc := 31) (daX3_byteAt_0 17 rfl) rfl hK
    · skip
      rw [if_neg c3] at h
      refine GM_iload_n (pc := 12) 1 rfl (daX3_byteAt_0 6 rfl) rfl ?_
      refine GM_aload_n (pc := 13) 0 rfl (daX3_byteAt_0 7 rfl) rfl ?_
      refine GM_getf (pc := 14) 3 4 3 4 kf_X3_25 (Nat.le_of_ble_eq_true rfl) (Nat.le_of_ble_eq_true rfl) rfl (daX3_byteAt_0 8 rfl) hc2 rfl ?_
      obtain ⟨hc4, h⟩ := chk_inv h
      refine GM_ileni (pc := 17) (daX3_byteAt_0 9 rfl) hc4.1 hc4.2.1 hc4.2.2 ?_
      refine GM_icmp_ge (pc := 18) 30 (daX3_byteAt_0 10 rfl) rfl (fun c5 => ?_) (fun c5 => ?_)
      · skip
        rw [if_pos c5] at h
        refine GM_iconst (pc := 30) (-1) (daX3_byteAt_0 16 rfl) rfl (R32_b rfl) ?_
        cases h
        exact GM_iret (pc := 31) (daX3_byteAt_0 17 rfl) rfl hK
      · skip
        rw [if_neg c5] at h
        refine GM_aload_n (pc := 21) 0 rfl (daX3_byteAt_0 11 rfl) rfl ?_
        refine GM_getf (pc := 22) 3 4 3 4 kf_X3_25 (Nat.le_of_ble_eq_true rfl) (Nat.le_of_ble_eq_true rfl) rfl (daX3_byteAt_0 12 rfl) hc2 rfl ?_
        refine GM_iload_n (pc := 25) 1 rfl (daX3_byteAt_0 13 rfl) rfl ?_
        obtain ⟨hc6, h⟩ := chk_inv h
        refine GM_iald (pc := 26) (daX3_byteAt_0 14 rfl) hc4.1 hc6.1 hc6.2 ?_
        refine GM_goto (pc := 27) 31 (daX3_byteAt_0 15 rfl) rfl ?_
        cases h
        exact GM_iret (pc := 31) (daX3_byteAt_0 17 rfl) rfl hK
theorem tX3_byteAt (l : Launch) {v0 v1 : Int} {μ : Mm} {t : Int} (h : fX3_byteAt v0 v1 μ = some t) : Ct l yX3_byteAt mX3_byteAt [(3, v0), (0, v1)] μ ([(0, t)], μ, 0, 0) :=
  Ct_of (by decide +kernel) rfl rfl (Nat.le_of_ble_eq_true rfl) (fun _ _ _ => trivial) (gX3_byteAt_0 l h ⟨rfl, rfl⟩)
def mX3_advance : MI := (RX3, cX3_advance, 3, none, "advance", 1, 21, fun _ _ _ => True)
theorem cwX3_advance : CWd yX3_advance mX3_advance 0 := ⟨ki_X3, kk_X3_advance, ⟨by decide, by decide⟩, rfl⟩
def dtX3_advance_0 : List (Nat × Instr × Nat) := [(0, .aload_n 0, 1), (1, .getfield 76, 3), (4, .istore_n 1, 1), (5, .iload_n 1, 1), (6, .aload_n 0, 1), (7, .getfield 53, 3), (10, .if_icmp .ge 33, 3), (13, .aload_n 0, 1), (14, .aload_n 0, 1), (15, .getfield 76, 3), (18, .invokevirtual 206, 3), (21, .invokestatic 210, 3), (24, .ifCond .eq 19, 3), (27, .aload_n 0, 1), (28, .dup, 1), (29, .getfield 76, 3), (32, .iconst 1, 1), (33, .iadd, 1), (34, .putfield 76, 3), (37, .iinc 1 1, 3), (40, .goto (-35), 3), (43, .aload_n 0, 1), (44, .aload_n 0, 1), (45, .getfield 76, 3), (48, .putfield 148, 3), (51, .aload_n 0, 1), (52, .aload_n 0, 1), (53, .getfield 76, 3), (56, .invokevirtual 206, 3), (59, .istore_n 1, 1), (60, .iload_n 1, 1), (61, .iconst (-1), 1), (62, .if_icmp .ne 11, 3), (65, .aload_n 0, 1), (66, .iconst 0, 1), (67, .putfield 40, 3), (70, .goto 161, 3), (73, .iload_n 1, 1), (74, .invokestatic 213, 3), (77, .ifCond .eq 54, 3), (80, .aload_n 0, 1), (81, .iconst 1, 1), (82, .putfield 40, 3), (85, .aload_n 0, 1), (86, .getfield 76, 3), (89, .istore_n 2, 1), (90, .iload_n 2, 1), (91, .aload_n 0, 1), (92, .getfield 53, 3), (95, .if_icmp .ge 33, 3), (98, .aload_n 0, 1), (99, .aload_n 0, 1), (100, .getfield 76, 3), (103, .invokevirtual 206, 3), (106, .invokestatic 213, 3), (109, .ifCond .eq 19, 3), (112, .aload_n 0, 1), (113, .dup, 1), (114, .getfield 76, 3), (117, .iconst 1, 1), (118, .iadd, 1), (119, .putfield 76, 3), (122, .iinc 2 1, 3), (125, .goto (-35), 3)]
theorem ddX3_advance_0 : (dtX3_advance_0.all fun e => decide (decode mX3_advance.2.1 e.1 = .ok (e.2.1, e.2.2))) = true := by decide +kernel
theorem daX3_advance_0 (j : Nat) {pc n : Nat} {i : Instr} (h : dtX3_advance_0[j]? = some (pc, i, n)) : decode mX3_advance.2.1 pc = .ok (i, n) := dec_of (c := mX3_advance.2.1) ddX3_advance_0 h
def dtX3_advance_1 : List (Nat × Instr × Nat) := [(128, .goto 103, 3), (131, .iload_n 1, 1), (132, .invokestatic 216, 3), (135, .ifCond .eq 71, 3), (138, .aload_n 0, 1), (139, .getfield 76, 3), (142, .istore_n 2, 1), (143, .iload_n 2, 1), (144, .aload_n 0, 1), (145, .getfield 53, 3), (148, .if_icmp .ge 33, 3), (151, .aload_n 0, 1), (152, .aload_n 0, 1), (153, .getfield 76, 3), (156, .invokevirtual 206, 3), (159, .invokestatic 216, 3), (162, .ifCond .eq 19, 3), (165, .aload_n 0, 1), (166, .dup, 1), (167, .getfield 76, 3), (170, .iconst 1, 1), (171, .iadd, 1), (172, .putfield 76, 3), (175, .iinc 2 1, 3), (178, .goto (-35), 3), (181, .aload_n 0, 1), (182, .aload_n 0, 1), (183, .getfield 76, 3), (186, .aload_n 0, 1), (187, .getfield 148, 3), (190, .isub, 1), (191, .iconst 3, 1), (192, .if_icmp .gt 7, 3), (195, .iconst 2, 1), (196, .goto 4, 3), (199, .iconst 4, 1), (200, .putfield 40, 3), (203, .goto 28, 3), (206, .aload_n 0, 1), (207, .iload_n 1, 1), (208, .bipush 59, 2), (210, .if_icmp .ne 7, 3), (213, .iconst 3, 1), (214, .goto 4, 3), (217, .iconst 4, 1), (218, .putfield 40, 3), (221, .aload_n 0, 1), (222, .dup, 1), (223, .getfield 76, 3), (226, .iconst 1, 1), (227, .iadd, 1), (228, .putfield 76, 3), (231, .return_, 1)]
theorem ddX3_advance_1 : (dtX3_advance_1.all fun e => decide (decode mX3_advance.2.1 e.1 = .ok (e.2.1, e.2.2))) = true := by decide +kernel
theorem daX3_advance_1 (j : Nat) {pc n : Nat} {i : Instr} (h : dtX3_advance_1[j]? = some (pc, i, n)) : decode mX3_advance.2.1 pc = .ok (i, n) := dec_of (c := mX3_advance.2.1) ddX3_advance_1 h
def zX3_advance_5 (l : Launch) (F : FI) (v0 : Int) (k n : Nat) : (Int × Mm) ⊕ Mm → Prop
  | .inl (v1, μ) => GM l mX3_advance F k n 5 [(0, (3, v0)), (1, (0, v1))] [] μ
  | .inr μ => GM l mX3_advance F k n 43 [(0, (3, v0))] [] μ
def sX3_advance_5 (v0 : Int) : (Int × Mm) → Option ((Int × Mm) ⊕ Mm) := fun (v1, μ) =>
  chk (KD v0 = 3) (
  if μ v0 5 ≤ v1 then
    some (.inr μ)
  else
    (fX3_byteAt v0 (μ v0 6) μ).bind fun r3 =>
    if isBla r3 = 0 then
      some (.inr μ)
    else
      lm (mst μ v0 6 (w32 ((μ v0 6) + 1))) fun μ5 =>
      some (.inl (w32 (v1 + 1), μ5)))
def zX3_advance_90 (l : Launch) (F : FI) (v0 : Int) (k n : Nat) : (Int × Mm) ⊕ Mm → Prop
  | .inl (v2, μ) => GM l mX3_advance F k n 90 [(0, (3, v0)), (2, (0, v2))] [] μ
  | .inr μ => GM l mX3_advance F k n 128 [] [] μ
def sX3_advance_90 (v0 : Int) : (Int × Mm) → Option ((Int × Mm) ⊕ Mm) := fun (v2, μ) =>
  chk (KD v0 = 3) (
  if μ v0 5 ≤ v2 then
    some (.inr μ)
  else
    (fX3_byteAt v0 (μ v0 6) μ).bind fun r8 =>
    if isLet r8 = 0 then
      some (.inr μ)
    else
      lm (mst μ v0 6 (w32 ((μ v0 6) + 1))) fun μ10 =>
      some (.inl (w32 (v2 + 1), μ10)))
def zX3_advance_143 (l : Launch) (F : FI) (v0 : Int) (k n : Nat) : (Int × Mm) ⊕ Mm → Prop
  | .inl (v2, μ) => GM l mX3_advance F k n 143 [(0, (3, v0)), (2, (0, v2))] [] μ
  | .inr μ => GM l mX3_advance F k n 181 [(0, (3, v0))] [] μ
def sX3_advance_143 (v0 : Int) : (Int × Mm) → Option ((Int × Mm) ⊕ Mm) := fun (v2, μ) =>
  chk (KD v0 = 3) (
  if μ v0 5 ≤ v2 then
    some (.inr μ)
  else
    (fX3_byteAt v0 (μ v0 6) μ).bind fun r13 =>
    if isDig r13 = 0 then
      some (.inr μ)
    else
      lm (mst μ v0 6 (w32 ((μ v0 6) + 1))) fun μ15 =>
      some (.inl (w32 (v2 + 1), μ15)))
def fX3_advance (v0 : Int) (μ : Mm) : Option Mm :=
  chk (KD v0 = 3) (
  (lop (sX3_advance_5 v0) FU (μ v0 6, μ)).bind fun μ_18 =>
    lm (mst μ_18 v0 8 (μ_18 v0 6)) fun μ19 =>
    (fX3_byteAt v0 (μ19 v0 6) μ19).bind fun r20 =>
    if r20 = (-1) then
      lm (mst μ19 v0 7 0) fun μ37 =>
      some μ37
    else
      if isLet r20 = 0 then
        if isDig r20 = 0 then
          if r20 = 59 then
            lm (mst μ19 v0 7 3) fun μ27 =>
            lm (mst μ27 v0 6 (w32 ((μ27 v0 6) + 1))) fun μ28 =>
            some μ28
          else
            lm (mst μ19 v0 7 4) fun μ25 =>
            lm (mst μ25 v0 6 (w32 ((μ25 v0 6) + 1))) fun μ26 =>
            some μ26
        else
          (lop (sX3_advance_143 v0) FU (μ19 v0 6, μ19)).bind fun μ_30 =>
            if 3 < w32 ((μ_30 v0 6) - (μ_30 v0 8)) then
              lm (mst μ_30 v0 7 4) fun μ32 =>
              some μ32
            else
              lm (mst μ_30 v0 7 2) fun μ33 =>
              some μ33
      else
        lm (mst μ19 v0 7 1) fun μ34 =>
        (lop (sX3_advance_90 v0) FU (μ34 v0 6, μ34)).bind fun μ_36 =>
          some μ_36)
set_option maxRecDepth 20000 in
theorem qX3_advance_5 (l : Launch) (F : FI) (v0 : Int) (k n : Nat) : ∀ (q : (Int × Mm)) (t : ((Int × Mm) ⊕ Mm)), sX3_advance_5 v0 q = some t → zX3_advance_5 l F v0 k n t → zX3_advance_5 l F v0 k n (.inl q) := by
  intro q t h hK
  obtain ⟨v1, μ⟩ := q
  unfold sX3_advance_5 at h
  try dsimp only at h
  show GM l mX3_advance F k n 5 [(0, (3, v0)), (1, (0, v1))] [] μ
  refine GM_iload_n (pc := 5) 1 rfl (daX3_advance_0 3 rfl) rfl ?_
  refine GM_aload_n (pc := 6) 0 rfl (daX3_advance_0 4 rfl) rfl ?_
  obtain ⟨hc1, h⟩ := chk_inv h
  refine GM_getf (pc := 7) 3 5 0 5 kf_X3_53 (Nat.le_of_ble_eq_true rfl) (Nat.le_of_ble_eq_true rfl) rfl (daX3_advance_0 5 rfl) hc1 rfl ?_
  refine GM_icmp_ge (pc := 10) 43 (daX3_advance_0 6 rfl) rfl (fun c2 => ?_) (fun c2 => ?_)
  · skip
    rw [if_pos c2] at h
    refine GM_pick [0] rfl ?_
    cases h
    exact hK
  · skip
    rw [if_neg c2] at h
    refine GM_aload_n (pc := 13) 0 rfl (daX3_advance_0 7 rfl) rfl ?_
    refine GM_aload_n (pc := 14) 0 rfl (daX3_advance_0 8 rfl) rfl ?_
    refine GM_getf (pc := 15) 3 6 0 6 kf_X3_76 (Nat.le_of_ble_eq_true rfl) (Nat.le_of_ble_eq_true rfl) rfl (daX3_advance_0 9 rfl) hc1 rfl ?_
    obtain ⟨r3, hf3, h⟩ := Option.bind_eq_some_iff.mp h
    refine GM_callV0 (pc := 18) [(0, μ v0 6)] (tX3_byteAt l hf3) cwX3_byteAt 3 (Nat.le_of_ble_eq_true rfl) rfl kv_X3_byteAt ke_X3_byteAt km_X3_206 hc1 ⟨Nat.le_of_ble_eq_true rfl, Nat.le_of_ble_eq_true rfl⟩ (Nat.le_of_ble_eq_true rfl) (Nat.le_of_ble_eq_true rfl) (daX3_advance_0 10 rfl) ?_
    refine GM_callS0 (pc := 21) [(0, r3)] (tX3_isBlank l (fX3_isBlank_eq r3)) cwX3_isBlank ks_X3_isBlank km_X3_210 ⟨Nat.le_of_ble_eq_true rfl, Nat.le_of_ble_eq_true rfl⟩ (Nat.le_of_ble_eq_true rfl) (Nat.le_of_ble_eq_true rfl) (daX3_advance_0 11 rfl) ?_
    refine GM_if_eq (pc := 24) 43 (daX3_advance_0 12 rfl) rfl (fun c4 => ?_) (fun c4 => ?_)
    · skip
      rw [if_pos c4] at h
      refine GM_pick [0] rfl ?_
      cases h
      exact hK
    · skip
      rw [if_neg c4] at h
      refine GM_aload_n (pc := 27) 0 rfl (daX3_advance_0 13 rfl) rfl ?_
      refine GM_dup (pc := 28) (daX3_advance_0 14 rfl) (Nat.ne_of_beq_eq_false rfl) ?_
      refine GM_getf (pc := 29) 3 6 0 6 kf_X3_76 (Nat.le_of_ble_eq_true rfl) (Nat.le_of_ble_eq_true rfl) rfl (daX3_advance_0 15 rfl) hc1 rfl ?_
      refine GM_iconst (pc := 32) 1 (daX3_advance_0 16 rfl) rfl (R32_b rfl) ?_
      refine GM_iadd (pc := 33) (daX3_advance_0 17 rfl) ?_
      obtain ⟨μ5, hμ5, h⟩ := lm_inv h
      refine GM_putf (pc := 34) 3 6 0 kf_X3_76 (Nat.le_of_ble_eq_true rfl) (Nat.le_of_ble_eq_true rfl) rfl rfl (daX3_advance_0 18 rfl) hc1 (fun q => absurd q (by decide)) ?_
      refine GM_mem hμ5 ?_
      refine GM_iinc (L' := [(1, (0, w32 (v1 + 1))), (0, (3, v0))]) (pc := 37) 1 rfl (daX3_advance_0 19 rfl) (Nat.le_of_ble_eq_true rfl) rfl ?_
      refine GM_goto (pc := 40) 5 (daX3_advance_0 20 rfl) rfl ?_
      refine GM_pick [1, 0] rfl ?_
      cases h
      exact hK
set_option maxRecDepth 20000 in
theorem qX3_advance_90 (l : Launch) (F : FI) (v0 : Int) (k n : Nat) : ∀ (q : (Int × Mm)) (t : ((Int × Mm) ⊕ Mm)), sX3_advance_90 v0 q = some t → zX3_advance_90 l F v0 k n t → zX3_advance_90 l F v0 k n (.inl q) := by
  intro q t h hK
  obtain ⟨v2, μ⟩ := q
  unfold sX3_advance_90 at h
  try dsimp only at h
  show GM l mX3_advance F k n 90 [(0, (3, v0)), (2, (0, v2))] [] μ
  refine GM_iload_n (pc := 90) 1 rfl (daX3_advance_0 46 rfl) rfl ?_
  refine GM_aload_n (pc := 91) 0 rfl (daX3_advance_0 47 rfl) rfl ?_
  obtain ⟨hc6, h⟩ := chk_inv h
  refine GM_getf (pc := 92) 3 5 0 5 kf_X3_53 (Nat.le_of_ble_eq_true rfl) (Nat.le_of_ble_eq_true rfl) rfl (daX3_advance_0 48 rfl) hc6 rfl ?_
  refine GM_icmp_ge (pc := 95) 128 (daX3_advance_0 49 rfl) rfl (fun c7 => ?_) (fun c7 => ?_)
  · skip
    rw [if_pos c7] at h
    refine GM_pick [] rfl ?_
    cases h
    exact hK
  · skip
    rw [if_neg c7] at h
    refine GM_aload_n (pc := 98) 0 rfl (daX3_advance_0 50 rfl) rfl ?_
    refine GM_aload_n (pc := 99) 0 rfl (daX3_advance_0 51 rfl) rfl ?_
    refine GM_getf (pc := 100) 3 6 0 6 kf_X3_76 (Nat.le_of_ble_eq_true rfl) (Nat.le_of_ble_eq_true rfl) rfl (daX3_advance_0 52 rfl) hc6 rfl ?_
    obtain ⟨r8, hf8, h⟩ := Option.bind_eq_some_iff.mp h
    refine GM_callV0 (pc := 103) [(0, μ v0 6)] (tX3_byteAt l hf8) cwX3_byteAt 3 (Nat.le_of_ble_eq_true rfl) rfl kv_X3_byteAt ke_X3_byteAt km_X3_206 hc6 ⟨Nat.le_of_ble_eq_true rfl, Nat.le_of_ble_eq_true rfl⟩ (Nat.le_of_ble_eq_true rfl) (Nat.le_of_ble_eq_true rfl) (daX3_advance_0 53 rfl) ?_
    refine GM_callS0 (pc := 106) [(0, r8)] (tX3_isLetter l (fX3_isLetter_eq r8)) cwX3_isLetter ks_X3_isLetter km_X3_213 ⟨Nat.le_of_ble_eq_true rfl, Nat.le_of_ble_eq_true rfl⟩ (Nat.le_of_ble_eq_true rfl) (Nat.le_of_ble_eq_true rfl) (daX3_advance_0 54 rfl) ?_
    refine GM_if_eq (pc := 109) 128 (daX3_advance_0 55 rfl) rfl (fun c9 => ?_) (fun c9 => ?_)
    · skip
      rw [if_pos c9] at h
      refine GM_pick [] rfl ?_
      cases h
      exact hK
    · skip
      rw [if_neg c9] at h
      refine GM_aload_n (pc := 112) 0 rfl (daX3_advance_0 56 rfl) rfl ?_
      refine GM_dup (pc := 113) (daX3_advance_0 57 rfl) (Nat.ne_of_beq_eq_false rfl) ?_
      refine GM_getf (pc := 114) 3 6 0 6 kf_X3_76 (Nat.le_of_ble_eq_true rfl) (Nat.le_of_ble_eq_true rfl) rfl (daX3_advance_0 58 rfl) hc6 rfl ?_
      refine GM_iconst (pc := 117) 1 (daX3_advance_0 59 rfl) rfl (R32_b rfl) ?_
      refine GM_iadd (pc := 118) (daX3_advance_0 60 rfl) ?_
      obtain ⟨μ10, hμ10, h⟩ := lm_inv h
      refine GM_putf (pc := 119) 3 6 0 kf_X3_76 (Nat.le_of_ble_eq_true rfl) (Nat.le_of_ble_eq_true rfl) rfl rfl (daX3_advance_0 61 rfl) hc6 (fun q => absurd q (by decide)) ?_
      refine GM_mem hμ10 ?_
      refine GM_iinc (L' := [(2, (0, w32 (v2 + 1))), (0, (3, v0))]) (pc := 122) 1 rfl (daX3_advance_0 62 rfl) (Nat.le_of_ble_eq_true rfl) rfl ?_
      refine GM_goto (pc := 125) 90 (daX3_advance_0 63 rfl) rfl ?_
      refine GM_pick [1, 0] rfl ?_
      cases h
      exact hK
set_option maxRecDepth 20000 in
theorem qX3_advance_143 (l : Launch) (F : FI) (v0 : Int) (k n : Nat) : ∀ (q : (Int × Mm)) (t : ((Int × Mm) ⊕ Mm)), sX3_advance_143 v0 q = some t → zX3_advance_143 l F v0 k n t → zX3_advance_143 l F v0 k n (.inl q) := by
  intro q t h hK
  obtain ⟨v2, μ⟩ := q
  unfold sX3_advance_143 at h
  try dsimp only at h
  show GM l mX3_advance F k n 143 [(0, (3, v0)), (2, (0, v2))] [] μ
  refine GM_iload_n (pc := 143) 1 rfl (daX3_advance_1 7 rfl) rfl ?_
  refine GM_aload_n (pc := 144) 0 rfl (daX3_advance_1 8 rfl) rfl ?_
  obtain ⟨hc11, h⟩ := chk_inv h
  refine GM_getf (pc := 145) 3 5 0 5 kf_X3_53 (Nat.le_of_ble_eq_true rfl) (Nat.le_of_ble_eq_true rfl) rfl (daX3_advance_1 9 rfl) hc11 rfl ?_
  refine GM_icmp_ge (pc := 148) 181 (daX3_advance_1 10 rfl) rfl (fun c12 => ?_) (fun c12 => ?_)
  · skip
    rw [if_pos c12] at h
    refine GM_pick [0] rfl ?_
    cases h
    exact hK
  · skip
    rw [if_neg c12] at h
    refine GM_aload_n (pc := 151) 0 rfl (daX3_advance_1 11 rfl) rfl ?_
    refine GM_aload_n (pc := 152) 0 rfl (daX3_advance_1 12 rfl) rfl ?_
    refine GM_getf (pc := 153) 3 6 0 6 kf_X3_76 (Nat.le_of_ble_eq_true rfl) (Nat.le_of_ble_eq_true rfl) rfl (daX3_advance_1 13 rfl) hc11 rfl ?_
    obtain ⟨r13, hf13, h⟩ := Option.bind_eq_some_iff.mp h
    refine GM_callV0 (pc := 156) [(0, μ v0 6)] (tX3_byteAt l hf13) cwX3_byteAt 3 (Nat.le_of_ble_eq_true rfl) rfl kv_X3_byteAt ke_X3_byteAt km_X3_206 hc11 ⟨Nat.le_of_ble_eq_true rfl, Nat.le_of_ble_eq_true rfl⟩ (Nat.le_of_ble_eq_true rfl) (Nat.le_of_ble_eq_true rfl) (daX3_advance_1 14 rfl) ?_
    refine GM_callS0 (pc := 159) [(0, r13)] (tX3_isDigit l (fX3_isDigit_eq r13)) cwX3_isDigit ks_X3_isDigit km_X3_216 ⟨Nat.le_of_ble_eq_true rfl, Nat.le_of_ble_eq_true rfl⟩ (Nat.le_of_ble_eq_true rfl) (Nat.le_of_ble_eq_true rfl) (daX3_advance_1 15 rfl) ?_
    refine GM_if_eq (pc := 162) 181 (daX3_advance_1 16 rfl) rfl (fun c14 => ?_) (fun c14 => ?_)
    · skip
      rw [if_pos c14] at h
      refine GM_pick [0] rfl ?_
      cases h
      exact hK
    · skip
      rw [if_neg c14] at h
      refine GM_aload_n (pc := 165) 0 rfl (daX3_advance_1 17 rfl) rfl ?_
      refine GM_dup (pc := 166) (daX3_advance_1 18 rfl) (Nat.ne_of_beq_eq_false rfl) ?_
      refine GM_getf (pc := 167) 3 6 0 6 kf_X3_76 (Nat.le_of_ble_eq_true rfl) (Nat.le_of_ble_eq_true rfl) rfl (daX3_advance_1 19 rfl) hc11 rfl ?_
      refine GM_iconst (pc := 170) 1 (daX3_advance_1 20 rfl) rfl (R32_b rfl) ?_
      refine GM_iadd (pc := 171) (daX3_advance_1 21 rfl) ?_
      obtain ⟨μ15, hμ15, h⟩ := lm_inv h
      refine GM_putf (pc := 172) 3 6 0 kf_X3_76 (Nat.le_of_ble_eq_true rfl) (Nat.le_of_ble_eq_true rfl) rfl rfl (daX3_advance_1 22 rfl) hc11 (fun q => absurd q (by decide)) ?_
      refine GM_mem hμ15 ?_
      refine GM_iinc (L' := [(2, (0, w32 (v2 + 1))), (0, (3, v0))]) (pc := 175) 1 rfl (daX3_advance_1 23 rfl) (Nat.le_of_ble_eq_true rfl) rfl ?_
      refine GM_goto (pc := 178) 143 (daX3_advance_1 24 rfl) rfl ?_
      refine GM_pick [1, 0] rfl ?_
      cases h
      exact hK
set_option maxRecDepth 20000 in
theorem gX3_advance_0 (l : Launch) {F : FI} {v0 : Int} {μ : Mm} {t : Mm} (h : fX3_advance v0 μ = some t) (hK : F.1 = [] ∧ F.2.1 = t) : GM l mX3_advance F 0 0 0 [(0, (3, v0))] [] μ := by
  unfold fX3_advance at h
  refine GM_aload_n (pc := 0) 0 rfl (daX3_advance_0 0 rfl) rfl ?_
  obtain ⟨hc16, h⟩ := chk_inv h
  refine GM_getf (pc := 1) 3 6 0 6 kf_X3_76 (Nat.le_of_ble_eq_true rfl) (Nat.le_of_ble_eq_true rfl) rfl (daX3_advance_0 1 rfl) hc16 rfl ?_
  refine GM_istore_n (L' := [(1, (0, μ v0 6)), (0, (3, v0))]) (pc := 4) (daX3_advance_0 2 rfl) rfl (Nat.le_of_ble_eq_true rfl) rfl ?_
  refine GM_pick [1, 0] rfl ?_
  obtain ⟨x17, hqx17, h⟩ := Option.bind_eq_some_iff.mp h
  refine lop_ind (zX3_advance_5 l F v0 0 0) (qX3_advance_5 l F v0 0 0) FU _ x17 hqx17 ?_
  obtain ⟨μ_18, hqq⟩ : ∃ z, z = x17 := ⟨x17, rfl⟩
  subst hqq
  show GM l mX3_advance F 0 0 43 [(0, (3, v0))] [] μ_18
  refine GM_aload_n (pc := 43) 0 rfl (daX3_advance_0 21 rfl) rfl ?_
  refine GM_aload_n (pc := 44) 0 rfl (daX3_advance_0 22 rfl) rfl ?_
  refine GM_getf (pc := 45) 3 6 0 6 kf_X3_76 (Nat.le_of_ble_eq_true rfl) (Nat.le_of_ble_eq_true rfl) rfl (daX3_advance_0 23 rfl) hc16 rfl ?_
  obtain ⟨μ19, hμ19, h⟩ := lm_inv h
  refine GM_putf (pc := 48) 3 8 0 kf_X3_148 (Nat.le_of_ble_eq_true rfl) (Nat.le_of_ble_eq_true rfl) rfl rfl (daX3_advance_0 24 rfl) hc16 (fun q => absurd q (by decide)) ?_
  refine GM_mem hμ19 ?_
  refine GM_aload_n (pc := 51) 0 rfl (daX3_advance_0 25 rfl) rfl ?_
  refine GM_aload_n (pc := 52) 0 rfl (daX3_advance_0 26 rfl) rfl ?_
  refine GM_getf (pc := 53) 3 6 0 6 kf_X3_76 (Nat.le_of_ble_eq_true rfl) (Nat.le_of_ble_eq_true rfl) rfl (daX3_advance_0 27 rfl) hc16 rfl ?_
  obtain ⟨r20, hf20, h⟩ := Option.bind_eq_some_iff.mp h
  refine GM_callV0 (pc := 56) [(0, μ19 v0 6)] (tX3_byteAt l hf20) cwX3_byteAt 3 (Nat.le_of_ble_eq_true rfl) rfl kv_X3_byteAt ke_X3_byteAt km_X3_206 hc16 ⟨Nat.le_of_ble_eq_true rfl, Nat.le_of_ble_eq_true rfl⟩ (Nat.le_of_ble_eq_true rfl) (Nat.le_of_ble_eq_true rfl) (daX3_advance_0 28 rfl) ?_
  refine GM_istore_n (L' := [(1, (0, r20)), (0, (3, v0))]) (pc := 59) (daX3_advance_0 29 rfl) rfl (Nat.le_of_ble_eq_true rfl) rfl ?_
  refine GM_iload_n (pc := 60) 0 rfl (daX3_advance_0 30 rfl) rfl ?_
  refine GM_iconst (pc := 61) (-1) (daX3_advance_0 31 rfl) rfl (R32_b rfl) ?_
  refine GM_icmp_ne (pc := 62) 73 (daX3_advance_0 32 rfl) rfl (fun c21 => ?_) (fun c21 => ?_)
  · skip
    rw [if_neg c21] at h
    refine GM_iload_n (pc := 73) 0 rfl (daX3_advance_0 37 rfl) rfl ?_
    refine GM_callS0 (pc := 74) [(0, r20)] (tX3_isLetter l (fX3_isLetter_eq r20)) cwX3_isLetter ks_X3_isLetter km_X3_213 ⟨Nat.le_of_ble_eq_true rfl, Nat.le_of_ble_eq_true rfl⟩ (Nat.le_of_ble_eq_true rfl) (Nat.le_of_ble_eq_true rfl) (daX3_advance_0 38 rfl) ?_
    refine GM_if_eq (pc := 77) 131 (daX3_advance_0 39 rfl) rfl (fun c22 => ?_) (fun c22 => ?_)
    · skip
      rw [if_pos c22] at h
      refine GM_iload_n (pc := 131) 0 rfl (daX3_advance_1 1 rfl) rfl ?_
      refine GM_callS0 (pc := 132) [(0, r20)] (tX3_isDigit l (fX3_isDigit_eq r20)) cwX3_isDigit ks_X3_isDigit km_X3_216 ⟨Nat.le_of_ble_eq_true rfl, Nat.le_of_ble_eq_true rfl⟩ (Nat.le_of_ble_eq_true rfl) (Nat.le_of_ble_eq_true rfl) (daX3_advance_1 2 rfl) ?_
      refine GM_if_eq (pc := 135) 206 (daX3_advance_1 3 rfl) rfl (fun c23 => ?_) (fun c23 => ?_)
      · skip
        rw [if_pos c23] at h
        refine GM_aload_n (pc := 206) 1 rfl (daX3_advance_1 38 rfl) rfl ?_
        refine GM_iload_n (pc := 207) 0 rfl (daX3_advance_1 39 rfl) rfl ?_
        refine GM_bipush (pc := 208) 59 (daX3_advance_1 40 rfl) rfl (R32_b rfl) ?_
        refine GM_icmp_ne (pc := 210) 217 (daX3_advance_1 41 rfl) rfl (fun c24 => ?_) (fun c24 => ?_)
        · skip
          rw [if_neg c24] at h
          refine GM_iconst (pc := 217) 4 (daX3_advance_1 44 rfl) rfl (R32_b rfl) ?_
          obtain ⟨μ25, hμ25, h⟩ := lm_inv h
          refine GM_putf (pc := 218) 3 7 0 kf_X3_40 (Nat.le_of_ble_eq_true rfl) (Nat.le_of_ble_eq_true rfl) rfl rfl (daX3_advance_1 45 rfl) hc16 (fun q => absurd q (by decide)) ?_
          refine GM_mem hμ25 ?_
          refine GM_aload_n (pc := 221) 1 rfl (daX3_advance_1 46 rfl) rfl ?_
          refine GM_dup (pc := 222) (daX3_advance_1 47 rfl) (Nat.ne_of_beq_eq_false rfl) ?_
          refine GM_getf (pc := 223) 3 6 0 6 kf_X3_76 (Nat.le_of_ble_eq_true rfl) (Nat.le_of_ble_eq_true rfl) rfl (daX3_advance_1 48 rfl) hc16 rfl ?_
          refine GM_iconst (pc := 226) 1 (daX3_advance_1 49 rfl) rfl (R32_b rfl) ?_
          refine GM_iadd (pc := 227) (daX3_advance_1 50 rfl) ?_
          obtain ⟨μ26, hμ26, h⟩ := lm_inv h
          refine GM_putf (pc := 228) 3 6 0 kf_X3_76 (Nat.le_of_ble_eq_true rfl) (Nat.le_of_ble_eq_true rfl) rfl rfl (daX3_advance_1 51 rfl) hc16 (fun q => absurd q (by decide)) ?_
          refine GM_mem hμ26 ?_
          cases h
          exact GM_vret (pc := 231) (daX3_advance_1 52 rfl) rfl hK
        · skip
          rw [if_pos c24] at h
          refine GM_iconst (pc := 213) 3 (daX3_advance_1 42 rfl) rfl (R32_b rfl) ?_
          refine GM_goto (pc := 214) 218 (daX3_advance_1 43 rfl) rfl ?_
          obtain ⟨μ27, hμ27, h⟩ := lm_inv h
          refine GM_putf (pc := 218) 3 7 0 kf_X3_40 (Nat.le_of_ble_eq_true rfl) (Nat.le_of_ble_eq_true rfl) rfl rfl (daX3_advance_1 45 rfl) hc16 (fun q => absurd q (by decide)) ?_
          refine GM_mem hμ27 ?_
          refine GM_aload_n (pc := 221) 1 rfl (daX3_advance_1 46 rfl) rfl ?_
          refine GM_dup (pc := 222) (daX3_advance_1 47 rfl) (Nat.ne_of_beq_eq_false rfl) ?_
          refine GM_getf (pc := 223) 3 6 0 6 kf_X3_76 (Nat.le_of_ble_eq_true rfl) (Nat.le_of_ble_eq_true rfl) rfl (daX3_advance_1 48 rfl) hc16 rfl ?_
          refine GM_iconst (pc := 226) 1 (daX3_advance_1 49 rfl) rfl (R32_b rfl) ?_
          refine GM_iadd (pc := 227) (daX3_advance_1 50 rfl) ?_
          obtain ⟨μ28, hμ28, h⟩ := lm_inv h
          refine GM_putf (pc := 228) 3 6 0 kf_X3_76 (Nat.le_of_ble_eq_true rfl) (Nat.le_of_ble_eq_true rfl) rfl rfl (daX3_advance_1 51 rfl) hc16 (fun q => absurd q (by decide)) ?_
          refine GM_mem hμ28 ?_
          cases h
          exact GM_vret (pc := 231) (daX3_advance_1 52 rfl) rfl hK
      · skip
        rw [if_neg c23] at h
        refine GM_aload_n (pc := 138) 1 rfl (daX3_advance_1 4 rfl) rfl ?_
        refine GM_getf (pc := 139) 3 6 0 6 kf_X3_76 (Nat.le_of_ble_eq_true rfl) (Nat.le_of_ble_eq_true rfl) rfl (daX3_advance_1 5 rfl) hc16 rfl ?_
        refine GM_istore_n (L' := [(2, (0, μ19 v0 6)), (1, (0, r20)), (0, (3, v0))]) (pc := 142) (daX3_advance_1 6 rfl) rfl (Nat.le_of_ble_eq_true rfl) rfl ?_
        refine GM_pick [2, 0] rfl ?_
        obtain ⟨x29, hqx29, h⟩ := Option.bind_eq_some_iff.mp h
        refine lop_ind (zX3_advance_143 l F v0 0 0) (qX3_advance_143 l F v0 0 0) FU _ x29 hqx29 ?_
        obtain ⟨μ_30, hqq⟩ : ∃ z, z = x29 := ⟨x29, rfl⟩
        subst hqq
        show GM l mX3_advance F 0 0 181 [(0, (3, v0))] [] μ_30
        refine GM_aload_n (pc := 181) 0 rfl (daX3_advance_1 25 rfl) rfl ?_
        refine GM_aload_n (pc := 182) 0 rfl (daX3_advance_1 26 rfl) rfl ?_
        refine GM_getf (pc := 183) 3 6 0 6 kf_X3_76 (Nat.le_of_ble_eq_true rfl) (Nat.le_of_ble_eq_true rfl) rfl (daX3_advance_1 27 rfl) hc16 rfl ?_
        refine GM_aload_n (pc := 186) 0 rfl (daX3_advance_1 28 rfl) rfl ?_
        refine GM_getf (pc := 187) 3 8 0 8 kf_X3_148 (Nat.le_of_ble_eq_true rfl) (Nat.le_of_ble_eq_true rfl) rfl (daX3_advance_1 29 rfl) hc16 rfl ?_
        refine GM_isub (pc := 190) (daX3_advance_1 30 rfl) ?_
        refine GM_iconst (pc := 191) 3 (daX3_advance_1 31 rfl) rfl (R32_b rfl) ?_
        refine GM_icmp_gt (pc := 192) 199 (daX3_advance_1 32 rfl) rfl (fun c31 => ?_) (fun c31 => ?_)
        · skip
          rw [if_pos c31] at h
          refine GM_iconst (pc := 199) 4 (daX3_advance_1 35 rfl) rfl (R32_b rfl) ?_
          obtain ⟨μ32, hμ32, h⟩ := lm_inv h
          refine GM_putf (pc := 200) 3 7 0 kf_X3_40 (Nat.le_of_ble_eq_true rfl) (Nat.le_of_ble_eq_true rfl) rfl rfl (daX3_advance_1 36 rfl) hc16 (fun q => absurd q (by decide)) ?_
          refine GM_mem hμ32 ?_
          refine GM_goto (pc := 203) 231 (daX3_advance_1 37 rfl) rfl ?_
          cases h
          exact GM_vret (pc := 231) (daX3_advance_1 52 rfl) rfl hK
        · skip
          rw [if_neg c31] at h
          refine GM_iconst (pc := 195) 2 (daX3_advance_1 33 rfl) rfl (R32_b rfl) ?_
          refine GM_goto (pc := 196) 200 (daX3_advance_1 34 rfl) rfl ?_
          obtain ⟨μ33, hμ33, h⟩ := lm_inv h
          refine GM_putf (pc := 200) 3 7 0 kf_X3_40 (Nat.le_of_ble_eq_true rfl) (Nat.le_of_ble_eq_true rfl) rfl rfl (daX3_advance_1 36 rfl) hc16 (fun q => absurd q (by decide)) ?_
          refine GM_mem hμ33 ?_
          refine GM_goto (pc := 203) 231 (daX3_advance_1 37 rfl) rfl ?_
          cases h
          exact GM_vret (pc := 231) (daX3_advance_1 52 rfl) rfl hK
    · skip
      rw [if_neg c22] at h
      refine GM_aload_n (pc := 80) 1 rfl (daX3_advance_0 40 rfl) rfl ?_
      refine GM_iconst (pc := 81) 1 (daX3_advance_0 41 rfl) rfl (R32_b rfl) ?_
      obtain ⟨μ34, hμ34, h⟩ := lm_inv h
      refine GM_putf (pc := 82) 3 7 0 kf_X3_40 (Nat.le_of_ble_eq_true rfl) (Nat.le_of_ble_eq_true rfl) rfl rfl (daX3_advance_0 42 rfl) hc16 (fun q => absurd q (by decide)) ?_
      refine GM_mem hμ34 ?_
      refine GM_aload_n (pc := 85) 1 rfl (daX3_advance_0 43 rfl) rfl ?_
      refine GM_getf (pc := 86) 3 6 0 6 kf_X3_76 (Nat.le_of_ble_eq_true rfl) (Nat.le_of_ble_eq_true rfl) rfl (daX3_advance_0 44 rfl) hc16 rfl ?_
      refine GM_istore_n (L' := [(2, (0, μ34 v0 6)), (1, (0, r20)), (0, (3, v0))]) (pc := 89) (daX3_advance_0 45 rfl) rfl (Nat.le_of_ble_eq_true rfl) rfl ?_
      refine GM_pick [2, 0] rfl ?_
      obtain ⟨x35, hqx35, h⟩ := Option.bind_eq_some_iff.mp h
      refine lop_ind (zX3_advance_90 l F v0 0 0) (qX3_advance_90 l F v0 0 0) FU _ x35 hqx35 ?_
      obtain ⟨μ_36, hqq⟩ : ∃ z, z = x35 := ⟨x35, rfl⟩
      subst hqq
      show GM l mX3_advance F 0 0 128 [] [] μ_36
      refine GM_goto (pc := 128) 231 (daX3_advance_1 0 rfl) rfl ?_
      cases h
      exact GM_vret (pc := 231) (daX3_advance_1 52 rfl) rfl hK
  · skip
    rw [if_pos c21] at h
    refine GM_aload_n (pc := 65) 1 rfl (daX3_advance_0 33 rfl) rfl ?_
    refine GM_iconst (pc := 66) 0 (daX3_advance_0 34 rfl) rfl (R32_b rfl) ?_
    obtain ⟨μ37, hμ37, h⟩ := lm_inv h
    refine GM_putf (pc := 67) 3 7 0 kf_X3_40 (Nat.le_of_ble_eq_true rfl) (Nat.le_of_ble_eq_true rfl) rfl rfl (daX3_advance_0 35 rfl) hc16 (fun q => absurd q (by decide)) ?_
    refine GM_mem hμ37 ?_
    refine GM_goto (pc := 70) 231 (daX3_advance_0 36 rfl) rfl ?_
    cases h
    exact GM_vret (pc := 231) (daX3_advance_1 52 rfl) rfl hK
theorem tX3_advance (l : Launch) {v0 : Int} {μ : Mm} {t : Mm} (h : fX3_advance v0 μ = some t) : Ct l yX3_advance mX3_advance [(3, v0)] μ ([], t, 0, 0) :=
  Ct_of (by decide +kernel) rfl rfl (Nat.le_of_ble_eq_true rfl) (fun _ _ _ => trivial) (gX3_advance_0 l h ⟨rfl, rfl⟩)
def mX3_open : MI := (RX3, cX3_open, 3, none, "open", 2, 43, fun _ _ _ => True)
theorem cwX3_open : CWd yX3_open mX3_open 2 := ⟨ki_X3, kk_X3_open, ⟨by decide, by decide⟩, rfl⟩
def dtX3_open_0 : List (Nat × Instr × Nat) := [(0, .aload_n 0, 1), (1, .aload_n 1, 1), (2, .putfield 25, 3), (5, .aload_n 0, 1), (6, .iconst 0, 1), (7, .iload_n 2, 1), (8, .aload_n 1, 1), (9, .arraylength, 1), (10, .invokestatic 67, 3), (13, .invokestatic 73, 3), (16, .putfield 53, 3), (19, .aload_n 0, 1), (20, .iconst 0, 1), (21, .putfield 76, 3), (24, .aload_n 0, 1), (25, .iconst 0, 1), (26, .putfield 43, 3), (29, .aload_n 0, 1), (30, .iconst (-1), 1), (31, .putfield 79, 3), (34, .aload_n 0, 1), (35, .invokevirtual 82, 3), (38, .return_, 1)]
theorem ddX3_open_0 : (dtX3_open_0.all fun e => decide (decode mX3_open.2.1 e.1 = .ok (e.2.1, e.2.2))) = true := by decide +kernel
theorem daX3_open_0 (j : Nat) {pc n : Nat} {i : Instr} (h : dtX3_open_0[j]? = some (pc, i, n)) : decode mX3_open.2.1 pc = .ok (i, n) := dec_of (c := mX3_open.2.1) ddX3_open_0 h
def fX3_open (v0 v1 v2 : Int) (μ : Mm) : Option Mm :=
  chk (KD v0 = 3) (
  lm (mst μ v0 4 v1) fun μ2 =>
  chk (KD v1 = 12 ∧ 0 ≤ LN v1 ∧ LN v1 < 2147483648) (
  lm (mst μ2 v0 5 (imax 0 (imin v2 (LN v1)))) fun μ4 =>
  lm (mst μ4 v0 6 0) fun μ5 =>
  lm (mst μ5 v0 2 0) fun μ6 =>
  lm (mst μ6 v0 3 (-1)) fun μ7 =>
  (fX3_advance v0 μ7).bind fun μ8 =>
  some μ8))
set_option maxRecDepth 20000 in
theorem gX3_open_0 (l : Launch) {F : FI} {v0 v1 v2 : Int} {μ : Mm} {t : Mm} (h : fX3_open v0 v1 v2 μ = some t) (hK : F.1 = [] ∧ F.2.1 = t) : GM l mX3_open F 0 0 0 [(0, (3, v0)), (1, (3, v1)), (2, (0, v2))] [] μ := by
  unfold fX3_open at h
  refine GM_aload_n (pc := 0) 0 rfl (daX3_open_0 0 rfl) rfl ?_
  refine GM_aload_n (pc := 1) 1 rfl (daX3_open_0 1 rfl) rfl ?_
  obtain ⟨hc1, h⟩ := chk_inv h
  obtain ⟨μ2, hμ2, h⟩ := lm_inv h
  refine GM_putf (pc := 2) 3 4 3 kf_X3_25 (Nat.le_of_ble_eq_true rfl) (Nat.le_of_ble_eq_true rfl) rfl rfl (daX3_open_0 2 rfl) hc1 (fun q => absurd q (by decide)) ?_
  refine GM_mem hμ2 ?_
  refine GM_aload_n (pc := 5) 0 rfl (daX3_open_0 3 rfl) rfl ?_
  refine GM_iconst (pc := 6) 0 (daX3_open_0 4 rfl) rfl (R32_b rfl) ?_
  refine GM_iload_n (pc := 7) 2 rfl (daX3_open_0 5 rfl) rfl ?_
  refine GM_aload_n (pc := 8) 1 rfl (daX3_open_0 6 rfl) rfl ?_
  obtain ⟨hc3, h⟩ := chk_inv h
  refine GM_ileni (pc := 9) (daX3_open_0 7 rfl) hc3.1 hc3.2.1 hc3.2.2 ?_
  refine GM_callS0 (pc := 10) [(0, v2), (0, LN v1)] (tJ9_min_7cf53 l (fJ9_min_eq v2 (LN v1))) cwJ9_min_7cf53 ks_J9_min_7cf53 km_X3_67 ⟨Nat.le_of_ble_eq_true rfl, Nat.le_of_ble_eq_true rfl⟩ (Nat.le_of_ble_eq_true rfl) (Nat.le_of_ble_eq_true rfl) (daX3_open_0 8 rfl) ?_
  refine GM_callS0 (pc := 13) [(0, 0), (0, imin v2 (LN v1))] (tJ9_max_7cf53 l (fJ9_max_eq 0 (imin v2 (LN v1)))) cwJ9_max_7cf53 ks_J9_max_7cf53 km_X3_73 ⟨Nat.le_of_ble_eq_true rfl, Nat.le_of_ble_eq_true rfl⟩ (Nat.le_of_ble_eq_true rfl) (Nat.le_of_ble_eq_true rfl) (daX3_open_0 9 rfl) ?_
  obtain ⟨μ4, hμ4, h⟩ := lm_inv h
  refine GM_putf (pc := 16) 3 5 0 kf_X3_53 (Nat.le_of_ble_eq_true rfl) (Nat.le_of_ble_eq_true rfl) rfl rfl (daX3_open_0 10 rfl) hc1 (fun q => absurd q (by decide)) ?_
  refine GM_mem hμ4 ?_
  refine GM_aload_n (pc := 19) 0 rfl (daX3_open_0 11 rfl) rfl ?_
  refine GM_iconst (pc := 20) 0 (daX3_open_0 12 rfl) rfl (R32_b rfl) ?_
  obtain ⟨μ5, hμ5, h⟩ := lm_inv h
  refine GM_putf (pc := 21) 3 6 0 kf_X3_76 (Nat.le_of_ble_eq_true rfl) (Nat.le_of_ble_eq_true rfl) rfl rfl (daX3_open_0 13 rfl) hc1 (fun q => absurd q (by decide)) ?_
  refine GM_mem hμ5 ?_
  refine GM_aload_n (pc := 24) 0 rfl (daX3_open_0 14 rfl) rfl ?_
  refine GM_iconst (pc := 25) 0 (daX3_open_0 15 rfl) rfl (R32_b rfl) ?_
  obtain ⟨μ6, hμ6, h⟩ := lm_inv h
  refine GM_putf (pc := 26) 3 2 0 kf_X3_43 (Nat.le_of_ble_eq_true rfl) (Nat.le_of_ble_eq_true rfl) rfl rfl (daX3_open_0 16 rfl) hc1 (fun q => absurd q (by decide)) ?_
  refine GM_mem hμ6 ?_
  refine GM_aload_n (pc := 29) 0 rfl (daX3_open_0 17 rfl) rfl ?_
  refine GM_iconst (pc := 30) (-1) (daX3_open_0 18 rfl) rfl (R32_b rfl) ?_
  obtain ⟨μ7, hμ7, h⟩ := lm_inv h
  refine GM_putf (pc := 31) 3 3 0 kf_X3_79 (Nat.le_of_ble_eq_true rfl) (Nat.le_of_ble_eq_true rfl) rfl rfl (daX3_open_0 19 rfl) hc1 (fun q => absurd q (by decide)) ?_
  refine GM_mem hμ7 ?_
  refine GM_aload_n (pc := 34) 0 rfl (daX3_open_0 20 rfl) rfl ?_
  obtain ⟨μ8, hf8, h⟩ := Option.bind_eq_some_iff.mp h
  refine GM_callV0 (pc := 35) [] (tX3_advance l hf8) cwX3_advance 3 (Nat.le_of_ble_eq_true rfl) rfl kv_X3_advance ke_X3_advance km_X3_82 hc1 ⟨Nat.le_of_ble_eq_true rfl, Nat.le_of_ble_eq_true rfl⟩ (Nat.le_of_ble_eq_true rfl) (Nat.le_of_ble_eq_true rfl) (daX3_open_0 21 rfl) ?_
  cases h
  exact GM_vret (pc := 38) (daX3_open_0 22 rfl) rfl hK
theorem tX3_open (l : Launch) {v0 v1 v2 : Int} {μ : Mm} {t : Mm} (h : fX3_open v0 v1 v2 μ = some t) : Ct l yX3_open mX3_open [(3, v0), (3, v1), (0, v2)] μ ([], t, 0, 0) :=
  Ct_of (by decide +kernel) rfl rfl (Nat.le_of_ble_eq_true rfl) (fun _ _ _ => trivial) (gX3_open_0 l h ⟨rfl, rfl⟩)
def mX3_isWord : MI := (RX3, cX3_isWord, 3, (some .boolean), "isWord", 4, 85, fun _ _ _ => True)
theorem cwX3_isWord : CWd yX3_isWord mX3_isWord 1 := ⟨ki_X3, kk_X3_isWord, ⟨by decide, by decide⟩, rfl⟩
def dtX3_isWord_0 : List (Nat × Instr × Nat) := [(0, .aload_n 0, 1), (1, .getfield 40, 3), (4, .iconst 1, 1), (5, .if_icmp .ne 19, 3), (8, .aload_n 0, 1), (9, .getfield 76, 3), (12, .aload_n 0, 1), (13, .getfield 148, 3), (16, .isub, 1), (17, .aload_n 1, 1), (18, .invokevirtual 219, 3), (21, .if_icmp .eq 5, 3), (24, .iconst 0, 1), (25, .ireturn, 1), (26, .iconst 0, 1), (27, .istore_n 2, 1), (28, .iload_n 2, 1), (29, .aload_n 1, 1), (30, .invokevirtual 219, 3), (33, .if_icmp .ge 29, 3), (36, .aload_n 0, 1), (37, .aload_n 0, 1), (38, .getfield 148, 3), (41, .iload_n 2, 1), (42, .iadd, 1), (43, .invokevirtual 206, 3), (46, .aload_n 1, 1), (47, .iload_n 2, 1), (48, .invokevirtual 223, 3), (51, .if_icmp .eq 5, 3), (54, .iconst 0, 1), (55, .ireturn, 1), (56, .iinc 2 1, 3), (59, .goto (-31), 3), (62, .iconst 1, 1), (63, .ireturn, 1)]
theorem ddX3_isWord_0 : (dtX3_isWord_0.all fun e => decide (decode mX3_isWord.2.1 e.1 = .ok (e.2.1, e.2.2))) = true := by decide +kernel
theorem daX3_isWord_0 (j : Nat) {pc n : Nat} {i : Instr} (h : dtX3_isWord_0[j]? = some (pc, i, n)) : decode mX3_isWord.2.1 pc = .ok (i, n) := dec_of (c := mX3_isWord.2.1) ddX3_isWord_0 h
def zX3_isWord_28 (l : Launch) (F : FI) (v0 v1 : Int) (μ : Mm) (k n : Nat) : Int ⊕ (Unit ⊕ Unit) → Prop
  | .inl v2 => GM l mX3_isWord F k n 28 [(0, (3, v0)), (1, (3, v1)), (2, (0, v2))] [] μ
  | .inr (.inl ()) => GM l mX3_isWord F k n 62 [] [] μ
  | .inr (.inr ()) => GM l mX3_isWord F k n 54 [] [] μ
def sX3_isWord_28 (v0 v1 : Int) (μ : Mm) : Int → Option (Int ⊕ (Unit ⊕ Unit)) := fun v2 =>
  chk ((1 ≤ v1 ∧ v1 ≤ 16)) (
  if slen v1 ≤ v2 then
    some (.inr (.inl ()))
  else
    chk (KD v0 = 3) (
    (fX3_byteAt v0 (w32 ((μ v0 8) + v2)) μ).bind fun r4 =>
    chk (0 ≤ v2 ∧ v2 < slen v1) (
    if r4 = schar v1 v2 then
      some (.inl (w32 (v2 + 1)))
    else
      some (.inr (.inr ())))))
def fX3_isWord (v0 v1 : Int) (μ : Mm) : Option Int :=
  chk (KD v0 = 3) (
  if μ v0 7 = 1 then
    chk ((1 ≤ v1 ∧ v1 ≤ 16)) (
    if w32 ((μ v0 6) - (μ v0 8)) = slen v1 then
      (lop (sX3_isWord_28 v0 v1 μ) FU 0).bind fun x11 =>
        match x11 with
        | (.inl ()) =>
            some 1
        | (.inr ()) =>
            some 0
    else
      some 0)
  else
    some 0)
set_option maxRecDepth 20000 in
theorem qX3_isWord_28 (l : Launch) (F : FI) (v0 v1 : Int) (μ : Mm) (k n : Nat) : ∀ (q : Int) (t : (Int ⊕ (Unit ⊕ Unit))), sX3_isWord_28 v0 v1 μ q = some t → zX3_isWord_28 l F v0 v1 μ k n t → zX3_isWord_28 l F v0 v1 μ k n (.inl q) := by
  intro q t h hK
  obtain ⟨v2, hqq⟩ : ∃ z, z = q := ⟨q, rfl⟩
  subst hqq
  unfold sX3_isWord_28 at h
  try dsimp only at h
  show GM l mX3_isWord F k n 28 [(0, (3, v0)), (1, (3, v1)), (2, (0, v2))] [] μ
  refine GM_iload_n (pc := 28) 2 rfl (daX3_isWord_0 16 rfl) rfl ?_
  refine GM_aload_n (pc := 29) 1 rfl (daX3_isWord_0 17 rfl) rfl ?_
  obtain ⟨hc1, h⟩ := chk_inv h
  refine GM_callVs0 (pc := 30) [] (tJ0_length_8abf5 l (fJ0_len_eq hc1)) cwJ0_length_8abf5 rfl kv_J0_length_8abf5 ke_J0_length_8abf5 km_X3_219 hc1 ⟨Nat.le_of_ble_eq_true rfl, Nat.le_of_ble_eq_true rfl⟩ (Nat.le_of_ble_eq_true rfl) (Nat.le_of_ble_eq_true rfl) (daX3_isWord_0 18 rfl) ?_
  refine GM_icmp_ge (pc := 33) 62 (daX3_isWord_0 19 rfl) rfl (fun c2 => ?_) (fun c2 => ?_)
  · skip
    rw [if_pos c2] at h
    refine GM_pick [] rfl ?_
    cases h
    exact hK
  · skip
    rw [if_neg c2] at h
    refine GM_aload_n (pc := 36) 0 rfl (daX3_isWord_0 20 rfl) rfl ?_
    refine GM_aload_n (pc := 37) 0 rfl (daX3_isWord_0 21 rfl) rfl ?_
    obtain ⟨hc3, h⟩ := chk_inv h
    refine GM_getf (pc := 38) 3 8 0 8 kf_X3_148 (Nat.le_of_ble_eq_true rfl) (Nat.le_of_ble_eq_true rfl) rfl (daX3_isWord_0 22 rfl) hc3 rfl ?_
    refine GM_iload_n (pc := 41) 2 rfl (daX3_isWord_0 23 rfl) rfl ?_
    refine GM_iadd (pc := 42) (daX3_isWord_0 24 rfl) ?_
    obtain ⟨r4, hf4, h⟩ := Option.bind_eq_some_iff.mp h
    refine GM_callV0 (pc := 43) [(0, w32 ((μ v0 8) + v2))] (tX3_byteAt l hf4) cwX3_byteAt 3 (Nat.le_of_ble_eq_true rfl) rfl kv_X3_byteAt ke_X3_byteAt km_X3_206 hc3 ⟨Nat.le_of_ble_eq_true rfl, Nat.le_of_ble_eq_true rfl⟩ (Nat.le_of_ble_eq_true rfl) (Nat.le_of_ble_eq_true rfl) (daX3_isWord_0 25 rfl) ?_
    refine GM_aload_n (pc := 46) 1 rfl (daX3_isWord_0 26 rfl) rfl ?_
    refine GM_iload_n (pc := 47) 2 rfl (daX3_isWord_0 27 rfl) rfl ?_
    obtain ⟨hc5, h⟩ := chk_inv h
    refine GM_callVs0 (pc := 48) [(0, v2)] (tJ0_charAt_5068e l (fJ0_chr_eq hc1 hc5.1 hc5.2)) cwJ0_charAt_5068e rfl kv_J0_charAt_5068e ke_J0_charAt_5068e km_X3_223 hc1 ⟨Nat.le_of_ble_eq_true rfl, Nat.le_of_ble_eq_true rfl⟩ (Nat.le_of_ble_eq_true rfl) (Nat.le_of_ble_eq_true rfl) (daX3_isWord_0 28 rfl) ?_
    refine GM_icmp_eq (pc := 51) 56 (daX3_isWord_0 29 rfl) rfl (fun c6 => ?_) (fun c6 => ?_)
    · skip
      rw [if_pos c6] at h
      refine GM_iinc (L' := [(2, (0, w32 (v2 + 1))), (0, (3, v0)), (1, (3, v1))]) (pc := 56) 2 rfl (daX3_isWord_0 32 rfl) (Nat.le_of_ble_eq_true rfl) rfl ?_
      refine GM_goto (pc := 59) 28 (daX3_isWord_0 33 rfl) rfl ?_
      refine GM_pick [1, 2, 0] rfl ?_
      cases h
      exact hK
    · skip
      rw [if_neg c6] at h
      refine GM_pick [] rfl ?_
      cases h
      exact hK
set_option maxRecDepth 20000 in
theorem gX3_isWord_0 (l : Launch) {F : FI} {v0 v1 : Int} {μ : Mm} {t : Int} (h : fX3_isWord v0 v1 μ = some t) (hK : F.1 = [(0, t)] ∧ F.2.1 = μ) : GM l mX3_isWord F 0 0 0 [(0, (3, v0)), (1, (3, v1))] [] μ := by
  unfold fX3_isWord at h
  refine GM_aload_n (pc := 0) 0 rfl (daX3_isWord_0 0 rfl) rfl ?_
  obtain ⟨hc7, h⟩ := chk_inv h
  refine GM_getf (pc := 1) 3 7 0 7 kf_X3_40 (Nat.le_of_ble_eq_true rfl) (Nat.le_of_ble_eq_true rfl) rfl (daX3_isWord_0 1 rfl) hc7 rfl ?_
  refine GM_iconst (pc := 4) 1 (daX3_isWord_0 2 rfl) rfl (R32_b rfl) ?_
  refine GM_icmp_ne (pc := 5) 24 (daX3_isWord_0 3 rfl) rfl (fun c8 => ?_) (fun c8 => ?_)
  · skip
    rw [if_neg c8] at h
    refine GM_iconst (pc := 24) 0 (daX3_isWord_0 12 rfl) rfl (R32_b rfl) ?_
    cases h
    exact GM_zret (pc := 25) (daX3_isWord_0 13 rfl) rfl (Or.inl rfl) hK
  · skip
    rw [if_pos c8] at h
    refine GM_aload_n (pc := 8) 0 rfl (daX3_isWord_0 4 rfl) rfl ?_
    refine GM_getf (pc := 9) 3 6 0 6 kf_X3_76 (Nat.le_of_ble_eq_true rfl) (Nat.le_of_ble_eq_true rfl) rfl (daX3_isWord_0 5 rfl) hc7 rfl ?_
    refine GM_aload_n (pc := 12) 0 rfl (daX3_isWord_0 6 rfl) rfl ?_
    refine GM_getf (pc := 13) 3 8 0 8 kf_X3_148 (Nat.le_of_ble_eq_true rfl) (Nat.le_of_ble_eq_true rfl) rfl (daX3_isWord_0 7 rfl) hc7 rfl ?_
    refine GM_isub (pc := 16) (daX3_isWord_0 8 rfl) ?_
    refine GM_aload_n (pc := 17) 1 rfl (daX3_isWord_0 9 rfl) rfl ?_
    obtain ⟨hc9, h⟩ := chk_inv h
    refine GM_callVs0 (pc := 18) [] (tJ0_length_8abf5 l (fJ0_len_eq hc9)) cwJ0_length_8abf5 rfl kv_J0_length_8abf5 ke_J0_length_8abf5 km_X3_219 hc9 ⟨Nat.le_of_ble_eq_true rfl, Nat.le_of_ble_eq_true rfl⟩ (Nat.le_of_ble_eq_true rfl) (Nat.le_of_ble_eq_true rfl) (daX3_isWord_0 10 rfl) ?_
    refine GM_icmp_eq (pc := 21) 26 (daX3_isWord_0 11 rfl) rfl (fun c10 => ?_) (fun c10 => ?_)
    · skip
      rw [if_pos c10] at h
      refine GM_iconst (pc := 26) 0 (daX3_isWord_0 14 rfl) rfl (R32_b rfl) ?_
      refine GM_istore_n (L' := [(2, (0, 0)), (0, (3, v0)), (1, (3, v1))]) (pc := 27) (daX3_isWord_0 15 rfl) rfl (Nat.le_of_ble_eq_true rfl) rfl ?_
      refine GM_pick [1, 2, 0] rfl ?_
      obtain ⟨x11, hqx11, h⟩ := Option.bind_eq_some_iff.mp h
      refine lop_ind (zX3_isWord_28 l F v0 v1 μ 0 0) (qX3_isWord_28 l F v0 v1 μ 0 0) FU _ x11 hqx11 ?_
      rcases x11 with _ | _
      · dsimp only at h
        show GM l mX3_isWord F 0 0 62 [] [] μ
        refine GM_iconst (pc := 62) 1 (daX3_isWord_0 34 rfl) rfl (R32_b rfl) ?_
        cases h
        exact GM_zret (pc := 63) (daX3_isWord_0 35 rfl) rfl (Or.inr rfl) hK
      · dsimp only at h
        show GM l mX3_isWord F 0 0 54 [] [] μ
        refine GM_iconst (pc := 54) 0 (daX3_isWord_0 30 rfl) rfl (R32_b rfl) ?_
        cases h
        exact GM_zret (pc := 55) (daX3_isWord_0 31 rfl) rfl (Or.inl rfl) hK
    · skip
      rw [if_neg c10] at h
      refine GM_iconst (pc := 24) 0 (daX3_isWord_0 12 rfl) rfl (R32_b rfl) ?_
      cases h
      exact GM_zret (pc := 25) (daX3_isWord_0 13 rfl) rfl (Or.inl rfl) hK
theorem tX3_isWord (l : Launch) {v0 v1 : Int} {μ : Mm} {t : Int} (h : fX3_isWord v0 v1 μ = some t) : Ct l yX3_isWord mX3_isWord [(3, v0), (3, v1)] μ ([(0, t)], μ, 0, 0) :=
  Ct_of (by decide +kernel) rfl rfl (Nat.le_of_ble_eq_true rfl) (fun _ _ _ => trivial) (gX3_isWord_0 l h ⟨rfl, rfl⟩)
def mX3_breakOff : MI := (RX3, cX3_breakOff, 1, none, "breakOff", 0, 0, fun _ _ _ => True)
theorem cwX3_breakOff : CWd yX3_breakOff mX3_breakOff 0 := ⟨ki_X3, kk_X3_breakOff, ⟨by decide, by decide⟩, rfl⟩
def dtX3_breakOff_0 : List (Nat × Instr × Nat) := [(0, .aload_n 0, 1), (1, .getfield 43, 3), (4, .iconst 1, 1), (5, .if_icmp .eq 16, 3), (8, .aload_n 0, 1), (9, .iconst 1, 1), (10, .putfield 43, 3), (13, .aload_n 0, 1), (14, .aload_n 0, 1), (15, .getfield 148, 3), (18, .putfield 79, 3), (21, .return_, 1)]
theorem ddX3_breakOff_0 : (dtX3_breakOff_0.all fun e => decide (decode mX3_breakOff.2.1 e.1 = .ok (e.2.1, e.2.2))) = true := by decide +kernel
theorem daX3_breakOff_0 (j : Nat) {pc n : Nat} {i : Instr} (h : dtX3_breakOff_0[j]? = some (pc, i, n)) : decode mX3_breakOff.2.1 pc = .ok (i, n) := dec_of (c := mX3_breakOff.2.1) ddX3_breakOff_0 h
def fX3_breakOff (v0 : Int) (μ : Mm) : Option Mm :=
  chk (KD v0 = 3) (
  if μ v0 2 = 1 then
    some μ
  else
    lm (mst μ v0 2 1) fun μ3 =>
    lm (mst μ3 v0 3 (μ3 v0 8)) fun μ4 =>
    some μ4)
set_option maxRecDepth 20000 in
theorem gX3_breakOff_0 (l : Launch) {F : FI} {v0 : Int} {μ : Mm} {t : Mm} (h : fX3_breakOff v0 μ = some t) (hK : F.1 = [] ∧ F.2.1 = t) : GM l mX3_breakOff F 0 0 0 [(0, (3, v0))] [] μ := by
  unfold fX3_breakOff at h
  refine GM_aload_n (pc := 0) 0 rfl (daX3_breakOff_0 0 rfl) rfl ?_
  obtain ⟨hc1, h⟩ := chk_inv h
  refine GM_getf (pc := 1) 3 2 0 2 kf_X3_43 (Nat.le_of_ble_eq_true rfl) (Nat.le_of_ble_eq_true rfl) rfl (daX3_breakOff_0 1 rfl) hc1 rfl ?_
  refine GM_iconst (pc := 4) 1 (daX3_breakOff_0 2 rfl) rfl (R32_b rfl) ?_
  refine GM_icmp_eq (pc := 5) 21 (daX3_breakOff_0 3 rfl) rfl (fun c2 => ?_) (fun c2 => ?_)
  · skip
    rw [if_pos c2] at h
    cases h
    exact GM_vret (pc := 21) (daX3_breakOff_0 11 rfl) rfl hK
  · skip
    rw [if_neg c2] at h
    refine GM_aload_n (pc := 8) 0 rfl (daX3_breakOff_0 4 rfl) rfl ?_
    refine GM_iconst (pc := 9) 1 (daX3_breakOff_0 5 rfl) rfl (R32_b rfl) ?_
    obtain ⟨μ3, hμ3, h⟩ := lm_inv h
    refine GM_putf (pc := 10) 3 2 0 kf_X3_43 (Nat.le_of_ble_eq_true rfl) (Nat.le_of_ble_eq_true rfl) rfl rfl (daX3_breakOff_0 6 rfl) hc1 (fun q => absurd q (by decide)) ?_
    refine GM_mem hμ3 ?_
    refine GM_aload_n (pc := 13) 0 rfl (daX3_breakOff_0 7 rfl) rfl ?_
    refine GM_aload_n (pc := 14) 0 rfl (daX3_breakOff_0 8 rfl) rfl ?_
    refine GM_getf (pc := 15) 3 8 0 8 kf_X3_148 (Nat.le_of_ble_eq_true rfl) (Nat.le_of_ble_eq_true rfl) rfl (daX3_breakOff_0 9 rfl) hc1 rfl ?_
    obtain ⟨μ4, hμ4, h⟩ := lm_inv h
    refine GM_putf (pc := 18) 3 3 0 kf_X3_79 (Nat.le_of_ble_eq_true rfl) (Nat.le_of_ble_eq_true rfl) rfl rfl (daX3_breakOff_0 10 rfl) hc1 (fun q => absurd q (by decide)) ?_
    refine GM_mem hμ4 ?_
    cases h
    exact GM_vret (pc := 21) (daX3_breakOff_0 11 rfl) rfl hK
theorem tX3_breakOff (l : Launch) {v0 : Int} {μ : Mm} {t : Mm} (h : fX3_breakOff v0 μ = some t) : Ct l yX3_breakOff mX3_breakOff [(3, v0)] μ ([], t, 0, 0) :=
  Ct_of (by decide +kernel) rfl rfl (Nat.le_of_ble_eq_true rfl) (fun _ _ _ => trivial) (gX3_breakOff_0 l h ⟨rfl, rfl⟩)
def mX3_note : MI := (RX3, cX3_note, 3, none, "note", 0, 0, fun _ _ _ => True)
theorem cwX3_note : CWd yX3_note mX3_note 2 := ⟨ki_X3, kk_X3_note, ⟨by decide, by decide⟩, rfl⟩
def dtX3_note_0 : List (Nat × Instr × Nat) := [(0, .aload_n 0, 1), (1, .getfield 43, 3), (4, .ifCond .ne 13, 3), (7, .aload_n 0, 1), (8, .iload_n 1, 1), (9, .putfield 43, 3), (12, .aload_n 0, 1), (13, .iload_n 2, 1), (14, .putfield 79, 3), (17, .return_, 1)]
theorem ddX3_note_0 : (dtX3_note_0.all fun e => decide (decode mX3_note.2.1 e.1 = .ok (e.2.1, e.2.2))) = true := by decide +kernel
theorem daX3_note_0 (j : Nat) {pc n : Nat} {i : Instr} (h : dtX3_note_0[j]? = some (pc, i, n)) : decode mX3_note.2.1 pc = .ok (i, n) := dec_of (c := mX3_note.2.1) ddX3_note_0 h
def fX3_note (v0 v1 v2 : Int) (μ : Mm) : Option Mm :=
  chk (KD v0 = 3) (
  if μ v0 2 = 0 then
    lm (mst μ v0 2 v1) fun μ3 =>
    lm (mst μ3 v0 3 v2) fun μ4 =>
    some μ4
  else
    some μ)
set_option maxRecDepth 20000 in
theorem gX3_note_0 (l : Launch) {F : FI} {v0 v1 v2 : Int} {μ : Mm} {t : Mm} (h : fX3_note v0 v1 v2 μ = some t) (hK : F.1 = [] ∧ F.2.1 = t) : GM l mX3_note F 0 0 0 [(0, (3, v0)), (1, (0, v1)), (2, (0, v2))] [] μ := by
  unfold fX3_note at h
  refine GM_aload_n (pc := 0) 0 rfl (daX3_note_0 0 rfl) rfl ?_
  obtain ⟨hc1, h⟩ := chk_inv h
  refine GM_getf (pc := 1) 3 2 0 2 kf_X3_43 (Nat.le_of_ble_eq_true rfl) (Nat.le_of_ble_eq_true rfl) rfl (daX3_note_0 1 rfl) hc1 rfl ?_
  refine GM_if_ne (pc := 4) 17 (daX3_note_0 2 rfl) rfl (fun c2 => ?_) (fun c2 => ?_)
  · skip
    rw [if_neg c2] at h
    cases h
    exact GM_vret (pc := 17) (daX3_note_0 9 rfl) rfl hK
  · skip
    rw [if_pos c2] at h
    refine GM_aload_n (pc := 7) 0 rfl (daX3_note_0 3 rfl) rfl ?_
    refine GM_iload_n (pc := 8) 1 rfl (daX3_note_0 4 rfl) rfl ?_
    obtain ⟨μ3, hμ3, h⟩ := lm_inv h
    refine GM_putf (pc := 9) 3 2 0 kf_X3_43 (Nat.le_of_ble_eq_true rfl) (Nat.le_of_ble_eq_true rfl) rfl rfl (daX3_note_0 5 rfl) hc1 (fun q => absurd q (by decide)) ?_
    refine GM_mem hμ3 ?_
    refine GM_aload_n (pc := 12) 0 rfl (daX3_note_0 6 rfl) rfl ?_
    refine GM_iload_n (pc := 13) 2 rfl (daX3_note_0 7 rfl) rfl ?_
    obtain ⟨μ4, hμ4, h⟩ := lm_inv h
    refine GM_putf (pc := 14) 3 3 0 kf_X3_79 (Nat.le_of_ble_eq_true rfl) (Nat.le_of_ble_eq_true rfl) rfl rfl (daX3_note_0 8 rfl) hc1 (fun q => absurd q (by decide)) ?_
    refine GM_mem hμ4 ?_
    cases h
    exact GM_vret (pc := 17) (daX3_note_0 9 rfl) rfl hK
theorem tX3_note (l : Launch) {v0 v1 v2 : Int} {μ : Mm} {t : Mm} (h : fX3_note v0 v1 v2 μ = some t) : Ct l yX3_note mX3_note [(3, v0), (0, v1), (0, v2)] μ ([], t, 0, 0) :=
  Ct_of (by decide +kernel) rfl rfl (Nat.le_of_ble_eq_true rfl) (fun _ _ _ => trivial) (gX3_note_0 l h ⟨rfl, rfl⟩)
def mX3_readNumber : MI := (RX3, cX3_readNumber, 5, (some .int), "readNumber", 2, 43, fun _ _ _ => True)
theorem cwX3_readNumber : CWd yX3_readNumber mX3_readNumber 2 := ⟨ki_X3, kk_X3_readNumber, ⟨by decide, by decide⟩, rfl⟩
def dtX3_readNumber_0 : List (Nat × Instr × Nat) := [(0, .aload_n 0, 1), (1, .getfield 40, 3), (4, .iconst 2, 1), (5, .if_icmp .eq 9, 3), (8, .aload_n 0, 1), (9, .invokevirtual 139, 3), (12, .iload_n 1, 1), (13, .ireturn, 1), (14, .iconst 0, 1), (15, .istore_n 3, 1), (16, .aload_n 0, 1), (17, .getfield 148, 3), (20, .istore 4, 2), (22, .iload 4, 2), (24, .aload_n 0, 1), (25, .getfield 76, 3), (28, .if_icmp .ge 40, 3), (31, .iload 4, 2), (33, .ifCond .lt 35, 3), (36, .iload 4, 2), (38, .aload_n 0, 1), (39, .getfield 25, 3), (42, .arraylength, 1), (43, .if_icmp .ge 25, 3), (46, .iload_n 3, 1), (47, .bipush 10, 2), (49, .imul, 1), (50, .aload_n 0, 1), (51, .getfield 25, 3), (54, .iload 4, 2), (56, .iaload, 1), (57, .iadd, 1), (58, .bipush 48, 2), (60, .isub, 1), (61, .istore_n 3, 1), (62, .iinc 4 1, 3), (65, .goto (-43), 3), (68, .iload_n 3, 1), (69, .iload_n 1, 1), (70, .if_icmp .lt 8, 3), (73, .iload_n 3, 1), (74, .iload_n 2, 1), (75, .if_icmp .le 12, 3), (78, .aload_n 0, 1), (79, .iconst 2, 1), (80, .aload_n 0, 1), (81, .getfield 148, 3), (84, .invokevirtual 56, 3), (87, .aload_n 0, 1), (88, .invokevirtual 82, 3), (91, .iload_n 3, 1), (92, .ireturn, 1)]
theorem ddX3_readNumber_0 : (dtX3_readNumber_0.all fun e => decide (decode mX3_readNumber.2.1 e.1 = .ok (e.2.1, e.2.2))) = true := by decide +kernel
theorem daX3_readNumber_0 (j : Nat) {pc n : Nat} {i : Instr} (h : dtX3_readNumber_0[j]? = some (pc, i, n)) : decode mX3_readNumber.2.1 pc = .ok (i, n) := dec_of (c := mX3_readNumber.2.1) ddX3_readNumber_0 h
def zX3_readNumber_22 (l : Launch) (F : FI) (v0 v1 v2 : Int) (μ : Mm) (k n : Nat) : (Int × Int) ⊕ Int → Prop
  | .inl (v3, v4) => GM l mX3_readNumber F k n 22 [(0, (3, v0)), (1, (0, v1)), (2, (0, v2)), (3, (0, v3)), (4, (0, v4))] [] μ
  | .inr v3 => GM l mX3_readNumber F k n 68 [(0, (3, v0)), (1, (0, v1)), (2, (0, v2)), (3, (0, v3))] [] μ
def sX3_readNumber_22 (v0 v1 v2 : Int) (μ : Mm) : (Int × Int) → Option ((Int × Int) ⊕ Int) := fun (v3, v4) =>
  chk (KD v0 = 3) (
  if μ v0 6 ≤ v4 then
    some (.inr v3)
  else
    if v4 < 0 then
      some (.inr v3)
    else
      chk (KD (μ v0 4) = 12 ∧ 0 ≤ LN (μ v0 4) ∧ LN (μ v0 4) < 2147483648) (
      if LN (μ v0 4) ≤ v4 then
        some (.inr v3)
      else
        chk (0 ≤ v4 ∧ v4 < LN (μ v0 4)) (
        lt (w32 ((w32 ((w32 (v3 * 10)) + (μ (μ v0 4) v4))) - 48)) fun y7 =>
        some (.inl (y7, w32 (v4 + 1))))))
def jX3_readNumber_87 (v0 v3 : Int) (μ : Mm) : Option (Int × Mm) :=
  chk (KD v0 = 3) (
  (fX3_advance v0 μ).bind fun μ9 =>
  some (v3, μ9))
def jX3_readNumber_78 (v0 v3 : Int) (μ : Mm) : Option (Int × Mm) :=
  chk (KD v0 = 3) (
  (fX3_note v0 2 (μ v0 8) μ).bind fun μ11 =>
  jX3_readNumber_87 v0 v3 μ11)
def fX3_readNumber (v0 v1 v2 : Int) (μ : Mm) : Option (Int × Mm) :=
  chk (KD v0 = 3) (
  if μ v0 7 = 2 then
    (lop (sX3_readNumber_22 v0 v1 v2 μ) FU (0, μ v0 8)).bind fun v3_15 =>
      if v3_15 < v1 then
        jX3_readNumber_78 v0 v3_15 μ
      else
        if v3_15 ≤ v2 then
          jX3_readNumber_87 v0 v3_15 μ
        else
          jX3_readNumber_78 v0 v3_15 μ
  else
    (fX3_breakOff v0 μ).bind fun μ18 =>
    some (v1, μ18))
set_option maxRecDepth 20000 in
theorem qX3_readNumber_22 (l : Launch) (F : FI) (v0 v1 v2 : Int) (μ : Mm) (k n : Nat) : ∀ (q : (Int × Int)) (t : ((Int × Int) ⊕ Int)), sX3_readNumber_22 v0 v1 v2 μ q = some t → zX3_readNumber_22 l F v0 v1 v2 μ k n t → zX3_readNumber_22 l F v0 v1 v2 μ k n (.inl q) := by
  intro q t h hK
  obtain ⟨v3, v4⟩ := q
  unfold sX3_readNumber_22 at h
  try dsimp only at h
  show GM l mX3_readNumber F k n 22 [(0, (3, v0)), (1, (0, v1)), (2, (0, v2)), (3, (0, v3)), (4, (0, v4))] [] μ
  refine GM_iload (pc := 22) 4 rfl (daX3_readNumber_0 13 rfl) ?_
  refine GM_aload_n (pc := 24) 0 rfl (daX3_readNumber_0 14 rfl) rfl ?_
  obtain ⟨hc1, h⟩ := chk_inv h
  refine GM_getf (pc := 25) 3 6 0 6 kf_X3_76 (Nat.le_of_ble_eq_true rfl) (Nat.le_of_ble_eq_true rfl) rfl (daX3_readNumber_0 15 rfl) hc1 rfl ?_
  refine GM_icmp_ge (pc := 28) 68 (daX3_readNumber_0 16 rfl) rfl (fun c2 => ?_) (fun c2 => ?_)
  · skip
    rw [if_pos c2] at h
    refine GM_pick [0, 1, 2, 3] rfl ?_
    cases h
    exact hK
  · skip
    rw [if_neg c2] at h
    refine GM_iload (pc := 31) 4 rfl (daX3_readNumber_0 17 rfl) ?_
    refine GM_if_lt (pc := 33) 68 (daX3_readNumber_0 18 rfl) rfl (fun c3 => ?_) (fun c3 => ?_)
    · skip
      rw [if_pos c3] at h
      refine GM_pick [0, 1, 2, 3] rfl ?_
      cases h
      exact hK
    · skip
      rw [if_neg c3] at h
      refine GM_iload (pc := 36) 4 rfl (daX3_readNumber_0 19 rfl) ?_
      refine GM_aload_n (pc := 38) 0 rfl (daX3_readNumber_0 20 rfl) rfl ?_
      refine GM_getf (pc := 39) 3 4 3 4 kf_X3_25 (Nat.le_of_ble_eq_true rfl) (Nat.le_of_ble_eq_true rfl) rfl (daX3_readNumber_0 21 rfl) hc1 rfl ?_
      obtain ⟨hc4, h⟩ := chk_inv h
      refine GM_ileni (pc := 42) (daX3_readNumber_0 22 rfl) hc4.1 hc4.2.1 hc4.2.2 ?_
      refine GM_icmp_ge (pc := 43) 68 (daX3_readNumber_0 23 rfl) rfl (fun c5 => ?_) (fun c5 => ?_)
      · skip
        rw [if_pos c5] at h
        refine GM_pick [0, 1, 2, 3] rfl ?_
        cases h
        exact hK
      · skip
        rw [if_neg c5] at h
        refine GM_iload_n (pc := 46) 3 rfl (daX3_readNumber_0 24 rfl) rfl ?_
        refine GM_bipush (pc := 47) 10 (daX3_readNumber_0 25 rfl) rfl (R32_b rfl) ?_
        refine GM_imul (pc := 49) (daX3_readNumber_0 26 rfl) ?_
        refine GM_aload_n (pc := 50) 0 rfl (daX3_readNumber_0 27 rfl) rfl ?_
        refine GM_getf (pc := 51) 3 4 3 4 kf_X3_25 (Nat.le_of_ble_eq_true rfl) (Nat.le_of_ble_eq_true rfl) rfl (daX3_readNumber_0 28 rfl) hc1 rfl ?_
        refine GM_iload (pc := 54) 4 rfl (daX3_readNumber_0 29 rfl) ?_
        obtain ⟨hc6, h⟩ := chk_inv h
        refine GM_iald (pc := 56) (daX3_readNumber_0 30 rfl) hc4.1 hc6.1 hc6.2 ?_
        refine GM_iadd (pc := 57) (daX3_readNumber_0 31 rfl) ?_
        refine GM_bipush (pc := 58) 48 (daX3_readNumber_0 32 rfl) rfl (R32_b rfl) ?_
        refine GM_isub (pc := 60) (daX3_readNumber_0 33 rfl) ?_
        obtain ⟨y7, hy7, h⟩ := lt_inv h
        refine GM_top hy7 ?_
        refine GM_istore_n (L' := [(3, (0, y7)), (0, (3, v0)), (1, (0, v1)), (2, (0, v2)), (4, (0, v4))]) (pc := 61) (daX3_readNumber_0 34 rfl) rfl (Nat.le_of_ble_eq_true rfl) rfl ?_
        refine GM_iinc (L' := [(4, (0, w32 (v4 + 1))), (3, (0, y7)), (0, (3, v0)), (1, (0, v1)), (2, (0, v2))]) (pc := 62) 4 rfl (daX3_readNumber_0 35 rfl) (Nat.le_of_ble_eq_true rfl) rfl ?_
        refine GM_goto (pc := 65) 22 (daX3_readNumber_0 36 rfl) rfl ?_
        refine GM_pick [2, 3, 4, 1, 0] rfl ?_
        cases h
        exact hK
set_option maxRecDepth 20000 in
theorem gX3_readNumber_87 (l : Launch) {F : FI} {v0 v3 : Int} {μ : Mm} {t : (Int × Mm)} (h : jX3_readNumber_87 v0 v3 μ = some t) (hK : F.1 = [(0, t.1)] ∧ F.2.1 = t.2) : GM l mX3_readNumber F 0 0 87 [(0, (3, v0)), (3, (0, v3))] [] μ := by
  unfold jX3_readNumber_87 at h
  refine GM_aload_n (pc := 87) 0 rfl (daX3_readNumber_0 48 rfl) rfl ?_
  obtain ⟨hc8, h⟩ := chk_inv h
  obtain ⟨μ9, hf9, h⟩ := Option.bind_eq_some_iff.mp h
  refine GM_callV0 (pc := 88) [] (tX3_advance l hf9) cwX3_advance 3 (Nat.le_of_ble_eq_true rfl) rfl kv_X3_advance ke_X3_advance km_X3_82 hc8 ⟨Nat.le_of_ble_eq_true rfl, Nat.le_of_ble_eq_true rfl⟩ (Nat.le_of_ble_eq_true rfl) (Nat.le_of_ble_eq_true rfl) (daX3_readNumber_0 49 rfl) ?_
  refine GM_iload_n (pc := 91) 1 rfl (daX3_readNumber_0 50 rfl) rfl ?_
  cases h
  exact GM_iret (pc := 92) (daX3_readNumber_0 51 rfl) rfl hK
set_option maxRecDepth 20000 in
theorem gX3_readNumber_78 (l : Launch) {F : FI} {v0 v3 : Int} {μ : Mm} {t : (Int × Mm)} (h : jX3_readNumber_78 v0 v3 μ = some t) (hK : F.1 = [(0, t.1)] ∧ F.2.1 = t.2) : GM l mX3_readNumber F 0 0 78 [(0, (3, v0)), (3, (0, v3))] [] μ := by
  unfold jX3_readNumber_78 at h
  refine GM_aload_n (pc := 78) 0 rfl (daX3_readNumber_0 43 rfl) rfl ?_
  refine GM_iconst (pc := 79) 2 (daX3_readNumber_0 44 rfl) rfl (R32_b rfl) ?_
  refine GM_aload_n (pc := 80) 0 rfl (daX3_readNumber_0 45 rfl) rfl ?_
  obtain ⟨hc10, h⟩ := chk_inv h
  refine GM_getf (pc := 81) 3 8 0 8 kf_X3_148 (Nat.le_of_ble_eq_true rfl) (Nat.le_of_ble_eq_true rfl) rfl (daX3_readNumber_0 46 rfl) hc10 rfl ?_
  obtain ⟨μ11, hf11, h⟩ := Option.bind_eq_some_iff.mp h
  refine GM_callV0 (pc := 84) [(0, 2), (0, μ v0 8)] (tX3_note l hf11) cwX3_note 3 (Nat.le_of_ble_eq_true rfl) rfl kv_X3_note ke_X3_note km_X3_56 hc10 ⟨Nat.le_of_ble_eq_true rfl, Nat.le_of_ble_eq_true rfl⟩ (Nat.le_of_ble_eq_true rfl) (Nat.le_of_ble_eq_true rfl) (daX3_readNumber_0 47 rfl) ?_
  exact gX3_readNumber_87 l h hK
set_option maxRecDepth 20000 in
theorem gX3_readNumber_0 (l : Launch) {F : FI} {v0 v1 v2 : Int} {μ : Mm} {t : (Int × Mm)} (h : fX3_readNumber v0 v1 v2 μ = some t) (hK : F.1 = [(0, t.1)] ∧ F.2.1 = t.2) : GM l mX3_readNumber F 0 0 0 [(0, (3, v0)), (1, (0, v1)), (2, (0, v2))] [] μ := by
  unfold fX3_readNumber at h
  refine GM_aload_n (pc := 0) 0 rfl (daX3_readNumber_0 0 rfl) rfl ?_
  obtain ⟨hc12, h⟩ := chk_inv h
  refine GM_getf (pc := 1) 3 7 0 7 kf_X3_40 (Nat.le_of_ble_eq_true rfl) (Nat.le_of_ble_eq_true rfl) rfl (daX3_readNumber_0 1 rfl) hc12 rfl ?_
  refine GM_iconst (pc := 4) 2 (daX3_readNumber_0 2 rfl) rfl (R32_b rfl) ?_
  refine GM_icmp_eq (pc := 5) 14 (daX3_readNumber_0 3 rfl) rfl (fun c13 => ?_) (fun c13 => ?_)
  · skip
    rw [if_pos c13] at h
    refine GM_iconst (pc := 14) 0 (daX3_readNumber_0 8 rfl) rfl (R32_b rfl) ?_
    refine GM_istore_n (L' := [(3, (0, 0)), (0, (3, v0)), (1, (0, v1)), (2, (0, v2))]) (pc := 15) (daX3_readNumber_0 9 rfl) rfl (Nat.le_of_ble_eq_true rfl) rfl ?_
    refine GM_aload_n (pc := 16) 1 rfl (daX3_readNumber_0 10 rfl) rfl ?_
    refine GM_getf (pc := 17) 3 8 0 8 kf_X3_148 (Nat.le_of_ble_eq_true rfl) (Nat.le_of_ble_eq_true rfl) rfl (daX3_readNumber_0 11 rfl) hc12 rfl ?_
    refine GM_istore (L' := [(4, (0, μ v0 8)), (3, (0, 0)), (0, (3, v0)), (1, (0, v1)), (2, (0, v2))]) (pc := 20) (daX3_readNumber_0 12 rfl) (Nat.le_of_ble_eq_true rfl) rfl ?_
    refine GM_pick [2, 3, 4, 1, 0] rfl ?_
    obtain ⟨x14, hqx14, h⟩ := Option.bind_eq_some_iff.mp h
    refine lop_ind (zX3_readNumber_22 l F v0 v1 v2 μ 0 0) (qX3_readNumber_22 l F v0 v1 v2 μ 0 0) FU _ x14 hqx14 ?_
    obtain ⟨v3_15, hqq⟩ : ∃ z, z = x14 := ⟨x14, rfl⟩
    subst hqq
    show GM l mX3_readNumber F 0 0 68 [(0, (3, v0)), (1, (0, v1)), (2, (0, v2)), (3, (0, v3_15))] [] μ
    refine GM_iload_n (pc := 68) 3 rfl (daX3_readNumber_0 37 rfl) rfl ?_
    refine GM_iload_n (pc := 69) 1 rfl (daX3_readNumber_0 38 rfl) rfl ?_
    refine GM_icmp_lt (pc := 70) 78 (daX3_readNumber_0 39 rfl) rfl (fun c16 => ?_) (fun c16 => ?_)
    · skip
      rw [if_pos c16] at h
      refine GM_pick [0, 3] rfl ?_
      exact gX3_readNumber_78 l h hK
    · skip
      rw [if_neg c16] at h
      refine GM_iload_n (pc := 73) 3 rfl (daX3_readNumber_0 40 rfl) rfl ?_
      refine GM_iload_n (pc := 74) 2 rfl (daX3_readNumber_0 41 rfl) rfl ?_
      refine GM_icmp_le (pc := 75) 87 (daX3_readNumber_0 42 rfl) rfl (fun c17 => ?_) (fun c17 => ?_)
      · skip
        rw [if_pos c17] at h
        refine GM_pick [0, 3] rfl ?_
        exact gX3_readNumber_87 l h hK
      · skip
        rw [if_neg c17] at h
        refine GM_pick [0, 3] rfl ?_
        exact gX3_readNumber_78 l h hK
  · skip
    rw [if_neg c13] at h
    refine GM_aload_n (pc := 8) 0 rfl (daX3_readNumber_0 4 rfl) rfl ?_
    obtain ⟨μ18, hf18, h⟩ := Option.bind_eq_some_iff.mp h
    refine GM_callV0 (pc := 9) [] (tX3_breakOff l hf18) cwX3_breakOff 3 (Nat.le_of_ble_eq_true rfl) rfl kv_X3_breakOff ke_X3_breakOff km_X3_139 hc12 ⟨Nat.le_of_ble_eq_true rfl, Nat.le_of_ble_eq_true rfl⟩ (Nat.le_of_ble_eq_true rfl) (Nat.le_of_ble_eq_true rfl) (daX3_readNumber_0 5 rfl) ?_
    refine GM_iload_n (pc := 12) 1 rfl (daX3_readNumber_0 6 rfl) rfl ?_
    cases h
    exact GM_iret (pc := 13) (daX3_readNumber_0 7 rfl) rfl hK
theorem tX3_readNumber (l : Launch) {v0 v1 v2 : Int} {μ : Mm} {t : (Int × Mm)} (h : fX3_readNumber v0 v1 v2 μ = some t) : Ct l yX3_readNumber mX3_readNumber [(3, v0), (0, v1), (0, v2)] μ ([(0, t.1)], t.2, 0, 0) :=
  Ct_of (by decide +kernel) rfl rfl (Nat.le_of_ble_eq_true rfl) (fun _ _ _ => trivial) (gX3_readNumber_0 l h ⟨rfl, rfl⟩)
def mX3_readHeight : MI := (RX3, cX3_readHeight, 2, none, "readHeight", 3, 67, fun _ _ _ => True)
theorem cwX3_readHeight : CWd yX3_readHeight mX3_readHeight 0 := ⟨ki_X3, kk_X3_readHeight, ⟨by decide, by decide⟩, rfl⟩
def dtX3_readHeight_0 : List (Nat × Instr × Nat) := [(0, .aload_n 0, 1), (1, .getfield 36, 3), (4, .sipush 144, 3), (7, .if_icmp .lt 12, 3), (10, .aload_n 0, 1), (11, .iconst 3, 1), (12, .aload_n 0, 1), (13, .getfield 148, 3), (16, .invokevirtual 56, 3), (19, .aload_n 0, 1), (20, .iconst 0, 1), (21, .sipush 999, 3), (24, .invokevirtual 105, 3), (27, .istore_n 1, 1), (28, .aload_n 0, 1), (29, .getfield 36, 3), (32, .sipush 144, 3), (35, .if_icmp .ge 16, 3), (38, .aload_n 0, 1), (39, .getfield 12, 3), (42, .getfield 151, 3), (45, .aload_n 0, 1), (46, .getfield 36, 3), (49, .iload_n 1, 1), (50, .iastore, 1), (51, .aload_n 0, 1), (52, .dup, 1), (53, .getfield 36, 3), (56, .iconst 1, 1), (57, .iadd, 1), (58, .putfield 36, 3), (61, .return_, 1)]
theorem ddX3_readHeight_0 : (dtX3_readHeight_0.all fun e => decide (decode mX3_readHeight.2.1 e.1 = .ok (e.2.1, e.2.2))) = true := by decide +kernel
theorem daX3_readHeight_0 (j : Nat) {pc n : Nat} {i : Instr} (h : dtX3_readHeight_0[j]? = some (pc, i, n)) : decode mX3_readHeight.2.1 pc = .ok (i, n) := dec_of (c := mX3_readHeight.2.1) ddX3_readHeight_0 h
def jX3_readHeight_19 (v0 : Int) (μ : Mm) : Option Mm :=
  chk (KD v0 = 3) (
  (fX3_readNumber v0 0 999 μ).bind fun (r2, μ2) =>
  if 144 ≤ μ2 v0 9 then
    lm (mst μ2 v0 9 (w32 ((μ2 v0 9) + 1))) fun μ4 =>
    some μ4
  else
    chk (KD (μ2 v0 0) = 2) (
    chk (KD (μ2 (μ2 v0 0) 6) = 12 ∧ 0 ≤ μ2 v0 9 ∧ μ2 v0 9 < LN (μ2 (μ2 v0 0) 6)) (
    lm (mst μ2 (μ2 (μ2 v0 0) 6) (μ2 v0 9) r2) fun μ7 =>
    lm (mst μ7 v0 9 (w32 ((μ7 v0 9) + 1))) fun μ8 =>
    some μ8)))
def fX3_readHeight (v0 : Int) (μ : Mm) : Option Mm :=
  chk (KD v0 = 3) (
  if μ v0 9 < 144 then
    jX3_readHeight_19 v0 μ
  else
    (fX3_note v0 3 (μ v0 8) μ).bind fun μ11 =>
    jX3_readHeight_19 v0 μ11)
set_option maxRecDepth 20000 in
theorem gX3_readHeight_19 (l : Launch) {F : FI} {v0 : Int} {μ : Mm} {t : Mm} (h : jX3_readHeight_19 v0 μ = some t) (hK : F.1 = [] ∧ F.2.1 = t) : GM l mX3_readHeight F 0 0 19 [(0, (3, v0))] [] μ := by
  unfold jX3_readHeight_19 at h
  refine GM_aload_n (pc := 19) 0 rfl (daX3_readHeight_0 9 rfl) rfl ?_
  refine GM_iconst (pc := 20) 0 (daX3_readHeight_0 10 rfl) rfl (R32_b rfl) ?_
  refine GM_sipush (pc := 21) 999 (daX3_readHeight_0 11 rfl) rfl (R32_b rfl) ?_
  obtain ⟨hc1, h⟩ := chk_inv h
  obtain ⟨⟨r2, μ2⟩, hf2, h⟩ := Option.bind_eq_some_iff.mp h
  dsimp only at h
  refine GM_callV0 (pc := 24) [(0, 0), (0, 999)] (tX3_readNumber l hf2) cwX3_readNumber 3 (Nat.le_of_ble_eq_true rfl) rfl kv_X3_readNumber ke_X3_readNumber km_X3_105 hc1 ⟨Nat.le_of_ble_eq_true rfl, Nat.le_of_ble_eq_true rfl⟩ (Nat.le_of_ble_eq_true rfl) (Nat.le_of_ble_eq_true rfl) (daX3_readHeight_0 12 rfl) ?_
  refine GM_istore_n (L' := [(1, (0, r2)), (0, (3, v0))]) (pc := 27) (daX3_readHeight_0 13 rfl) rfl (Nat.le_of_ble_eq_true rfl) rfl ?_
  refine GM_aload_n (pc := 28) 1 rfl (daX3_readHeight_0 14 rfl) rfl ?_
  refine GM_getf (pc := 29) 3 9 0 9 kf_X3_36 (Nat.le_of_ble_eq_true rfl) (Nat.le_of_ble_eq_true rfl) rfl (daX3_readHeight_0 15 rfl) hc1 rfl ?_
  refine GM_sipush (pc := 32) 144 (daX3_readHeight_0 16 rfl) rfl (R32_b rfl) ?_
  refine GM_icmp_ge (pc := 35) 51 (daX3_readHeight_0 17 rfl) rfl (fun c3 => ?_) (fun c3 => ?_)
  · skip
    rw [if_pos c3] at h
    refine GM_aload_n (pc := 51) 1 rfl (daX3_readHeight_0 25 rfl) rfl ?_
    refine GM_dup (pc := 52) (daX3_readHeight_0 26 rfl) (Nat.ne_of_beq_eq_false rfl) ?_
    refine GM_getf (pc := 53) 3 9 0 9 kf_X3_36 (Nat.le_of_ble_eq_true rfl) (Nat.le_of_ble_eq_true rfl) rfl (daX3_readHeight_0 27 rfl) hc1 rfl ?_
    refine GM_iconst (pc := 56) 1 (daX3_readHeight_0 28 rfl) rfl (R32_b rfl) ?_
    refine GM_iadd (pc := 57) (daX3_readHeight_0 29 rfl) ?_
    obtain ⟨μ4, hμ4, h⟩ := lm_inv h
    refine GM_putf (pc := 58) 3 9 0 kf_X3_36 (Nat.le_of_ble_eq_true rfl) (Nat.le_of_ble_eq_true rfl) rfl rfl (daX3_readHeight_0 30 rfl) hc1 (fun q => absurd q (by decide)) ?_
    refine GM_mem hμ4 ?_
    cases h
    exact GM_vret (pc := 61) (daX3_readHeight_0 31 rfl) rfl hK
  · skip
    rw [if_neg c3] at h
    refine GM_aload_n (pc := 38) 1 rfl (daX3_readHeight_0 18 rfl) rfl ?_
    refine GM_getf (pc := 39) 3 0 3 0 kf_X3_12 (Nat.le_of_ble_eq_true rfl) (Nat.le_of_ble_eq_true rfl) rfl (daX3_readHeight_0 19 rfl) hc1 rfl ?_
    obtain ⟨hc5, h⟩ := chk_inv h
    refine GM_getf (pc := 42) 2 6 3 6 kf_X3_151 (Nat.le_of_ble_eq_true rfl) (Nat.le_of_ble_eq_true rfl) rfl (daX3_readHeight_0 20 rfl) hc5 rfl ?_
    refine GM_aload_n (pc := 45) 1 rfl (daX3_readHeight_0 21 rfl) rfl ?_
    refine GM_getf (pc := 46) 3 9 0 9 kf_X3_36 (Nat.le_of_ble_eq_true rfl) (Nat.le_of_ble_eq_true rfl) rfl (daX3_readHeight_0 22 rfl) hc1 rfl ?_
    refine GM_iload_n (pc := 49) 0 rfl (daX3_readHeight_0 23 rfl) rfl ?_
    obtain ⟨hc6, h⟩ := chk_inv h
    obtain ⟨μ7, hμ7, h⟩ := lm_inv h
    refine GM_iast (pc := 50) (daX3_readHeight_0 24 rfl) hc6.1 hc6.2.1 hc6.2.2 ?_
    refine GM_mem hμ7 ?_
    refine GM_aload_n (pc := 51) 1 rfl (daX3_readHeight_0 25 rfl) rfl ?_
    refine GM_dup (pc := 52) (daX3_readHeight_0 26 rfl) (Nat.ne_of_beq_eq_false rfl) ?_
    refine GM_getf (pc := 53) 3 9 0 9 kf_X3_36 (Nat.le_of_ble_eq_true rfl) (Nat.le_of_ble_eq_true rfl) rfl (daX3_readHeight_0 27 rfl) hc1 rfl ?_
    refine GM_iconst (pc := 56) 1 (daX3_readHeight_0 28 rfl) rfl (R32_b rfl) ?_
    refine GM_iadd (pc := 57) (daX3_readHeight_0 29 rfl) ?_
    obtain ⟨μ8, hμ8, h⟩ := lm_inv h
    refine GM_putf (pc := 58) 3 9 0 kf_X3_36 (Nat.le_of_ble_eq_true rfl) (Nat.le_of_ble_eq_true rfl) rfl rfl (daX3_readHeight_0 30 rfl) hc1 (fun q => absurd q (by decide)) ?_
    refine GM_mem hμ8 ?_
    cases h
    exact GM_vret (pc := 61) (daX3_readHeight_0 31 rfl) rfl hK
set_option maxRecDepth 20000 in
theorem gX3_readHeight_0 (l : Launch) {F : FI} {v0 : Int} {μ : Mm} {t : Mm} (h : fX3_readHeight v0 μ = some t) (hK : F.1 = [] ∧ F.2.1 = t) : GM l mX3_readHeight F 0 0 0 [(0, (3, v0))] [] μ := by
  unfold fX3_readHeight at h
  refine GM_aload_n (pc := 0) 0 rfl (daX3_readHeight_0 0 rfl) rfl ?_
  obtain ⟨hc9, h⟩ := chk_inv h
  refine GM_getf (pc := 1) 3 9 0 9 kf_X3_36 (Nat.le_of_ble_eq_true rfl) (Nat.le_of_ble_eq_true rfl) rfl (daX3_readHeight_0 1 rfl) hc9 rfl ?_
  refine GM_sipush (pc := 4) 144 (daX3_readHeight_0 2 rfl) rfl (R32_b rfl) ?_
  refine GM_icmp_lt (pc := 7) 19 (daX3_readHeight_0 3 rfl) rfl (fun c10 => ?_) (fun c10 => ?_)
  · skip
    rw [if_pos c10] at h
    exact gX3_readHeight_19 l h hK
  · skip
    rw [if_neg c10] at h
    refine GM_aload_n (pc := 10) 0 rfl (daX3_readHeight_0 4 rfl) rfl ?_
    refine GM_iconst (pc := 11) 3 (daX3_readHeight_0 5 rfl) rfl (R32_b rfl) ?_
    refine GM_aload_n (pc := 12) 0 rfl (daX3_readHeight_0 6 rfl) rfl ?_
    refine GM_getf (pc := 13) 3 8 0 8 kf_X3_148 (Nat.le_of_ble_eq_true rfl) (Nat.le_of_ble_eq_true rfl) rfl (daX3_readHeight_0 7 rfl) hc9 rfl ?_
    obtain ⟨μ11, hf11, h⟩ := Option.bind_eq_some_iff.mp h
    refine GM_callV0 (pc := 16) [(0, 3), (0, μ v0 8)] (tX3_note l hf11) cwX3_note 3 (Nat.le_of_ble_eq_true rfl) rfl kv_X3_note ke_X3_note km_X3_56 hc9 ⟨Nat.le_of_ble_eq_true rfl, Nat.le_of_ble_eq_true rfl⟩ (Nat.le_of_ble_eq_true rfl) (Nat.le_of_ble_eq_true rfl) (daX3_readHeight_0 8 rfl) ?_
    exact gX3_readHeight_19 l h hK
theorem tX3_readHeight (l : Launch) {v0 : Int} {μ : Mm} {t : Mm} (h : fX3_readHeight v0 μ = some t) : Ct l yX3_readHeight mX3_readHeight [(3, v0)] μ ([], t, 0, 0) :=
  Ct_of (by decide +kernel) rfl rfl (Nat.le_of_ble_eq_true rfl) (fun _ _ _ => trivial) (gX3_readHeight_0 l h ⟨rfl, rfl⟩)
def mX3_readHeights : MI := (RX3, cX3_readHeights, 2, none, "readHeights", 4, 88, fun _ _ _ => True)
theorem cwX3_readHeights : CWd yX3_readHeights mX3_readHeights 0 := ⟨ki_X3, kk_X3_readHeights, ⟨by decide, by decide⟩, rfl⟩
def dtX3_readHeights_0 : List (Nat × Instr × Nat) := [(0, .aload_n 0, 1), (1, .invokevirtual 145, 3), (4, .iconst 0, 1), (5, .istore_n 1, 1), (6, .iload_n 1, 1), (7, .sipush 700, 3), (10, .if_icmp .ge 21, 3), (13, .aload_n 0, 1), (14, .getfield 40, 3), (17, .iconst 2, 1), (18, .if_icmp .ne 13, 3), (21, .aload_n 0, 1), (22, .invokevirtual 145, 3), (25, .iinc 1 1, 3), (28, .goto (-22), 3), (31, .return_, 1)]
theorem ddX3_readHeights_0 : (dtX3_readHeights_0.all fun e => decide (decode mX3_readHeights.2.1 e.1 = .ok (e.2.1, e.2.2))) = true := by decide +kernel
theorem daX3_readHeights_0 (j : Nat) {pc n : Nat} {i : Instr} (h : dtX3_readHeights_0[j]? = some (pc, i, n)) : decode mX3_readHeights.2.1 pc = .ok (i, n) := dec_of (c := mX3_readHeights.2.1) ddX3_readHeights_0 h
def zX3_readHeights_6 (l : Launch) (F : FI) (v0 : Int) (k n : Nat) : (Int × Mm) ⊕ Mm → Prop
  | .inl (v1, μ) => GM l mX3_readHeights F k n 6 [(0, (3, v0)), (1, (0, v1))] [] μ
  | .inr μ => GM l mX3_readHeights F k n 31 [] [] μ
def sX3_readHeights_6 (v0 : Int) : (Int × Mm) → Option ((Int × Mm) ⊕ Mm) := fun (v1, μ) =>
  if 700 ≤ v1 then
    some (.inr μ)
  else
    chk (KD v0 = 3) (
    if μ v0 7 = 2 then
      (fX3_readHeight v0 μ).bind fun μ4 =>
      some (.inl (w32 (v1 + 1), μ4))
    else
      some (.inr μ))
def fX3_readHeights (v0 : Int) (μ : Mm) : Option Mm :=
  chk (KD v0 = 3) (
  (fX3_readHeight v0 μ).bind fun μ6 =>
  (lop (sX3_readHeights_6 v0) FU (0, μ6)).bind fun μ_8 =>
    some μ_8)
set_option maxRecDepth 20000 in
theorem qX3_readHeights_6 (l : Launch) (F : FI) (v0 : Int) (k n : Nat) : ∀ (q : (Int × Mm)) (t : ((Int × Mm) ⊕ Mm)), sX3_readHeights_6 v0 q = some t → zX3_readHeights_6 l F v0 k n t → zX3_readHeights_6 l F v0 k n (.inl q) := by
  intro q t h hK
  obtain ⟨v1, μ⟩ := q
  unfold sX3_readHeights_6 at h
  try dsimp only at h
  show GM l mX3_readHeights F k n 6 [(0, (3, v0)), (1, (0, v1))] [] μ
  refine GM_iload_n (pc := 6) 1 rfl (daX3_readHeights_0 4 rfl) rfl ?_
  refine GM_sipush (pc := 7) 700 (daX3_readHeights_0 5 rfl) rfl (R32_b rfl) ?_
  refine GM_icmp_ge (pc := 10) 31 (daX3_readHeights_0 6 rfl) rfl (fun c1 => ?_) (fun c1 => ?_)
  · skip
    rw [if_pos c1] at h
    refine GM_pick [] rfl ?_
    cases h
    exact hK
  · skip
    rw [if_neg c1] at h
    refine GM_aload_n (pc := 13) 0 rfl (daX3_readHeights_0 7 rfl) rfl ?_
    obtain ⟨hc2, h⟩ := chk_inv h
    refine GM_getf (pc := 14) 3 7 0 7 kf_X3_40 (Nat.le_of_ble_eq_true rfl) (Nat.le_of_ble_eq_true rfl) rfl (daX3_readHeights_0 8 rfl) hc2 rfl ?_
    refine GM_iconst (pc := 17) 2 (daX3_readHeights_0 9 rfl) rfl (R32_b rfl) ?_
    refine GM_icmp_ne (pc := 18) 31 (daX3_readHeights_0 10 rfl) rfl (fun c3 => ?_) (fun c3 => ?_)
    · skip
      rw [if_neg c3] at h
      refine GM_pick [] rfl ?_
      cases h
      exact hK
    · skip
      rw [if_pos c3] at h
      refine GM_aload_n (pc := 21) 0 rfl (daX3_readHeights_0 11 rfl) rfl ?_
      obtain ⟨μ4, hf4, h⟩ := Option.bind_eq_some_iff.mp h
      refine GM_callV0 (pc := 22) [] (tX3_readHeight l hf4) cwX3_readHeight 3 (Nat.le_of_ble_eq_true rfl) rfl kv_X3_readHeight ke_X3_readHeight km_X3_145 hc2 ⟨Nat.le_of_ble_eq_true rfl, Nat.le_of_ble_eq_true rfl⟩ (Nat.le_of_ble_eq_true rfl) (Nat.le_of_ble_eq_true rfl) (daX3_readHeights_0 12 rfl) ?_
      refine GM_iinc (L' := [(1, (0, w32 (v1 + 1))), (0, (3, v0))]) (pc := 25) 1 rfl (daX3_readHeights_0 13 rfl) (Nat.le_of_ble_eq_true rfl) rfl ?_
      refine GM_goto (pc := 28) 6 (daX3_readHeights_0 14 rfl) rfl ?_
      refine GM_pick [1, 0] rfl ?_
      cases h
      exact hK
set_option maxRecDepth 20000 in
theorem gX3_readHeights_0 (l : Launch) {F : FI} {v0 : Int} {μ : Mm} {t : Mm} (h : fX3_readHeights v0 μ = some t) (hK : F.1 = [] ∧ F.2.1 = t) : GM l mX3_readHeights F 0 0 0 [(0, (3, v0))] [] μ := by
  unfold fX3_readHeights at h
  refine GM_aload_n (pc := 0) 0 rfl (daX3_readHeights_0 0 rfl) rfl ?_
  obtain ⟨hc5, h⟩ := chk_inv h
  obtain ⟨μ6, hf6, h⟩ := Option.bind_eq_some_iff.mp h
  refine GM_callV0 (pc := 1) [] (tX3_readHeight l hf6) cwX3_readHeight 3 (Nat.le_of_ble_eq_true rfl) rfl kv_X3_readHeight ke_X3_readHeight km_X3_145 hc5 ⟨Nat.le_of_ble_eq_true rfl, Nat.le_of_ble_eq_true rfl⟩ (Nat.le_of_ble_eq_true rfl) (Nat.le_of_ble_eq_true rfl) (daX3_readHeights_0 1 rfl) ?_
  refine GM_iconst (pc := 4) 0 (daX3_readHeights_0 2 rfl) rfl (R32_b rfl) ?_
  refine GM_istore_n (L' := [(1, (0, 0)), (0, (3, v0))]) (pc := 5) (daX3_readHeights_0 3 rfl) rfl (Nat.le_of_ble_eq_true rfl) rfl ?_
  refine GM_pick [1, 0] rfl ?_
  obtain ⟨x7, hqx7, h⟩ := Option.bind_eq_some_iff.mp h
  refine lop_ind (zX3_readHeights_6 l F v0 0 0) (qX3_readHeights_6 l F v0 0 0) FU _ x7 hqx7 ?_
  obtain ⟨μ_8, hqq⟩ : ∃ z, z = x7 := ⟨x7, rfl⟩
  subst hqq
  show GM l mX3_readHeights F 0 0 31 [] [] μ_8
  cases h
  exact GM_vret (pc := 31) (daX3_readHeights_0 15 rfl) rfl hK
theorem tX3_readHeights (l : Launch) {v0 : Int} {μ : Mm} {t : Mm} (h : fX3_readHeights v0 μ = some t) : Ct l yX3_readHeights mX3_readHeights [(3, v0)] μ ([], t, 0, 0) :=
  Ct_of (by decide +kernel) rfl rfl (Nat.le_of_ble_eq_true rfl) (fun _ _ _ => trivial) (gX3_readHeights_0 l h ⟨rfl, rfl⟩)
def mX3_readThing : MI := (RX3, cX3_readThing, 5, none, "readThing", 3, 67, fun _ _ _ => True)
theorem cwX3_readThing : CWd yX3_readThing mX3_readThing 1 := ⟨ki_X3, kk_X3_readThing, ⟨by decide, by decide⟩, rfl⟩
def dtX3_readThing_0 : List (Nat × Instr × Nat) := [(0, .aload_n 0, 1), (1, .getfield 12, 3), (4, .getfield 89, 3), (7, .bipush 12, 2), (9, .if_icmp .lt 12, 3), (12, .aload_n 0, 1), (13, .iconst 3, 1), (14, .aload_n 0, 1), (15, .getfield 148, 3), (18, .invokevirtual 56, 3), (21, .aload_n 0, 1), (22, .invokevirtual 82, 3), (25, .aload_n 0, 1), (26, .iconst 0, 1), (27, .sipush 143, 3), (30, .invokevirtual 105, 3), (33, .istore_n 2, 1), (34, .iload_n 1, 1), (35, .ifCond .eq 13, 3), (38, .aload_n 0, 1), (39, .iconst 0, 1), (40, .bipush 99, 2), (42, .invokevirtual 105, 3), (45, .goto 4, 3), (48, .iconst 0, 1), (49, .istore_n 3, 1), (50, .iload_n 1, 1), (51, .ifCond .eq 13, 3), (54, .aload_n 0, 1), (55, .iload_n 3, 1), (56, .bipush 99, 2), (58, .invokevirtual 105, 3), (61, .goto 5, 3), (64, .bipush 99, 2), (66, .istore 4, 2), (68, .aload_n 0, 1), (69, .getfield 12, 3), (72, .iload_n 2, 1), (73, .iload_n 1, 1), (74, .iload_n 3, 1), (75, .iload 4, 2), (77, .invokevirtual 153, 3), (80, .return_, 1)]
theorem ddX3_readThing_0 : (dtX3_readThing_0.all fun e => decide (decode mX3_readThing.2.1 e.1 = .ok (e.2.1, e.2.2))) = true := by decide +kernel
theorem daX3_readThing_0 (j : Nat) {pc n : Nat} {i : Instr} (h : dtX3_readThing_0[j]? = some (pc, i, n)) : decode mX3_readThing.2.1 pc = .ok (i, n) := dec_of (c := mX3_readThing.2.1) ddX3_readThing_0 h
def jX3_readThing_66 (v0 v1 v2 v3 s0 : Int) (μ : Mm) : Option Mm :=
  chk (KD v0 = 3) (
  chk (KD (μ v0 0) = 2) (
  (fX2_addThing (μ v0 0) v2 v1 v3 s0 μ).bind fun μ3 =>
  some μ3))
def jX3_readThing_49 (v0 v1 v2 s0 : Int) (μ : Mm) : Option Mm :=
  if v1 = 0 then
    jX3_readThing_66 v0 v1 v2 s0 99 μ
  else
    chk (KD v0 = 3) (
    (fX3_readNumber v0 s0 99 μ).bind fun (r6, μ6) =>
    jX3_readThing_66 v0 v1 v2 s0 r6 μ6)
def jX3_readThing_21 (v0 v1 : Int) (μ : Mm) : Option Mm :=
  chk (KD v0 = 3) (
  (fX3_advance v0 μ).bind fun μ8 =>
  (fX3_readNumber v0 0 143 μ8).bind fun (r9, μ9) =>
  if v1 = 0 then
    jX3_readThing_49 v0 v1 r9 0 μ9
  else
    (fX3_readNumber v0 0 99 μ9).bind fun (r11, μ11) =>
    jX3_readThing_49 v0 v1 r9 r11 μ11)
def fX3_readThing (v0 v1 : Int) (μ : Mm) : Option Mm :=
  chk (KD v0 = 3) (
  chk (KD (μ v0 0) = 2) (
  if μ (μ v0 0) 5 < 12 then
    jX3_readThing_21 v0 v1 μ
  else
    (fX3_note v0 3 (μ v0 8) μ).bind fun μ15 =>
    jX3_readThing_21 v0 v1 μ15))
set_option maxRecDepth 20000 in
theorem gX3_readThing_66 (l : Launch) {F : FI} {v0 v1 v2 v3 s0 : Int} {μ : Mm} {t : Mm} (h : jX3_readThing_66 v0 v1 v2 v3 s0 μ = some t) (hK : F.1 = [] ∧ F.2.1 = t) : GM l mX3_readThing F 0 0 66 [(0, (3, v0)), (1, (0, v1)), (2, (0, v2)), (3, (0, v3))] [(0, s0)] μ := by
  unfold jX3_readThing_66 at h
  refine GM_istore (L' := [(4, (0, s0)), (0, (3, v0)), (1, (0, v1)), (2, (0, v2)), (3, (0, v3))]) (pc := 66) (daX3_readThing_0 34 rfl) (Nat.le_of_ble_eq_true rfl) rfl ?_
  refine GM_aload_n (pc := 68) 1 rfl (daX3_readThing_0 35 rfl) rfl ?_
  obtain ⟨hc1, h⟩ := chk_inv h
  refine GM_getf (pc := 69) 3 0 3 0 kf_X3_12 (Nat.le_of_ble_eq_true rfl) (Nat.le_of_ble_eq_true rfl) rfl (daX3_readThing_0 36 rfl) hc1 rfl ?_
  refine GM_iload_n (pc := 72) 3 rfl (daX3_readThing_0 37 rfl) rfl ?_
  refine GM_iload_n (pc := 73) 2 rfl (daX3_readThing_0 38 rfl) rfl ?_
  refine GM_iload_n (pc := 74) 4 rfl (daX3_readThing_0 39 rfl) rfl ?_
  refine GM_iload (pc := 75) 0 rfl (daX3_readThing_0 40 rfl) ?_
  obtain ⟨hc2, h⟩ := chk_inv h
  obtain ⟨μ3, hf3, h⟩ := Option.bind_eq_some_iff.mp h
  refine GM_callV0 (pc := 77) [(0, v2), (0, v1), (0, v3), (0, s0)] (tX2_addThing l hf3) cwX2_addThing 2 (Nat.le_of_ble_eq_true rfl) rfl kv_X2_addThing ke_X2_addThing km_X3_153 hc2 ⟨Nat.le_of_ble_eq_true rfl, Nat.le_of_ble_eq_true rfl⟩ (Nat.le_of_ble_eq_true rfl) (Nat.le_of_ble_eq_true rfl) (daX3_readThing_0 41 rfl) ?_
  cases h
  exact GM_vret (pc := 80) (daX3_readThing_0 42 rfl) rfl hK
set_option maxRecDepth 20000 in
theorem gX3_readThing_49 (l : Launch) {F : FI} {v0 v1 v2 s0 : Int} {μ : Mm} {t : Mm} (h : jX3_readThing_49 v0 v1 v2 s0 μ = some t) (hK : F.1 = [] ∧ F.2.1 = t) : GM l mX3_readThing F 0 0 49 [(0, (3, v0)), (1, (0, v1)), (2, (0, v2))] [(0, s0)] μ := by
  unfold jX3_readThing_49 at h
  refine GM_istore_n (L' := [(3, (0, s0)), (0, (3, v0)), (1, (0, v1)), (2, (0, v2))]) (pc := 49) (daX3_readThing_0 25 rfl) rfl (Nat.le_of_ble_eq_true rfl) rfl ?_
  refine GM_iload_n (pc := 50) 2 rfl (daX3_readThing_0 26 rfl) rfl ?_
  refine GM_if_eq (pc := 51) 64 (daX3_readThing_0 27 rfl) rfl (fun c4 => ?_) (fun c4 => ?_)
  · skip
    rw [if_pos c4] at h
    refine GM_bipush (pc := 64) 99 (daX3_readThing_0 33 rfl) rfl (R32_b rfl) ?_
    refine GM_pick [1, 2, 3, 0] rfl ?_
    exact gX3_readThing_66 l h hK
  · skip
    rw [if_neg c4] at h
    refine GM_aload_n (pc := 54) 1 rfl (daX3_readThing_0 28 rfl) rfl ?_
    refine GM_iload_n (pc := 55) 0 rfl (daX3_readThing_0 29 rfl) rfl ?_
    refine GM_bipush (pc := 56) 99 (daX3_readThing_0 30 rfl) rfl (R32_b rfl) ?_
    obtain ⟨hc5, h⟩ := chk_inv h
    obtain ⟨⟨r6, μ6⟩, hf6, h⟩ := Option.bind_eq_some_iff.mp h
    dsimp only at h
    refine GM_callV0 (pc := 58) [(0, s0), (0, 99)] (tX3_readNumber l hf6) cwX3_readNumber 3 (Nat.le_of_ble_eq_true rfl) rfl kv_X3_readNumber ke_X3_readNumber km_X3_105 hc5 ⟨Nat.le_of_ble_eq_true rfl, Nat.le_of_ble_eq_true rfl⟩ (Nat.le_of_ble_eq_true rfl) (Nat.le_of_ble_eq_true rfl) (daX3_readThing_0 31 rfl) ?_
    refine GM_goto (pc := 61) 66 (daX3_readThing_0 32 rfl) rfl ?_
    refine GM_pick [1, 2, 3, 0] rfl ?_
    exact gX3_readThing_66 l h hK
set_option maxRecDepth 20000 in
theorem gX3_readThing_21 (l : Launch) {F : FI} {v0 v1 : Int} {μ : Mm} {t : Mm} (h : jX3_readThing_21 v0 v1 μ = some t) (hK : F.1 = [] ∧ F.2.1 = t) : GM l mX3_readThing F 0 0 21 [(0, (3, v0)), (1, (0, v1))] [] μ := by
  unfold jX3_readThing_21 at h
  refine GM_aload_n (pc := 21) 0 rfl (daX3_readThing_0 10 rfl) rfl ?_
  obtain ⟨hc7, h⟩ := chk_inv h
  obtain ⟨μ8, hf8, h⟩ := Option.bind_eq_some_iff.mp h
  refine GM_callV0 (pc := 22) [] (tX3_advance l hf8) cwX3_advance 3 (Nat.le_of_ble_eq_true rfl) rfl kv_X3_advance ke_X3_advance km_X3_82 hc7 ⟨Nat.le_of_ble_eq_true rfl, Nat.le_of_ble_eq_true rfl⟩ (Nat.le_of_ble_eq_true rfl) (Nat.le_of_ble_eq_true rfl) (daX3_readThing_0 11 rfl) ?_
  refine GM_aload_n (pc := 25) 0 rfl (daX3_readThing_0 12 rfl) rfl ?_
  refine GM_iconst (pc := 26) 0 (daX3_readThing_0 13 rfl) rfl (R32_b rfl) ?_
  refine GM_sipush (pc := 27) 143 (daX3_readThing_0 14 rfl) rfl (R32_b rfl) ?_
  obtain ⟨⟨r9, μ9⟩, hf9, h⟩ := Option.bind_eq_some_iff.mp h
  dsimp only at h
  refine GM_callV0 (pc := 30) [(0, 0), (0, 143)] (tX3_readNumber l hf9) cwX3_readNumber 3 (Nat.le_of_ble_eq_true rfl) rfl kv_X3_readNumber ke_X3_readNumber km_X3_105 hc7 ⟨Nat.le_of_ble_eq_true rfl, Nat.le_of_ble_eq_true rfl⟩ (Nat.le_of_ble_eq_true rfl) (Nat.le_of_ble_eq_true rfl) (daX3_readThing_0 15 rfl) ?_
  refine GM_istore_n (L' := [(2, (0, r9)), (0, (3, v0)), (1, (0, v1))]) (pc := 33) (daX3_readThing_0 16 rfl) rfl (Nat.le_of_ble_eq_true rfl) rfl ?_
  refine GM_iload_n (pc := 34) 2 rfl (daX3_readThing_0 17 rfl) rfl ?_
  refine GM_if_eq (pc := 35) 48 (daX3_readThing_0 18 rfl) rfl (fun c10 => ?_) (fun c10 => ?_)
  · skip
    rw [if_pos c10] at h
    refine GM_iconst (pc := 48) 0 (daX3_readThing_0 24 rfl) rfl (R32_b rfl) ?_
    refine GM_pick [1, 2, 0] rfl ?_
    exact gX3_readThing_49 l h hK
  · skip
    rw [if_neg c10] at h
    refine GM_aload_n (pc := 38) 1 rfl (daX3_readThing_0 19 rfl) rfl ?_
    refine GM_iconst (pc := 39) 0 (daX3_readThing_0 20 rfl) rfl (R32_b rfl) ?_
    refine GM_bipush (pc := 40) 99 (daX3_readThing_0 21 rfl) rfl (R32_b rfl) ?_
    obtain ⟨⟨r11, μ11⟩, hf11, h⟩ := Option.bind_eq_some_iff.mp h
    dsimp only at h
    refine GM_callV0 (pc := 42) [(0, 0), (0, 99)] (tX3_readNumber l hf11) cwX3_readNumber 3 (Nat.le_of_ble_eq_true rfl) rfl kv_X3_readNumber ke_X3_readNumber km_X3_105 hc7 ⟨Nat.le_of_ble_eq_true rfl, Nat.le_of_ble_eq_true rfl⟩ (Nat.le_of_ble_eq_true rfl) (Nat.le_of_ble_eq_true rfl) (daX3_readThing_0 22 rfl) ?_
    refine GM_goto (pc := 45) 49 (daX3_readThing_0 23 rfl) rfl ?_
    refine GM_pick [1, 2, 0] rfl ?_
    exact gX3_readThing_49 l h hK
set_option maxRecDepth 20000 in
theorem gX3_readThing_0 (l : Launch) {F : FI} {v0 v1 : Int} {μ : Mm} {t : Mm} (h : fX3_readThing v0 v1 μ = some t) (hK : F.1 = [] ∧ F.2.1 = t) : GM l mX3_readThing F 0 0 0 [(0, (3, v0)), (1, (0, v1))] [] μ := by
  unfold fX3_readThing at h
  refine GM_aload_n (pc := 0) 0 rfl (daX3_readThing_0 0 rfl) rfl ?_
  obtain ⟨hc12, h⟩ := chk_inv h
  refine GM_getf (pc := 1) 3 0 3 0 kf_X3_12 (Nat.le_of_ble_eq_true rfl) (Nat.le_of_ble_eq_true rfl) rfl (daX3_readThing_0 1 rfl) hc12 rfl ?_
  obtain ⟨hc13, h⟩ := chk_inv h
  refine GM_getf (pc := 4) 2 5 0 5 kf_X3_89 (Nat.le_of_ble_eq_true rfl) (Nat.le_of_ble_eq_true rfl) rfl (daX3_readThing_0 2 rfl) hc13 rfl ?_
  refine GM_bipush (pc := 7) 12 (daX3_readThing_0 3 rfl) rfl (R32_b rfl) ?_
  refine GM_icmp_lt (pc := 9) 21 (daX3_readThing_0 4 rfl) rfl (fun c14 => ?_) (fun c14 => ?_)
  · skip
    rw [if_pos c14] at h
    exact gX3_readThing_21 l h hK
  · skip
    rw [if_neg c14] at h
    refine GM_aload_n (pc := 12) 0 rfl (daX3_readThing_0 5 rfl) rfl ?_
    refine GM_iconst (pc := 13) 3 (daX3_readThing_0 6 rfl) rfl (R32_b rfl) ?_
    refine GM_aload_n (pc := 14) 0 rfl (daX3_readThing_0 7 rfl) rfl ?_
    refine GM_getf (pc := 15) 3 8 0 8 kf_X3_148 (Nat.le_of_ble_eq_true rfl) (Nat.le_of_ble_eq_true rfl) rfl (daX3_readThing_0 8 rfl) hc12 rfl ?_
    obtain ⟨μ15, hf15, h⟩ := Option.bind_eq_some_iff.mp h
    refine GM_callV0 (pc := 18) [(0, 3), (0, μ v0 8)] (tX3_note l hf15) cwX3_note 3 (Nat.le_of_ble_eq_true rfl) rfl kv_X3_note ke_X3_note km_X3_56 hc12 ⟨Nat.le_of_ble_eq_true rfl, Nat.le_of_ble_eq_true rfl⟩ (Nat.le_of_ble_eq_true rfl) (Nat.le_of_ble_eq_true rfl) (daX3_readThing_0 9 rfl) ?_
    exact gX3_readThing_21 l h hK
theorem tX3_readThing (l : Launch) {v0 v1 : Int} {μ : Mm} {t : Mm} (h : fX3_readThing v0 v1 μ = some t) : Ct l yX3_readThing mX3_readThing [(3, v0), (0, v1)] μ ([], t, 0, 0) :=
  Ct_of (by decide +kernel) rfl rfl (Nat.le_of_ble_eq_true rfl) (fun _ _ _ => trivial) (gX3_readThing_0 l h ⟨rfl, rfl⟩)
def mX3_readStop : MI := (RX3, cX3_readStop, 1, none, "readStop", 2, 43, fun _ _ _ => True)
theorem cwX3_readStop : CWd yX3_readStop mX3_readStop 0 := ⟨ki_X3, kk_X3_readStop, ⟨by decide, by decide⟩, rfl⟩
def dtX3_readStop_0 : List (Nat × Instr × Nat) := [(0, .aload_n 0, 1), (1, .getfield 40, 3), (4, .iconst 3, 1), (5, .if_icmp .ne 10, 3), (8, .aload_n 0, 1), (9, .invokevirtual 82, 3), (12, .goto 7, 3), (15, .aload_n 0, 1), (16, .invokevirtual 139, 3), (19, .return_, 1)]
theorem ddX3_readStop_0 : (dtX3_readStop_0.all fun e => decide (decode mX3_readStop.2.1 e.1 = .ok (e.2.1, e.2.2))) = true := by decide +kernel
theorem daX3_readStop_0 (j : Nat) {pc n : Nat} {i : Instr} (h : dtX3_readStop_0[j]? = some (pc, i, n)) : decode mX3_readStop.2.1 pc = .ok (i, n) := dec_of (c := mX3_readStop.2.1) ddX3_readStop_0 h
def fX3_readStop (v0 : Int) (μ : Mm) : Option Mm :=
  chk (KD v0 = 3) (
  if μ v0 7 = 3 then
    (fX3_advance v0 μ).bind fun μ4 =>
    some μ4
  else
    (fX3_breakOff v0 μ).bind fun μ3 =>
    some μ3)
set_option maxRecDepth 20000 in
theorem gX3_readStop_0 (l : Launch) {F : FI} {v0 : Int} {μ : Mm} {t : Mm} (h : fX3_readStop v0 μ = some t) (hK : F.1 = [] ∧ F.2.1 = t) : GM l mX3_readStop F 0 0 0 [(0, (3, v0))] [] μ := by
  unfold fX3_readStop at h
  refine GM_aload_n (pc := 0) 0 rfl (daX3_readStop_0 0 rfl) rfl ?_
  obtain ⟨hc1, h⟩ := chk_inv h
  refine GM_getf (pc := 1) 3 7 0 7 kf_X3_40 (Nat.le_of_ble_eq_true rfl) (Nat.le_of_ble_eq_true rfl) rfl (daX3_readStop_0 1 rfl) hc1 rfl ?_
  refine GM_iconst (pc := 4) 3 (daX3_readStop_0 2 rfl) rfl (R32_b rfl) ?_
  refine GM_icmp_ne (pc := 5) 15 (daX3_readStop_0 3 rfl) rfl (fun c2 => ?_) (fun c2 => ?_)
  · skip
    rw [if_neg c2] at h
    refine GM_aload_n (pc := 15) 0 rfl (daX3_readStop_0 7 rfl) rfl ?_
    obtain ⟨μ3, hf3, h⟩ := Option.bind_eq_some_iff.mp h
    refine GM_callV0 (pc := 16) [] (tX3_breakOff l hf3) cwX3_breakOff 3 (Nat.le_of_ble_eq_true rfl) rfl kv_X3_breakOff ke_X3_breakOff km_X3_139 hc1 ⟨Nat.le_of_ble_eq_true rfl, Nat.le_of_ble_eq_true rfl⟩ (Nat.le_of_ble_eq_true rfl) (Nat.le_of_ble_eq_true rfl) (daX3_readStop_0 8 rfl) ?_
    cases h
    exact GM_vret (pc := 19) (daX3_readStop_0 9 rfl) rfl hK
  · skip
    rw [if_pos c2] at h
    refine GM_aload_n (pc := 8) 0 rfl (daX3_readStop_0 4 rfl) rfl ?_
    obtain ⟨μ4, hf4, h⟩ := Option.bind_eq_some_iff.mp h
    refine GM_callV0 (pc := 9) [] (tX3_advance l hf4) cwX3_advance 3 (Nat.le_of_ble_eq_true rfl) rfl kv_X3_advance ke_X3_advance km_X3_82 hc1 ⟨Nat.le_of_ble_eq_true rfl, Nat.le_of_ble_eq_true rfl⟩ (Nat.le_of_ble_eq_true rfl) (Nat.le_of_ble_eq_true rfl) (daX3_readStop_0 5 rfl) ?_
    refine GM_goto (pc := 12) 19 (daX3_readStop_0 6 rfl) rfl ?_
    cases h
    exact GM_vret (pc := 19) (daX3_readStop_0 9 rfl) rfl hK
theorem tX3_readStop (l : Launch) {v0 : Int} {μ : Mm} {t : Mm} (h : fX3_readStop v0 μ = some t) : Ct l yX3_readStop mX3_readStop [(3, v0)] μ ([], t, 0, 0) :=
  Ct_of (by decide +kernel) rfl rfl (Nat.le_of_ble_eq_true rfl) (fun _ _ _ => trivial) (gX3_readStop_0 l h ⟨rfl, rfl⟩)
def mX3_landClause : MI := (RX3, cX3_landClause, 1, none, "landClause", 5, 109, fun _ _ _ => True)
theorem cwX3_landClause : CWd yX3_landClause mX3_landClause 0 := ⟨ki_X3, kk_X3_landClause, ⟨by decide, by decide⟩, rfl⟩
def dtX3_landClause_0 : List (Nat × Instr × Nat) := [(0, .aload_n 0, 1), (1, .ldc 99, 2), (3, .invokevirtual 101, 3), (6, .ifCond .eq 38, 3), (9, .aload_n 0, 1), (10, .invokevirtual 82, 3), (13, .aload_n 0, 1), (14, .getfield 12, 3), (17, .aload_n 0, 1), (18, .iconst 2, 1), (19, .bipush 12, 2), (21, .invokevirtual 105, 3), (24, .putfield 108, 3), (27, .aload_n 0, 1), (28, .getfield 12, 3), (31, .aload_n 0, 1), (32, .iconst 2, 1), (33, .bipush 12, 2), (35, .invokevirtual 105, 3), (38, .putfield 111, 3), (41, .goto 152, 3), (44, .aload_n 0, 1), (45, .ldc 114, 2), (47, .invokevirtual 101, 3), (50, .ifCond .eq 14, 3), (53, .aload_n 0, 1), (54, .invokevirtual 82, 3), (57, .aload_n 0, 1), (58, .invokevirtual 116, 3), (61, .goto 132, 3), (64, .aload_n 0, 1), (65, .ldc 119, 2), (67, .invokevirtual 101, 3), (70, .ifCond .eq 24, 3), (73, .aload_n 0, 1), (74, .invokevirtual 82, 3), (77, .aload_n 0, 1), (78, .getfield 12, 3), (81, .aload_n 0, 1), (82, .iconst 0, 1), (83, .bipush 9, 2), (85, .invokevirtual 105, 3), (88, .putfield 121, 3), (91, .goto 102, 3), (94, .aload_n 0, 1), (95, .ldc 123, 2), (97, .invokevirtual 101, 3), (100, .ifCond .eq 24, 3), (103, .aload_n 0, 1), (104, .invokevirtual 82, 3), (107, .aload_n 0, 1), (108, .getfield 12, 3), (111, .aload_n 0, 1), (112, .iconst 0, 1), (113, .bipush 99, 2), (115, .invokevirtual 105, 3), (118, .putfield 125, 3), (121, .goto 72, 3), (124, .aload_n 0, 1), (125, .ldc 127, 2), (127, .invokevirtual 101, 3), (130, .ifCond .eq 25, 3), (133, .aload_n 0, 1), (134, .invokevirtual 82, 3)]
theorem ddX3_landClause_0 : (dtX3_landClause_0.all fun e => decide (decode mX3_landClause.2.1 e.1 = .ok (e.2.1, e.2.2))) = true := by decide +kernel
theorem daX3_landClause_0 (j : Nat) {pc n : Nat} {i : Instr} (h : dtX3_landClause_0[j]? = some (pc, i, n)) : decode mX3_landClause.2.1 pc = .ok (i, n) := dec_of (c := mX3_landClause.2.1) ddX3_landClause_0 h
def dtX3_landClause_1 : List (Nat × Instr × Nat) := [(137, .aload_n 0, 1), (138, .getfield 12, 3), (141, .aload_n 0, 1), (142, .iconst 1, 1), (143, .sipush 999, 3), (146, .invokevirtual 105, 3), (149, .putfield 129, 3), (152, .goto 41, 3), (155, .aload_n 0, 1), (156, .ldc 131, 2), (158, .invokevirtual 101, 3), (161, .ifCond .eq 11, 3), (164, .aload_n 0, 1), (165, .iconst 0, 1), (166, .invokevirtual 133, 3), (169, .goto 24, 3), (172, .aload_n 0, 1), (173, .ldc 137, 2), (175, .invokevirtual 101, 3), (178, .ifCond .eq 11, 3), (181, .aload_n 0, 1), (182, .iconst 1, 1), (183, .invokevirtual 133, 3), (186, .goto 7, 3), (189, .aload_n 0, 1), (190, .invokevirtual 139, 3), (193, .aload_n 0, 1), (194, .invokevirtual 142, 3), (197, .return_, 1)]
theorem ddX3_landClause_1 : (dtX3_landClause_1.all fun e => decide (decode mX3_landClause.2.1 e.1 = .ok (e.2.1, e.2.2))) = true := by decide +kernel
theorem daX3_landClause_1 (j : Nat) {pc n : Nat} {i : Instr} (h : dtX3_landClause_1[j]? = some (pc, i, n)) : decode mX3_landClause.2.1 pc = .ok (i, n) := dec_of (c := mX3_landClause.2.1) ddX3_landClause_1 h
def jX3_landClause_193 (v0 : Int) (μ : Mm) : Option Mm :=
  chk (KD v0 = 3) (
  (fX3_readStop v0 μ).bind fun μ2 =>
  some μ2)
def fX3_landClause (v0 : Int) (μ : Mm) : Option Mm :=
  chk (KD v0 = 3) (
  (fX3_isWord v0 1 μ).bind fun r4 =>
  if r4 = 0 then
    (fX3_isWord v0 2 μ).bind fun r6 =>
    if r6 = 0 then
      (fX3_isWord v0 3 μ).bind fun r8 =>
      if r8 = 0 then
        (fX3_isWord v0 4 μ).bind fun r10 =>
        if r10 = 0 then
          (fX3_isWord v0 5 μ).bind fun r12 =>
          if r12 = 0 then
            (fX3_isWord v0 6 μ).bind fun r14 =>
            if r14 = 0 then
              (fX3_isWord v0 7 μ).bind fun r16 =>
              if r16 = 0 then
                (fX3_breakOff v0 μ).bind fun μ18 =>
                jX3_landClause_193 v0 μ18
              else
                (fX3_readThing v0 1 μ).bind fun μ19 =>
                jX3_landClause_193 v0 μ19
            else
              (fX3_readThing v0 0 μ).bind fun μ20 =>
              jX3_landClause_193 v0 μ20
          else
            (fX3_advance v0 μ).bind fun μ21 =>
            (fX3_readNumber v0 1 999 μ21).bind fun (r22, μ22) =>
            chk (KD (μ21 v0 0) = 2) (
            lm (mst μ22 (μ21 v0 0) 4 r22) fun μ24 =>
            jX3_landClause_193 v0 μ24)
        else
          (fX3_advance v0 μ).bind fun μ25 =>
          (fX3_readNumber v0 0 99 μ25).bind fun (r26, μ26) =>
          chk (KD (μ25 v0 0) = 2) (
          lm (mst μ26 (μ25 v0 0) 3 r26) fun μ28 =>
          jX3_landClause_193 v0 μ28)
      else
        (fX3_advance v0 μ).bind fun μ29 =>
        (fX3_readNumber v0 0 9 μ29).bind fun (r30, μ30) =>
        chk (KD (μ29 v0 0) = 2) (
        lm (mst μ30 (μ29 v0 0) 2 r30) fun μ32 =>
        jX3_landClause_193 v0 μ32)
    else
      (fX3_advance v0 μ).bind fun μ33 =>
      (fX3_readHeights v0 μ33).bind fun μ34 =>
      jX3_landClause_193 v0 μ34
  else
    (fX3_advance v0 μ).bind fun μ35 =>
    (fX3_readNumber v0 2 12 μ35).bind fun (r36, μ36) =>
    chk (KD (μ35 v0 0) = 2) (
    lm (mst μ36 (μ35 v0 0) 0 r36) fun μ38 =>
    (fX3_readNumber v0 2 12 μ38).bind fun (r39, μ39) =>
    chk (KD (μ38 v0 0) = 2) (
    lm (mst μ39 (μ38 v0 0) 1 r39) fun μ41 =>
    jX3_landClause_193 v0 μ41)))
set_option maxRecDepth 20000 in
theorem gX3_landClause_193 (l : Launch) {F : FI} {v0 : Int} {μ : Mm} {t : Mm} (h : jX3_landClause_193 v0 μ = some t) (hK : F.1 = [] ∧ F.2.1 = t) : GM l mX3_landClause F 0 0 193 [(0, (3, v0))] [] μ := by
  unfold jX3_landClause_193 at h
  refine GM_aload_n (pc := 193) 0 rfl (daX3_landClause_1 26 rfl) rfl ?_
  obtain ⟨hc1, h⟩ := chk_inv h
  obtain ⟨μ2, hf2, h⟩ := Option.bind_eq_some_iff.mp h
  refine GM_callV0 (pc := 194) [] (tX3_readStop l hf2) cwX3_readStop 3 (Nat.le_of_ble_eq_true rfl) rfl kv_X3_readStop ke_X3_readStop km_X3_142 hc1 ⟨Nat.le_of_ble_eq_true rfl, Nat.le_of_ble_eq_true rfl⟩ (Nat.le_of_ble_eq_true rfl) (Nat.le_of_ble_eq_true rfl) (daX3_landClause_1 27 rfl) ?_
  cases h
  exact GM_vret (pc := 197) (daX3_landClause_1 28 rfl) rfl hK
set_option maxRecDepth 20000 in
theorem gX3_landClause_0 (l : Launch) {F : FI} {v0 : Int} {μ : Mm} {t : Mm} (h : fX3_landClause v0 μ = some t) (hK : F.1 = [] ∧ F.2.1 = t) : GM l mX3_landClause F 0 0 0 [(0, (3, v0))] [] μ := by
  unfold fX3_landClause at h
  refine GM_aload_n (pc := 0) 0 rfl (daX3_landClause_0 0 rfl) rfl ?_
  refine GM_ldcS (pc := 1) 0 1 (by decide) rfl rfl rfl (daX3_landClause_0 1 rfl) ?_
  obtain ⟨hc3, h⟩ := chk_inv h
  obtain ⟨r4, hf4, h⟩ := Option.bind_eq_some_iff.mp h
  refine GM_callV0 (pc := 3) [(3, 1)] (tX3_isWord l hf4) cwX3_isWord 3 (Nat.le_of_ble_eq_true rfl) rfl kv_X3_isWord ke_X3_isWord km_X3_101 hc3 ⟨Nat.le_of_ble_eq_true rfl, Nat.le_of_ble_eq_true rfl⟩ (Nat.le_of_ble_eq_true rfl) (Nat.le_of_ble_eq_true rfl) (daX3_landClause_0 2 rfl) ?_
  refine GM_if_eq (pc := 6) 44 (daX3_landClause_0 3 rfl) rfl (fun c5 => ?_) (fun c5 => ?_)
  · skip
    rw [if_pos c5] at h
    refine GM_aload_n (pc := 44) 0 rfl (daX3_landClause_0 21 rfl) rfl ?_
    refine GM_ldcS (pc := 45) 1 2 (by decide) rfl rfl rfl (daX3_landClause_0 22 rfl) ?_
    obtain ⟨r6, hf6, h⟩ := Option.bind_eq_some_iff.mp h
    refine GM_callV0 (pc := 47) [(3, 2)] (tX3_isWord l hf6) cwX3_isWord 3 (Nat.le_of_ble_eq_true rfl) rfl kv_X3_isWord ke_X3_isWord km_X3_101 hc3 ⟨Nat.le_of_ble_eq_true rfl, Nat.le_of_ble_eq_true rfl⟩ (Nat.le_of_ble_eq_true rfl) (Nat.le_of_ble_eq_true rfl) (daX3_landClause_0 23 rfl) ?_
    refine GM_if_eq (pc := 50) 64 (daX3_landClause_0 24 rfl) rfl (fun c7 => ?_) (fun c7 => ?_)
    · skip
      rw [if_pos c7] at h
      refine GM_aload_n (pc := 64) 0 rfl (daX3_landClause_0 30 rfl) rfl ?_
      refine GM_ldcS (pc := 65) 2 3 (by decide) rfl rfl rfl (daX3_landClause_0 31 rfl) ?_
      obtain ⟨r8, hf8, h⟩ := Option.bind_eq_some_iff.mp h
      refine GM_callV0 (pc := 67) [(3, 3)] (tX3_isWord l hf8) cwX3_isWord 3 (Nat.le_of_ble_eq_true rfl) rfl kv_X3_isWord ke_X3_isWord km_X3_101 hc3 ⟨Nat.le_of_ble_eq_true rfl, Nat.le_of_ble_eq_true rfl⟩ (Nat.le_of_ble_eq_true rfl) (Nat.le_of_ble_eq_true rfl) (daX3_landClause_0 32 rfl) ?_
      refine GM_if_eq (pc := 70) 94 (daX3_landClause_0 33 rfl) rfl (fun c9 => ?_) (fun c9 => ?_)
      · skip
        rw [if_pos c9] at h
        refine GM_aload_n (pc := 94) 0 rfl (daX3_landClause_0 44 rfl) rfl ?_
        refine GM_ldcS (pc := 95) 3 4 (by decide) rfl rfl rfl (daX3_landClause_0 45 rfl) ?_
        obtain ⟨r10, hf10, h⟩ := Option.bind_eq_some_iff.mp h
        refine GM_callV0 (pc := 97) [(3, 4)] (tX3_isWord l hf10) cwX3_isWord 3 (Nat.le_of_ble_eq_true rfl) rfl kv_X3_isWord ke_X3_isWord km_X3_101 hc3 ⟨Nat.le_of_ble_eq_true rfl, Nat.le_of_ble_eq_true rfl⟩ (Nat.le_of_ble_eq_true rfl) (Nat.le_of_ble_eq_true rfl) (daX3_landClause_0 46 rfl) ?_
        refine GM_if_eq (pc := 100) 124 (daX3_landClause_0 47 rfl) rfl (fun c11 => ?_) (fun c11 => ?_)
        · skip
          rw [if_pos c11] at h
          refine GM_aload_n (pc := 124) 0 rfl (daX3_landClause_0 58 rfl) rfl ?_
          refine GM_ldcS (pc := 125) 4 5 (by decide) rfl rfl rfl (daX3_landClause_0 59 rfl) ?_
          obtain ⟨r12, hf12, h⟩ := Option.bind_eq_some_iff.mp h
          refine GM_callV0 (pc := 127) [(3, 5)] (tX3_isWord l hf12) cwX3_isWord 3 (Nat.le_of_ble_eq_true rfl) rfl kv_X3_isWord ke_X3_isWord km_X3_101 hc3 ⟨Nat.le_of_ble_eq_true rfl, Nat.le_of_ble_eq_true rfl⟩ (Nat.le_of_ble_eq_true rfl) (Nat.le_of_ble_eq_true rfl) (daX3_landClause_0 60 rfl) ?_
          refine GM_if_eq (pc := 130) 155 (daX3_landClause_0 61 rfl) rfl (fun c13 => ?_) (fun c13 => ?_)
          · skip
            rw [if_pos c13] at h
            refine GM_aload_n (pc := 155) 0 rfl (daX3_landClause_1 8 rfl) rfl ?_
            refine GM_ldcS (pc := 156) 5 6 (by decide) rfl rfl rfl (daX3_landClause_1 9 rfl) ?_
            obtain ⟨r14, hf14, h⟩ := Option.bind_eq_some_iff.mp h
            refine GM_callV0 (pc := 158) [(3, 6)] (tX3_isWord l hf14) cwX3_isWord 3 (Nat.le_of_ble_eq_true rfl) rfl kv_X3_isWord ke_X3_isWord km_X3_101 hc3 ⟨Nat.le_of_ble_eq_true rfl, Nat.le_of_ble_eq_true rfl⟩ (Nat.le_of_ble_eq_true rfl) (Nat.le_of_ble_eq_true rfl) (daX3_landClause_1 10 rfl) ?_
            refine GM_if_eq (pc := 161) 172 (daX3_landClause_1 11 rfl) rfl (fun c15 => ?_) (fun c15 => ?_)
            · skip
              rw [if_pos c15] at h
              refine GM_aload_n (pc := 172) 0 rfl (daX3_landClause_1 16 rfl) rfl ?_
              refine GM_ldcS (pc := 173) 6 7 (by decide) rfl rfl rfl (daX3_landClause_1 17 rfl) ?_
              obtain ⟨r16, hf16, h⟩ := Option.bind_eq_some_iff.mp h
              refine GM_callV0 (pc := 175) [(3, 7)] (tX3_isWord l hf16) cwX3_isWord 3 (Nat.le_of_ble_eq_true rfl) rfl kv_X3_isWord ke_X3_isWord km_X3_101 hc3 ⟨Nat.le_of_ble_eq_true rfl, Nat.le_of_ble_eq_true rfl⟩ (Nat.le_of_ble_eq_true rfl) (Nat.le_of_ble_eq_true rfl) (daX3_landClause_1 18 rfl) ?_
              refine GM_if_eq (pc := 178) 189 (daX3_landClause_1 19 rfl) rfl (fun c17 => ?_) (fun c17 => ?_)
              · skip
                rw [if_pos c17] at h
                refine GM_aload_n (pc := 189) 0 rfl (daX3_landClause_1 24 rfl) rfl ?_
                obtain ⟨μ18, hf18, h⟩ := Option.bind_eq_some_iff.mp h
                refine GM_callV0 (pc := 190) [] (tX3_breakOff l hf18) cwX3_breakOff 3 (Nat.le_of_ble_eq_true rfl) rfl kv_X3_breakOff ke_X3_breakOff km_X3_139 hc3 ⟨Nat.le_of_ble_eq_true rfl, Nat.le_of_ble_eq_true rfl⟩ (Nat.le_of_ble_eq_true rfl) (Nat.le_of_ble_eq_true rfl) (daX3_landClause_1 25 rfl) ?_
                exact gX3_landClause_193 l h hK
              · skip
                rw [if_neg c17] at h
                refine GM_aload_n (pc := 181) 0 rfl (daX3_landClause_1 20 rfl) rfl ?_
                refine GM_iconst (pc := 182) 1 (daX3_landClause_1 21 rfl) rfl (R32_b rfl) ?_
                obtain ⟨μ19, hf19, h⟩ := Option.bind_eq_some_iff.mp h
                refine GM_callV0 (pc := 183) [(0, 1)] (tX3_readThing l hf19) cwX3_readThing 3 (Nat.le_of_ble_eq_true rfl) rfl kv_X3_readThing ke_X3_readThing km_X3_133 hc3 ⟨Nat.le_of_ble_eq_true rfl, Nat.le_of_ble_eq_true rfl⟩ (Nat.le_of_ble_eq_true rfl) (Nat.le_of_ble_eq_true rfl) (daX3_landClause_1 22 rfl) ?_
                refine GM_goto (pc := 186) 193 (daX3_landClause_1 23 rfl) rfl ?_
                exact gX3_landClause_193 l h hK
            · skip
              rw [if_neg c15] at h
              refine GM_aload_n (pc := 164) 0 rfl (daX3_landClause_1 12 rfl) rfl ?_
              refine GM_iconst (pc := 165) 0 (daX3_landClause_1 13 rfl) rfl (R32_b rfl) ?_
              obtain ⟨μ20, hf20, h⟩ := Option.bind_eq_some_iff.mp h
              refine GM_callV0 (pc := 166) [(0, 0)] (tX3_readThing l hf20) cwX3_readThing 3 (Nat.le_of_ble_eq_true rfl) rfl kv_X3_readThing ke_X3_readThing km_X3_133 hc3 ⟨Nat.le_of_ble_eq_true rfl, Nat.le_of_ble_eq_true rfl⟩ (Nat.le_of_ble_eq_true rfl) (Nat.le_of_ble_eq_true rfl) (daX3_landClause_1 14 rfl) ?_
              refine GM_goto (pc := 169) 193 (daX3_landClause_1 15 rfl) rfl ?_
              exact gX3_landClause_193 l h hK
          · skip
            rw [if_neg c13] at h
            refine GM_aload_n (pc := 133) 0 rfl (daX3_landClause_0 62 rfl) rfl ?_
            obtain ⟨μ21, hf21, h⟩ := Option.bind_eq_some_iff.mp h
            refine GM_callV0 (pc := 134) [] (tX3_advance l hf21) cwX3_advance 3 (Nat.le_of_ble_eq_true rfl) rfl kv_X3_advance ke_X3_advance km_X3_82 hc3 ⟨Nat.le_of_ble_eq_true rfl, Nat.le_of_ble_eq_true rfl⟩ (Nat.le_of_ble_eq_true rfl) (Nat.le_of_ble_eq_true rfl) (daX3_landClause_0 63 rfl) ?_
            refine GM_aload_n (pc := 137) 0 rfl (daX3_landClause_1 0 rfl) rfl ?_
            refine GM_getf (pc := 138) 3 0 3 0 kf_X3_12 (Nat.le_of_ble_eq_true rfl) (Nat.le_of_ble_eq_true rfl) rfl (daX3_landClause_1 1 rfl) hc3 rfl ?_
            refine GM_aload_n (pc := 141) 0 rfl (daX3_landClause_1 2 rfl) rfl ?_
            refine GM_iconst (pc := 142) 1 (daX3_landClause_1 3 rfl) rfl (R32_b rfl) ?_
            refine GM_sipush (pc := 143) 999 (daX3_landClause_1 4 rfl) rfl (R32_b rfl) ?_
            obtain ⟨⟨r22, μ22⟩, hf22, h⟩ := Option.bind_eq_some_iff.mp h
            dsimp only at h
            refine GM_callV0 (pc := 146) [(0, 1), (0, 999)] (tX3_readNumber l hf22) cwX3_readNumber 3 (Nat.le_of_ble_eq_true rfl) rfl kv_X3_readNumber ke_X3_readNumber km_X3_105 hc3 ⟨Nat.le_of_ble_eq_true rfl, Nat.le_of_ble_eq_true rfl⟩ (Nat.le_of_ble_eq_true rfl) (Nat.le_of_ble_eq_true rfl) (daX3_landClause_1 5 rfl) ?_
            obtain ⟨hc23, h⟩ := chk_inv h
            obtain ⟨μ24, hμ24, h⟩ := lm_inv h
            refine GM_putf (pc := 149) 2 4 0 kf_X3_129 (Nat.le_of_ble_eq_true rfl) (Nat.le_of_ble_eq_true rfl) rfl rfl (daX3_landClause_1 6 rfl) hc23 (fun q => absurd q (by decide)) ?_
            refine GM_mem hμ24 ?_
            refine GM_goto (pc := 152) 193 (daX3_landClause_1 7 rfl) rfl ?_
            exact gX3_landClause_193 l h hK
        · skip
          rw [if_neg c11] at h
          refine GM_aload_n (pc := 103) 0 rfl (daX3_landClause_0 48 rfl) rfl ?_
          obtain ⟨μ25, hf25, h⟩ := Option.bind_eq_some_iff.mp h
          refine GM_callV0 (pc := 104) [] (tX3_advance l hf25) cwX3_advance 3 (Nat.le_of_ble_eq_true rfl) rfl kv_X3_advance ke_X3_advance km_X3_82 hc3 ⟨Nat.le_of_ble_eq_true rfl, Nat.le_of_ble_eq_true rfl⟩ (Nat.le_of_ble_eq_true rfl) (Nat.le_of_ble_eq_true rfl) (daX3_landClause_0 49 rfl) ?_
          refine GM_aload_n (pc := 107) 0 rfl (daX3_landClause_0 50 rfl) rfl ?_
          refine GM_getf (pc := 108) 3 0 3 0 kf_X3_12 (Nat.le_of_ble_eq_true rfl) (Nat.le_of_ble_eq_true rfl) rfl (daX3_landClause_0 51 rfl) hc3 rfl ?_
          refine GM_aload_n (pc := 111) 0 rfl (daX3_landClause_0 52 rfl) rfl ?_
          refine GM_iconst (pc := 112) 0 (daX3_landClause_0 53 rfl) rfl (R32_b rfl) ?_
          refine GM_bipush (pc := 113) 99 (daX3_landClause_0 54 rfl) rfl (R32_b rfl) ?_
          obtain ⟨⟨r26, μ26⟩, hf26, h⟩ := Option.bind_eq_some_iff.mp h
          dsimp only at h
          refine GM_callV0 (pc := 115) [(0, 0), (0, 99)] (tX3_readNumber l hf26) cwX3_readNumber 3 (Nat.le_of_ble_eq_true rfl) rfl kv_X3_readNumber ke_X3_readNumber km_X3_105 hc3 ⟨Nat.le_of_ble_eq_true rfl, Nat.le_of_ble_eq_true rfl⟩ (Nat.le_of_ble_eq_true rfl) (Nat.le_of_ble_eq_true rfl) (daX3_landClause_0 55 rfl) ?_
          obtain ⟨hc27, h⟩ := chk_inv h
          obtain ⟨μ28, hμ28, h⟩ := lm_inv h
          refine GM_putf (pc := 118) 2 3 0 kf_X3_125 (Nat.le_of_ble_eq_true rfl) (Nat.le_of_ble_eq_true rfl) rfl rfl (daX3_landClause_0 56 rfl) hc27 (fun q => absurd q (by decide)) ?_
          refine GM_mem hμ28 ?_
          refine GM_goto (pc := 121) 193 (daX3_landClause_0 57 rfl) rfl ?_
          exact gX3_landClause_193 l h hK
      · skip
        rw [if_neg c9] at h
        refine GM_aload_n (pc := 73) 0 rfl (daX3_landClause_0 34 rfl) rfl ?_
        obtain ⟨μ29, hf29, h⟩ := Option.bind_eq_some_iff.mp h
        refine GM_callV0 (pc := 74) [] (tX3_advance l hf29) cwX3_advance 3 (Nat.le_of_ble_eq_true rfl) rfl kv_X3_advance ke_X3_advance km_X3_82 hc3 ⟨Nat.le_of_ble_eq_true rfl, Nat.le_of_ble_eq_true rfl⟩ (Nat.le_of_ble_eq_true rfl) (Nat.le_of_ble_eq_true rfl) (daX3_landClause_0 35 rfl) ?_
        refine GM_aload_n (pc := 77) 0 rfl (daX3_landClause_0 36 rfl) rfl ?_
        refine GM_getf (pc := 78) 3 0 3 0 kf_X3_12 (Nat.le_of_ble_eq_true rfl) (Nat.le_of_ble_eq_true rfl) rfl (daX3_landClause_0 37 rfl) hc3 rfl ?_
        refine GM_aload_n (pc := 81) 0 rfl (daX3_landClause_0 38 rfl) rfl ?_
        refine GM_iconst (pc := 82) 0 (daX3_landClause_0 39 rfl) rfl (R32_b rfl) ?_
        refine GM_bipush (pc := 83) 9 (daX3_landClause_0 40 rfl) rfl (R32_b rfl) ?_
        obtain ⟨⟨r30, μ30⟩, hf30, h⟩ := Option.bind_eq_some_iff.mp h
        dsimp only at h
        refine GM_callV0 (pc := 85) [(0, 0), (0, 9)] (tX3_readNumber l hf30) cwX3_readNumber 3 (Nat.le_of_ble_eq_true rfl) rfl kv_X3_readNumber ke_X3_readNumber km_X3_105 hc3 ⟨Nat.le_of_ble_eq_true rfl, Nat.le_of_ble_eq_true rfl⟩ (Nat.le_of_ble_eq_true rfl) (Nat.le_of_ble_eq_true rfl) (daX3_landClause_0 41 rfl) ?_
        obtain ⟨hc31, h⟩ := chk_inv h
        obtain ⟨μ32, hμ32, h⟩ := lm_inv h
        refine GM_putf (pc := 88) 2 2 0 kf_X3_121 (Nat.le_of_ble_eq_true rfl) (Nat.le_of_ble_eq_true rfl) rfl rfl (daX3_landClause_0 42 rfl) hc31 (fun q => absurd q (by decide)) ?_
        refine GM_mem hμ32 ?_
        refine GM_goto (pc := 91) 193 (daX3_landClause_0 43 rfl) rfl ?_
        exact gX3_landClause_193 l h hK
    · skip
      rw [if_neg c7] at h
      refine GM_aload_n (pc := 53) 0 rfl (daX3_landClause_0 25 rfl) rfl ?_
      obtain ⟨μ33, hf33, h⟩ := Option.bind_eq_some_iff.mp h
      refine GM_callV0 (pc := 54) [] (tX3_advance l hf33) cwX3_advance 3 (Nat.le_of_ble_eq_true rfl) rfl kv_X3_advance ke_X3_advance km_X3_82 hc3 ⟨Nat.le_of_ble_eq_true rfl, Nat.le_of_ble_eq_true rfl⟩ (Nat.le_of_ble_eq_true rfl) (Nat.le_of_ble_eq_true rfl) (daX3_landClause_0 26 rfl) ?_
      refine GM_aload_n (pc := 57) 0 rfl (daX3_landClause_0 27 rfl) rfl ?_
      obtain ⟨μ34, hf34, h⟩ := Option.bind_eq_some_iff.mp h
      refine GM_callV0 (pc := 58) [] (tX3_readHeights l hf34) cwX3_readHeights 3 (Nat.le_of_ble_eq_true rfl) rfl kv_X3_readHeights ke_X3_readHeights km_X3_116 hc3 ⟨Nat.le_of_ble_eq_true rfl, Nat.le_of_ble_eq_true rfl⟩ (Nat.le_of_ble_eq_true rfl) (Nat.le_of_ble_eq_true rfl) (daX3_landClause_0 28 rfl) ?_
      refine GM_goto (pc := 61) 193 (daX3_landClause_0 29 rfl) rfl ?_
      exact gX3_landClause_193 l h hK
  · skip
    rw [if_neg c5] at h
    refine GM_aload_n (pc := 9) 0 rfl (daX3_landClause_0 4 rfl) rfl ?_
    obtain ⟨μ35, hf35, h⟩ := Option.bind_eq_some_iff.mp h
    refine GM_callV0 (pc := 10) [] (tX3_advance l hf35) cwX3_advance 3 (Nat.le_of_ble_eq_true rfl) rfl kv_X3_advance ke_X3_advance km_X3_82 hc3 ⟨Nat.le_of_ble_eq_true rfl, Nat.le_of_ble_eq_true rfl⟩ (Nat.le_of_ble_eq_true rfl) (Nat.le_of_ble_eq_true rfl) (daX3_landClause_0 5 rfl) ?_
    refine GM_aload_n (pc := 13) 0 rfl (daX3_landClause_0 6 rfl) rfl ?_
    refine GM_getf (pc := 14) 3 0 3 0 kf_X3_12 (Nat.le_of_ble_eq_true rfl) (Nat.le_of_ble_eq_true rfl) rfl (daX3_landClause_0 7 rfl) hc3 rfl ?_
    refine GM_aload_n (pc := 17) 0 rfl (daX3_landClause_0 8 rfl) rfl ?_
    refine GM_iconst (pc := 18) 2 (daX3_landClause_0 9 rfl) rfl (R32_b rfl) ?_
    refine GM_bipush (pc := 19) 12 (daX3_landClause_0 10 rfl) rfl (R32_b rfl) ?_
    obtain ⟨⟨r36, μ36⟩, hf36, h⟩ := Option.bind_eq_some_iff.mp h
    dsimp only at h
    refine GM_callV0 (pc := 21) [(0, 2), (0, 12)] (tX3_readNumber l hf36) cwX3_readNumber 3 (Nat.le_of_ble_eq_true rfl) rfl kv_X3_readNumber ke_X3_readNumber km_X3_105 hc3 ⟨Nat.le_of_ble_eq_true rfl, Nat.le_of_ble_eq_true rfl⟩ (Nat.le_of_ble_eq_true rfl) (Nat.le_of_ble_eq_true rfl) (daX3_landClause_0 11 rfl) ?_
    obtain ⟨hc37, h⟩ := chk_inv h
    obtain ⟨μ38, hμ38, h⟩ := lm_inv h
    refine GM_putf (pc := 24) 2 0 0 kf_X3_108 (Nat.le_of_ble_eq_true rfl) (Nat.le_of_ble_eq_true rfl) rfl rfl (daX3_landClause_0 12 rfl) hc37 (fun q => absurd q (by decide)) ?_
    refine GM_mem hμ38 ?_
    refine GM_aload_n (pc := 27) 0 rfl (daX3_landClause_0 13 rfl) rfl ?_
    refine GM_getf (pc := 28) 3 0 3 0 kf_X3_12 (Nat.le_of_ble_eq_true rfl) (Nat.le_of_ble_eq_true rfl) rfl (daX3_landClause_0 14 rfl) hc3 rfl ?_
    refine GM_aload_n (pc := 31) 0 rfl (daX3_landClause_0 15 rfl) rfl ?_
    refine GM_iconst (pc := 32) 2 (daX3_landClause_0 16 rfl) rfl (R32_b rfl) ?_
    refine GM_bipush (pc := 33) 12 (daX3_landClause_0 17 rfl) rfl (R32_b rfl) ?_
    obtain ⟨⟨r39, μ39⟩, hf39, h⟩ := Option.bind_eq_some_iff.mp h
    dsimp only at h
    refine GM_callV0 (pc := 35) [(0, 2), (0, 12)] (tX3_readNumber l hf39) cwX3_readNumber 3 (Nat.le_of_ble_eq_true rfl) rfl kv_X3_readNumber ke_X3_readNumber km_X3_105 hc3 ⟨Nat.le_of_ble_eq_true rfl, Nat.le_of_ble_eq_true rfl⟩ (Nat.le_of_ble_eq_true rfl) (Nat.le_of_ble_eq_true rfl) (daX3_landClause_0 18 rfl) ?_
    obtain ⟨hc40, h⟩ := chk_inv h
    obtain ⟨μ41, hμ41, h⟩ := lm_inv h
    refine GM_putf (pc := 38) 2 1 0 kf_X3_111 (Nat.le_of_ble_eq_true rfl) (Nat.le_of_ble_eq_true rfl) rfl rfl (daX3_landClause_0 19 rfl) hc40 (fun q => absurd q (by decide)) ?_
    refine GM_mem hμ41 ?_
    refine GM_goto (pc := 41) 193 (daX3_landClause_0 20 rfl) rfl ?_
    exact gX3_landClause_193 l h hK
theorem tX3_landClause (l : Launch) {v0 : Int} {μ : Mm} {t : Mm} (h : fX3_landClause v0 μ = some t) : Ct l yX3_landClause mX3_landClause [(3, v0)] μ ([], t, 0, 0) :=
  Ct_of (by decide +kernel) rfl rfl (Nat.le_of_ble_eq_true rfl) (fun _ _ _ => trivial) (gX3_landClause_0 l h ⟨rfl, rfl⟩)
def mX3_landIsWhole : MI := (RX3, cX3_landIsWhole, 2, (some .boolean), "landIsWhole", 2, 42, fun _ _ _ => True)
theorem cwX3_landIsWhole : CWd yX3_landIsWhole mX3_landIsWhole 0 := ⟨ki_X3, kk_X3_landIsWhole, ⟨by decide, by decide⟩, rfl⟩
def dtX3_landIsWhole_0 : List (Nat × Instr × Nat) := [(0, .aload_n 0, 1), (1, .getfield 36, 3), (4, .aload_n 0, 1), (5, .getfield 12, 3), (8, .invokevirtual 85, 3), (11, .if_icmp .le 5, 3), (14, .iconst 0, 1), (15, .ireturn, 1), (16, .iconst 0, 1), (17, .istore_n 1, 1), (18, .iload_n 1, 1), (19, .aload_n 0, 1), (20, .getfield 12, 3), (23, .getfield 89, 3), (26, .if_icmp .ge 36, 3), (29, .iload_n 1, 1), (30, .bipush 12, 2), (32, .if_icmp .ge 30, 3), (35, .aload_n 0, 1), (36, .getfield 12, 3), (39, .aload_n 0, 1), (40, .getfield 12, 3), (43, .getfield 92, 3), (46, .iload_n 1, 1), (47, .iaload, 1), (48, .invokevirtual 95, 3), (51, .ifCond .ne 5, 3), (54, .iconst 0, 1), (55, .ireturn, 1), (56, .iinc 1 1, 3), (59, .goto (-41), 3), (62, .iconst 1, 1), (63, .ireturn, 1)]
theorem ddX3_landIsWhole_0 : (dtX3_landIsWhole_0.all fun e => decide (decode mX3_landIsWhole.2.1 e.1 = .ok (e.2.1, e.2.2))) = true := by decide +kernel
theorem daX3_landIsWhole_0 (j : Nat) {pc n : Nat} {i : Instr} (h : dtX3_landIsWhole_0[j]? = some (pc, i, n)) : decode mX3_landIsWhole.2.1 pc = .ok (i, n) := dec_of (c := mX3_landIsWhole.2.1) ddX3_landIsWhole_0 h
def zX3_landIsWhole_18 (l : Launch) (F : FI) (v0 : Int) (μ : Mm) (k n : Nat) : Int ⊕ (Unit ⊕ Unit) → Prop
  | .inl v1 => GM l mX3_landIsWhole F k n 18 [(0, (3, v0)), (1, (0, v1))] [] μ
  | .inr (.inl ()) => GM l mX3_landIsWhole F k n 62 [] [] μ
  | .inr (.inr ()) => GM l mX3_landIsWhole F k n 54 [] [] μ
def sX3_landIsWhole_18 (v0 : Int) (μ : Mm) : Int → Option (Int ⊕ (Unit ⊕ Unit)) := fun v1 =>
  chk (KD v0 = 3) (
  chk (KD (μ v0 0) = 2) (
  if μ (μ v0 0) 5 ≤ v1 then
    some (.inr (.inl ()))
  else
    if 12 ≤ v1 then
      some (.inr (.inl ()))
    else
      chk (KD (μ (μ v0 0) 7) = 12 ∧ 0 ≤ v1 ∧ v1 < LN (μ (μ v0 0) 7)) (
      (fX2_has (μ v0 0) (μ (μ (μ v0 0) 7) v1) μ).bind fun r6 =>
      if r6 = 0 then
        some (.inr (.inr ()))
      else
        some (.inl (w32 (v1 + 1))))))
def fX3_landIsWhole (v0 : Int) (μ : Mm) : Option Int :=
  chk (KD v0 = 3) (
  chk (KD (μ v0 0) = 2) (
  (fX2_places (μ v0 0) μ).bind fun r10 =>
  if μ v0 9 ≤ r10 then
    (lop (sX3_landIsWhole_18 v0 μ) FU 0).bind fun x12 =>
      match x12 with
      | (.inl ()) =>
          some 1
      | (.inr ()) =>
          some 0
  else
    some 0))
set_option maxRecDepth 20000 in
theorem qX3_landIsWhole_18 (l : Launch) (F : FI) (v0 : Int) (μ : Mm) (k n : Nat) : ∀ (q : Int) (t : (Int ⊕ (Unit ⊕ Unit))), sX3_landIsWhole_18 v0 μ q = some t → zX3_landIsWhole_18 l F v0 μ k n t → zX3_landIsWhole_18 l F v0 μ k n (.inl q) := by
  intro q t h hK
  obtain ⟨v1, hqq⟩ : ∃ z, z = q := ⟨q, rfl⟩
  subst hqq
  unfold sX3_landIsWhole_18 at h
  try dsimp only at h
  show GM l mX3_landIsWhole F k n 18 [(0, (3, v0)), (1, (0, v1))] [] μ
  refine GM_iload_n (pc := 18) 1 rfl (daX3_landIsWhole_0 10 rfl) rfl ?_
  refine GM_aload_n (pc := 19) 0 rfl (daX3_landIsWhole_0 11 rfl) rfl ?_
  obtain ⟨hc1, h⟩ := chk_inv h
  refine GM_getf (pc := 20) 3 0 3 0 kf_X3_12 (Nat.le_of_ble_eq_true rfl) (Nat.le_of_ble_eq_true rfl) rfl (daX3_landIsWhole_0 12 rfl) hc1 rfl ?_
  obtain ⟨hc2, h⟩ := chk_inv h
  refine GM_getf (pc := 23) 2 5 0 5 kf_X3_89 (Nat.le_of_ble_eq_true rfl) (Nat.le_of_ble_eq_true rfl) rfl (daX3_landIsWhole_0 13 rfl) hc2 rfl ?_
  refine GM_icmp_ge (pc := 26) 62 (daX3_landIsWhole_0 14 rfl) rfl (fun c3 => ?_) (fun c3 => ?_)
  · skip
    rw [if_pos c3] at h
    refine GM_pick [] rfl ?_
    cases h
    exact hK
  · skip
    rw [if_neg c3] at h
    refine GM_iload_n (pc := 29) 1 rfl (daX3_landIsWhole_0 15 rfl) rfl ?_
    refine GM_bipush (pc := 30) 12 (daX3_landIsWhole_0 16 rfl) rfl (R32_b rfl) ?_
    refine GM_icmp_ge (pc := 32) 62 (daX3_landIsWhole_0 17 rfl) rfl (fun c4 => ?_) (fun c4 => ?_)
    · skip
      rw [if_pos c4] at h
      refine GM_pick [] rfl ?_
      cases h
      exact hK
    · skip
      rw [if_neg c4] at h
      refine GM_aload_n (pc := 35) 0 rfl (daX3_landIsWhole_0 18 rfl) rfl ?_
      refine GM_getf (pc := 36) 3 0 3 0 kf_X3_12 (Nat.le_of_ble_eq_true rfl) (Nat.le_of_ble_eq_true rfl) rfl (daX3_landIsWhole_0 19 rfl) hc1 rfl ?_
      refine GM_aload_n (pc := 39) 0 rfl (daX3_landIsWhole_0 20 rfl) rfl ?_
      refine GM_getf (pc := 40) 3 0 3 0 kf_X3_12 (Nat.le_of_ble_eq_true rfl) (Nat.le_of_ble_eq_true rfl) rfl (daX3_landIsWhole_0 21 rfl) hc1 rfl ?_
      refine GM_getf (pc := 43) 2 7 3 7 kf_X3_92 (Nat.le_of_ble_eq_true rfl) (Nat.le_of_ble_eq_true rfl) rfl (daX3_landIsWhole_0 22 rfl) hc2 rfl ?_
      refine GM_iload_n (pc := 46) 1 rfl (daX3_landIsWhole_0 23 rfl) rfl ?_
      obtain ⟨hc5, h⟩ := chk_inv h
      refine GM_iald (pc := 47) (daX3_landIsWhole_0 24 rfl) hc5.1 hc5.2.1 hc5.2.2 ?_
      obtain ⟨r6, hf6, h⟩ := Option.bind_eq_some_iff.mp h
      refine GM_callV0 (pc := 48) [(0, μ (μ (μ v0 0) 7) v1)] (tX2_has l hf6) cwX2_has 2 (Nat.le_of_ble_eq_true rfl) rfl kv_X2_has ke_X2_has km_X3_95 hc2 ⟨Nat.le_of_ble_eq_true rfl, Nat.le_of_ble_eq_true rfl⟩ (Nat.le_of_ble_eq_true rfl) (Nat.le_of_ble_eq_true rfl) (daX3_landIsWhole_0 25 rfl) ?_
      refine GM_if_ne (pc := 51) 56 (daX3_landIsWhole_0 26 rfl) rfl (fun c7 => ?_) (fun c7 => ?_)
      · skip
        rw [if_neg c7] at h
        refine GM_iinc (L' := [(1, (0, w32 (v1 + 1))), (0, (3, v0))]) (pc := 56) 1 rfl (daX3_landIsWhole_0 29 rfl) (Nat.le_of_ble_eq_true rfl) rfl ?_
        refine GM_goto (pc := 59) 18 (daX3_landIsWhole_0 30 rfl) rfl ?_
        refine GM_pick [1, 0] rfl ?_
        cases h
        exact hK
      · skip
        rw [if_pos c7] at h
        refine GM_pick [] rfl ?_
        cases h
        exact hK
set_option maxRecDepth 20000 in
theorem gX3_landIsWhole_0 (l : Launch) {F : FI} {v0 : Int} {μ : Mm} {t : Int} (h : fX3_landIsWhole v0 μ = some t) (hK : F.1 = [(0, t)] ∧ F.2.1 = μ) : GM l mX3_landIsWhole F 0 0 0 [(0, (3, v0))] [] μ := by
  unfold fX3_landIsWhole at h
  refine GM_aload_n (pc := 0) 0 rfl (daX3_landIsWhole_0 0 rfl) rfl ?_
  obtain ⟨hc8, h⟩ := chk_inv h
  refine GM_getf (pc := 1) 3 9 0 9 kf_X3_36 (Nat.le_of_ble_eq_true rfl) (Nat.le_of_ble_eq_true rfl) rfl (daX3_landIsWhole_0 1 rfl) hc8 rfl ?_
  refine GM_aload_n (pc := 4) 0 rfl (daX3_landIsWhole_0 2 rfl) rfl ?_
  refine GM_getf (pc := 5) 3 0 3 0 kf_X3_12 (Nat.le_of_ble_eq_true rfl) (Nat.le_of_ble_eq_true rfl) rfl (daX3_landIsWhole_0 3 rfl) hc8 rfl ?_
  obtain ⟨hc9, h⟩ := chk_inv h
  obtain ⟨r10, hf10, h⟩ := Option.bind_eq_some_iff.mp h
  refine GM_callV0 (pc := 8) [] (tX2_places l hf10) cwX2_places 2 (Nat.le_of_ble_eq_true rfl) rfl kv_X2_places ke_X2_places km_X3_85 hc9 ⟨Nat.le_of_ble_eq_true rfl, Nat.le_of_ble_eq_true rfl⟩ (Nat.le_of_ble_eq_true rfl) (Nat.le_of_ble_eq_true rfl) (daX3_landIsWhole_0 4 rfl) ?_
  refine GM_icmp_le (pc := 11) 16 (daX3_landIsWhole_0 5 rfl) rfl (fun c11 => ?_) (fun c11 => ?_)
  · skip
    rw [if_pos c11] at h
    refine GM_iconst (pc := 16) 0 (daX3_landIsWhole_0 8 rfl) rfl (R32_b rfl) ?_
    refine GM_istore_n (L' := [(1, (0, 0)), (0, (3, v0))]) (pc := 17) (daX3_landIsWhole_0 9 rfl) rfl (Nat.le_of_ble_eq_true rfl) rfl ?_
    refine GM_pick [1, 0] rfl ?_
    obtain ⟨x12, hqx12, h⟩ := Option.bind_eq_some_iff.mp h
    refine lop_ind (zX3_landIsWhole_18 l F v0 μ 0 0) (qX3_landIsWhole_18 l F v0 μ 0 0) FU _ x12 hqx12 ?_
    rcases x12 with _ | _
    · dsimp only at h
      show GM l mX3_landIsWhole F 0 0 62 [] [] μ
      refine GM_iconst (pc := 62) 1 (daX3_landIsWhole_0 31 rfl) rfl (R32_b rfl) ?_
      cases h
      exact GM_zret (pc := 63) (daX3_landIsWhole_0 32 rfl) rfl (Or.inr rfl) hK
    · dsimp only at h
      show GM l mX3_landIsWhole F 0 0 54 [] [] μ
      refine GM_iconst (pc := 54) 0 (daX3_landIsWhole_0 27 rfl) rfl (R32_b rfl) ?_
      cases h
      exact GM_zret (pc := 55) (daX3_landIsWhole_0 28 rfl) rfl (Or.inl rfl) hK
  · skip
    rw [if_neg c11] at h
    refine GM_iconst (pc := 14) 0 (daX3_landIsWhole_0 6 rfl) rfl (R32_b rfl) ?_
    cases h
    exact GM_zret (pc := 15) (daX3_landIsWhole_0 7 rfl) rfl (Or.inl rfl) hK
theorem tX3_landIsWhole (l : Launch) {v0 : Int} {μ : Mm} {t : Int} (h : fX3_landIsWhole v0 μ = some t) : Ct l yX3_landIsWhole mX3_landIsWhole [(3, v0)] μ ([(0, t)], μ, 0, 0) :=
  Ct_of (by decide +kernel) rfl rfl (Nat.le_of_ble_eq_true rfl) (fun _ _ _ => trivial) (gX3_landIsWhole_0 l h ⟨rfl, rfl⟩)
def mX3_readLand : MI := (RX3, cX3_readLand, 4, none, "readLand", 6, 129, fun _ _ _ => True)
theorem cwX3_readLand : CWd yX3_readLand mX3_readLand 2 := ⟨ki_X3, kk_X3_readLand, ⟨by decide, by decide⟩, rfl⟩
def dtX3_readLand_0 : List (Nat × Instr × Nat) := [(0, .aload_n 0, 1), (1, .aload_n 1, 1), (2, .iload_n 2, 1), (3, .invokevirtual 29, 3), (6, .aload_n 0, 1), (7, .getfield 12, 3), (10, .invokevirtual 33, 3), (13, .aload_n 0, 1), (14, .iconst 0, 1), (15, .putfield 36, 3), (18, .iconst 0, 1), (19, .istore_n 3, 1), (20, .iload_n 3, 1), (21, .sipush 700, 3), (24, .if_icmp .gt 28, 3), (27, .aload_n 0, 1), (28, .getfield 40, 3), (31, .ifCond .eq 21, 3), (34, .aload_n 0, 1), (35, .getfield 43, 3), (38, .iconst 1, 1), (39, .if_icmp .eq 13, 3), (42, .aload_n 0, 1), (43, .invokevirtual 46, 3), (46, .iinc 3 1, 3), (49, .goto (-29), 3), (52, .aload_n 0, 1), (53, .getfield 43, 3), (56, .ifCond .ne 19, 3), (59, .aload_n 0, 1), (60, .invokevirtual 49, 3), (63, .ifCond .ne 12, 3), (66, .aload_n 0, 1), (67, .iconst 4, 1), (68, .aload_n 0, 1), (69, .getfield 53, 3), (72, .invokevirtual 56, 3), (75, .return_, 1)]
theorem ddX3_readLand_0 : (dtX3_readLand_0.all fun e => decide (decode mX3_readLand.2.1 e.1 = .ok (e.2.1, e.2.2))) = true := by decide +kernel
theorem daX3_readLand_0 (j : Nat) {pc n : Nat} {i : Instr} (h : dtX3_readLand_0[j]? = some (pc, i, n)) : decode mX3_readLand.2.1 pc = .ok (i, n) := dec_of (c := mX3_readLand.2.1) ddX3_readLand_0 h
def zX3_readLand_20 (l : Launch) (F : FI) (v0 : Int) (k n : Nat) : (Int × Mm) ⊕ Mm → Prop
  | .inl (v3, μ) => GM l mX3_readLand F k n 20 [(0, (3, v0)), (3, (0, v3))] [] μ
  | .inr μ => GM l mX3_readLand F k n 52 [(0, (3, v0))] [] μ
def sX3_readLand_20 (v0 : Int) : (Int × Mm) → Option ((Int × Mm) ⊕ Mm) := fun (v3, μ) =>
  if 700 < v3 then
    some (.inr μ)
  else
    chk (KD v0 = 3) (
    if μ v0 7 = 0 then
      some (.inr μ)
    else
      if μ v0 2 = 1 then
        some (.inr μ)
      else
        (fX3_landClause v0 μ).bind fun μ5 =>
        some (.inl (w32 (v3 + 1), μ5)))
def fX3_readLand (v0 v1 v2 : Int) (μ : Mm) : Option Mm :=
  chk (KD v0 = 3) (
  (fX3_open v0 v1 v2 μ).bind fun μ7 =>
  chk (KD (μ7 v0 0) = 2) (
  (fX2_clear (μ7 v0 0) μ7).bind fun μ9 =>
  lm (mst μ9 v0 9 0) fun μ10 =>
  (lop (sX3_readLand_20 v0) FU (0, μ10)).bind fun μ_12 =>
    if μ_12 v0 2 = 0 then
      (fX3_landIsWhole v0 μ_12).bind fun r14 =>
      if r14 = 0 then
        (fX3_note v0 4 (μ_12 v0 5) μ_12).bind fun μ16 =>
        some μ16
      else
        some μ_12
    else
      some μ_12))
set_option maxRecDepth 20000 in
theorem qX3_readLand_20 (l : Launch) (F : FI) (v0 : Int) (k n : Nat) : ∀ (q : (Int × Mm)) (t : ((Int × Mm) ⊕ Mm)), sX3_readLand_20 v0 q = some t → zX3_readLand_20 l F v0 k n t → zX3_readLand_20 l F v0 k n (.inl q) := by
  intro q t h hK
  obtain ⟨v3, μ⟩ := q
  unfold sX3_readLand_20 at h
  try dsimp only at h
  show GM l mX3_readLand F k n 20 [(0, (3, v0)), (3, (0, v3))] [] μ
  refine GM_iload_n (pc := 20) 1 rfl (daX3_readLand_0 12 rfl) rfl ?_
  refine GM_sipush (pc := 21) 700 (daX3_readLand_0 13 rfl) rfl (R32_b rfl) ?_
  refine GM_icmp_gt (pc := 24) 52 (daX3_readLand_0 14 rfl) rfl (fun c1 => ?_) (fun c1 => ?_)
  · skip
    rw [if_pos c1] at h
    refine GM_pick [0] rfl ?_
    cases h
    exact hK
  · skip
    rw [if_neg c1] at h
    refine GM_aload_n (pc := 27) 0 rfl (daX3_readLand_0 15 rfl) rfl ?_
    obtain ⟨hc2, h⟩ := chk_inv h
    refine GM_getf (pc := 28) 3 7 0 7 kf_X3_40 (Nat.le_of_ble_eq_true rfl) (Nat.le_of_ble_eq_true rfl) rfl (daX3_readLand_0 16 rfl) hc2 rfl ?_
    refine GM_if_eq (pc := 31) 52 (daX3_readLand_0 17 rfl) rfl (fun c3 => ?_) (fun c3 => ?_)
    · skip
      rw [if_pos c3] at h
      refine GM_pick [0] rfl ?_
      cases h
      exact hK
    · skip
      rw [if_neg c3] at h
      refine GM_aload_n (pc := 34) 0 rfl (daX3_readLand_0 18 rfl) rfl ?_
      refine GM_getf (pc := 35) 3 2 0 2 kf_X3_43 (Nat.le_of_ble_eq_true rfl) (Nat.le_of_ble_eq_true rfl) rfl (daX3_readLand_0 19 rfl) hc2 rfl ?_
      refine GM_iconst (pc := 38) 1 (daX3_readLand_0 20 rfl) rfl (R32_b rfl) ?_
      refine GM_icmp_eq (pc := 39) 52 (daX3_readLand_0 21 rfl) rfl (fun c4 => ?_) (fun c4 => ?_)
      · skip
        rw [if_pos c4] at h
        refine GM_pick [0] rfl ?_
        cases h
        exact hK
      · skip
        rw [if_neg c4] at h
        refine GM_aload_n (pc := 42) 0 rfl (daX3_readLand_0 22 rfl) rfl ?_
        obtain ⟨μ5, hf5, h⟩ := Option.bind_eq_some_iff.mp h
        refine GM_callV0 (pc := 43) [] (tX3_landClause l hf5) cwX3_landClause 3 (Nat.le_of_ble_eq_true rfl) rfl kv_X3_landClause ke_X3_landClause km_X3_46 hc2 ⟨Nat.le_of_ble_eq_true rfl, Nat.le_of_ble_eq_true rfl⟩ (Nat.le_of_ble_eq_true rfl) (Nat.le_of_ble_eq_true rfl) (daX3_readLand_0 23 rfl) ?_
        refine GM_iinc (L' := [(3, (0, w32 (v3 + 1))), (0, (3, v0))]) (pc := 46) 1 rfl (daX3_readLand_0 24 rfl) (Nat.le_of_ble_eq_true rfl) rfl ?_
        refine GM_goto (pc := 49) 20 (daX3_readLand_0 25 rfl) rfl ?_
        refine GM_pick [1, 0] rfl ?_
        cases h
        exact hK
set_option maxRecDepth 20000 in
theorem gX3_readLand_0 (l : Launch) {F : FI} {v0 v1 v2 : Int} {μ : Mm} {t : Mm} (h : fX3_readLand v0 v1 v2 μ = some t) (hK : F.1 = [] ∧ F.2.1 = t) : GM l mX3_readLand F 0 0 0 [(0, (3, v0)), (1, (3, v1)), (2, (0, v2))] [] μ := by
  unfold fX3_readLand at h
  refine GM_aload_n (pc := 0) 0 rfl (daX3_readLand_0 0 rfl) rfl ?_
  refine GM_aload_n (pc := 1) 1 rfl (daX3_readLand_0 1 rfl) rfl ?_
  refine GM_iload_n (pc := 2) 2 rfl (daX3_readLand_0 2 rfl) rfl ?_
  obtain ⟨hc6, h⟩ := chk_inv h
  obtain ⟨μ7, hf7, h⟩ := Option.bind_eq_some_iff.mp h
  refine GM_callV0 (pc := 3) [(3, v1), (0, v2)] (tX3_open l hf7) cwX3_open 3 (Nat.le_of_ble_eq_true rfl) rfl kv_X3_open ke_X3_open km_X3_29 hc6 ⟨Nat.le_of_ble_eq_true rfl, Nat.le_of_ble_eq_true rfl⟩ (Nat.le_of_ble_eq_true rfl) (Nat.le_of_ble_eq_true rfl) (daX3_readLand_0 3 rfl) ?_
  refine GM_aload_n (pc := 6) 0 rfl (daX3_readLand_0 4 rfl) rfl ?_
  refine GM_getf (pc := 7) 3 0 3 0 kf_X3_12 (Nat.le_of_ble_eq_true rfl) (Nat.le_of_ble_eq_true rfl) rfl (daX3_readLand_0 5 rfl) hc6 rfl ?_
  obtain ⟨hc8, h⟩ := chk_inv h
  obtain ⟨μ9, hf9, h⟩ := Option.bind_eq_some_iff.mp h
  refine GM_callV0 (pc := 10) [] (tX2_clear l hf9) cwX2_clear 2 (Nat.le_of_ble_eq_true rfl) rfl kv_X2_clear ke_X2_clear km_X3_33 hc8 ⟨Nat.le_of_ble_eq_true rfl, Nat.le_of_ble_eq_true rfl⟩ (Nat.le_of_ble_eq_true rfl) (Nat.le_of_ble_eq_true rfl) (daX3_readLand_0 6 rfl) ?_
  refine GM_aload_n (pc := 13) 0 rfl (daX3_readLand_0 7 rfl) rfl ?_
  refine GM_iconst (pc := 14) 0 (daX3_readLand_0 8 rfl) rfl (R32_b rfl) ?_
  obtain ⟨μ10, hμ10, h⟩ := lm_inv h
  refine GM_putf (pc := 15) 3 9 0 kf_X3_36 (Nat.le_of_ble_eq_true rfl) (Nat.le_of_ble_eq_true rfl) rfl rfl (daX3_readLand_0 9 rfl) hc6 (fun q => absurd q (by decide)) ?_
  refine GM_mem hμ10 ?_
  refine GM_iconst (pc := 18) 0 (daX3_readLand_0 10 rfl) rfl (R32_b rfl) ?_
  refine GM_istore_n (L' := [(3, (0, 0)), (0, (3, v0)), (1, (3, v1)), (2, (0, v2))]) (pc := 19) (daX3_readLand_0 11 rfl) rfl (Nat.le_of_ble_eq_true rfl) rfl ?_
  refine GM_pick [1, 0] rfl ?_
  obtain ⟨x11, hqx11, h⟩ := Option.bind_eq_some_iff.mp h
  refine lop_ind (zX3_readLand_20 l F v0 0 0) (qX3_readLand_20 l F v0 0 0) FU _ x11 hqx11 ?_
  obtain ⟨μ_12, hqq⟩ : ∃ z, z = x11 := ⟨x11, rfl⟩
  subst hqq
  show GM l mX3_readLand F 0 0 52 [(0, (3, v0))] [] μ_12
  refine GM_aload_n (pc := 52) 0 rfl (daX3_readLand_0 26 rfl) rfl ?_
  refine GM_getf (pc := 53) 3 2 0 2 kf_X3_43 (Nat.le_of_ble_eq_true rfl) (Nat.le_of_ble_eq_true rfl) rfl (daX3_readLand_0 27 rfl) hc6 rfl ?_
  refine GM_if_ne (pc := 56) 75 (daX3_readLand_0 28 rfl) rfl (fun c13 => ?_) (fun c13 => ?_)
  · skip
    rw [if_neg c13] at h
    cases h
    exact GM_vret (pc := 75) (daX3_readLand_0 37 rfl) rfl hK
  · skip
    rw [if_pos c13] at h
    refine GM_aload_n (pc := 59) 0 rfl (daX3_readLand_0 29 rfl) rfl ?_
    obtain ⟨r14, hf14, h⟩ := Option.bind_eq_some_iff.mp h
    refine GM_callV0 (pc := 60) [] (tX3_landIsWhole l hf14) cwX3_landIsWhole 3 (Nat.le_of_ble_eq_true rfl) rfl kv_X3_landIsWhole ke_X3_landIsWhole km_X3_49 hc6 ⟨Nat.le_of_ble_eq_true rfl, Nat.le_of_ble_eq_true rfl⟩ (Nat.le_of_ble_eq_true rfl) (Nat.le_of_ble_eq_true rfl) (daX3_readLand_0 30 rfl) ?_
    refine GM_if_ne (pc := 63) 75 (daX3_readLand_0 31 rfl) rfl (fun c15 => ?_) (fun c15 => ?_)
    · skip
      rw [if_neg c15] at h
      cases h
      exact GM_vret (pc := 75) (daX3_readLand_0 37 rfl) rfl hK
    · skip
      rw [if_pos c15] at h
      refine GM_aload_n (pc := 66) 0 rfl (daX3_readLand_0 32 rfl) rfl ?_
      refine GM_iconst (pc := 67) 4 (daX3_readLand_0 33 rfl) rfl (R32_b rfl) ?_
      refine GM_aload_n (pc := 68) 0 rfl (daX3_readLand_0 34 rfl) rfl ?_
      refine GM_getf (pc := 69) 3 5 0 5 kf_X3_53 (Nat.le_of_ble_eq_true rfl) (Nat.le_of_ble_eq_true rfl) rfl (daX3_readLand_0 35 rfl) hc6 rfl ?_
      obtain ⟨μ16, hf16, h⟩ := Option.bind_eq_some_iff.mp h
      refine GM_callV0 (pc := 72) [(0, 4), (0, μ_12 v0 5)] (tX3_note l hf16) cwX3_note 3 (Nat.le_of_ble_eq_true rfl) rfl kv_X3_note ke_X3_note km_X3_56 hc6 ⟨Nat.le_of_ble_eq_true rfl, Nat.le_of_ble_eq_true rfl⟩ (Nat.le_of_ble_eq_true rfl) (Nat.le_of_ble_eq_true rfl) (daX3_readLand_0 36 rfl) ?_
      cases h
      exact GM_vret (pc := 75) (daX3_readLand_0 37 rfl) rfl hK
theorem tX3_readLand (l : Launch) {v0 v1 v2 : Int} {μ : Mm} {t : Mm} (h : fX3_readLand v0 v1 v2 μ = some t) : Ct l yX3_readLand mX3_readLand [(3, v0), (3, v1), (0, v2)] μ ([], t, 0, 0) :=
  Ct_of (by decide +kernel) rfl rfl (Nat.le_of_ble_eq_true rfl) (fun _ _ _ => trivial) (gX3_readLand_0 l h ⟨rfl, rfl⟩)
def mX3_markOf : MI := (RX3, cX3_markOf, 1, (some .int), "markOf", 5, 107, fun _ _ _ => True)
theorem cwX3_markOf : CWd yX3_markOf mX3_markOf 0 := ⟨ki_X3, kk_X3_markOf, ⟨by decide, by decide⟩, rfl⟩
def dtX3_markOf_0 : List (Nat × Instr × Nat) := [(0, .aload_n 0, 1), (1, .ldc 131, 2), (3, .invokevirtual 101, 3), (6, .ifCond .eq 5, 3), (9, .iconst 1, 1), (10, .ireturn, 1), (11, .aload_n 0, 1), (12, .ldc 137, 2), (14, .invokevirtual 101, 3), (17, .ifCond .eq 5, 3), (20, .iconst 2, 1), (21, .ireturn, 1), (22, .aload_n 0, 1), (23, .ldc 204, 2), (25, .invokevirtual 101, 3), (28, .ifCond .eq 7, 3), (31, .iconst 4, 1), (32, .goto 4, 3), (35, .iconst 0, 1), (36, .ireturn, 1)]
theorem ddX3_markOf_0 : (dtX3_markOf_0.all fun e => decide (decode mX3_markOf.2.1 e.1 = .ok (e.2.1, e.2.2))) = true := by decide +kernel
theorem daX3_markOf_0 (j : Nat) {pc n : Nat} {i : Instr} (h : dtX3_markOf_0[j]? = some (pc, i, n)) : decode mX3_markOf.2.1 pc = .ok (i, n) := dec_of (c := mX3_markOf.2.1) ddX3_markOf_0 h
def fX3_markOf (v0 : Int) (μ : Mm) : Option Int :=
  chk (KD v0 = 3) (
  (fX3_isWord v0 6 μ).bind fun r2 =>
  if r2 = 0 then
    (fX3_isWord v0 7 μ).bind fun r4 =>
    if r4 = 0 then
      (fX3_isWord v0 9 μ).bind fun r6 =>
      if r6 = 0 then
        some 0
      else
        some 4
    else
      some 2
  else
    some 1)
set_option maxRecDepth 20000 in
theorem gX3_markOf_0 (l : Launch) {F : FI} {v0 : Int} {μ : Mm} {t : Int} (h : fX3_markOf v0 μ = some t) (hK : F.1 = [(0, t)] ∧ F.2.1 = μ) : GM l mX3_markOf F 0 0 0 [(0, (3, v0))] [] μ := by
  unfold fX3_markOf at h
  refine GM_aload_n (pc := 0) 0 rfl (daX3_markOf_0 0 rfl) rfl ?_
  refine GM_ldcS (pc := 1) 5 6 (by decide) rfl rfl rfl (daX3_markOf_0 1 rfl) ?_
  obtain ⟨hc1, h⟩ := chk_inv h
  obtain ⟨r2, hf2, h⟩ := Option.bind_eq_some_iff.mp h
  refine GM_callV0 (pc := 3) [(3, 6)] (tX3_isWord l hf2) cwX3_isWord 3 (Nat.le_of_ble_eq_true rfl) rfl kv_X3_isWord ke_X3_isWord km_X3_101 hc1 ⟨Nat.le_of_ble_eq_true rfl, Nat.le_of_ble_eq_true rfl⟩ (Nat.le_of_ble_eq_true rfl) (Nat.le_of_ble_eq_true rfl) (daX3_markOf_0 2 rfl) ?_
  refine GM_if_eq (pc := 6) 11 (daX3_markOf_0 3 rfl) rfl (fun c3 => ?_) (fun c3 => ?_)
  · skip
    rw [if_pos c3] at h
    refine GM_aload_n (pc := 11) 0 rfl (daX3_markOf_0 6 rfl) rfl ?_
    refine GM_ldcS (pc := 12) 6 7 (by decide) rfl rfl rfl (daX3_markOf_0 7 rfl) ?_
    obtain ⟨r4, hf4, h⟩ := Option.bind_eq_some_iff.mp h
    refine GM_callV0 (pc := 14) [(3, 7)] (tX3_isWord l hf4) cwX3_isWord 3 (Nat.le_of_ble_eq_true rfl) rfl kv_X3_isWord ke_X3_isWord km_X3_101 hc1 ⟨Nat.le_of_ble_eq_true rfl, Nat.le_of_ble_eq_true rfl⟩ (Nat.le_of_ble_eq_true rfl) (Nat.le_of_ble_eq_true rfl) (daX3_markOf_0 8 rfl) ?_
    refine GM_if_eq (pc := 17) 22 (daX3_markOf_0 9 rfl) rfl (fun c5 => ?_) (fun c5 => ?_)
    · skip
      rw [if_pos c5] at h
      refine GM_aload_n (pc := 22) 0 rfl (daX3_markOf_0 12 rfl) rfl ?_
      refine GM_ldcS (pc := 23) 8 9 (by decide) rfl rfl rfl (daX3_markOf_0 13 rfl) ?_
      obtain ⟨r6, hf6, h⟩ := Option.bind_eq_some_iff.mp h
      refine GM_callV0 (pc := 25) [(3, 9)] (tX3_isWord l hf6) cwX3_isWord 3 (Nat.le_of_ble_eq_true rfl) rfl kv_X3_isWord ke_X3_isWord km_X3_101 hc1 ⟨Nat.le_of_ble_eq_true rfl, Nat.le_of_ble_eq_true rfl⟩ (Nat.le_of_ble_eq_true rfl) (Nat.le_of_ble_eq_true rfl) (daX3_markOf_0 14 rfl) ?_
      refine GM_if_eq (pc := 28) 35 (daX3_markOf_0 15 rfl) rfl (fun c7 => ?_) (fun c7 => ?_)
      · skip
        rw [if_pos c7] at h
        refine GM_iconst (pc := 35) 0 (daX3_markOf_0 18 rfl) rfl (R32_b rfl) ?_
        cases h
        exact GM_iret (pc := 36) (daX3_markOf_0 19 rfl) rfl hK
      · skip
        rw [if_neg c7] at h
        refine GM_iconst (pc := 31) 4 (daX3_markOf_0 16 rfl) rfl (R32_b rfl) ?_
        refine GM_goto (pc := 32) 36 (daX3_markOf_0 17 rfl) rfl ?_
        cases h
        exact GM_iret (pc := 36) (daX3_markOf_0 19 rfl) rfl hK
    · skip
      rw [if_neg c5] at h
      refine GM_iconst (pc := 20) 2 (daX3_markOf_0 10 rfl) rfl (R32_b rfl) ?_
      cases h
      exact GM_iret (pc := 21) (daX3_markOf_0 11 rfl) rfl hK
  · skip
    rw [if_neg c3] at h
    refine GM_iconst (pc := 9) 1 (daX3_markOf_0 4 rfl) rfl (R32_b rfl) ?_
    cases h
    exact GM_iret (pc := 10) (daX3_markOf_0 5 rfl) rfl hK
theorem tX3_markOf (l : Launch) {v0 : Int} {μ : Mm} {t : Int} (h : fX3_markOf v0 μ = some t) : Ct l yX3_markOf mX3_markOf [(3, v0)] μ ([(0, t)], μ, 0, 0) :=
  Ct_of (by decide +kernel) rfl rfl (Nat.le_of_ble_eq_true rfl) (fun _ _ _ => trivial) (gX3_markOf_0 l h ⟨rfl, rfl⟩)
def mX3_readMarks : MI := (RX3, cX3_readMarks, 4, (some .int), "readMarks", 6, 127, fun _ _ _ => True)
theorem cwX3_readMarks : CWd yX3_readMarks mX3_readMarks 0 := ⟨ki_X3, kk_X3_readMarks, ⟨by decide, by decide⟩, rfl⟩
def dtX3_readMarks_0 : List (Nat × Instr × Nat) := [(0, .iconst 0, 1), (1, .istore_n 1, 1), (2, .aload_n 0, 1), (3, .invokevirtual 201, 3), (6, .istore_n 2, 1), (7, .iconst 0, 1), (8, .istore_n 3, 1), (9, .iload_n 3, 1), (10, .sipush 700, 3), (13, .if_icmp .ge 47, 3), (16, .iload_n 2, 1), (17, .ifCond .eq 43, 3), (20, .iload_n 1, 1), (21, .iload_n 2, 1), (22, .ior, 1), (23, .istore_n 1, 1), (24, .iload_n 1, 1), (25, .iconst 2, 1), (26, .iand, 1), (27, .ifCond .eq 18, 3), (30, .iload_n 1, 1), (31, .iconst 4, 1), (32, .iand, 1), (33, .ifCond .eq 12, 3), (36, .aload_n 0, 1), (37, .iconst 2, 1), (38, .aload_n 0, 1), (39, .getfield 148, 3), (42, .invokevirtual 56, 3), (45, .aload_n 0, 1), (46, .invokevirtual 82, 3), (49, .aload_n 0, 1), (50, .invokevirtual 201, 3), (53, .istore_n 2, 1), (54, .iinc 3 1, 3), (57, .goto (-48), 3), (60, .iload_n 1, 1), (61, .ireturn, 1)]
theorem ddX3_readMarks_0 : (dtX3_readMarks_0.all fun e => decide (decode mX3_readMarks.2.1 e.1 = .ok (e.2.1, e.2.2))) = true := by decide +kernel
theorem daX3_readMarks_0 (j : Nat) {pc n : Nat} {i : Instr} (h : dtX3_readMarks_0[j]? = some (pc, i, n)) : decode mX3_readMarks.2.1 pc = .ok (i, n) := dec_of (c := mX3_readMarks.2.1) ddX3_readMarks_0 h
def jX3_readMarks_45 (v0 v1 v3 : Int) (μ : Mm) : Option ((Int × Int × Int × Mm) ⊕ (Int × Mm)) :=
  chk (KD v0 = 3) (
  (fX3_advance v0 μ).bind fun μ2 =>
  (fX3_markOf v0 μ2).bind fun r3 =>
  some (.inl (v1, r3, w32 (v3 + 1), μ2)))
def zX3_readMarks_9 (l : Launch) (F : FI) (v0 : Int) (k n : Nat) : (Int × Int × Int × Mm) ⊕ (Int × Mm) → Prop
  | .inl (v1, v2, v3, μ) => GM l mX3_readMarks F k n 9 [(0, (3, v0)), (1, (0, v1)), (2, (0, v2)), (3, (0, v3))] [] μ
  | .inr (v1, μ) => GM l mX3_readMarks F k n 60 [(1, (0, v1))] [] μ
def sX3_readMarks_9 (v0 : Int) : (Int × Int × Int × Mm) → Option ((Int × Int × Int × Mm) ⊕ (Int × Mm)) := fun (v1, v2, v3, μ) =>
  if 700 ≤ v3 then
    some (.inr (v1, μ))
  else
    if v2 = 0 then
      some (.inr (v1, μ))
    else
      if iand (ior v1 v2) 2 = 0 then
        jX3_readMarks_45 v0 (ior v1 v2) v3 μ
      else
        if iand (ior v1 v2) 4 = 0 then
          jX3_readMarks_45 v0 (ior v1 v2) v3 μ
        else
          chk (KD v0 = 3) (
          (fX3_note v0 2 (μ v0 8) μ).bind fun μ9 =>
          jX3_readMarks_45 v0 (ior v1 v2) v3 μ9)
def fX3_readMarks (v0 : Int) (μ : Mm) : Option (Int × Mm) :=
  chk (KD v0 = 3) (
  (fX3_markOf v0 μ).bind fun r11 =>
  (lop (sX3_readMarks_9 v0) FU (0, r11, 0, μ)).bind fun x12 =>
    match x12 with
    | (v1_13, μ_13) =>
      some (v1_13, μ_13))
set_option maxRecDepth 20000 in
theorem gX3_readMarks_45 (l : Launch) {F : FI} {v0 v1 v3 : Int} {μ : Mm} {t : ((Int × Int × Int × Mm) ⊕ (Int × Mm))} {k n : Nat} (h : jX3_readMarks_45 v0 v1 v3 μ = some t) (hK : zX3_readMarks_9 l F v0 k n t) : GM l mX3_readMarks F k n 45 [(0, (3, v0)), (1, (0, v1)), (3, (0, v3))] [] μ := by
  unfold jX3_readMarks_45 at h
  refine GM_aload_n (pc := 45) 0 rfl (daX3_readMarks_0 29 rfl) rfl ?_
  obtain ⟨hc1, h⟩ := chk_inv h
  obtain ⟨μ2, hf2, h⟩ := Option.bind_eq_some_iff.mp h
  refine GM_callV0 (pc := 46) [] (tX3_advance l hf2) cwX3_advance 3 (Nat.le_of_ble_eq_true rfl) rfl kv_X3_advance ke_X3_advance km_X3_82 hc1 ⟨Nat.le_of_ble_eq_true rfl, Nat.le_of_ble_eq_true rfl⟩ (Nat.le_of_ble_eq_true rfl) (Nat.le_of_ble_eq_true rfl) (daX3_readMarks_0 30 rfl) ?_
  refine GM_aload_n (pc := 49) 0 rfl (daX3_readMarks_0 31 rfl) rfl ?_
  obtain ⟨r3, hf3, h⟩ := Option.bind_eq_some_iff.mp h
  refine GM_callV0 (pc := 50) [] (tX3_markOf l hf3) cwX3_markOf 3 (Nat.le_of_ble_eq_true rfl) rfl kv_X3_markOf ke_X3_markOf km_X3_201 hc1 ⟨Nat.le_of_ble_eq_true rfl, Nat.le_of_ble_eq_true rfl⟩ (Nat.le_of_ble_eq_true rfl) (Nat.le_of_ble_eq_true rfl) (daX3_readMarks_0 32 rfl) ?_
  refine GM_istore_n (L' := [(2, (0, r3)), (0, (3, v0)), (1, (0, v1)), (3, (0, v3))]) (pc := 53) (daX3_readMarks_0 33 rfl) rfl (Nat.le_of_ble_eq_true rfl) rfl ?_
  refine GM_iinc (L' := [(3, (0, w32 (v3 + 1))), (2, (0, r3)), (0, (3, v0)), (1, (0, v1))]) (pc := 54) 3 rfl (daX3_readMarks_0 34 rfl) (Nat.le_of_ble_eq_true rfl) rfl ?_
  refine GM_goto (pc := 57) 9 (daX3_readMarks_0 35 rfl) rfl ?_
  refine GM_pick [2, 3, 1, 0] rfl ?_
  cases h
  exact hK
set_option maxRecDepth 20000 in
theorem qX3_readMarks_9 (l : Launch) (F : FI) (v0 : Int) (k n : Nat) : ∀ (q : (Int × Int × Int × Mm)) (t : ((Int × Int × Int × Mm) ⊕ (Int × Mm))), sX3_readMarks_9 v0 q = some t → zX3_readMarks_9 l F v0 k n t → zX3_readMarks_9 l F v0 k n (.inl q) := by
  intro q t h hK
  obtain ⟨v1, v2, v3, μ⟩ := q
  unfold sX3_readMarks_9 at h
  try dsimp only at h
  show GM l mX3_readMarks F k n 9 [(0, (3, v0)), (1, (0, v1)), (2, (0, v2)), (3, (0, v3))] [] μ
  refine GM_iload_n (pc := 9) 3 rfl (daX3_readMarks_0 7 rfl) rfl ?_
  refine GM_sipush (pc := 10) 700 (daX3_readMarks_0 8 rfl) rfl (R32_b rfl) ?_
  refine GM_icmp_ge (pc := 13) 60 (daX3_readMarks_0 9 rfl) rfl (fun c4 => ?_) (fun c4 => ?_)
  · skip
    rw [if_pos c4] at h
    refine GM_pick [1] rfl ?_
    cases h
    exact hK
  · skip
    rw [if_neg c4] at h
    refine GM_iload_n (pc := 16) 2 rfl (daX3_readMarks_0 10 rfl) rfl ?_
    refine GM_if_eq (pc := 17) 60 (daX3_readMarks_0 11 rfl) rfl (fun c5 => ?_) (fun c5 => ?_)
    · skip
      rw [if_pos c5] at h
      refine GM_pick [1] rfl ?_
      cases h
      exact hK
    · skip
      rw [if_neg c5] at h
      refine GM_iload_n (pc := 20) 1 rfl (daX3_readMarks_0 12 rfl) rfl ?_
      refine GM_iload_n (pc := 21) 2 rfl (daX3_readMarks_0 13 rfl) rfl ?_
      refine GM_ior (pc := 22) (daX3_readMarks_0 14 rfl) ?_
      refine GM_istore_n (L' := [(1, (0, ior v1 v2)), (0, (3, v0)), (2, (0, v2)), (3, (0, v3))]) (pc := 23) (daX3_readMarks_0 15 rfl) rfl (Nat.le_of_ble_eq_true rfl) rfl ?_
      refine GM_iload_n (pc := 24) 0 rfl (daX3_readMarks_0 16 rfl) rfl ?_
      refine GM_iconst (pc := 25) 2 (daX3_readMarks_0 17 rfl) rfl (R32_b rfl) ?_
      refine GM_iand (pc := 26) (daX3_readMarks_0 18 rfl) ?_
      refine GM_if_eq (pc := 27) 45 (daX3_readMarks_0 19 rfl) rfl (fun c6 => ?_) (fun c6 => ?_)
      · skip
        rw [if_pos c6] at h
        refine GM_pick [1, 0, 3] rfl ?_
        exact gX3_readMarks_45 l h hK
      · skip
        rw [if_neg c6] at h
        refine GM_iload_n (pc := 30) 0 rfl (daX3_readMarks_0 20 rfl) rfl ?_
        refine GM_iconst (pc := 31) 4 (daX3_readMarks_0 21 rfl) rfl (R32_b rfl) ?_
        refine GM_iand (pc := 32) (daX3_readMarks_0 22 rfl) ?_
        refine GM_if_eq (pc := 33) 45 (daX3_readMarks_0 23 rfl) rfl (fun c7 => ?_) (fun c7 => ?_)
        · skip
          rw [if_pos c7] at h
          refine GM_pick [1, 0, 3] rfl ?_
          exact gX3_readMarks_45 l h hK
        · skip
          rw [if_neg c7] at h
          refine GM_aload_n (pc := 36) 1 rfl (daX3_readMarks_0 24 rfl) rfl ?_
          refine GM_iconst (pc := 37) 2 (daX3_readMarks_0 25 rfl) rfl (R32_b rfl) ?_
          refine GM_aload_n (pc := 38) 1 rfl (daX3_readMarks_0 26 rfl) rfl ?_
          obtain ⟨hc8, h⟩ := chk_inv h
          refine GM_getf (pc := 39) 3 8 0 8 kf_X3_148 (Nat.le_of_ble_eq_true rfl) (Nat.le_of_ble_eq_true rfl) rfl (daX3_readMarks_0 27 rfl) hc8 rfl ?_
          obtain ⟨μ9, hf9, h⟩ := Option.bind_eq_some_iff.mp h
          refine GM_callV0 (pc := 42) [(0, 2), (0, μ v0 8)] (tX3_note l hf9) cwX3_note 3 (Nat.le_of_ble_eq_true rfl) rfl kv_X3_note ke_X3_note km_X3_56 hc8 ⟨Nat.le_of_ble_eq_true rfl, Nat.le_of_ble_eq_true rfl⟩ (Nat.le_of_ble_eq_true rfl) (Nat.le_of_ble_eq_true rfl) (daX3_readMarks_0 28 rfl) ?_
          refine GM_pick [1, 0, 3] rfl ?_
          exact gX3_readMarks_45 l h hK
set_option maxRecDepth 20000 in
theorem gX3_readMarks_0 (l : Launch) {F : FI} {v0 : Int} {μ : Mm} {t : (Int × Mm)} (h : fX3_readMarks v0 μ = some t) (hK : F.1 = [(0, t.1)] ∧ F.2.1 = t.2) : GM l mX3_readMarks F 0 0 0 [(0, (3, v0))] [] μ := by
  unfold fX3_readMarks at h
  refine GM_iconst (pc := 0) 0 (daX3_readMarks_0 0 rfl) rfl (R32_b rfl) ?_
  refine GM_istore_n (L' := [(1, (0, 0)), (0, (3, v0))]) (pc := 1) (daX3_readMarks_0 1 rfl) rfl (Nat.le_of_ble_eq_true rfl) rfl ?_
  refine GM_aload_n (pc := 2) 1 rfl (daX3_readMarks_0 2 rfl) rfl ?_
  obtain ⟨hc10, h⟩ := chk_inv h
  obtain ⟨r11, hf11, h⟩ := Option.bind_eq_some_iff.mp h
  refine GM_callV0 (pc := 3) [] (tX3_markOf l hf11) cwX3_markOf 3 (Nat.le_of_ble_eq_true rfl) rfl kv_X3_markOf ke_X3_markOf km_X3_201 hc10 ⟨Nat.le_of_ble_eq_true rfl, Nat.le_of_ble_eq_true rfl⟩ (Nat.le_of_ble_eq_true rfl) (Nat.le_of_ble_eq_true rfl) (daX3_readMarks_0 3 rfl) ?_
  refine GM_istore_n (L' := [(2, (0, r11)), (1, (0, 0)), (0, (3, v0))]) (pc := 6) (daX3_readMarks_0 4 rfl) rfl (Nat.le_of_ble_eq_true rfl) rfl ?_
  refine GM_iconst (pc := 7) 0 (daX3_readMarks_0 5 rfl) rfl (R32_b rfl) ?_
  refine GM_istore_n (L' := [(3, (0, 0)), (2, (0, r11)), (1, (0, 0)), (0, (3, v0))]) (pc := 8) (daX3_readMarks_0 6 rfl) rfl (Nat.le_of_ble_eq_true rfl) rfl ?_
  refine GM_pick [3, 2, 1, 0] rfl ?_
  obtain ⟨x12, hqx12, h⟩ := Option.bind_eq_some_iff.mp h
  refine lop_ind (zX3_readMarks_9 l F v0 0 0) (qX3_readMarks_9 l F v0 0 0) FU _ x12 hqx12 ?_
  obtain ⟨v1_13, μ_13⟩ := x12
  dsimp only at h
  show GM l mX3_readMarks F 0 0 60 [(1, (0, v1_13))] [] μ_13
  refine GM_iload_n (pc := 60) 0 rfl (daX3_readMarks_0 36 rfl) rfl ?_
  cases h
  exact GM_iret (pc := 61) (daX3_readMarks_0 37 rfl) rfl hK
theorem tX3_readMarks (l : Launch) {v0 : Int} {μ : Mm} {t : (Int × Mm)} (h : fX3_readMarks v0 μ = some t) : Ct l yX3_readMarks mX3_readMarks [(3, v0)] μ ([(0, t.1)], t.2, 0, 0) :=
  Ct_of (by decide +kernel) rfl rfl (Nat.le_of_ble_eq_true rfl) (fun _ _ _ => trivial) (gX3_readMarks_0 l h ⟨rfl, rfl⟩)
def mX3_readHump : MI := (RX3, cX3_readHump, 4, none, "readHump", 7, 150, fun _ _ _ => True)
theorem cwX3_readHump : CWd yX3_readHump mX3_readHump 0 := ⟨ki_X3, kk_X3_readHump, ⟨by decide, by decide⟩, rfl⟩
def dtX3_readHump_0 : List (Nat × Instr × Nat) := [(0, .aload_n 0, 1), (1, .getfield 21, 3), (4, .getfield 64, 3), (7, .bipush 12, 2), (9, .if_icmp .ge 7, 3), (12, .iconst 1, 1), (13, .goto 4, 3), (16, .iconst 0, 1), (17, .istore_n 1, 1), (18, .iload_n 1, 1), (19, .ifCond .ne 12, 3), (22, .aload_n 0, 1), (23, .iconst 3, 1), (24, .aload_n 0, 1), (25, .getfield 148, 3), (28, .invokevirtual 56, 3), (31, .aload_n 0, 1), (32, .invokevirtual 82, 3), (35, .aload_n 0, 1), (36, .iconst 1, 1), (37, .bipush 99, 2), (39, .invokevirtual 105, 3), (42, .istore_n 2, 1), (43, .aload_n 0, 1), (44, .invokevirtual 192, 3), (47, .istore_n 3, 1), (48, .iload_n 1, 1), (49, .ifCond .eq 48, 3), (52, .aload_n 0, 1), (53, .getfield 21, 3), (56, .getfield 195, 3), (59, .aload_n 0, 1), (60, .getfield 21, 3), (63, .getfield 64, 3), (66, .iload_n 2, 1), (67, .iastore, 1), (68, .aload_n 0, 1), (69, .getfield 21, 3), (72, .getfield 198, 3), (75, .aload_n 0, 1), (76, .getfield 21, 3), (79, .getfield 64, 3), (82, .iload_n 3, 1), (83, .iastore, 1), (84, .aload_n 0, 1), (85, .getfield 21, 3), (88, .dup, 1), (89, .getfield 64, 3), (92, .iconst 1, 1), (93, .iadd, 1), (94, .putfield 64, 3), (97, .return_, 1)]
theorem ddX3_readHump_0 : (dtX3_readHump_0.all fun e => decide (decode mX3_readHump.2.1 e.1 = .ok (e.2.1, e.2.2))) = true := by decide +kernel
theorem daX3_readHump_0 (j : Nat) {pc n : Nat} {i : Instr} (h : dtX3_readHump_0[j]? = some (pc, i, n)) : decode mX3_readHump.2.1 pc = .ok (i, n) := dec_of (c := mX3_readHump.2.1) ddX3_readHump_0 h
def jX3_readHump_31 (v0 v1 : Int) (μ : Mm) : Option Mm :=
  chk (KD v0 = 3) (
  (fX3_advance v0 μ).bind fun μ2 =>
  (fX3_readNumber v0 1 99 μ2).bind fun (r3, μ3) =>
  (fX3_readMarks v0 μ3).bind fun (r4, μ4) =>
  if v1 = 0 then
    some μ4
  else
    chk (KD (μ4 v0 1) = 6) (
    chk (KD (μ4 (μ4 v0 1) 7) = 12 ∧ 0 ≤ μ4 (μ4 v0 1) 0 ∧ μ4 (μ4 v0 1) 0 < LN (μ4 (μ4 v0 1) 7)) (
    lm (mst μ4 (μ4 (μ4 v0 1) 7) (μ4 (μ4 v0 1) 0) r3) fun μ8 =>
    chk (KD (μ8 v0 1) = 6) (
    chk (KD (μ8 (μ8 v0 1) 8) = 12 ∧ 0 ≤ μ8 (μ8 v0 1) 0 ∧ μ8 (μ8 v0 1) 0 < LN (μ8 (μ8 v0 1) 8)) (
    lm (mst μ8 (μ8 (μ8 v0 1) 8) (μ8 (μ8 v0 1) 0) r4) fun μ11 =>
    chk (KD (μ11 v0 1) = 6) (
    lm (mst μ11 (μ11 v0 1) 0 (w32 ((μ11 (μ11 v0 1) 0) + 1))) fun μ13 =>
    some μ13))))))
def jX3_readHump_17 (v0 s0 : Int) (μ : Mm) : Option Mm :=
  if s0 = 0 then
    chk (KD v0 = 3) (
    (fX3_note v0 3 (μ v0 8) μ).bind fun μ16 =>
    jX3_readHump_31 v0 s0 μ16)
  else
    jX3_readHump_31 v0 s0 μ
def fX3_readHump (v0 : Int) (μ : Mm) : Option Mm :=
  chk (KD v0 = 3) (
  chk (KD (μ v0 1) = 6) (
  if 12 ≤ μ (μ v0 1) 0 then
    jX3_readHump_17 v0 0 μ
  else
    jX3_readHump_17 v0 1 μ))
set_option maxRecDepth 20000 in
theorem gX3_readHump_31 (l : Launch) {F : FI} {v0 v1 : Int} {μ : Mm} {t : Mm} (h : jX3_readHump_31 v0 v1 μ = some t) (hK : F.1 = [] ∧ F.2.1 = t) : GM l mX3_readHump F 0 0 31 [(0, (3, v0)), (1, (0, v1))] [] μ := by
  unfold jX3_readHump_31 at h
  refine GM_aload_n (pc := 31) 0 rfl (daX3_readHump_0 16 rfl) rfl ?_
  obtain ⟨hc1, h⟩ := chk_inv h
  obtain ⟨μ2, hf2, h⟩ := Option.bind_eq_some_iff.mp h
  refine GM_callV0 (pc := 32) [] (tX3_advance l hf2) cwX3_advance 3 (Nat.le_of_ble_eq_true rfl) rfl kv_X3_advance ke_X3_advance km_X3_82 hc1 ⟨Nat.le_of_ble_eq_true rfl, Nat.le_of_ble_eq_true rfl⟩ (Nat.le_of_ble_eq_true rfl) (Nat.le_of_ble_eq_true rfl) (daX3_readHump_0 17 rfl) ?_
  refine GM_aload_n (pc := 35) 0 rfl (daX3_readHump_0 18 rfl) rfl ?_
  refine GM_iconst (pc := 36) 1 (daX3_readHump_0 19 rfl) rfl (R32_b rfl) ?_
  refine GM_bipush (pc := 37) 99 (daX3_readHump_0 20 rfl) rfl (R32_b rfl) ?_
  obtain ⟨⟨r3, μ3⟩, hf3, h⟩ := Option.bind_eq_some_iff.mp h
  dsimp only at h
  refine GM_callV0 (pc := 39) [(0, 1), (0, 99)] (tX3_readNumber l hf3) cwX3_readNumber 3 (Nat.le_of_ble_eq_true rfl) rfl kv_X3_readNumber ke_X3_readNumber km_X3_105 hc1 ⟨Nat.le_of_ble_eq_true rfl, Nat.le_of_ble_eq_true rfl⟩ (Nat.le_of_ble_eq_true rfl) (Nat.le_of_ble_eq_true rfl) (daX3_readHump_0 21 rfl) ?_
  refine GM_istore_n (L' := [(2, (0, r3)), (0, (3, v0)), (1, (0, v1))]) (pc := 42) (daX3_readHump_0 22 rfl) rfl (Nat.le_of_ble_eq_true rfl) rfl ?_
  refine GM_aload_n (pc := 43) 1 rfl (daX3_readHump_0 23 rfl) rfl ?_
  obtain ⟨⟨r4, μ4⟩, hf4, h⟩ := Option.bind_eq_some_iff.mp h
  dsimp only at h
  refine GM_callV0 (pc := 44) [] (tX3_readMarks l hf4) cwX3_readMarks 3 (Nat.le_of_ble_eq_true rfl) rfl kv_X3_readMarks ke_X3_readMarks km_X3_192 hc1 ⟨Nat.le_of_ble_eq_true rfl, Nat.le_of_ble_eq_true rfl⟩ (Nat.le_of_ble_eq_true rfl) (Nat.le_of_ble_eq_true rfl) (daX3_readHump_0 24 rfl) ?_
  refine GM_istore_n (L' := [(3, (0, r4)), (2, (0, r3)), (0, (3, v0)), (1, (0, v1))]) (pc := 47) (daX3_readHump_0 25 rfl) rfl (Nat.le_of_ble_eq_true rfl) rfl ?_
  refine GM_iload_n (pc := 48) 3 rfl (daX3_readHump_0 26 rfl) rfl ?_
  refine GM_if_eq (pc := 49) 97 (daX3_readHump_0 27 rfl) rfl (fun c5 => ?_) (fun c5 => ?_)
  · skip
    rw [if_pos c5] at h
    cases h
    exact GM_vret (pc := 97) (daX3_readHump_0 51 rfl) rfl hK
  · skip
    rw [if_neg c5] at h
    refine GM_aload_n (pc := 52) 2 rfl (daX3_readHump_0 28 rfl) rfl ?_
    refine GM_getf (pc := 53) 3 1 3 1 kf_X3_21 (Nat.le_of_ble_eq_true rfl) (Nat.le_of_ble_eq_true rfl) rfl (daX3_readHump_0 29 rfl) hc1 rfl ?_
    obtain ⟨hc6, h⟩ := chk_inv h
    refine GM_getf (pc := 56) 6 7 3 7 kf_X3_195 (Nat.le_of_ble_eq_true rfl) (Nat.le_of_ble_eq_true rfl) rfl (daX3_readHump_0 30 rfl) hc6 rfl ?_
    refine GM_aload_n (pc := 59) 2 rfl (daX3_readHump_0 31 rfl) rfl ?_
    refine GM_getf (pc := 60) 3 1 3 1 kf_X3_21 (Nat.le_of_ble_eq_true rfl) (Nat.le_of_ble_eq_true rfl) rfl (daX3_readHump_0 32 rfl) hc1 rfl ?_
    refine GM_getf (pc := 63) 6 0 0 0 kf_X3_64 (Nat.le_of_ble_eq_true rfl) (Nat.le_of_ble_eq_true rfl) rfl (daX3_readHump_0 33 rfl) hc6 rfl ?_
    refine GM_iload_n (pc := 66) 1 rfl (daX3_readHump_0 34 rfl) rfl ?_
    obtain ⟨hc7, h⟩ := chk_inv h
    obtain ⟨μ8, hμ8, h⟩ := lm_inv h
    refine GM_iast (pc := 67) (daX3_readHump_0 35 rfl) hc7.1 hc7.2.1 hc7.2.2 ?_
    refine GM_mem hμ8 ?_
    refine GM_aload_n (pc := 68) 2 rfl (daX3_readHump_0 36 rfl) rfl ?_
    refine GM_getf (pc := 69) 3 1 3 1 kf_X3_21 (Nat.le_of_ble_eq_true rfl) (Nat.le_of_ble_eq_true rfl) rfl (daX3_readHump_0 37 rfl) hc1 rfl ?_
    obtain ⟨hc9, h⟩ := chk_inv h
    refine GM_getf (pc := 72) 6 8 3 8 kf_X3_198 (Nat.le_of_ble_eq_true rfl) (Nat.le_of_ble_eq_true rfl) rfl (daX3_readHump_0 38 rfl) hc9 rfl ?_
    refine GM_aload_n (pc := 75) 2 rfl (daX3_readHump_0 39 rfl) rfl ?_
    refine GM_getf (pc := 76) 3 1 3 1 kf_X3_21 (Nat.le_of_ble_eq_true rfl) (Nat.le_of_ble_eq_true rfl) rfl (daX3_readHump_0 40 rfl) hc1 rfl ?_
    refine GM_getf (pc := 79) 6 0 0 0 kf_X3_64 (Nat.le_of_ble_eq_true rfl) (Nat.le_of_ble_eq_true rfl) rfl (daX3_readHump_0 41 rfl) hc9 rfl ?_
    refine GM_iload_n (pc := 82) 0 rfl (daX3_readHump_0 42 rfl) rfl ?_
    obtain ⟨hc10, h⟩ := chk_inv h
    obtain ⟨μ11, hμ11, h⟩ := lm_inv h
    refine GM_iast (pc := 83) (daX3_readHump_0 43 rfl) hc10.1 hc10.2.1 hc10.2.2 ?_
    refine GM_mem hμ11 ?_
    refine GM_aload_n (pc := 84) 2 rfl (daX3_readHump_0 44 rfl) rfl ?_
    refine GM_getf (pc := 85) 3 1 3 1 kf_X3_21 (Nat.le_of_ble_eq_true rfl) (Nat.le_of_ble_eq_true rfl) rfl (daX3_readHump_0 45 rfl) hc1 rfl ?_
    refine GM_dup (pc := 88) (daX3_readHump_0 46 rfl) (Nat.ne_of_beq_eq_false rfl) ?_
    obtain ⟨hc12, h⟩ := chk_inv h
    refine GM_getf (pc := 89) 6 0 0 0 kf_X3_64 (Nat.le_of_ble_eq_true rfl) (Nat.le_of_ble_eq_true rfl) rfl (daX3_readHump_0 47 rfl) hc12 rfl ?_
    refine GM_iconst (pc := 92) 1 (daX3_readHump_0 48 rfl) rfl (R32_b rfl) ?_
    refine GM_iadd (pc := 93) (daX3_readHump_0 49 rfl) ?_
    obtain ⟨μ13, hμ13, h⟩ := lm_inv h
    refine GM_putf (pc := 94) 6 0 0 kf_X3_64 (Nat.le_of_ble_eq_true rfl) (Nat.le_of_ble_eq_true rfl) rfl rfl (daX3_readHump_0 50 rfl) hc12 (fun q => absurd q (by decide)) ?_
    refine GM_mem hμ13 ?_
    cases h
    exact GM_vret (pc := 97) (daX3_readHump_0 51 rfl) rfl hK
set_option maxRecDepth 20000 in
theorem gX3_readHump_17 (l : Launch) {F : FI} {v0 s0 : Int} {μ : Mm} {t : Mm} (h : jX3_readHump_17 v0 s0 μ = some t) (hK : F.1 = [] ∧ F.2.1 = t) : GM l mX3_readHump F 0 0 17 [(0, (3, v0))] [(0, s0)] μ := by
  unfold jX3_readHump_17 at h
  refine GM_istore_n (L' := [(1, (0, s0)), (0, (3, v0))]) (pc := 17) (daX3_readHump_0 8 rfl) rfl (Nat.le_of_ble_eq_true rfl) rfl ?_
  refine GM_iload_n (pc := 18) 0 rfl (daX3_readHump_0 9 rfl) rfl ?_
  refine GM_if_ne (pc := 19) 31 (daX3_readHump_0 10 rfl) rfl (fun c14 => ?_) (fun c14 => ?_)
  · skip
    rw [if_neg c14] at h
    refine GM_pick [1, 0] rfl ?_
    exact gX3_readHump_31 l h hK
  · skip
    rw [if_pos c14] at h
    refine GM_aload_n (pc := 22) 1 rfl (daX3_readHump_0 11 rfl) rfl ?_
    refine GM_iconst (pc := 23) 3 (daX3_readHump_0 12 rfl) rfl (R32_b rfl) ?_
    refine GM_aload_n (pc := 24) 1 rfl (daX3_readHump_0 13 rfl) rfl ?_
    obtain ⟨hc15, h⟩ := chk_inv h
    refine GM_getf (pc := 25) 3 8 0 8 kf_X3_148 (Nat.le_of_ble_eq_true rfl) (Nat.le_of_ble_eq_true rfl) rfl (daX3_readHump_0 14 rfl) hc15 rfl ?_
    obtain ⟨μ16, hf16, h⟩ := Option.bind_eq_some_iff.mp h
    refine GM_callV0 (pc := 28) [(0, 3), (0, μ v0 8)] (tX3_note l hf16) cwX3_note 3 (Nat.le_of_ble_eq_true rfl) rfl kv_X3_note ke_X3_note km_X3_56 hc15 ⟨Nat.le_of_ble_eq_true rfl, Nat.le_of_ble_eq_true rfl⟩ (Nat.le_of_ble_eq_true rfl) (Nat.le_of_ble_eq_true rfl) (daX3_readHump_0 15 rfl) ?_
    refine GM_pick [1, 0] rfl ?_
    exact gX3_readHump_31 l h hK
set_option maxRecDepth 20000 in
theorem gX3_readHump_0 (l : Launch) {F : FI} {v0 : Int} {μ : Mm} {t : Mm} (h : fX3_readHump v0 μ = some t) (hK : F.1 = [] ∧ F.2.1 = t) : GM l mX3_readHump F 0 0 0 [(0, (3, v0))] [] μ := by
  unfold fX3_readHump at h
  refine GM_aload_n (pc := 0) 0 rfl (daX3_readHump_0 0 rfl) rfl ?_
  obtain ⟨hc17, h⟩ := chk_inv h
  refine GM_getf (pc := 1) 3 1 3 1 kf_X3_21 (Nat.le_of_ble_eq_true rfl) (Nat.le_of_ble_eq_true rfl) rfl (daX3_readHump_0 1 rfl) hc17 rfl ?_
  obtain ⟨hc18, h⟩ := chk_inv h
  refine GM_getf (pc := 4) 6 0 0 0 kf_X3_64 (Nat.le_of_ble_eq_true rfl) (Nat.le_of_ble_eq_true rfl) rfl (daX3_readHump_0 2 rfl) hc18 rfl ?_
  refine GM_bipush (pc := 7) 12 (daX3_readHump_0 3 rfl) rfl (R32_b rfl) ?_
  refine GM_icmp_ge (pc := 9) 16 (daX3_readHump_0 4 rfl) rfl (fun c19 => ?_) (fun c19 => ?_)
  · skip
    rw [if_pos c19] at h
    refine GM_iconst (pc := 16) 0 (daX3_readHump_0 7 rfl) rfl (R32_b rfl) ?_
    exact gX3_readHump_17 l h hK
  · skip
    rw [if_neg c19] at h
    refine GM_iconst (pc := 12) 1 (daX3_readHump_0 5 rfl) rfl (R32_b rfl) ?_
    refine GM_goto (pc := 13) 17 (daX3_readHump_0 6 rfl) rfl ?_
    exact gX3_readHump_17 l h hK
theorem tX3_readHump (l : Launch) {v0 : Int} {μ : Mm} {t : Mm} (h : fX3_readHump v0 μ = some t) : Ct l yX3_readHump mX3_readHump [(3, v0)] μ ([], t, 0, 0) :=
  Ct_of (by decide +kernel) rfl rfl (Nat.le_of_ble_eq_true rfl) (fun _ _ _ => trivial) (gX3_readHump_0 l h ⟨rfl, rfl⟩)
def mX3_sketchClause : MI := (RX3, cX3_sketchClause, 1, none, "sketchClause", 8, 173, fun _ _ _ => True)
theorem cwX3_sketchClause : CWd yX3_sketchClause mX3_sketchClause 0 := ⟨ki_X3, kk_X3_sketchClause, ⟨by decide, by decide⟩, rfl⟩
def dtX3_sketchClause_0 : List (Nat × Instr × Nat) := [(0, .aload_n 0, 1), (1, .ldc 157, 2), (3, .invokevirtual 101, 3), (6, .ifCond .eq 10, 3), (9, .aload_n 0, 1), (10, .invokevirtual 159, 3), (13, .goto 187, 3), (16, .aload_n 0, 1), (17, .ldc 162, 2), (19, .invokevirtual 101, 3), (22, .ifCond .eq 24, 3), (25, .aload_n 0, 1), (26, .invokevirtual 82, 3), (29, .aload_n 0, 1), (30, .getfield 21, 3), (33, .aload_n 0, 1), (34, .iconst 0, 1), (35, .bipush 99, 2), (37, .invokevirtual 105, 3), (40, .putfield 164, 3), (43, .goto 157, 3), (46, .aload_n 0, 1), (47, .ldc 166, 2), (49, .invokevirtual 101, 3), (52, .ifCond .ne 12, 3), (55, .aload_n 0, 1), (56, .ldc 168, 2), (58, .invokevirtual 101, 3), (61, .ifCond .eq 23, 3), (64, .aload_n 0, 1), (65, .getfield 21, 3), (68, .aload_n 0, 1), (69, .ldc 168, 2), (71, .invokevirtual 101, 3), (74, .putfield 170, 3), (77, .aload_n 0, 1), (78, .invokevirtual 82, 3), (81, .goto 119, 3), (84, .aload_n 0, 1), (85, .ldc 174, 2), (87, .invokevirtual 101, 3), (90, .ifCond .ne 12, 3), (93, .aload_n 0, 1), (94, .ldc 176, 2), (96, .invokevirtual 101, 3), (99, .ifCond .eq 23, 3), (102, .aload_n 0, 1), (103, .getfield 21, 3), (106, .aload_n 0, 1), (107, .ldc 176, 2), (109, .invokevirtual 101, 3), (112, .putfield 178, 3), (115, .aload_n 0, 1), (116, .invokevirtual 82, 3), (119, .goto 81, 3), (122, .aload_n 0, 1), (123, .ldc 180, 2), (125, .invokevirtual 101, 3), (128, .ifCond .eq 18, 3), (131, .aload_n 0, 1), (132, .getfield 21, 3), (135, .iconst 1, 1), (136, .putfield 182, 3), (139, .aload_n 0, 1)]
theorem ddX3_sketchClause_0 : (dtX3_sketchClause_0.all fun e => decide (decode mX3_sketchClause.2.1 e.1 = .ok (e.2.1, e.2.2))) = true := by decide +kernel
theorem daX3_sketchClause_0 (j : Nat) {pc n : Nat} {i : Instr} (h : dtX3_sketchClause_0[j]? = some (pc, i, n)) : decode mX3_sketchClause.2.1 pc = .ok (i, n) := dec_of (c := mX3_sketchClause.2.1) ddX3_sketchClause_0 h
def dtX3_sketchClause_1 : List (Nat × Instr × Nat) := [(140, .invokevirtual 82, 3), (143, .goto 57, 3), (146, .aload_n 0, 1), (147, .ldc 184, 2), (149, .invokevirtual 101, 3), (152, .ifCond .eq 44, 3), (155, .aload_n 0, 1), (156, .invokevirtual 82, 3), (159, .aload_n 0, 1), (160, .getfield 21, 3), (163, .aload_n 0, 1), (164, .iconst 0, 1), (165, .bipush 99, 2), (167, .invokevirtual 105, 3), (170, .putfield 186, 3), (173, .aload_n 0, 1), (174, .getfield 21, 3), (177, .aload_n 0, 1), (178, .aload_n 0, 1), (179, .getfield 21, 3), (182, .getfield 186, 3), (185, .bipush 99, 2), (187, .invokevirtual 105, 3), (190, .putfield 189, 3), (193, .goto 7, 3), (196, .aload_n 0, 1), (197, .invokevirtual 139, 3), (200, .aload_n 0, 1), (201, .invokevirtual 142, 3), (204, .return_, 1)]
theorem ddX3_sketchClause_1 : (dtX3_sketchClause_1.all fun e => decide (decode mX3_sketchClause.2.1 e.1 = .ok (e.2.1, e.2.2))) = true := by decide +kernel
theorem daX3_sketchClause_1 (j : Nat) {pc n : Nat} {i : Instr} (h : dtX3_sketchClause_1[j]? = some (pc, i, n)) : decode mX3_sketchClause.2.1 pc = .ok (i, n) := dec_of (c := mX3_sketchClause.2.1) ddX3_sketchClause_1 h
def jX3_sketchClause_200 (v0 : Int) (μ : Mm) : Option Mm :=
  chk (KD v0 = 3) (
  (fX3_readStop v0 μ).bind fun μ2 =>
  some μ2)
def jX3_sketchClause_64 (v0 : Int) (μ : Mm) : Option Mm :=
  chk (KD v0 = 3) (
  (fX3_isWord v0 12 μ).bind fun r4 =>
  chk (KD (μ v0 1) = 6 ∧ (r4 = 0 ∨ r4 = 1)) (
  lm (mst μ (μ v0 1) 2 r4) fun μ6 =>
  (fX3_advance v0 μ6).bind fun μ7 =>
  jX3_sketchClause_200 v0 μ7))
def jX3_sketchClause_102 (v0 : Int) (μ : Mm) : Option Mm :=
  chk (KD v0 = 3) (
  (fX3_isWord v0 14 μ).bind fun r9 =>
  chk (KD (μ v0 1) = 6 ∧ (r9 = 0 ∨ r9 = 1)) (
  lm (mst μ (μ v0 1) 3 r9) fun μ11 =>
  (fX3_advance v0 μ11).bind fun μ12 =>
  jX3_sketchClause_200 v0 μ12))
def fX3_sketchClause (v0 : Int) (μ : Mm) : Option Mm :=
  chk (KD v0 = 3) (
  (fX3_isWord v0 8 μ).bind fun r14 =>
  if r14 = 0 then
    (fX3_isWord v0 10 μ).bind fun r16 =>
    if r16 = 0 then
      (fX3_isWord v0 11 μ).bind fun r18 =>
      if r18 = 0 then
        (fX3_isWord v0 12 μ).bind fun r20 =>
        if r20 = 0 then
          (fX3_isWord v0 13 μ).bind fun r22 =>
          if r22 = 0 then
            (fX3_isWord v0 14 μ).bind fun r24 =>
            if r24 = 0 then
              (fX3_isWord v0 15 μ).bind fun r26 =>
              if r26 = 0 then
                (fX3_isWord v0 16 μ).bind fun r28 =>
                if r28 = 0 then
                  (fX3_breakOff v0 μ).bind fun μ30 =>
                  jX3_sketchClause_200 v0 μ30
                else
                  (fX3_advance v0 μ).bind fun μ31 =>
                  (fX3_readNumber v0 0 99 μ31).bind fun (r32, μ32) =>
                  chk (KD (μ31 v0 1) = 6) (
                  lm (mst μ32 (μ31 v0 1) 5 r32) fun μ34 =>
                  chk (KD (μ34 v0 1) = 6) (
                  (fX3_readNumber v0 (μ34 (μ34 v0 1) 5) 99 μ34).bind fun (r36, μ36) =>
                  lm (mst μ36 (μ34 v0 1) 6 r36) fun μ37 =>
                  jX3_sketchClause_200 v0 μ37))
              else
                chk (KD (μ v0 1) = 6) (
                lm (mst μ (μ v0 1) 4 1) fun μ39 =>
                (fX3_advance v0 μ39).bind fun μ40 =>
                jX3_sketchClause_200 v0 μ40)
            else
              jX3_sketchClause_102 v0 μ
          else
            jX3_sketchClause_102 v0 μ
        else
          jX3_sketchClause_64 v0 μ
      else
        jX3_sketchClause_64 v0 μ
    else
      (fX3_advance v0 μ).bind fun μ41 =>
      (fX3_readNumber v0 0 99 μ41).bind fun (r42, μ42) =>
      chk (KD (μ41 v0 1) = 6) (
      lm (mst μ42 (μ41 v0 1) 1 r42) fun μ44 =>
      jX3_sketchClause_200 v0 μ44)
  else
    (fX3_readHump v0 μ).bind fun μ45 =>
    jX3_sketchClause_200 v0 μ45)
set_option maxRecDepth 20000 in
theorem gX3_sketchClause_200 (l : Launch) {F : FI} {v0 : Int} {μ : Mm} {t : Mm} (h : jX3_sketchClause_200 v0 μ = some t) (hK : F.1 = [] ∧ F.2.1 = t) : GM l mX3_sketchClause F 0 0 200 [(0, (3, v0))] [] μ := by
  unfold jX3_sketchClause_200 at h
  refine GM_aload_n (pc := 200) 0 rfl (daX3_sketchClause_1 27 rfl) rfl ?_
  obtain ⟨hc1, h⟩ := chk_inv h
  obtain ⟨μ2, hf2, h⟩ := Option.bind_eq_some_iff.mp h
  refine GM_callV0 (pc := 201) [] (tX3_readStop l hf2) cwX3_readStop 3 (Nat.le_of_ble_eq_true rfl) rfl kv_X3_readStop ke_X3_readStop km_X3_142 hc1 ⟨Nat.le_of_ble_eq_true rfl, Nat.le_of_ble_eq_true rfl⟩ (Nat.le_of_ble_eq_true rfl) (Nat.le_of_ble_eq_true rfl) (daX3_sketchClause_1 28 rfl) ?_
  cases h
  exact GM_vret (pc := 204) (daX3_sketchClause_1 29 rfl) rfl hK
set_option maxRecDepth 20000 in
theorem gX3_sketchClause_64 (l : Launch) {F : FI} {v0 : Int} {μ : Mm} {t : Mm} (h : jX3_sketchClause_64 v0 μ = some t) (hK : F.1 = [] ∧ F.2.1 = t) : GM l mX3_sketchClause F 0 0 64 [(0, (3, v0))] [] μ := by
  unfold jX3_sketchClause_64 at h
  refine GM_aload_n (pc := 64) 0 rfl (daX3_sketchClause_0 29 rfl) rfl ?_
  obtain ⟨hc3, h⟩ := chk_inv h
  refine GM_getf (pc := 65) 3 1 3 1 kf_X3_21 (Nat.le_of_ble_eq_true rfl) (Nat.le_of_ble_eq_true rfl) rfl (daX3_sketchClause_0 30 rfl) hc3 rfl ?_
  refine GM_aload_n (pc := 68) 0 rfl (daX3_sketchClause_0 31 rfl) rfl ?_
  refine GM_ldcS (pc := 69) 11 12 (by decide) rfl rfl rfl (daX3_sketchClause_0 32 rfl) ?_
  obtain ⟨r4, hf4, h⟩ := Option.bind_eq_some_iff.mp h
  refine GM_callV0 (pc := 71) [(3, 12)] (tX3_isWord l hf4) cwX3_isWord 3 (Nat.le_of_ble_eq_true rfl) rfl kv_X3_isWord ke_X3_isWord km_X3_101 hc3 ⟨Nat.le_of_ble_eq_true rfl, Nat.le_of_ble_eq_true rfl⟩ (Nat.le_of_ble_eq_true rfl) (Nat.le_of_ble_eq_true rfl) (daX3_sketchClause_0 33 rfl) ?_
  obtain ⟨hc5, h⟩ := chk_inv h
  obtain ⟨μ6, hμ6, h⟩ := lm_inv h
  refine GM_putf (pc := 74) 6 2 0 kf_X3_170 (Nat.le_of_ble_eq_true rfl) (Nat.le_of_ble_eq_true rfl) rfl rfl (daX3_sketchClause_0 34 rfl) hc5.1 (fun _ => hc5.2) ?_
  refine GM_mem hμ6 ?_
  refine GM_aload_n (pc := 77) 0 rfl (daX3_sketchClause_0 35 rfl) rfl ?_
  obtain ⟨μ7, hf7, h⟩ := Option.bind_eq_some_iff.mp h
  refine GM_callV0 (pc := 78) [] (tX3_advance l hf7) cwX3_advance 3 (Nat.le_of_ble_eq_true rfl) rfl kv_X3_advance ke_X3_advance km_X3_82 hc3 ⟨Nat.le_of_ble_eq_true rfl, Nat.le_of_ble_eq_true rfl⟩ (Nat.le_of_ble_eq_true rfl) (Nat.le_of_ble_eq_true rfl) (daX3_sketchClause_0 36 rfl) ?_
  refine GM_goto (pc := 81) 200 (daX3_sketchClause_0 37 rfl) rfl ?_
  exact gX3_sketchClause_200 l h hK
set_option maxRecDepth 20000 in
theorem gX3_sketchClause_102 (l : Launch) {F : FI} {v0 : Int} {μ : Mm} {t : Mm} (h : jX3_sketchClause_102 v0 μ = some t) (hK : F.1 = [] ∧ F.2.1 = t) : GM l mX3_sketchClause F 0 0 102 [(0, (3, v0))] [] μ := by
  unfold jX3_sketchClause_102 at h
  refine GM_aload_n (pc := 102) 0 rfl (daX3_sketchClause_0 46 rfl) rfl ?_
  obtain ⟨hc8, h⟩ := chk_inv h
  refine GM_getf (pc := 103) 3 1 3 1 kf_X3_21 (Nat.le_of_ble_eq_true rfl) (Nat.le_of_ble_eq_true rfl) rfl (daX3_sketchClause_0 47 rfl) hc8 rfl ?_
  refine GM_aload_n (pc := 106) 0 rfl (daX3_sketchClause_0 48 rfl) rfl ?_
  refine GM_ldcS (pc := 107) 13 14 (by decide) rfl rfl rfl (daX3_sketchClause_0 49 rfl) ?_
  obtain ⟨r9, hf9, h⟩ := Option.bind_eq_some_iff.mp h
  refine GM_callV0 (pc := 109) [(3, 14)] (tX3_isWord l hf9) cwX3_isWord 3 (Nat.le_of_ble_eq_true rfl) rfl kv_X3_isWord ke_X3_isWord km_X3_101 hc8 ⟨Nat.le_of_ble_eq_true rfl, Nat.le_of_ble_eq_true rfl⟩ (Nat.le_of_ble_eq_true rfl) (Nat.le_of_ble_eq_true rfl) (daX3_sketchClause_0 50 rfl) ?_
  obtain ⟨hc10, h⟩ := chk_inv h
  obtain ⟨μ11, hμ11, h⟩ := lm_inv h
  refine GM_putf (pc := 112) 6 3 0 kf_X3_178 (Nat.le_of_ble_eq_true rfl) (Nat.le_of_ble_eq_true rfl) rfl rfl (daX3_sketchClause_0 51 rfl) hc10.1 (fun _ => hc10.2) ?_
  refine GM_mem hμ11 ?_
  refine GM_aload_n (pc := 115) 0 rfl (daX3_sketchClause_0 52 rfl) rfl ?_
  obtain ⟨μ12, hf12, h⟩ := Option.bind_eq_some_iff.mp h
  refine GM_callV0 (pc := 116) [] (tX3_advance l hf12) cwX3_advance 3 (Nat.le_of_ble_eq_true rfl) rfl kv_X3_advance ke_X3_advance km_X3_82 hc8 ⟨Nat.le_of_ble_eq_true rfl, Nat.le_of_ble_eq_true rfl⟩ (Nat.le_of_ble_eq_true rfl) (Nat.le_of_ble_eq_true rfl) (daX3_sketchClause_0 53 rfl) ?_
  refine GM_goto (pc := 119) 200 (daX3_sketchClause_0 54 rfl) rfl ?_
  exact gX3_sketchClause_200 l h hK
set_option maxRecDepth 20000 in
theorem gX3_sketchClause_0 (l : Launch) {F : FI} {v0 : Int} {μ : Mm} {t : Mm} (h : fX3_sketchClause v0 μ = some t) (hK : F.1 = [] ∧ F.2.1 = t) : GM l mX3_sketchClause F 0 0 0 [(0, (3, v0))] [] μ := by
  unfold fX3_sketchClause at h
  refine GM_aload_n (pc := 0) 0 rfl (daX3_sketchClause_0 0 rfl) rfl ?_
  refine GM_ldcS (pc := 1) 7 8 (by decide) rfl rfl rfl (daX3_sketchClause_0 1 rfl) ?_
  obtain ⟨hc13, h⟩ := chk_inv h
  obtain ⟨r14, hf14, h⟩ := Option.bind_eq_some_iff.mp h
  refine GM_callV0 (pc := 3) [(3, 8)] (tX3_isWord l hf14) cwX3_isWord 3 (Nat.le_of_ble_eq_true rfl) rfl kv_X3_isWord ke_X3_isWord km_X3_101 hc13 ⟨Nat.le_of_ble_eq_true rfl, Nat.le_of_ble_eq_true rfl⟩ (Nat.le_of_ble_eq_true rfl) (Nat.le_of_ble_eq_true rfl) (daX3_sketchClause_0 2 rfl) ?_
  refine GM_if_eq (pc := 6) 16 (daX3_sketchClause_0 3 rfl) rfl (fun c15 => ?_) (fun c15 => ?_)
  · skip
    rw [if_pos c15] at h
    refine GM_aload_n (pc := 16) 0 rfl (daX3_sketchClause_0 7 rfl) rfl ?_
    refine GM_ldcS (pc := 17) 9 10 (by decide) rfl rfl rfl (daX3_sketchClause_0 8 rfl) ?_
    obtain ⟨r16, hf16, h⟩ := Option.bind_eq_some_iff.mp h
    refine GM_callV0 (pc := 19) [(3, 10)] (tX3_isWord l hf16) cwX3_isWord 3 (Nat.le_of_ble_eq_true rfl) rfl kv_X3_isWord ke_X3_isWord km_X3_101 hc13 ⟨Nat.le_of_ble_eq_true rfl, Nat.le_of_ble_eq_true rfl⟩ (Nat.le_of_ble_eq_true rfl) (Nat.le_of_ble_eq_true rfl) (daX3_sketchClause_0 9 rfl) ?_
    refine GM_if_eq (pc := 22) 46 (daX3_sketchClause_0 10 rfl) rfl (fun c17 => ?_) (fun c17 => ?_)
    · skip
      rw [if_pos c17] at h
      refine GM_aload_n (pc := 46) 0 rfl (daX3_sketchClause_0 21 rfl) rfl ?_
      refine GM_ldcS (pc := 47) 10 11 (by decide) rfl rfl rfl (daX3_sketchClause_0 22 rfl) ?_
      obtain ⟨r18, hf18, h⟩ := Option.bind_eq_some_iff.mp h
      refine GM_callV0 (pc := 49) [(3, 11)] (tX3_isWord l hf18) cwX3_isWord 3 (Nat.le_of_ble_eq_true rfl) rfl kv_X3_isWord ke_X3_isWord km_X3_101 hc13 ⟨Nat.le_of_ble_eq_true rfl, Nat.le_of_ble_eq_true rfl⟩ (Nat.le_of_ble_eq_true rfl) (Nat.le_of_ble_eq_true rfl) (daX3_sketchClause_0 23 rfl) ?_
      refine GM_if_ne (pc := 52) 64 (daX3_sketchClause_0 24 rfl) rfl (fun c19 => ?_) (fun c19 => ?_)
      · skip
        rw [if_neg c19] at h
        exact gX3_sketchClause_64 l h hK
      · skip
        rw [if_pos c19] at h
        refine GM_aload_n (pc := 55) 0 rfl (daX3_sketchClause_0 25 rfl) rfl ?_
        refine GM_ldcS (pc := 56) 11 12 (by decide) rfl rfl rfl (daX3_sketchClause_0 26 rfl) ?_
        obtain ⟨r20, hf20, h⟩ := Option.bind_eq_some_iff.mp h
        refine GM_callV0 (pc := 58) [(3, 12)] (tX3_isWord l hf20) cwX3_isWord 3 (Nat.le_of_ble_eq_true rfl) rfl kv_X3_isWord ke_X3_isWord km_X3_101 hc13 ⟨Nat.le_of_ble_eq_true rfl, Nat.le_of_ble_eq_true rfl⟩ (Nat.le_of_ble_eq_true rfl) (Nat.le_of_ble_eq_true rfl) (daX3_sketchClause_0 27 rfl) ?_
        refine GM_if_eq (pc := 61) 84 (daX3_sketchClause_0 28 rfl) rfl (fun c21 => ?_) (fun c21 => ?_)
        · skip
          rw [if_pos c21] at h
          refine GM_aload_n (pc := 84) 0 rfl (daX3_sketchClause_0 38 rfl) rfl ?_
          refine GM_ldcS (pc := 85) 12 13 (by decide) rfl rfl rfl (daX3_sketchClause_0 39 rfl) ?_
          obtain ⟨r22, hf22, h⟩ := Option.bind_eq_some_iff.mp h
          refine GM_callV0 (pc := 87) [(3, 13)] (tX3_isWord l hf22) cwX3_isWord 3 (Nat.le_of_ble_eq_true rfl) rfl kv_X3_isWord ke_X3_isWord km_X3_101 hc13 ⟨Nat.le_of_ble_eq_true rfl, Nat.le_of_ble_eq_true rfl⟩ (Nat.le_of_ble_eq_true rfl) (Nat.le_of_ble_eq_true rfl) (daX3_sketchClause_0 40 rfl) ?_
          refine GM_if_ne (pc := 90) 102 (daX3_sketchClause_0 41 rfl) rfl (fun c23 => ?_) (fun c23 => ?_)
          · skip
            rw [if_neg c23] at h
            exact gX3_sketchClause_102 l h hK
          · skip
            rw [if_pos c23] at h
            refine GM_aload_n (pc := 93) 0 rfl (daX3_sketchClause_0 42 rfl) rfl ?_
            refine GM_ldcS (pc := 94) 13 14 (by decide) rfl rfl rfl (daX3_sketchClause_0 43 rfl) ?_
            obtain ⟨r24, hf24, h⟩ := Option.bind_eq_some_iff.mp h
            refine GM_callV0 (pc := 96) [(3, 14)] (tX3_isWord l hf24) cwX3_isWord 3 (Nat.le_of_ble_eq_true rfl) rfl kv_X3_isWord ke_X3_isWord km_X3_101 hc13 ⟨Nat.le_of_ble_eq_true rfl, Nat.le_of_ble_eq_true rfl⟩ (Nat.le_of_ble_eq_true rfl) (Nat.le_of_ble_eq_true rfl) (daX3_sketchClause_0 44 rfl) ?_
            refine GM_if_eq (pc := 99) 122 (daX3_sketchClause_0 45 rfl) rfl (fun c25 => ?_) (fun c25 => ?_)
            · skip
              rw [if_pos c25] at h
              refine GM_aload_n (pc := 122) 0 rfl (daX3_sketchClause_0 55 rfl) rfl ?_
              refine GM_ldcS (pc := 123) 14 15 (by decide) rfl rfl rfl (daX3_sketchClause_0 56 rfl) ?_
              obtain ⟨r26, hf26, h⟩ := Option.bind_eq_some_iff.mp h
              refine GM_callV0 (pc := 125) [(3, 15)] (tX3_isWord l hf26) cwX3_isWord 3 (Nat.le_of_ble_eq_true rfl) rfl kv_X3_isWord ke_X3_isWord km_X3_101 hc13 ⟨Nat.le_of_ble_eq_true rfl, Nat.le_of_ble_eq_true rfl⟩ (Nat.le_of_ble_eq_true rfl) (Nat.le_of_ble_eq_true rfl) (daX3_sketchClause_0 57 rfl) ?_
              refine GM_if_eq (pc := 128) 146 (daX3_sketchClause_0 58 rfl) rfl (fun c27 => ?_) (fun c27 => ?_)
              · skip
                rw [if_pos c27] at h
                refine GM_aload_n (pc := 146) 0 rfl (daX3_sketchClause_1 2 rfl) rfl ?_
                refine GM_ldcS (pc := 147) 15 16 (by decide) rfl rfl rfl (daX3_sketchClause_1 3 rfl) ?_
                obtain ⟨r28, hf28, h⟩ := Option.bind_eq_some_iff.mp h
                refine GM_callV0 (pc := 149) [(3, 16)] (tX3_isWord l hf28) cwX3_isWord 3 (Nat.le_of_ble_eq_true rfl) rfl kv_X3_isWord ke_X3_isWord km_X3_101 hc13 ⟨Nat.le_of_ble_eq_true rfl, Nat.le_of_ble_eq_true rfl⟩ (Nat.le_of_ble_eq_true rfl) (Nat.le_of_ble_eq_true rfl) (daX3_sketchClause_1 4 rfl) ?_
                refine GM_if_eq (pc := 152) 196 (daX3_sketchClause_1 5 rfl) rfl (fun c29 => ?_) (fun c29 => ?_)
                · skip
                  rw [if_pos c29] at h
                  refine GM_aload_n (pc := 196) 0 rfl (daX3_sketchClause_1 25 rfl) rfl ?_
                  obtain ⟨μ30, hf30, h⟩ := Option.bind_eq_some_iff.mp h
                  refine GM_callV0 (pc := 197) [] (tX3_breakOff l hf30) cwX3_breakOff 3 (Nat.le_of_ble_eq_true rfl) rfl kv_X3_breakOff ke_X3_breakOff km_X3_139 hc13 ⟨Nat.le_of_ble_eq_true rfl, Nat.le_of_ble_eq_true rfl⟩ (Nat.le_of_ble_eq_true rfl) (Nat.le_of_ble_eq_true rfl) (daX3_sketchClause_1 26 rfl) ?_
                  exact gX3_sketchClause_200 l h hK
                · skip
                  rw [if_neg c29] at h
                  refine GM_aload_n (pc := 155) 0 rfl (daX3_sketchClause_1 6 rfl) rfl ?_
                  obtain ⟨μ31, hf31, h⟩ := Option.bind_eq_some_iff.mp h
                  refine GM_callV0 (pc := 156) [] (tX3_advance l hf31) cwX3_advance 3 (Nat.le_of_ble_eq_true rfl) rfl kv_X3_advance ke_X3_advance km_X3_82 hc13 ⟨Nat.le_of_ble_eq_true rfl, Nat.le_of_ble_eq_true rfl⟩ (Nat.le_of_ble_eq_true rfl) (Nat.le_of_ble_eq_true rfl) (daX3_sketchClause_1 7 rfl) ?_
                  refine GM_aload_n (pc := 159) 0 rfl (daX3_sketchClause_1 8 rfl) rfl ?_
                  refine GM_getf (pc := 160) 3 1 3 1 kf_X3_21 (Nat.le_of_ble_eq_true rfl) (Nat.le_of_ble_eq_true rfl) rfl (daX3_sketchClause_1 9 rfl) hc13 rfl ?_
                  refine GM_aload_n (pc := 163) 0 rfl (daX3_sketchClause_1 10 rfl) rfl ?_
                  refine GM_iconst (pc := 164) 0 (daX3_sketchClause_1 11 rfl) rfl (R32_b rfl) ?_
                  refine GM_bipush (pc := 165) 99 (daX3_sketchClause_1 12 rfl) rfl (R32_b rfl) ?_
                  obtain ⟨⟨r32, μ32⟩, hf32, h⟩ := Option.bind_eq_some_iff.mp h
                  dsimp only at h
                  refine GM_callV0 (pc := 167) [(0, 0), (0, 99)] (tX3_readNumber l hf32) cwX3_readNumber 3 (Nat.le_of_ble_eq_true rfl) rfl kv_X3_readNumber ke_X3_readNumber km_X3_105 hc13 ⟨Nat.le_of_ble_eq_true rfl, Nat.le_of_ble_eq_true rfl⟩ (Nat.le_of_ble_eq_true rfl) (Nat.le_of_ble_eq_true rfl) (daX3_sketchClause_1 13 rfl) ?_
                  obtain ⟨hc33, h⟩ := chk_inv h
                  obtain ⟨μ34, hμ34, h⟩ := lm_inv h
                  refine GM_putf (pc := 170) 6 5 0 kf_X3_186 (Nat.le_of_ble_eq_true rfl) (Nat.le_of_ble_eq_true rfl) rfl rfl (daX3_sketchClause_1 14 rfl) hc33 (fun q => absurd q (by decide)) ?_
                  refine GM_mem hμ34 ?_
                  refine GM_aload_n (pc := 173) 0 rfl (daX3_sketchClause_1 15 rfl) rfl ?_
                  refine GM_getf (pc := 174) 3 1 3 1 kf_X3_21 (Nat.le_of_ble_eq_true rfl) (Nat.le_of_ble_eq_true rfl) rfl (daX3_sketchClause_1 16 rfl) hc13 rfl ?_
                  refine GM_aload_n (pc := 177) 0 rfl (daX3_sketchClause_1 17 rfl) rfl ?_
                  refine GM_aload_n (pc := 178) 0 rfl (daX3_sketchClause_1 18 rfl) rfl ?_
                  refine GM_getf (pc := 179) 3 1 3 1 kf_X3_21 (Nat.le_of_ble_eq_true rfl) (Nat.le_of_ble_eq_true rfl) rfl (daX3_sketchClause_1 19 rfl) hc13 rfl ?_
                  obtain ⟨hc35, h⟩ := chk_inv h
                  refine GM_getf (pc := 182) 6 5 0 5 kf_X3_186 (Nat.le_of_ble_eq_true rfl) (Nat.le_of_ble_eq_true rfl) rfl (daX3_sketchClause_1 20 rfl) hc35 rfl ?_
                  refine GM_bipush (pc := 185) 99 (daX3_sketchClause_1 21 rfl) rfl (R32_b rfl) ?_
                  obtain ⟨⟨r36, μ36⟩, hf36, h⟩ := Option.bind_eq_some_iff.mp h
                  dsimp only at h
                  refine GM_callV0 (pc := 187) [(0, μ34 (μ34 v0 1) 5), (0, 99)] (tX3_readNumber l hf36) cwX3_readNumber 3 (Nat.le_of_ble_eq_true rfl) rfl kv_X3_readNumber ke_X3_readNumber km_X3_105 hc13 ⟨Nat.le_of_ble_eq_true rfl, Nat.le_of_ble_eq_true rfl⟩ (Nat.le_of_ble_eq_true rfl) (Nat.le_of_ble_eq_true rfl) (daX3_sketchClause_1 22 rfl) ?_
                  obtain ⟨μ37, hμ37, h⟩ := lm_inv h
                  refine GM_putf (pc := 190) 6 6 0 kf_X3_189 (Nat.le_of_ble_eq_true rfl) (Nat.le_of_ble_eq_true rfl) rfl rfl (daX3_sketchClause_1 23 rfl) hc35 (fun q => absurd q (by decide)) ?_
                  refine GM_mem hμ37 ?_
                  refine GM_goto (pc := 193) 200 (daX3_sketchClause_1 24 rfl) rfl ?_
                  exact gX3_sketchClause_200 l h hK
              · skip
                rw [if_neg c27] at h
                refine GM_aload_n (pc := 131) 0 rfl (daX3_sketchClause_0 59 rfl) rfl ?_
                refine GM_getf (pc := 132) 3 1 3 1 kf_X3_21 (Nat.le_of_ble_eq_true rfl) (Nat.le_of_ble_eq_true rfl) rfl (daX3_sketchClause_0 60 rfl) hc13 rfl ?_
                refine GM_iconst (pc := 135) 1 (daX3_sketchClause_0 61 rfl) rfl (R32_b rfl) ?_
                obtain ⟨hc38, h⟩ := chk_inv h
                obtain ⟨μ39, hμ39, h⟩ := lm_inv h
                refine GM_putf (pc := 136) 6 4 0 kf_X3_182 (Nat.le_of_ble_eq_true rfl) (Nat.le_of_ble_eq_true rfl) rfl rfl (daX3_sketchClause_0 62 rfl) hc38 (fun _ => Or.inr rfl) ?_
                refine GM_mem hμ39 ?_
                refine GM_aload_n (pc := 139) 0 rfl (daX3_sketchClause_0 63 rfl) rfl ?_
                obtain ⟨μ40, hf40, h⟩ := Option.bind_eq_some_iff.mp h
                refine GM_callV0 (pc := 140) [] (tX3_advance l hf40) cwX3_advance 3 (Nat.le_of_ble_eq_true rfl) rfl kv_X3_advance ke_X3_advance km_X3_82 hc13 ⟨Nat.le_of_ble_eq_true rfl, Nat.le_of_ble_eq_true rfl⟩ (Nat.le_of_ble_eq_true rfl) (Nat.le_of_ble_eq_true rfl) (daX3_sketchClause_1 0 rfl) ?_
                refine GM_goto (pc := 143) 200 (daX3_sketchClause_1 1 rfl) rfl ?_
                exact gX3_sketchClause_200 l h hK
            · skip
              rw [if_neg c25] at h
              exact gX3_sketchClause_102 l h hK
        · skip
          rw [if_neg c21] at h
          exact gX3_sketchClause_64 l h hK
    · skip
      rw [if_neg c17] at h
      refine GM_aload_n (pc := 25) 0 rfl (daX3_sketchClause_0 11 rfl) rfl ?_
      obtain ⟨μ41, hf41, h⟩ := Option.bind_eq_some_iff.mp h
      refine GM_callV0 (pc := 26) [] (tX3_advance l hf41) cwX3_advance 3 (Nat.le_of_ble_eq_true rfl) rfl kv_X3_advance ke_X3_advance km_X3_82 hc13 ⟨Nat.le_of_ble_eq_true rfl, Nat.le_of_ble_eq_true rfl⟩ (Nat.le_of_ble_eq_true rfl) (Nat.le_of_ble_eq_true rfl) (daX3_sketchClause_0 12 rfl) ?_
      refine GM_aload_n (pc := 29) 0 rfl (daX3_sketchClause_0 13 rfl) rfl ?_
      refine GM_getf (pc := 30) 3 1 3 1 kf_X3_21 (Nat.le_of_ble_eq_true rfl) (Nat.le_of_ble_eq_true rfl) rfl (daX3_sketchClause_0 14 rfl) hc13 rfl ?_
      refine GM_aload_n (pc := 33) 0 rfl (daX3_sketchClause_0 15 rfl) rfl ?_
      refine GM_iconst (pc := 34) 0 (daX3_sketchClause_0 16 rfl) rfl (R32_b rfl) ?_
      refine GM_bipush (pc := 35) 99 (daX3_sketchClause_0 17 rfl) rfl (R32_b rfl) ?_
      obtain ⟨⟨r42, μ42⟩, hf42, h⟩ := Option.bind_eq_some_iff.mp h
      dsimp only at h
      refine GM_callV0 (pc := 37) [(0, 0), (0, 99)] (tX3_readNumber l hf42) cwX3_readNumber 3 (Nat.le_of_ble_eq_true rfl) rfl kv_X3_readNumber ke_X3_readNumber km_X3_105 hc13 ⟨Nat.le_of_ble_eq_true rfl, Nat.le_of_ble_eq_true rfl⟩ (Nat.le_of_ble_eq_true rfl) (Nat.le_of_ble_eq_true rfl) (daX3_sketchClause_0 18 rfl) ?_
      obtain ⟨hc43, h⟩ := chk_inv h
      obtain ⟨μ44, hμ44, h⟩ := lm_inv h
      refine GM_putf (pc := 40) 6 1 0 kf_X3_164 (Nat.le_of_ble_eq_true rfl) (Nat.le_of_ble_eq_true rfl) rfl rfl (daX3_sketchClause_0 19 rfl) hc43 (fun q => absurd q (by decide)) ?_
      refine GM_mem hμ44 ?_
      refine GM_goto (pc := 43) 200 (daX3_sketchClause_0 20 rfl) rfl ?_
      exact gX3_sketchClause_200 l h hK
  · skip
    rw [if_neg c15] at h
    refine GM_aload_n (pc := 9) 0 rfl (daX3_sketchClause_0 4 rfl) rfl ?_
    obtain ⟨μ45, hf45, h⟩ := Option.bind_eq_some_iff.mp h
    refine GM_callV0 (pc := 10) [] (tX3_readHump l hf45) cwX3_readHump 3 (Nat.le_of_ble_eq_true rfl) rfl kv_X3_readHump ke_X3_readHump km_X3_159 hc13 ⟨Nat.le_of_ble_eq_true rfl, Nat.le_of_ble_eq_true rfl⟩ (Nat.le_of_ble_eq_true rfl) (Nat.le_of_ble_eq_true rfl) (daX3_sketchClause_0 5 rfl) ?_
    refine GM_goto (pc := 13) 200 (daX3_sketchClause_0 6 rfl) rfl ?_
    exact gX3_sketchClause_200 l h hK
theorem tX3_sketchClause (l : Launch) {v0 : Int} {μ : Mm} {t : Mm} (h : fX3_sketchClause v0 μ = some t) : Ct l yX3_sketchClause mX3_sketchClause [(3, v0)] μ ([], t, 0, 0) :=
  Ct_of (by decide +kernel) rfl rfl (Nat.le_of_ble_eq_true rfl) (fun _ _ _ => trivial) (gX3_sketchClause_0 l h ⟨rfl, rfl⟩)
def mX3_readSketch : MI := (RX3, cX3_readSketch, 4, none, "readSketch", 9, 193, fun _ _ _ => True)
theorem cwX3_readSketch : CWd yX3_readSketch mX3_readSketch 2 := ⟨ki_X3, kk_X3_readSketch, ⟨by decide, by decide⟩, rfl⟩
def dtX3_readSketch_0 : List (Nat × Instr × Nat) := [(0, .aload_n 0, 1), (1, .aload_n 1, 1), (2, .iload_n 2, 1), (3, .invokevirtual 29, 3), (6, .aload_n 0, 1), (7, .getfield 21, 3), (10, .invokevirtual 60, 3), (13, .iconst 0, 1), (14, .istore_n 3, 1), (15, .iload_n 3, 1), (16, .sipush 700, 3), (19, .if_icmp .gt 28, 3), (22, .aload_n 0, 1), (23, .getfield 40, 3), (26, .ifCond .eq 21, 3), (29, .aload_n 0, 1), (30, .getfield 43, 3), (33, .iconst 1, 1), (34, .if_icmp .eq 13, 3), (37, .aload_n 0, 1), (38, .invokevirtual 61, 3), (41, .iinc 3 1, 3), (44, .goto (-29), 3), (47, .aload_n 0, 1), (48, .getfield 43, 3), (51, .ifCond .ne 22, 3), (54, .aload_n 0, 1), (55, .getfield 21, 3), (58, .getfield 64, 3), (61, .ifCond .ne 12, 3), (64, .aload_n 0, 1), (65, .iconst 4, 1), (66, .aload_n 0, 1), (67, .getfield 53, 3), (70, .invokevirtual 56, 3), (73, .return_, 1)]
theorem ddX3_readSketch_0 : (dtX3_readSketch_0.all fun e => decide (decode mX3_readSketch.2.1 e.1 = .ok (e.2.1, e.2.2))) = true := by decide +kernel
theorem daX3_readSketch_0 (j : Nat) {pc n : Nat} {i : Instr} (h : dtX3_readSketch_0[j]? = some (pc, i, n)) : decode mX3_readSketch.2.1 pc = .ok (i, n) := dec_of (c := mX3_readSketch.2.1) ddX3_readSketch_0 h
def zX3_readSketch_15 (l : Launch) (F : FI) (v0 : Int) (k n : Nat) : (Int × Mm) ⊕ Mm → Prop
  | .inl (v3, μ) => GM l mX3_readSketch F k n 15 [(0, (3, v0)), (3, (0, v3))] [] μ
  | .inr μ => GM l mX3_readSketch F k n 47 [(0, (3, v0))] [] μ
def sX3_readSketch_15 (v0 : Int) : (Int × Mm) → Option ((Int × Mm) ⊕ Mm) := fun (v3, μ) =>
  if 700 < v3 then
    some (.inr μ)
  else
    chk (KD v0 = 3) (
    if μ v0 7 = 0 then
      some (.inr μ)
    else
      if μ v0 2 = 1 then
        some (.inr μ)
      else
        (fX3_sketchClause v0 μ).bind fun μ5 =>
        some (.inl (w32 (v3 + 1), μ5)))
def fX3_readSketch (v0 v1 v2 : Int) (μ : Mm) : Option Mm :=
  chk (KD v0 = 3) (
  (fX3_open v0 v1 v2 μ).bind fun μ7 =>
  chk (KD (μ7 v0 1) = 6) (
  (fX6_clear (μ7 v0 1) μ7).bind fun μ9 =>
  (lop (sX3_readSketch_15 v0) FU (0, μ9)).bind fun μ_11 =>
    if μ_11 v0 2 = 0 then
      chk (KD (μ_11 v0 1) = 6) (
      if μ_11 (μ_11 v0 1) 0 = 0 then
        (fX3_note v0 4 (μ_11 v0 5) μ_11).bind fun μ15 =>
        some μ15
      else
        some μ_11)
    else
      some μ_11))
set_option maxRecDepth 20000 in
theorem qX3_readSketch_15 (l : Launch) (F : FI) (v0 : Int) (k n : Nat) : ∀ (q : (Int × Mm)) (t : ((Int × Mm) ⊕ Mm)), sX3_readSketch_15 v0 q = some t → zX3_readSketch_15 l F v0 k n t → zX3_readSketch_15 l F v0 k n (.inl q) := by
  intro q t h hK
  obtain ⟨v3, μ⟩ := q
  unfold sX3_readSketch_15 at h
  try dsimp only at h
  show GM l mX3_readSketch F k n 15 [(0, (3, v0)), (3, (0, v3))] [] μ
  refine GM_iload_n (pc := 15) 1 rfl (daX3_readSketch_0 9 rfl) rfl ?_
  refine GM_sipush (pc := 16) 700 (daX3_readSketch_0 10 rfl) rfl (R32_b rfl) ?_
  refine GM_icmp_gt (pc := 19) 47 (daX3_readSketch_0 11 rfl) rfl (fun c1 => ?_) (fun c1 => ?_)
  · skip
    rw [if_pos c1] at h
    refine GM_pick [0] rfl ?_
    cases h
    exact hK
  · skip
    rw [if_neg c1] at h
    refine GM_aload_n (pc := 22) 0 rfl (daX3_readSketch_0 12 rfl) rfl ?_
    obtain ⟨hc2, h⟩ := chk_inv h
    refine GM_getf (pc := 23) 3 7 0 7 kf_X3_40 (Nat.le_of_ble_eq_true rfl) (Nat.le_of_ble_eq_true rfl) rfl (daX3_readSketch_0 13 rfl) hc2 rfl ?_
    refine GM_if_eq (pc := 26) 47 (daX3_readSketch_0 14 rfl) rfl (fun c3 => ?_) (fun c3 => ?_)
    · skip
      rw [if_pos c3] at h
      refine GM_pick [0] rfl ?_
      cases h
      exact hK
    · skip
      rw [if_neg c3] at h
      refine GM_aload_n (pc := 29) 0 rfl (daX3_readSketch_0 15 rfl) rfl ?_
      refine GM_getf (pc := 30) 3 2 0 2 kf_X3_43 (Nat.le_of_ble_eq_true rfl) (Nat.le_of_ble_eq_true rfl) rfl (daX3_readSketch_0 16 rfl) hc2 rfl ?_
      refine GM_iconst (pc := 33) 1 (daX3_readSketch_0 17 rfl) rfl (R32_b rfl) ?_
      refine GM_icmp_eq (pc := 34) 47 (daX3_readSketch_0 18 rfl) rfl (fun c4 => ?_) (fun c4 => ?_)
      · skip
        rw [if_pos c4] at h
        refine GM_pick [0] rfl ?_
        cases h
        exact hK
      · skip
        rw [if_neg c4] at h
        refine GM_aload_n (pc := 37) 0 rfl (daX3_readSketch_0 19 rfl) rfl ?_
        obtain ⟨μ5, hf5, h⟩ := Option.bind_eq_some_iff.mp h
        refine GM_callV0 (pc := 38) [] (tX3_sketchClause l hf5) cwX3_sketchClause 3 (Nat.le_of_ble_eq_true rfl) rfl kv_X3_sketchClause ke_X3_sketchClause km_X3_61 hc2 ⟨Nat.le_of_ble_eq_true rfl, Nat.le_of_ble_eq_true rfl⟩ (Nat.le_of_ble_eq_true rfl) (Nat.le_of_ble_eq_true rfl) (daX3_readSketch_0 20 rfl) ?_
        refine GM_iinc (L' := [(3, (0, w32 (v3 + 1))), (0, (3, v0))]) (pc := 41) 1 rfl (daX3_readSketch_0 21 rfl) (Nat.le_of_ble_eq_true rfl) rfl ?_
        refine GM_goto (pc := 44) 15 (daX3_readSketch_0 22 rfl) rfl ?_
        refine GM_pick [1, 0] rfl ?_
        cases h
        exact hK
set_option maxRecDepth 20000 in
theorem gX3_readSketch_0 (l : Launch) {F : FI} {v0 v1 v2 : Int} {μ : Mm} {t : Mm} (h : fX3_readSketch v0 v1 v2 μ = some t) (hK : F.1 = [] ∧ F.2.1 = t) : GM l mX3_readSketch F 0 0 0 [(0, (3, v0)), (1, (3, v1)), (2, (0, v2))] [] μ := by
  unfold fX3_readSketch at h
  refine GM_aload_n (pc := 0) 0 rfl (daX3_readSketch_0 0 rfl) rfl ?_
  refine GM_aload_n (pc := 1) 1 rfl (daX3_readSketch_0 1 rfl) rfl ?_
  refine GM_iload_n (pc := 2) 2 rfl (daX3_readSketch_0 2 rfl) rfl ?_
  obtain ⟨hc6, h⟩ := chk_inv h
  obtain ⟨μ7, hf7, h⟩ := Option.bind_eq_some_iff.mp h
  refine GM_callV0 (pc := 3) [(3, v1), (0, v2)] (tX3_open l hf7) cwX3_open 3 (Nat.le_of_ble_eq_true rfl) rfl kv_X3_open ke_X3_open km_X3_29 hc6 ⟨Nat.le_of_ble_eq_true rfl, Nat.le_of_ble_eq_true rfl⟩ (Nat.le_of_ble_eq_true rfl) (Nat.le_of_ble_eq_true rfl) (daX3_readSketch_0 3 rfl) ?_
  refine GM_aload_n (pc := 6) 0 rfl (daX3_readSketch_0 4 rfl) rfl ?_
  refine GM_getf (pc := 7) 3 1 3 1 kf_X3_21 (Nat.le_of_ble_eq_true rfl) (Nat.le_of_ble_eq_true rfl) rfl (daX3_readSketch_0 5 rfl) hc6 rfl ?_
  obtain ⟨hc8, h⟩ := chk_inv h
  obtain ⟨μ9, hf9, h⟩ := Option.bind_eq_some_iff.mp h
  refine GM_callV0 (pc := 10) [] (tX6_clear l hf9) cwX6_clear 6 (Nat.le_of_ble_eq_true rfl) rfl kv_X6_clear ke_X6_clear km_X3_60 hc8 ⟨Nat.le_of_ble_eq_true rfl, Nat.le_of_ble_eq_true rfl⟩ (Nat.le_of_ble_eq_true rfl) (Nat.le_of_ble_eq_true rfl) (daX3_readSketch_0 6 rfl) ?_
  refine GM_iconst (pc := 13) 0 (daX3_readSketch_0 7 rfl) rfl (R32_b rfl) ?_
  refine GM_istore_n (L' := [(3, (0, 0)), (0, (3, v0)), (1, (3, v1)), (2, (0, v2))]) (pc := 14) (daX3_readSketch_0 8 rfl) rfl (Nat.le_of_ble_eq_true rfl) rfl ?_
  refine GM_pick [1, 0] rfl ?_
  obtain ⟨x10, hqx10, h⟩ := Option.bind_eq_some_iff.mp h
  refine lop_ind (zX3_readSketch_15 l F v0 0 0) (qX3_readSketch_15 l F v0 0 0) FU _ x10 hqx10 ?_
  obtain ⟨μ_11, hqq⟩ : ∃ z, z = x10 := ⟨x10, rfl⟩
  subst hqq
  show GM l mX3_readSketch F 0 0 47 [(0, (3, v0))] [] μ_11
  refine GM_aload_n (pc := 47) 0 rfl (daX3_readSketch_0 23 rfl) rfl ?_
  refine GM_getf (pc := 48) 3 2 0 2 kf_X3_43 (Nat.le_of_ble_eq_true rfl) (Nat.le_of_ble_eq_true rfl) rfl (daX3_readSketch_0 24 rfl) hc6 rfl ?_
  refine GM_if_ne (pc := 51) 73 (daX3_readSketch_0 25 rfl) rfl (fun c12 => ?_) (fun c12 => ?_)
  · skip
    rw [if_neg c12] at h
    cases h
    exact GM_vret (pc := 73) (daX3_readSketch_0 35 rfl) rfl hK
  · skip
    rw [if_pos c12] at h
    refine GM_aload_n (pc := 54) 0 rfl (daX3_readSketch_0 26 rfl) rfl ?_
    refine GM_getf (pc := 55) 3 1 3 1 kf_X3_21 (Nat.le_of_ble_eq_true rfl) (Nat.le_of_ble_eq_true rfl) rfl (daX3_readSketch_0 27 rfl) hc6 rfl ?_
    obtain ⟨hc13, h⟩ := chk_inv h
    refine GM_getf (pc := 58) 6 0 0 0 kf_X3_64 (Nat.le_of_ble_eq_true rfl) (Nat.le_of_ble_eq_true rfl) rfl (daX3_readSketch_0 28 rfl) hc13 rfl ?_
    refine GM_if_ne (pc := 61) 73 (daX3_readSketch_0 29 rfl) rfl (fun c14 => ?_) (fun c14 => ?_)
    · skip
      rw [if_neg c14] at h
      cases h
      exact GM_vret (pc := 73) (daX3_readSketch_0 35 rfl) rfl hK
    · skip
      rw [if_pos c14] at h
      refine GM_aload_n (pc := 64) 0 rfl (daX3_readSketch_0 30 rfl) rfl ?_
      refine GM_iconst (pc := 65) 4 (daX3_readSketch_0 31 rfl) rfl (R32_b rfl) ?_
      refine GM_aload_n (pc := 66) 0 rfl (daX3_readSketch_0 32 rfl) rfl ?_
      refine GM_getf (pc := 67) 3 5 0 5 kf_X3_53 (Nat.le_of_ble_eq_true rfl) (Nat.le_of_ble_eq_true rfl) rfl (daX3_readSketch_0 33 rfl) hc6 rfl ?_
      obtain ⟨μ15, hf15, h⟩ := Option.bind_eq_some_iff.mp h
      refine GM_callV0 (pc := 70) [(0, 4), (0, μ_11 v0 5)] (tX3_note l hf15) cwX3_note 3 (Nat.le_of_ble_eq_true rfl) rfl kv_X3_note ke_X3_note km_X3_56 hc6 ⟨Nat.le_of_ble_eq_true rfl, Nat.le_of_ble_eq_true rfl⟩ (Nat.le_of_ble_eq_true rfl) (Nat.le_of_ble_eq_true rfl) (daX3_readSketch_0 34 rfl) ?_
      cases h
      exact GM_vret (pc := 73) (daX3_readSketch_0 35 rfl) rfl hK
theorem tX3_readSketch (l : Launch) {v0 v1 v2 : Int} {μ : Mm} {t : Mm} (h : fX3_readSketch v0 v1 v2 μ = some t) : Ct l yX3_readSketch mX3_readSketch [(3, v0), (3, v1), (0, v2)] μ ([], t, 0, 0) :=
  Ct_of (by decide +kernel) rfl rfl (Nat.le_of_ble_eq_true rfl) (fun _ _ _ => trivial) (gX3_readSketch_0 l h ⟨rfl, rfl⟩)
