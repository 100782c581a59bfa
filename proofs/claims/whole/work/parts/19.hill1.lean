def mX10_init : MI := (RX10, cX10_init, 1, none, "<init>", 3, 64, fun _ _ _ => True)
theorem cwX10_init : CWd yX10_init mX10_init 0 := ⟨ki_X10, kk_X10_init, ⟨by decide, by decide⟩, rfl⟩
def dtX10_init_0 : List (Nat × Instr × Nat) := [(0, .aload_n 0, 1), (1, .invokespecial 3, 3), (4, .aload_n 0, 1), (5, .new 9, 3), (8, .dup, 1), (9, .invokespecial 11, 3), (12, .putfield 12, 3), (15, .aload_n 0, 1), (16, .iconst 3, 1), (17, .anewarray 9, 3), (20, .putfield 16, 3), (23, .aload_n 0, 1), (24, .new 20, 3), (27, .dup, 1), (28, .invokespecial 22, 3), (31, .putfield 23, 3), (34, .aload_n 0, 1), (35, .new 27, 3), (38, .dup, 1), (39, .invokespecial 29, 3), (42, .putfield 30, 3), (45, .aload_n 0, 1), (46, .iconst 2, 1), (47, .anewarray 34, 3), (50, .putfield 36, 3), (53, .aload_n 0, 1), (54, .new 40, 3), (57, .dup, 1), (58, .invokespecial 42, 3), (61, .putfield 43, 3), (64, .aload_n 0, 1), (65, .new 47, 3), (68, .dup, 1), (69, .invokespecial 49, 3), (72, .putfield 50, 3), (75, .aload_n 0, 1), (76, .new 54, 3), (79, .dup, 1), (80, .invokespecial 56, 3), (83, .putfield 57, 3), (86, .aload_n 0, 1), (87, .new 61, 3), (90, .dup, 1), (91, .invokespecial 63, 3), (94, .putfield 64, 3), (97, .aload_n 0, 1), (98, .sipush 144, 3), (101, .newarray .boolean, 2), (103, .putfield 68, 3), (106, .aload_n 0, 1), (107, .sipush 144, 3), (110, .newarray .boolean, 2), (112, .putfield 72, 3), (115, .return_, 1)]
theorem ddX10_init_0 : (dtX10_init_0.all fun e => decide (decode mX10_init.2.1 e.1 = .ok (e.2.1, e.2.2))) = true := by decide +kernel
theorem daX10_init_0 (j : Nat) {pc n : Nat} {i : Instr} (h : dtX10_init_0[j]? = some (pc, i, n)) : decode mX10_init.2.1 pc = .ok (i, n) := dec_of (c := mX10_init.2.1) ddX10_init_0 h
def fX10_init (v0 : Int) (μ : Mm) : Option (Mm × Nat × Nat) :=
  chk (v0 ≠ 0) (
  chk (KD 1000 = 8 ∧ μ 0 1000 = 0) (
  pay 1 8 (
  lm (mnw μ 1000) fun μ4 =>
  (fX8_init 1000 μ4).bind fun (μ5, c5, n5) =>
  pay c5 n5 (
  chk (KD v0 = 10) (
  lm (mst μ5 v0 0 1000) fun μ8 =>
  chk (KD 101 = 19 ∧ LN 101 = 3 ∧ μ8 0 101 = 0) (
  pay 1 3 (
  lm (mnw μ8 101) fun μ11 =>
  lm (mst μ11 v0 1 101) fun μ12 =>
  chk (KD 200 = 3 ∧ μ12 0 200 = 0) (
  pay 1 10 (
  lm (mnw μ12 200) fun μ15 =>
  (fX3_init 200 μ15).bind fun (μ16, c16, n16) =>
  pay c16 n16 (
  lm (mst μ16 v0 2 200) fun μ18 =>
  chk (KD 230 = 5 ∧ μ18 0 230 = 0) (
  pay 1 8 (
  lm (mnw μ18 230) fun μ21 =>
  (fX5_init 230 μ21).bind fun (μ22, c22, n22) =>
  pay c22 n22 (
  lm (mst μ22 v0 3 230) fun μ24 =>
  chk (KD 102 = 16 ∧ LN 102 = 2 ∧ μ24 0 102 = 0) (
  pay 1 2 (
  lm (mnw μ24 102) fun μ27 =>
  lm (mst μ27 v0 4 102) fun μ28 =>
  chk (KD 240 = 7 ∧ μ28 0 240 = 0) (
  pay 1 10 (
  lm (mnw μ28 240) fun μ31 =>
  (fX7_init 240 μ31).bind fun (μ32, c32, n32) =>
  pay c32 n32 (
  lm (mst μ32 v0 5 240) fun μ34 =>
  chk (KD 250 = 1 ∧ μ34 0 250 = 0) (
  pay 1 12 (
  lm (mnw μ34 250) fun μ37 =>
  (fX1_init 250 μ37).bind fun (μ38, c38, n38) =>
  pay c38 n38 (
  lm (mst μ38 v0 6 250) fun μ40 =>
  chk (KD 290 = 6 ∧ μ40 0 290 = 0) (
  pay 1 9 (
  lm (mnw μ40 290) fun μ43 =>
  (fX6_init 290 μ43).bind fun (μ44, c44, n44) =>
  pay c44 n44 (
  lm (mst μ44 v0 7 290) fun μ46 =>
  chk (KD 300 = 9 ∧ μ46 0 300 = 0) (
  pay 1 7 (
  lm (mnw μ46 300) fun μ49 =>
  (fX9_init 300 μ49).bind fun (μ50, c50, n50) =>
  pay c50 n50 (
  lm (mst μ50 v0 8 300) fun μ52 =>
  chk (KD 103 = 14 ∧ LN 103 = 144 ∧ μ52 0 103 = 0) (
  pay 1 144 (
  lm (mnw μ52 103) fun μ55 =>
  lm (mst μ55 v0 9 103) fun μ56 =>
  chk (KD 104 = 14 ∧ LN 104 = 144 ∧ μ56 0 104 = 0) (
  pay 1 144 (
  lm (mnw μ56 104) fun μ59 =>
  lm (mst μ59 v0 10 104) fun μ60 =>
  some (μ60, 0, 0))))))))))))))))))))))))))))))))
set_option maxRecDepth 20000 in
theorem gX10_init_0 (l : Launch) {F : FI} {v0 : Int} {μ : Mm} {t : Mm} {c0 n0 k n : Nat} (h : fX10_init v0 μ = some (t, c0, n0)) (hK : F.1 = [] ∧ F.2.1 = t) : GM l mX10_init F (c0 + k) (n0 + n) 0 [(0, (3, v0))] [] μ := by
  unfold fX10_init at h
  refine GM_aload_n (pc := 0) 0 rfl (daX10_init_0 0 rfl) rfl ?_
  obtain ⟨hc1, h⟩ := chk_inv h
  refine GM_objInit (pc := 1) km_X10_3 kv__java_lang_Object__init____V_ kk_obj (daX10_init_0 1 rfl) hc1 ⟨Nat.le_of_ble_eq_true rfl, Nat.le_of_ble_eq_true rfl⟩ ?_
  refine GM_aload_n (pc := 4) 0 rfl (daX10_init_0 2 rfl) rfl ?_
  obtain ⟨hc2, h⟩ := chk_inv h
  obtain ⟨c3, n3, hp, e1, e2⟩ := pay_inv h
  subst e1 e2
  replace h := hp
  clear hp
  rw [Nat.add_assoc, Nat.add_assoc]
  obtain ⟨μ4, hμ4, h⟩ := lm_inv h
  refine GM_new (pc := 5) 8 1000 (by decide) kc_X10_9 (daX10_init_0 3 rfl) hc2.1 hc2.2 ?_
  refine GM_mem hμ4 ?_
  refine GM_dup (pc := 8) (daX10_init_0 4 rfl) (Nat.ne_of_beq_eq_false rfl) ?_
  obtain ⟨⟨μ5, c5, n5⟩, hf5, h⟩ := Option.bind_eq_some_iff.mp h
  dsimp only at h
  obtain ⟨c6, n6, hp, e1, e2⟩ := pay_inv h
  subst e1 e2
  replace h := hp
  clear hp
  rw [Nat.add_assoc, Nat.add_assoc]
  refine GM_callI (pc := 9) [] (tX8_init l hf5) cwX8_init rfl rfl kv_X8_init km_X10_11 (by decide) ⟨Nat.le_of_ble_eq_true rfl, Nat.le_of_ble_eq_true rfl⟩ (Nat.le_of_ble_eq_true rfl) (Nat.le_of_ble_eq_true rfl) (daX10_init_0 5 rfl) ?_
  obtain ⟨hc7, h⟩ := chk_inv h
  obtain ⟨μ8, hμ8, h⟩ := lm_inv h
  refine GM_putF (pc := 12) 10 0 3 kf_X10_12 (Nat.le_of_ble_eq_true rfl) (Nat.le_of_ble_eq_true rfl) rfl rfl rfl rfl (daX10_init_0 6 rfl) hc7 (fun q => absurd q (by decide)) ?_
  refine GM_mem hμ8 ?_
  refine GM_aload_n (pc := 15) 0 rfl (daX10_init_0 7 rfl) rfl ?_
  refine GM_iconst (pc := 16) 3 (daX10_init_0 8 rfl) rfl (R32_b rfl) ?_
  obtain ⟨hc9, h⟩ := chk_inv h
  obtain ⟨c10, n10, hp, e1, e2⟩ := pay_inv h
  subst e1 e2
  replace h := hp
  clear hp
  rw [Nat.add_assoc, Nat.add_assoc]
  obtain ⟨μ11, hμ11, h⟩ := lm_inv h
  refine GM_newr (pc := 17) (N := 3) 19 8 101 (by decide) (by decide) (fun _ => rfl) (by decide) kc_X10_9 (daX10_init_0 9 rfl) hc9.1 hc9.2.1 (Nat.le_of_ble_eq_true rfl) hc9.2.2 ?_
  refine GM_mem hμ11 ?_
  obtain ⟨μ12, hμ12, h⟩ := lm_inv h
  refine GM_putF (pc := 20) 10 1 3 kf_X10_16 (Nat.le_of_ble_eq_true rfl) (Nat.le_of_ble_eq_true rfl) rfl rfl rfl rfl (daX10_init_0 10 rfl) hc7 (fun q => absurd q (by decide)) ?_
  refine GM_mem hμ12 ?_
  refine GM_aload_n (pc := 23) 0 rfl (daX10_init_0 11 rfl) rfl ?_
  obtain ⟨hc13, h⟩ := chk_inv h
  obtain ⟨c14, n14, hp, e1, e2⟩ := pay_inv h
  subst e1 e2
  replace h := hp
  clear hp
  rw [Nat.add_assoc, Nat.add_assoc]
  obtain ⟨μ15, hμ15, h⟩ := lm_inv h
  refine GM_new (pc := 24) 3 200 (by decide) kc_X10_20 (daX10_init_0 12 rfl) hc13.1 hc13.2 ?_
  refine GM_mem hμ15 ?_
  refine GM_dup (pc := 27) (daX10_init_0 13 rfl) (Nat.ne_of_beq_eq_false rfl) ?_
  obtain ⟨⟨μ16, c16, n16⟩, hf16, h⟩ := Option.bind_eq_some_iff.mp h
  dsimp only at h
  obtain ⟨c17, n17, hp, e1, e2⟩ := pay_inv h
  subst e1 e2
  replace h := hp
  clear hp
  rw [Nat.add_assoc, Nat.add_assoc]
  refine GM_callIN (pc := 28) [] (tX3_init l hf16) cwX3_init "HillSketch" rfl rfl kv_X3_init (by decide) (by decide) ⟨Nat.le_of_ble_eq_true rfl, Nat.le_of_ble_eq_true rfl⟩ (Nat.le_of_ble_eq_true rfl) (Nat.le_of_ble_eq_true rfl) (daX10_init_0 14 rfl) ?_
  obtain ⟨μ18, hμ18, h⟩ := lm_inv h
  refine GM_putF (pc := 31) 10 2 3 kf_X10_23 (Nat.le_of_ble_eq_true rfl) (Nat.le_of_ble_eq_true rfl) rfl rfl rfl rfl (daX10_init_0 15 rfl) hc7 (fun q => absurd q (by decide)) ?_
  refine GM_mem hμ18 ?_
  refine GM_aload_n (pc := 34) 0 rfl (daX10_init_0 16 rfl) rfl ?_
  obtain ⟨hc19, h⟩ := chk_inv h
  obtain ⟨c20, n20, hp, e1, e2⟩ := pay_inv h
  subst e1 e2
  replace h := hp
  clear hp
  rw [Nat.add_assoc, Nat.add_assoc]
  obtain ⟨μ21, hμ21, h⟩ := lm_inv h
  refine GM_new (pc := 35) 5 230 (by decide) kc_X10_27 (daX10_init_0 17 rfl) hc19.1 hc19.2 ?_
  refine GM_mem hμ21 ?_
  refine GM_dup (pc := 38) (daX10_init_0 18 rfl) (Nat.ne_of_beq_eq_false rfl) ?_
  obtain ⟨⟨μ22, c22, n22⟩, hf22, h⟩ := Option.bind_eq_some_iff.mp h
  dsimp only at h
  obtain ⟨c23, n23, hp, e1, e2⟩ := pay_inv h
  subst e1 e2
  replace h := hp
  clear hp
  rw [Nat.add_assoc, Nat.add_assoc]
  refine GM_callIN (pc := 39) [] (tX5_init l hf22) cwX5_init "HillSketch" rfl rfl kv_X5_init (by decide) (by decide) ⟨Nat.le_of_ble_eq_true rfl, Nat.le_of_ble_eq_true rfl⟩ (Nat.le_of_ble_eq_true rfl) (Nat.le_of_ble_eq_true rfl) (daX10_init_0 19 rfl) ?_
  obtain ⟨μ24, hμ24, h⟩ := lm_inv h
  refine GM_putF (pc := 42) 10 3 3 kf_X10_30 (Nat.le_of_ble_eq_true rfl) (Nat.le_of_ble_eq_true rfl) rfl rfl rfl rfl (daX10_init_0 20 rfl) hc7 (fun q => absurd q (by decide)) ?_
  refine GM_mem hμ24 ?_
  refine GM_aload_n (pc := 45) 0 rfl (daX10_init_0 21 rfl) rfl ?_
  refine GM_iconst (pc := 46) 2 (daX10_init_0 22 rfl) rfl (R32_b rfl) ?_
  obtain ⟨hc25, h⟩ := chk_inv h
  obtain ⟨c26, n26, hp, e1, e2⟩ := pay_inv h
  subst e1 e2
  replace h := hp
  clear hp
  rw [Nat.add_assoc, Nat.add_assoc]
  obtain ⟨μ27, hμ27, h⟩ := lm_inv h
  refine GM_newr (pc := 47) (N := 2) 16 4 102 (by decide) (by decide) (fun _ => rfl) (by decide) kc_X10_34 (daX10_init_0 23 rfl) hc25.1 hc25.2.1 (Nat.le_of_ble_eq_true rfl) hc25.2.2 ?_
  refine GM_mem hμ27 ?_
  obtain ⟨μ28, hμ28, h⟩ := lm_inv h
  refine GM_putF (pc := 50) 10 4 3 kf_X10_36 (Nat.le_of_ble_eq_true rfl) (Nat.le_of_ble_eq_true rfl) rfl rfl rfl rfl (daX10_init_0 24 rfl) hc7 (fun q => absurd q (by decide)) ?_
  refine GM_mem hμ28 ?_
  refine GM_aload_n (pc := 53) 0 rfl (daX10_init_0 25 rfl) rfl ?_
  obtain ⟨hc29, h⟩ := chk_inv h
  obtain ⟨c30, n30, hp, e1, e2⟩ := pay_inv h
  subst e1 e2
  replace h := hp
  clear hp
  rw [Nat.add_assoc, Nat.add_assoc]
  obtain ⟨μ31, hμ31, h⟩ := lm_inv h
  refine GM_new (pc := 54) 7 240 (by decide) kc_X10_40 (daX10_init_0 26 rfl) hc29.1 hc29.2 ?_
  refine GM_mem hμ31 ?_
  refine GM_dup (pc := 57) (daX10_init_0 27 rfl) (Nat.ne_of_beq_eq_false rfl) ?_
  obtain ⟨⟨μ32, c32, n32⟩, hf32, h⟩ := Option.bind_eq_some_iff.mp h
  dsimp only at h
  obtain ⟨c33, n33, hp, e1, e2⟩ := pay_inv h
  subst e1 e2
  replace h := hp
  clear hp
  rw [Nat.add_assoc, Nat.add_assoc]
  refine GM_callIN (pc := 58) [] (tX7_init l hf32) cwX7_init "HillSketch" rfl rfl kv_X7_init (by decide) (by decide) ⟨Nat.le_of_ble_eq_true rfl, Nat.le_of_ble_eq_true rfl⟩ (Nat.le_of_ble_eq_true rfl) (Nat.le_of_ble_eq_true rfl) (daX10_init_0 28 rfl) ?_
  obtain ⟨μ34, hμ34, h⟩ := lm_inv h
  refine GM_putF (pc := 61) 10 5 3 kf_X10_43 (Nat.le_of_ble_eq_true rfl) (Nat.le_of_ble_eq_true rfl) rfl rfl rfl rfl (daX10_init_0 29 rfl) hc7 (fun q => absurd q (by decide)) ?_
  refine GM_mem hμ34 ?_
  refine GM_aload_n (pc := 64) 0 rfl (daX10_init_0 30 rfl) rfl ?_
  obtain ⟨hc35, h⟩ := chk_inv h
  obtain ⟨c36, n36, hp, e1, e2⟩ := pay_inv h
  subst e1 e2
  replace h := hp
  clear hp
  rw [Nat.add_assoc, Nat.add_assoc]
  obtain ⟨μ37, hμ37, h⟩ := lm_inv h
  refine GM_new (pc := 65) 1 250 (by decide) kc_X10_47 (daX10_init_0 31 rfl) hc35.1 hc35.2 ?_
  refine GM_mem hμ37 ?_
  refine GM_dup (pc := 68) (daX10_init_0 32 rfl) (Nat.ne_of_beq_eq_false rfl) ?_
  obtain ⟨⟨μ38, c38, n38⟩, hf38, h⟩ := Option.bind_eq_some_iff.mp h
  dsimp only at h
  obtain ⟨c39, n39, hp, e1, e2⟩ := pay_inv h
  subst e1 e2
  replace h := hp
  clear hp
  rw [Nat.add_assoc, Nat.add_assoc]
  refine GM_callIN (pc := 69) [] (tX1_init l hf38) cwX1_init "HillSketch" rfl rfl kv_X1_init (by decide) (by decide) ⟨Nat.le_of_ble_eq_true rfl, Nat.le_of_ble_eq_true rfl⟩ (Nat.le_of_ble_eq_true rfl) (Nat.le_of_ble_eq_true rfl) (daX10_init_0 33 rfl) ?_
  obtain ⟨μ40, hμ40, h⟩ := lm_inv h
  refine GM_putF (pc := 72) 10 6 3 kf_X10_50 (Nat.le_of_ble_eq_true rfl) (Nat.le_of_ble_eq_true rfl) rfl rfl rfl rfl (daX10_init_0 34 rfl) hc7 (fun q => absurd q (by decide)) ?_
  refine GM_mem hμ40 ?_
  refine GM_aload_n (pc := 75) 0 rfl (daX10_init_0 35 rfl) rfl ?_
  obtain ⟨hc41, h⟩ := chk_inv h
  obtain ⟨c42, n42, hp, e1, e2⟩ := pay_inv h
  subst e1 e2
  replace h := hp
  clear hp
  rw [Nat.add_assoc, Nat.add_assoc]
  obtain ⟨μ43, hμ43, h⟩ := lm_inv h
  refine GM_new (pc := 76) 6 290 (by decide) kc_X10_54 (daX10_init_0 36 rfl) hc41.1 hc41.2 ?_
  refine GM_mem hμ43 ?_
  refine GM_dup (pc := 79) (daX10_init_0 37 rfl) (Nat.ne_of_beq_eq_false rfl) ?_
  obtain ⟨⟨μ44, c44, n44⟩, hf44, h⟩ := Option.bind_eq_some_iff.mp h
  dsimp only at h
  obtain ⟨c45, n45, hp, e1, e2⟩ := pay_inv h
  subst e1 e2
  replace h := hp
  clear hp
  rw [Nat.add_assoc, Nat.add_assoc]
  refine GM_callIN (pc := 80) [] (tX6_init l hf44) cwX6_init "HillSketch" rfl rfl kv_X6_init (by decide) (by decide) ⟨Nat.le_of_ble_eq_true rfl, Nat.le_of_ble_eq_true rfl⟩ (Nat.le_of_ble_eq_true rfl) (Nat.le_of_ble_eq_true rfl) (daX10_init_0 38 rfl) ?_
  obtain ⟨μ46, hμ46, h⟩ := lm_inv h
  refine GM_putF (pc := 83) 10 7 3 kf_X10_57 (Nat.le_of_ble_eq_true rfl) (Nat.le_of_ble_eq_true rfl) rfl rfl rfl rfl (daX10_init_0 39 rfl) hc7 (fun q => absurd q (by decide)) ?_
  refine GM_mem hμ46 ?_
  refine GM_aload_n (pc := 86) 0 rfl (daX10_init_0 40 rfl) rfl ?_
  obtain ⟨hc47, h⟩ := chk_inv h
  obtain ⟨c48, n48, hp, e1, e2⟩ := pay_inv h
  subst e1 e2
  replace h := hp
  clear hp
  rw [Nat.add_assoc, Nat.add_assoc]
  obtain ⟨μ49, hμ49, h⟩ := lm_inv h
  refine GM_new (pc := 87) 9 300 (by decide) kc_X10_61 (daX10_init_0 41 rfl) hc47.1 hc47.2 ?_
  refine GM_mem hμ49 ?_
  refine GM_dup (pc := 90) (daX10_init_0 42 rfl) (Nat.ne_of_beq_eq_false rfl) ?_
  obtain ⟨⟨μ50, c50, n50⟩, hf50, h⟩ := Option.bind_eq_some_iff.mp h
  dsimp only at h
  obtain ⟨c51, n51, hp, e1, e2⟩ := pay_inv h
  subst e1 e2
  replace h := hp
  clear hp
  rw [Nat.add_assoc, Nat.add_assoc]
  refine GM_callIN (pc := 91) [] (tX9_init l hf50) cwX9_init "HillSketch" rfl rfl kv_X9_init (by decide) (by decide) ⟨Nat.le_of_ble_eq_true rfl, Nat.le_of_ble_eq_true rfl⟩ (Nat.le_of_ble_eq_true rfl) (Nat.le_of_ble_eq_true rfl) (daX10_init_0 43 rfl) ?_
  obtain ⟨μ52, hμ52, h⟩ := lm_inv h
  refine GM_putF (pc := 94) 10 8 3 kf_X10_64 (Nat.le_of_ble_eq_true rfl) (Nat.le_of_ble_eq_true rfl) rfl rfl rfl rfl (daX10_init_0 44 rfl) hc7 (fun q => absurd q (by decide)) ?_
  refine GM_mem hμ52 ?_
  refine GM_aload_n (pc := 97) 0 rfl (daX10_init_0 45 rfl) rfl ?_
  refine GM_sipush (pc := 98) 144 (daX10_init_0 46 rfl) rfl (R32_b rfl) ?_
  obtain ⟨hc53, h⟩ := chk_inv h
  obtain ⟨c54, n54, hp, e1, e2⟩ := pay_inv h
  subst e1 e2
  replace h := hp
  clear hp
  rw [Nat.add_assoc, Nat.add_assoc]
  obtain ⟨μ55, hμ55, h⟩ := lm_inv h
  refine GM_newz (pc := 101) (N := 144) 103 (daX10_init_0 47 rfl) hc53.1 hc53.2.1 (Nat.le_of_ble_eq_true rfl) hc53.2.2 ?_
  refine GM_mem hμ55 ?_
  obtain ⟨μ56, hμ56, h⟩ := lm_inv h
  refine GM_putF (pc := 103) 10 9 3 kf_X10_68 (Nat.le_of_ble_eq_true rfl) (Nat.le_of_ble_eq_true rfl) rfl rfl rfl rfl (daX10_init_0 48 rfl) hc7 (fun q => absurd q (by decide)) ?_
  refine GM_mem hμ56 ?_
  refine GM_aload_n (pc := 106) 0 rfl (daX10_init_0 49 rfl) rfl ?_
  refine GM_sipush (pc := 107) 144 (daX10_init_0 50 rfl) rfl (R32_b rfl) ?_
  obtain ⟨hc57, h⟩ := chk_inv h
  obtain ⟨c58, n58, hp, e1, e2⟩ := pay_inv h
  subst e1 e2
  replace h := hp
  clear hp
  rw [Nat.add_assoc, Nat.add_assoc]
  obtain ⟨μ59, hμ59, h⟩ := lm_inv h
  refine GM_newz (pc := 110) (N := 144) 104 (daX10_init_0 51 rfl) hc57.1 hc57.2.1 (Nat.le_of_ble_eq_true rfl) hc57.2.2 ?_
  refine GM_mem hμ59 ?_
  obtain ⟨μ60, hμ60, h⟩ := lm_inv h
  refine GM_putF (pc := 112) 10 10 3 kf_X10_72 (Nat.le_of_ble_eq_true rfl) (Nat.le_of_ble_eq_true rfl) rfl rfl rfl rfl (daX10_init_0 52 rfl) hc7 (fun q => absurd q (by decide)) ?_
  refine GM_mem hμ60 ?_
  cases h
  exact GM_vret (pc := 115) (daX10_init_0 53 rfl) rfl hK
theorem tX10_init (l : Launch) {v0 : Int} {μ : Mm} {t : Mm} {c0 n0 : Nat} (h : fX10_init v0 μ = some (t, c0, n0)) : Ct l yX10_init mX10_init [(3, v0)] μ ([], t, c0, n0) :=
  Ct_of (by decide +kernel) rfl rfl (Nat.le_of_ble_eq_true rfl) (fun _ _ _ => trivial) (gX10_init_0 (k := 0) (n := 0) l h ⟨rfl, rfl⟩)
def mX10_feed : MI := (RX10, cX10_feed, 6, (some .int), "feed", 1, 22, fun _ _ _ => True)
theorem cwX10_feed : CWd yX10_feed mX10_feed 5 := ⟨ki_X10, kk_X10_feed, ⟨by decide, by decide⟩, rfl⟩
def dtX10_feed_0 : List (Nat × Instr × Nat) := [(0, .aload_n 0, 1), (1, .getfield 12, 3), (4, .getfield 75, 3), (7, .bipush 20, 2), (9, .iadd, 1), (10, .sipush 700, 3), (13, .if_icmp .le 5, 3), (16, .iconst (-1), 1), (17, .ireturn, 1), (18, .aload_n 0, 1), (19, .getfield 12, 3), (22, .iload_n 1, 1), (23, .invokevirtual 79, 3), (26, .aload_n 0, 1), (27, .getfield 12, 3), (30, .iload_n 2, 1), (31, .invokevirtual 79, 3), (34, .aload_n 0, 1), (35, .getfield 12, 3), (38, .iload_n 3, 1), (39, .invokevirtual 79, 3), (42, .aload_n 0, 1), (43, .getfield 12, 3), (46, .iload 4, 2), (48, .invokevirtual 79, 3), (51, .aload_n 0, 1), (52, .getfield 12, 3), (55, .iload 5, 2), (57, .invokevirtual 79, 3), (60, .aload_n 0, 1), (61, .getfield 12, 3), (64, .getfield 75, 3), (67, .ireturn, 1)]
theorem ddX10_feed_0 : (dtX10_feed_0.all fun e => decide (decode mX10_feed.2.1 e.1 = .ok (e.2.1, e.2.2))) = true := by decide +kernel
theorem daX10_feed_0 (j : Nat) {pc n : Nat} {i : Instr} (h : dtX10_feed_0[j]? = some (pc, i, n)) : decode mX10_feed.2.1 pc = .ok (i, n) := dec_of (c := mX10_feed.2.1) ddX10_feed_0 h
def fX10_feed (v0 v1 v2 v3 v4 v5 : Int) (μ : Mm) : Option (Int × Mm) :=
  chk (KD v0 = 10) (
  chk (KD (μ v0 0) = 8) (
  if w32 ((μ (μ v0 0) 1) + 20) ≤ 700 then
    (fX8_append (μ v0 0) v1 μ).bind fun μ4 =>
    chk (KD (μ4 v0 0) = 8) (
    (fX8_append (μ4 v0 0) v2 μ4).bind fun μ6 =>
    chk (KD (μ6 v0 0) = 8) (
    (fX8_append (μ6 v0 0) v3 μ6).bind fun μ8 =>
    chk (KD (μ8 v0 0) = 8) (
    (fX8_append (μ8 v0 0) v4 μ8).bind fun μ10 =>
    chk (KD (μ10 v0 0) = 8) (
    (fX8_append (μ10 v0 0) v5 μ10).bind fun μ12 =>
    chk (KD (μ12 v0 0) = 8) (
    some (μ12 (μ12 v0 0) 1, μ12))))))
  else
    some ((-1), μ)))
set_option maxRecDepth 20000 in
theorem gX10_feed_0 (l : Launch) {F : FI} {v0 v1 v2 v3 v4 v5 : Int} {μ : Mm} {t : (Int × Mm)} (h : fX10_feed v0 v1 v2 v3 v4 v5 μ = some t) (hK : F.1 = [(0, t.1)] ∧ F.2.1 = t.2) : GM l mX10_feed F 0 0 0 [(0, (3, v0)), (1, (0, v1)), (2, (0, v2)), (3, (0, v3)), (4, (0, v4)), (5, (0, v5))] [] μ := by
  unfold fX10_feed at h
  refine GM_aload_n (pc := 0) 0 rfl (daX10_feed_0 0 rfl) rfl ?_
  obtain ⟨hc1, h⟩ := chk_inv h
  refine GM_getf (pc := 1) 10 0 3 0 kf_X10_12 (Nat.le_of_ble_eq_true rfl) (Nat.le_of_ble_eq_true rfl) rfl (daX10_feed_0 1 rfl) hc1 rfl ?_
  obtain ⟨hc2, h⟩ := chk_inv h
  refine GM_getf (pc := 4) 8 1 0 1 kf_X10_75 (Nat.le_of_ble_eq_true rfl) (Nat.le_of_ble_eq_true rfl) rfl (daX10_feed_0 2 rfl) hc2 rfl ?_
  refine GM_bipush (pc := 7) 20 (daX10_feed_0 3 rfl) rfl (R32_b rfl) ?_
  refine GM_iadd (pc := 9) (daX10_feed_0 4 rfl) ?_
  refine GM_sipush (pc := 10) 700 (daX10_feed_0 5 rfl) rfl (R32_b rfl) ?_
  refine GM_icmp_le (pc := 13) 18 (daX10_feed_0 6 rfl) rfl (fun c3 => ?_) (fun c3 => ?_)
  · skip
    rw [if_pos c3] at h
    refine GM_aload_n (pc := 18) 0 rfl (daX10_feed_0 9 rfl) rfl ?_
    refine GM_getf (pc := 19) 10 0 3 0 kf_X10_12 (Nat.le_of_ble_eq_true rfl) (Nat.le_of_ble_eq_true rfl) rfl (daX10_feed_0 10 rfl) hc1 rfl ?_
    refine GM_iload_n (pc := 22) 1 rfl (daX10_feed_0 11 rfl) rfl ?_
    obtain ⟨μ4, hf4, h⟩ := Option.bind_eq_some_iff.mp h
    refine GM_callV0 (pc := 23) [(0, v1)] (tX8_append l hf4) cwX8_append 8 (Nat.le_of_ble_eq_true rfl) rfl kv_X8_append ke_X8_append km_X10_79 hc2 ⟨Nat.le_of_ble_eq_true rfl, Nat.le_of_ble_eq_true rfl⟩ (Nat.le_of_ble_eq_true rfl) (Nat.le_of_ble_eq_true rfl) (daX10_feed_0 12 rfl) ?_
    refine GM_aload_n (pc := 26) 0 rfl (daX10_feed_0 13 rfl) rfl ?_
    refine GM_getf (pc := 27) 10 0 3 0 kf_X10_12 (Nat.le_of_ble_eq_true rfl) (Nat.le_of_ble_eq_true rfl) rfl (daX10_feed_0 14 rfl) hc1 rfl ?_
    refine GM_iload_n (pc := 30) 2 rfl (daX10_feed_0 15 rfl) rfl ?_
    obtain ⟨hc5, h⟩ := chk_inv h
    obtain ⟨μ6, hf6, h⟩ := Option.bind_eq_some_iff.mp h
    refine GM_callV0 (pc := 31) [(0, v2)] (tX8_append l hf6) cwX8_append 8 (Nat.le_of_ble_eq_true rfl) rfl kv_X8_append ke_X8_append km_X10_79 hc5 ⟨Nat.le_of_ble_eq_true rfl, Nat.le_of_ble_eq_true rfl⟩ (Nat.le_of_ble_eq_true rfl) (Nat.le_of_ble_eq_true rfl) (daX10_feed_0 16 rfl) ?_
    refine GM_aload_n (pc := 34) 0 rfl (daX10_feed_0 17 rfl) rfl ?_
    refine GM_getf (pc := 35) 10 0 3 0 kf_X10_12 (Nat.le_of_ble_eq_true rfl) (Nat.le_of_ble_eq_true rfl) rfl (daX10_feed_0 18 rfl) hc1 rfl ?_
    refine GM_iload_n (pc := 38) 3 rfl (daX10_feed_0 19 rfl) rfl ?_
    obtain ⟨hc7, h⟩ := chk_inv h
    obtain ⟨μ8, hf8, h⟩ := Option.bind_eq_some_iff.mp h
    refine GM_callV0 (pc := 39) [(0, v3)] (tX8_append l hf8) cwX8_append 8 (Nat.le_of_ble_eq_true rfl) rfl kv_X8_append ke_X8_append km_X10_79 hc7 ⟨Nat.le_of_ble_eq_true rfl, Nat.le_of_ble_eq_true rfl⟩ (Nat.le_of_ble_eq_true rfl) (Nat.le_of_ble_eq_true rfl) (daX10_feed_0 20 rfl) ?_
    refine GM_aload_n (pc := 42) 0 rfl (daX10_feed_0 21 rfl) rfl ?_
    refine GM_getf (pc := 43) 10 0 3 0 kf_X10_12 (Nat.le_of_ble_eq_true rfl) (Nat.le_of_ble_eq_true rfl) rfl (daX10_feed_0 22 rfl) hc1 rfl ?_
    refine GM_iload (pc := 46) 4 rfl (daX10_feed_0 23 rfl) ?_
    obtain ⟨hc9, h⟩ := chk_inv h
    obtain ⟨μ10, hf10, h⟩ := Option.bind_eq_some_iff.mp h
    refine GM_callV0 (pc := 48) [(0, v4)] (tX8_append l hf10) cwX8_append 8 (Nat.le_of_ble_eq_true rfl) rfl kv_X8_append ke_X8_append km_X10_79 hc9 ⟨Nat.le_of_ble_eq_true rfl, Nat.le_of_ble_eq_true rfl⟩ (Nat.le_of_ble_eq_true rfl) (Nat.le_of_ble_eq_true rfl) (daX10_feed_0 24 rfl) ?_
    refine GM_aload_n (pc := 51) 0 rfl (daX10_feed_0 25 rfl) rfl ?_
    refine GM_getf (pc := 52) 10 0 3 0 kf_X10_12 (Nat.le_of_ble_eq_true rfl) (Nat.le_of_ble_eq_true rfl) rfl (daX10_feed_0 26 rfl) hc1 rfl ?_
    refine GM_iload (pc := 55) 5 rfl (daX10_feed_0 27 rfl) ?_
    obtain ⟨hc11, h⟩ := chk_inv h
    obtain ⟨μ12, hf12, h⟩ := Option.bind_eq_some_iff.mp h
    refine GM_callV0 (pc := 57) [(0, v5)] (tX8_append l hf12) cwX8_append 8 (Nat.le_of_ble_eq_true rfl) rfl kv_X8_append ke_X8_append km_X10_79 hc11 ⟨Nat.le_of_ble_eq_true rfl, Nat.le_of_ble_eq_true rfl⟩ (Nat.le_of_ble_eq_true rfl) (Nat.le_of_ble_eq_true rfl) (daX10_feed_0 28 rfl) ?_
    refine GM_aload_n (pc := 60) 0 rfl (daX10_feed_0 29 rfl) rfl ?_
    refine GM_getf (pc := 61) 10 0 3 0 kf_X10_12 (Nat.le_of_ble_eq_true rfl) (Nat.le_of_ble_eq_true rfl) rfl (daX10_feed_0 30 rfl) hc1 rfl ?_
    obtain ⟨hc13, h⟩ := chk_inv h
    refine GM_getf (pc := 64) 8 1 0 1 kf_X10_75 (Nat.le_of_ble_eq_true rfl) (Nat.le_of_ble_eq_true rfl) rfl (daX10_feed_0 31 rfl) hc13 rfl ?_
    cases h
    exact GM_iret (pc := 67) (daX10_feed_0 32 rfl) rfl hK
  · skip
    rw [if_neg c3] at h
    refine GM_iconst (pc := 16) (-1) (daX10_feed_0 7 rfl) rfl (R32_b rfl) ?_
    cases h
    exact GM_iret (pc := 17) (daX10_feed_0 8 rfl) rfl hK
theorem tX10_feed (l : Launch) {v0 v1 v2 v3 v4 v5 : Int} {μ : Mm} {t : (Int × Mm)} (h : fX10_feed v0 v1 v2 v3 v4 v5 μ = some t) : Ct l yX10_feed mX10_feed [(3, v0), (0, v1), (0, v2), (0, v3), (0, v4), (0, v5)] μ ([(0, t.1)], t.2, 0, 0) :=
  Ct_of (by decide +kernel) rfl rfl (Nat.le_of_ble_eq_true rfl) (fun _ _ _ => trivial) (gX10_feed_0 l h ⟨rfl, rfl⟩)
def mX10_end : MI := (RX10, cX10_end, 2, (some .int), "end", 0, 0, fun _ _ _ => True)
theorem cwX10_end : CWd yX10_end mX10_end 1 := ⟨ki_X10, kk_X10_end, ⟨by decide, by decide⟩, rfl⟩
def dtX10_end_0 : List (Nat × Instr × Nat) := [(0, .iload_n 1, 1), (1, .ifCond .lt 14, 3), (4, .iload_n 1, 1), (5, .aload_n 0, 1), (6, .getfield 12, 3), (9, .getfield 75, 3), (12, .if_icmp .le 5, 3), (15, .iconst (-1), 1), (16, .ireturn, 1), (17, .aload_n 0, 1), (18, .getfield 12, 3), (21, .iload_n 1, 1), (22, .putfield 75, 3), (25, .iload_n 1, 1), (26, .ireturn, 1)]
theorem ddX10_end_0 : (dtX10_end_0.all fun e => decide (decode mX10_end.2.1 e.1 = .ok (e.2.1, e.2.2))) = true := by decide +kernel
theorem daX10_end_0 (j : Nat) {pc n : Nat} {i : Instr} (h : dtX10_end_0[j]? = some (pc, i, n)) : decode mX10_end.2.1 pc = .ok (i, n) := dec_of (c := mX10_end.2.1) ddX10_end_0 h
def fX10_end (v0 v1 : Int) (μ : Mm) : Option (Int × Mm) :=
  if v1 < 0 then
    some ((-1), μ)
  else
    chk (KD v0 = 10) (
    chk (KD (μ v0 0) = 8) (
    if v1 ≤ μ (μ v0 0) 1 then
      lm (mst μ (μ v0 0) 1 v1) fun μ5 =>
      some (v1, μ5)
    else
      some ((-1), μ)))
set_option maxRecDepth 20000 in
theorem gX10_end_0 (l : Launch) {F : FI} {v0 v1 : Int} {μ : Mm} {t : (Int × Mm)} (h : fX10_end v0 v1 μ = some t) (hK : F.1 = [(0, t.1)] ∧ F.2.1 = t.2) : GM l mX10_end F 0 0 0 [(0, (3, v0)), (1, (0, v1))] [] μ := by
  unfold fX10_end at h
  refine GM_iload_n (pc := 0) 1 rfl (daX10_end_0 0 rfl) rfl ?_
  refine GM_if_lt (pc := 1) 15 (daX10_end_0 1 rfl) rfl (fun c1 => ?_) (fun c1 => ?_)
  · skip
    rw [if_pos c1] at h
    refine GM_iconst (pc := 15) (-1) (daX10_end_0 7 rfl) rfl (R32_b rfl) ?_
    cases h
    exact GM_iret (pc := 16) (daX10_end_0 8 rfl) rfl hK
  · skip
    rw [if_neg c1] at h
    refine GM_iload_n (pc := 4) 1 rfl (daX10_end_0 2 rfl) rfl ?_
    refine GM_aload_n (pc := 5) 0 rfl (daX10_end_0 3 rfl) rfl ?_
    obtain ⟨hc2, h⟩ := chk_inv h
    refine GM_getf (pc := 6) 10 0 3 0 kf_X10_12 (Nat.le_of_ble_eq_true rfl) (Nat.le_of_ble_eq_true rfl) rfl (daX10_end_0 4 rfl) hc2 rfl ?_
    obtain ⟨hc3, h⟩ := chk_inv h
    refine GM_getf (pc := 9) 8 1 0 1 kf_X10_75 (Nat.le_of_ble_eq_true rfl) (Nat.le_of_ble_eq_true rfl) rfl (daX10_end_0 5 rfl) hc3 rfl ?_
    refine GM_icmp_le (pc := 12) 17 (daX10_end_0 6 rfl) rfl (fun c4 => ?_) (fun c4 => ?_)
    · skip
      rw [if_pos c4] at h
      refine GM_aload_n (pc := 17) 0 rfl (daX10_end_0 9 rfl) rfl ?_
      refine GM_getf (pc := 18) 10 0 3 0 kf_X10_12 (Nat.le_of_ble_eq_true rfl) (Nat.le_of_ble_eq_true rfl) rfl (daX10_end_0 10 rfl) hc2 rfl ?_
      refine GM_iload_n (pc := 21) 1 rfl (daX10_end_0 11 rfl) rfl ?_
      obtain ⟨μ5, hμ5, h⟩ := lm_inv h
      refine GM_putf (pc := 22) 8 1 0 kf_X10_75 (Nat.le_of_ble_eq_true rfl) (Nat.le_of_ble_eq_true rfl) rfl rfl (daX10_end_0 12 rfl) hc3 (fun q => absurd q (by decide)) ?_
      refine GM_mem hμ5 ?_
      refine GM_iload_n (pc := 25) 1 rfl (daX10_end_0 13 rfl) rfl ?_
      cases h
      exact GM_iret (pc := 26) (daX10_end_0 14 rfl) rfl hK
    · skip
      rw [if_neg c4] at h
      refine GM_iconst (pc := 15) (-1) (daX10_end_0 7 rfl) rfl (R32_b rfl) ?_
      cases h
      exact GM_iret (pc := 16) (daX10_end_0 8 rfl) rfl hK
theorem tX10_end (l : Launch) {v0 v1 : Int} {μ : Mm} {t : (Int × Mm)} (h : fX10_end v0 v1 μ = some t) : Ct l yX10_end mX10_end [(3, v0), (0, v1)] μ ([(0, t.1)], t.2, 0, 0) :=
  Ct_of (by decide +kernel) rfl rfl (Nat.le_of_ble_eq_true rfl) (fun _ _ _ => trivial) (gX10_end_0 l h ⟨rfl, rfl⟩)
def mX10_slotFor : MI := (RX10, cX10_slotFor, 5, (some .int), "slotFor", 0, 0, fun _ _ _ => True)
theorem cwX10_slotFor : CWd yX10_slotFor mX10_slotFor 2 := ⟨ki_X10, kk_X10_slotFor, ⟨by decide, by decide⟩, rfl⟩
def dtX10_slotFor_0 : List (Nat × Instr × Nat) := [(0, .iload_n 1, 1), (1, .ifCond .eq 11, 3), (4, .iload_n 1, 1), (5, .iconst 1, 1), (6, .if_icmp .eq 6, 3), (9, .bipush (-2), 2), (11, .ireturn, 1), (12, .iload_n 1, 1), (13, .ifCond .ne 13, 3), (16, .aload_n 0, 1), (17, .getfield 12, 3), (20, .getfield 116, 3), (23, .goto 10, 3), (26, .aload_n 0, 1), (27, .getfield 12, 3), (30, .getfield 119, 3), (33, .istore_n 3, 1), (34, .iload_n 1, 1), (35, .ifCond .ne 7, 3), (38, .iconst 2, 1), (39, .goto 4, 3), (42, .iconst 4, 1), (43, .istore 4, 2), (45, .iload_n 2, 1), (46, .iconst (-1), 1), (47, .if_icmp .ne 16, 3), (50, .iload_n 3, 1), (51, .iload 4, 2), (53, .if_icmp .ge 7, 3), (56, .iload_n 3, 1), (57, .goto 5, 3), (60, .bipush (-2), 2), (62, .ireturn, 1), (63, .iload_n 2, 1), (64, .ifCond .lt 12, 3), (67, .iload_n 2, 1), (68, .iload_n 3, 1), (69, .if_icmp .ge 7, 3), (72, .iload_n 2, 1), (73, .goto 5, 3), (76, .bipush (-2), 2), (78, .ireturn, 1)]
theorem ddX10_slotFor_0 : (dtX10_slotFor_0.all fun e => decide (decode mX10_slotFor.2.1 e.1 = .ok (e.2.1, e.2.2))) = true := by decide +kernel
theorem daX10_slotFor_0 (j : Nat) {pc n : Nat} {i : Instr} (h : dtX10_slotFor_0[j]? = some (pc, i, n)) : decode mX10_slotFor.2.1 pc = .ok (i, n) := dec_of (c := mX10_slotFor.2.1) ddX10_slotFor_0 h
def jX10_slotFor_43 (v2 v3 s0 : Int) (μ : Mm) : Option Int :=
  if v2 = (-1) then
    if s0 ≤ v3 then
      some (-2)
    else
      some v3
  else
    if v2 < 0 then
      some (-2)
    else
      if v3 ≤ v2 then
        some (-2)
      else
        some v2
def jX10_slotFor_33 (v1 v2 s0 : Int) (μ : Mm) : Option Int :=
  if v1 = 0 then
    jX10_slotFor_43 v2 s0 2 μ
  else
    jX10_slotFor_43 v2 s0 4 μ
def jX10_slotFor_12 (v0 v1 v2 : Int) (μ : Mm) : Option Int :=
  if v1 = 0 then
    chk (KD v0 = 10) (
    chk (KD (μ v0 0) = 8) (
    jX10_slotFor_33 v1 v2 (μ (μ v0 0) 4) μ))
  else
    chk (KD v0 = 10) (
    chk (KD (μ v0 0) = 8) (
    jX10_slotFor_33 v1 v2 (μ (μ v0 0) 5) μ))
def fX10_slotFor (v0 v1 v2 : Int) (μ : Mm) : Option Int :=
  if v1 = 0 then
    jX10_slotFor_12 v0 v1 v2 μ
  else
    if v1 = 1 then
      jX10_slotFor_12 v0 v1 v2 μ
    else
      some (-2)
set_option maxRecDepth 20000 in
theorem gX10_slotFor_43 (l : Launch) {F : FI} {v2 v3 s0 : Int} {μ : Mm} {t : Int} (h : jX10_slotFor_43 v2 v3 s0 μ = some t) (hK : F.1 = [(0, t)] ∧ F.2.1 = μ) : GM l mX10_slotFor F 0 0 43 [(2, (0, v2)), (3, (0, v3))] [(0, s0)] μ := by
  unfold jX10_slotFor_43 at h
  refine GM_istore (L' := [(4, (0, s0)), (2, (0, v2)), (3, (0, v3))]) (pc := 43) (daX10_slotFor_0 22 rfl) (Nat.le_of_ble_eq_true rfl) rfl ?_
  refine GM_iload_n (pc := 45) 1 rfl (daX10_slotFor_0 23 rfl) rfl ?_
  refine GM_iconst (pc := 46) (-1) (daX10_slotFor_0 24 rfl) rfl (R32_b rfl) ?_
  refine GM_icmp_ne (pc := 47) 63 (daX10_slotFor_0 25 rfl) rfl (fun c1 => ?_) (fun c1 => ?_)
  · skip
    rw [if_neg c1] at h
    refine GM_iload_n (pc := 63) 1 rfl (daX10_slotFor_0 33 rfl) rfl ?_
    refine GM_if_lt (pc := 64) 76 (daX10_slotFor_0 34 rfl) rfl (fun c2 => ?_) (fun c2 => ?_)
    · skip
      rw [if_pos c2] at h
      refine GM_bipush (pc := 76) (-2) (daX10_slotFor_0 40 rfl) rfl (R32_b rfl) ?_
      cases h
      exact GM_iret (pc := 78) (daX10_slotFor_0 41 rfl) rfl hK
    · skip
      rw [if_neg c2] at h
      refine GM_iload_n (pc := 67) 1 rfl (daX10_slotFor_0 35 rfl) rfl ?_
      refine GM_iload_n (pc := 68) 2 rfl (daX10_slotFor_0 36 rfl) rfl ?_
      refine GM_icmp_ge (pc := 69) 76 (daX10_slotFor_0 37 rfl) rfl (fun c3 => ?_) (fun c3 => ?_)
      · skip
        rw [if_pos c3] at h
        refine GM_bipush (pc := 76) (-2) (daX10_slotFor_0 40 rfl) rfl (R32_b rfl) ?_
        cases h
        exact GM_iret (pc := 78) (daX10_slotFor_0 41 rfl) rfl hK
      · skip
        rw [if_neg c3] at h
        refine GM_iload_n (pc := 72) 1 rfl (daX10_slotFor_0 38 rfl) rfl ?_
        refine GM_goto (pc := 73) 78 (daX10_slotFor_0 39 rfl) rfl ?_
        cases h
        exact GM_iret (pc := 78) (daX10_slotFor_0 41 rfl) rfl hK
  · skip
    rw [if_pos c1] at h
    refine GM_iload_n (pc := 50) 2 rfl (daX10_slotFor_0 26 rfl) rfl ?_
    refine GM_iload (pc := 51) 0 rfl (daX10_slotFor_0 27 rfl) ?_
    refine GM_icmp_ge (pc := 53) 60 (daX10_slotFor_0 28 rfl) rfl (fun c4 => ?_) (fun c4 => ?_)
    · skip
      rw [if_pos c4] at h
      refine GM_bipush (pc := 60) (-2) (daX10_slotFor_0 31 rfl) rfl (R32_b rfl) ?_
      cases h
      exact GM_iret (pc := 62) (daX10_slotFor_0 32 rfl) rfl hK
    · skip
      rw [if_neg c4] at h
      refine GM_iload_n (pc := 56) 2 rfl (daX10_slotFor_0 29 rfl) rfl ?_
      refine GM_goto (pc := 57) 62 (daX10_slotFor_0 30 rfl) rfl ?_
      cases h
      exact GM_iret (pc := 62) (daX10_slotFor_0 32 rfl) rfl hK
set_option maxRecDepth 20000 in
theorem gX10_slotFor_33 (l : Launch) {F : FI} {v1 v2 s0 : Int} {μ : Mm} {t : Int} (h : jX10_slotFor_33 v1 v2 s0 μ = some t) (hK : F.1 = [(0, t)] ∧ F.2.1 = μ) : GM l mX10_slotFor F 0 0 33 [(1, (0, v1)), (2, (0, v2))] [(0, s0)] μ := by
  unfold jX10_slotFor_33 at h
  refine GM_istore_n (L' := [(3, (0, s0)), (1, (0, v1)), (2, (0, v2))]) (pc := 33) (daX10_slotFor_0 16 rfl) rfl (Nat.le_of_ble_eq_true rfl) rfl ?_
  refine GM_iload_n (pc := 34) 1 rfl (daX10_slotFor_0 17 rfl) rfl ?_
  refine GM_if_ne (pc := 35) 42 (daX10_slotFor_0 18 rfl) rfl (fun c5 => ?_) (fun c5 => ?_)
  · skip
    rw [if_neg c5] at h
    refine GM_iconst (pc := 42) 4 (daX10_slotFor_0 21 rfl) rfl (R32_b rfl) ?_
    refine GM_pick [2, 0] rfl ?_
    exact gX10_slotFor_43 l h hK
  · skip
    rw [if_pos c5] at h
    refine GM_iconst (pc := 38) 2 (daX10_slotFor_0 19 rfl) rfl (R32_b rfl) ?_
    refine GM_goto (pc := 39) 43 (daX10_slotFor_0 20 rfl) rfl ?_
    refine GM_pick [2, 0] rfl ?_
    exact gX10_slotFor_43 l h hK
set_option maxRecDepth 20000 in
theorem gX10_slotFor_12 (l : Launch) {F : FI} {v0 v1 v2 : Int} {μ : Mm} {t : Int} (h : jX10_slotFor_12 v0 v1 v2 μ = some t) (hK : F.1 = [(0, t)] ∧ F.2.1 = μ) : GM l mX10_slotFor F 0 0 12 [(0, (3, v0)), (1, (0, v1)), (2, (0, v2))] [] μ := by
  unfold jX10_slotFor_12 at h
  refine GM_iload_n (pc := 12) 1 rfl (daX10_slotFor_0 7 rfl) rfl ?_
  refine GM_if_ne (pc := 13) 26 (daX10_slotFor_0 8 rfl) rfl (fun c6 => ?_) (fun c6 => ?_)
  · skip
    rw [if_neg c6] at h
    refine GM_aload_n (pc := 26) 0 rfl (daX10_slotFor_0 13 rfl) rfl ?_
    obtain ⟨hc7, h⟩ := chk_inv h
    refine GM_getf (pc := 27) 10 0 3 0 kf_X10_12 (Nat.le_of_ble_eq_true rfl) (Nat.le_of_ble_eq_true rfl) rfl (daX10_slotFor_0 14 rfl) hc7 rfl ?_
    obtain ⟨hc8, h⟩ := chk_inv h
    refine GM_getf (pc := 30) 8 5 0 5 kf_X10_119 (Nat.le_of_ble_eq_true rfl) (Nat.le_of_ble_eq_true rfl) rfl (daX10_slotFor_0 15 rfl) hc8 rfl ?_
    refine GM_pick [1, 2] rfl ?_
    exact gX10_slotFor_33 l h hK
  · skip
    rw [if_pos c6] at h
    refine GM_aload_n (pc := 16) 0 rfl (daX10_slotFor_0 9 rfl) rfl ?_
    obtain ⟨hc9, h⟩ := chk_inv h
    refine GM_getf (pc := 17) 10 0 3 0 kf_X10_12 (Nat.le_of_ble_eq_true rfl) (Nat.le_of_ble_eq_true rfl) rfl (daX10_slotFor_0 10 rfl) hc9 rfl ?_
    obtain ⟨hc10, h⟩ := chk_inv h
    refine GM_getf (pc := 20) 8 4 0 4 kf_X10_116 (Nat.le_of_ble_eq_true rfl) (Nat.le_of_ble_eq_true rfl) rfl (daX10_slotFor_0 11 rfl) hc10 rfl ?_
    refine GM_goto (pc := 23) 33 (daX10_slotFor_0 12 rfl) rfl ?_
    refine GM_pick [1, 2] rfl ?_
    exact gX10_slotFor_33 l h hK
set_option maxRecDepth 20000 in
theorem gX10_slotFor_0 (l : Launch) {F : FI} {v0 v1 v2 : Int} {μ : Mm} {t : Int} (h : fX10_slotFor v0 v1 v2 μ = some t) (hK : F.1 = [(0, t)] ∧ F.2.1 = μ) : GM l mX10_slotFor F 0 0 0 [(0, (3, v0)), (1, (0, v1)), (2, (0, v2))] [] μ := by
  unfold fX10_slotFor at h
  refine GM_iload_n (pc := 0) 1 rfl (daX10_slotFor_0 0 rfl) rfl ?_
  refine GM_if_eq (pc := 1) 12 (daX10_slotFor_0 1 rfl) rfl (fun c11 => ?_) (fun c11 => ?_)
  · skip
    rw [if_pos c11] at h
    exact gX10_slotFor_12 l h hK
  · skip
    rw [if_neg c11] at h
    refine GM_iload_n (pc := 4) 1 rfl (daX10_slotFor_0 2 rfl) rfl ?_
    refine GM_iconst (pc := 5) 1 (daX10_slotFor_0 3 rfl) rfl (R32_b rfl) ?_
    refine GM_icmp_eq (pc := 6) 12 (daX10_slotFor_0 4 rfl) rfl (fun c12 => ?_) (fun c12 => ?_)
    · skip
      rw [if_pos c12] at h
      exact gX10_slotFor_12 l h hK
    · skip
      rw [if_neg c12] at h
      refine GM_bipush (pc := 9) (-2) (daX10_slotFor_0 5 rfl) rfl (R32_b rfl) ?_
      cases h
      exact GM_iret (pc := 11) (daX10_slotFor_0 6 rfl) rfl hK
theorem tX10_slotFor (l : Launch) {v0 v1 v2 : Int} {μ : Mm} {t : Int} (h : fX10_slotFor v0 v1 v2 μ = some t) : Ct l yX10_slotFor mX10_slotFor [(3, v0), (0, v1), (0, v2)] μ ([(0, t)], μ, 0, 0) :=
  Ct_of (by decide +kernel) rfl rfl (Nat.le_of_ble_eq_true rfl) (fun _ _ _ => trivial) (gX10_slotFor_0 l h ⟨rfl, rfl⟩)
def mX10_forget : MI := (RX10, cX10_forget, 2, none, "forget", 0, 0, fun _ _ _ => True)
theorem cwX10_forget : CWd yX10_forget mX10_forget 1 := ⟨ki_X10, kk_X10_forget, ⟨by decide, by decide⟩, rfl⟩
def dtX10_forget_0 : List (Nat × Instr × Nat) := [(0, .iload_n 1, 1), (1, .ifCond .lt 32, 3), (4, .iload_n 1, 1), (5, .iconst 2, 1), (6, .if_icmp .ge 27, 3), (9, .aload_n 0, 1), (10, .getfield 36, 3), (13, .iload_n 1, 1), (14, .aaload, 1), (15, .ifnull 18, 3), (18, .aload_n 0, 1), (19, .getfield 36, 3), (22, .iload_n 1, 1), (23, .aaload, 1), (24, .dup, 1), (25, .getfield 217, 3), (28, .iconst 1, 1), (29, .iadd, 1), (30, .putfield 217, 3), (33, .return_, 1)]
theorem ddX10_forget_0 : (dtX10_forget_0.all fun e => decide (decode mX10_forget.2.1 e.1 = .ok (e.2.1, e.2.2))) = true := by decide +kernel
theorem daX10_forget_0 (j : Nat) {pc n : Nat} {i : Instr} (h : dtX10_forget_0[j]? = some (pc, i, n)) : decode mX10_forget.2.1 pc = .ok (i, n) := dec_of (c := mX10_forget.2.1) ddX10_forget_0 h
def fX10_forget (v0 v1 : Int) (μ : Mm) : Option Mm :=
  if v1 < 0 then
    some μ
  else
    if 2 ≤ v1 then
      some μ
    else
      chk (KD v0 = 10) (
      chk (KD (μ v0 4) = 16 ∧ 0 ≤ v1 ∧ v1 < LN (μ v0 4)) (
      if μ (μ v0 4) v1 = 0 then
        some μ
      else
        chk (KD (μ (μ v0 4) v1) = 4) (
        lm (mst μ (μ (μ v0 4) v1) 1 (w32 ((μ (μ (μ v0 4) v1) 1) + 1))) fun μ7 =>
        some μ7)))
set_option maxRecDepth 20000 in
theorem gX10_forget_0 (l : Launch) {F : FI} {v0 v1 : Int} {μ : Mm} {t : Mm} (h : fX10_forget v0 v1 μ = some t) (hK : F.1 = [] ∧ F.2.1 = t) : GM l mX10_forget F 0 0 0 [(0, (3, v0)), (1, (0, v1))] [] μ := by
  unfold fX10_forget at h
  refine GM_iload_n (pc := 0) 1 rfl (daX10_forget_0 0 rfl) rfl ?_
  refine GM_if_lt (pc := 1) 33 (daX10_forget_0 1 rfl) rfl (fun c1 => ?_) (fun c1 => ?_)
  · skip
    rw [if_pos c1] at h
    cases h
    exact GM_vret (pc := 33) (daX10_forget_0 19 rfl) rfl hK
  · skip
    rw [if_neg c1] at h
    refine GM_iload_n (pc := 4) 1 rfl (daX10_forget_0 2 rfl) rfl ?_
    refine GM_iconst (pc := 5) 2 (daX10_forget_0 3 rfl) rfl (R32_b rfl) ?_
    refine GM_icmp_ge (pc := 6) 33 (daX10_forget_0 4 rfl) rfl (fun c2 => ?_) (fun c2 => ?_)
    · skip
      rw [if_pos c2] at h
      cases h
      exact GM_vret (pc := 33) (daX10_forget_0 19 rfl) rfl hK
    · skip
      rw [if_neg c2] at h
      refine GM_aload_n (pc := 9) 0 rfl (daX10_forget_0 5 rfl) rfl ?_
      obtain ⟨hc3, h⟩ := chk_inv h
      refine GM_getf (pc := 10) 10 4 3 4 kf_X10_36 (Nat.le_of_ble_eq_true rfl) (Nat.le_of_ble_eq_true rfl) rfl (daX10_forget_0 6 rfl) hc3 rfl ?_
      refine GM_iload_n (pc := 13) 1 rfl (daX10_forget_0 7 rfl) rfl ?_
      obtain ⟨hc4, h⟩ := chk_inv h
      refine GM_aald (pc := 14) 16 4 (by decide) (by decide) (fun _ => rfl) (daX10_forget_0 8 rfl) hc4.1 hc4.2.1 hc4.2.2 ?_
      refine GM_ifnull (pc := 15) 33 (daX10_forget_0 9 rfl) rfl (fun c5 => ?_) (fun c5 => ?_)
      · skip
        rw [if_pos c5] at h
        cases h
        exact GM_vret (pc := 33) (daX10_forget_0 19 rfl) rfl hK
      · skip
        rw [if_neg c5] at h
        refine GM_aload_n (pc := 18) 0 rfl (daX10_forget_0 10 rfl) rfl ?_
        refine GM_getf (pc := 19) 10 4 3 4 kf_X10_36 (Nat.le_of_ble_eq_true rfl) (Nat.le_of_ble_eq_true rfl) rfl (daX10_forget_0 11 rfl) hc3 rfl ?_
        refine GM_iload_n (pc := 22) 1 rfl (daX10_forget_0 12 rfl) rfl ?_
        refine GM_aald (pc := 23) 16 4 (by decide) (by decide) (fun _ => rfl) (daX10_forget_0 13 rfl) hc4.1 hc4.2.1 hc4.2.2 ?_
        refine GM_dup (pc := 24) (daX10_forget_0 14 rfl) (Nat.ne_of_beq_eq_false rfl) ?_
        obtain ⟨hc6, h⟩ := chk_inv h
        refine GM_getf (pc := 25) 4 1 0 1 kf_X10_217 (Nat.le_of_ble_eq_true rfl) (Nat.le_of_ble_eq_true rfl) rfl (daX10_forget_0 15 rfl) hc6 rfl ?_
        refine GM_iconst (pc := 28) 1 (daX10_forget_0 16 rfl) rfl (R32_b rfl) ?_
        refine GM_iadd (pc := 29) (daX10_forget_0 17 rfl) ?_
        obtain ⟨μ7, hμ7, h⟩ := lm_inv h
        refine GM_putf (pc := 30) 4 1 0 kf_X10_217 (Nat.le_of_ble_eq_true rfl) (Nat.le_of_ble_eq_true rfl) rfl rfl (daX10_forget_0 18 rfl) hc6 (fun q => absurd q (by decide)) ?_
        refine GM_mem hμ7 ?_
        cases h
        exact GM_vret (pc := 33) (daX10_forget_0 19 rfl) rfl hK
theorem tX10_forget (l : Launch) {v0 v1 : Int} {μ : Mm} {t : Mm} (h : fX10_forget v0 v1 μ = some t) : Ct l yX10_forget mX10_forget [(3, v0), (0, v1)] μ ([], t, 0, 0) :=
  Ct_of (by decide +kernel) rfl rfl (Nat.le_of_ble_eq_true rfl) (fun _ _ _ => trivial) (gX10_forget_0 l h ⟨rfl, rfl⟩)
def mX10_keepLand : MI := (RX10, cX10_keepLand, 2, none, "keepLand", 2, 82, fun _ _ _ => True)
theorem cwX10_keepLand : CWd yX10_keepLand mX10_keepLand 1 := ⟨ki_X10, kk_X10_keepLand, ⟨by decide, by decide⟩, rfl⟩
def dtX10_keepLand_0 : List (Nat × Instr × Nat) := [(0, .iload_n 1, 1), (1, .ifCond .lt 8, 3), (4, .iload_n 1, 1), (5, .iconst 2, 1), (6, .if_icmp .lt 4, 3), (9, .return_, 1), (10, .aload_n 0, 1), (11, .getfield 12, 3), (14, .getfield 122, 3), (17, .iload_n 1, 1), (18, .aaload, 1), (19, .aload_n 0, 1), (20, .getfield 23, 3), (23, .getfield 126, 3), (26, .invokevirtual 129, 3), (29, .aload_n 0, 1), (30, .getfield 12, 3), (33, .aload_n 0, 1), (34, .getfield 12, 3), (37, .getfield 116, 3), (40, .iload_n 1, 1), (41, .iconst 1, 1), (42, .iadd, 1), (43, .invokestatic 135, 3), (46, .putfield 116, 3), (49, .aload_n 0, 1), (50, .iload_n 1, 1), (51, .invokevirtual 140, 3), (54, .return_, 1)]
theorem ddX10_keepLand_0 : (dtX10_keepLand_0.all fun e => decide (decode mX10_keepLand.2.1 e.1 = .ok (e.2.1, e.2.2))) = true := by decide +kernel
theorem daX10_keepLand_0 (j : Nat) {pc n : Nat} {i : Instr} (h : dtX10_keepLand_0[j]? = some (pc, i, n)) : decode mX10_keepLand.2.1 pc = .ok (i, n) := dec_of (c := mX10_keepLand.2.1) ddX10_keepLand_0 h
def fX10_keepLand (v0 v1 : Int) (μ : Mm) : Option Mm :=
  if v1 < 0 then
    some μ
  else
    if v1 < 2 then
      chk (KD v0 = 10) (
      chk (KD (μ v0 0) = 8) (
      chk (KD (μ (μ v0 0) 6) = 15 ∧ 0 ≤ v1 ∧ v1 < LN (μ (μ v0 0) 6)) (
      chk (KD (μ v0 2) = 3) (
      chk (KD (μ (μ (μ v0 0) 6) v1) = 2) (
      (fX2_take (μ (μ (μ v0 0) 6) v1) (μ (μ v0 2) 0) μ).bind fun μ8 =>
      chk (KD (μ8 v0 0) = 8) (
      lm (mst μ8 (μ8 v0 0) 4 (imax (μ8 (μ8 v0 0) 4) (w32 (v1 + 1)))) fun μ10 =>
      (fX10_forget v0 v1 μ10).bind fun μ11 =>
      some μ11))))))
    else
      some μ
set_option maxRecDepth 20000 in
theorem gX10_keepLand_0 (l : Launch) {F : FI} {v0 v1 : Int} {μ : Mm} {t : Mm} (h : fX10_keepLand v0 v1 μ = some t) (hK : F.1 = [] ∧ F.2.1 = t) : GM l mX10_keepLand F 0 0 0 [(0, (3, v0)), (1, (0, v1))] [] μ := by
  unfold fX10_keepLand at h
  refine GM_iload_n (pc := 0) 1 rfl (daX10_keepLand_0 0 rfl) rfl ?_
  refine GM_if_lt (pc := 1) 9 (daX10_keepLand_0 1 rfl) rfl (fun c1 => ?_) (fun c1 => ?_)
  · skip
    rw [if_pos c1] at h
    cases h
    exact GM_vret (pc := 9) (daX10_keepLand_0 5 rfl) rfl hK
  · skip
    rw [if_neg c1] at h
    refine GM_iload_n (pc := 4) 1 rfl (daX10_keepLand_0 2 rfl) rfl ?_
    refine GM_iconst (pc := 5) 2 (daX10_keepLand_0 3 rfl) rfl (R32_b rfl) ?_
    refine GM_icmp_lt (pc := 6) 10 (daX10_keepLand_0 4 rfl) rfl (fun c2 => ?_) (fun c2 => ?_)
    · skip
      rw [if_pos c2] at h
      refine GM_aload_n (pc := 10) 0 rfl (daX10_keepLand_0 6 rfl) rfl ?_
      obtain ⟨hc3, h⟩ := chk_inv h
      refine GM_getf (pc := 11) 10 0 3 0 kf_X10_12 (Nat.le_of_ble_eq_true rfl) (Nat.le_of_ble_eq_true rfl) rfl (daX10_keepLand_0 7 rfl) hc3 rfl ?_
      obtain ⟨hc4, h⟩ := chk_inv h
      refine GM_getf (pc := 14) 8 6 3 6 kf_X10_122 (Nat.le_of_ble_eq_true rfl) (Nat.le_of_ble_eq_true rfl) rfl (daX10_keepLand_0 8 rfl) hc4 rfl ?_
      refine GM_iload_n (pc := 17) 1 rfl (daX10_keepLand_0 9 rfl) rfl ?_
      obtain ⟨hc5, h⟩ := chk_inv h
      refine GM_aald (pc := 18) 15 2 (by decide) (by decide) (fun _ => rfl) (daX10_keepLand_0 10 rfl) hc5.1 hc5.2.1 hc5.2.2 ?_
      refine GM_aload_n (pc := 19) 0 rfl (daX10_keepLand_0 11 rfl) rfl ?_
      refine GM_getf (pc := 20) 10 2 3 2 kf_X10_23 (Nat.le_of_ble_eq_true rfl) (Nat.le_of_ble_eq_true rfl) rfl (daX10_keepLand_0 12 rfl) hc3 rfl ?_
      obtain ⟨hc6, h⟩ := chk_inv h
      refine GM_getf (pc := 23) 3 0 3 0 kf_X10_126 (Nat.le_of_ble_eq_true rfl) (Nat.le_of_ble_eq_true rfl) rfl (daX10_keepLand_0 13 rfl) hc6 rfl ?_
      obtain ⟨hc7, h⟩ := chk_inv h
      obtain ⟨μ8, hf8, h⟩ := Option.bind_eq_some_iff.mp h
      refine GM_callV0 (pc := 26) [(3, μ (μ v0 2) 0)] (tX2_take l hf8) cwX2_take 2 (Nat.le_of_ble_eq_true rfl) rfl kv_X2_take ke_X2_take km_X10_129 hc7 ⟨Nat.le_of_ble_eq_true rfl, Nat.le_of_ble_eq_true rfl⟩ (Nat.le_of_ble_eq_true rfl) (Nat.le_of_ble_eq_true rfl) (daX10_keepLand_0 14 rfl) ?_
      refine GM_aload_n (pc := 29) 0 rfl (daX10_keepLand_0 15 rfl) rfl ?_
      refine GM_getf (pc := 30) 10 0 3 0 kf_X10_12 (Nat.le_of_ble_eq_true rfl) (Nat.le_of_ble_eq_true rfl) rfl (daX10_keepLand_0 16 rfl) hc3 rfl ?_
      refine GM_aload_n (pc := 33) 0 rfl (daX10_keepLand_0 17 rfl) rfl ?_
      refine GM_getf (pc := 34) 10 0 3 0 kf_X10_12 (Nat.le_of_ble_eq_true rfl) (Nat.le_of_ble_eq_true rfl) rfl (daX10_keepLand_0 18 rfl) hc3 rfl ?_
      obtain ⟨hc9, h⟩ := chk_inv h
      refine GM_getf (pc := 37) 8 4 0 4 kf_X10_116 (Nat.le_of_ble_eq_true rfl) (Nat.le_of_ble_eq_true rfl) rfl (daX10_keepLand_0 19 rfl) hc9 rfl ?_
      refine GM_iload_n (pc := 40) 1 rfl (daX10_keepLand_0 20 rfl) rfl ?_
      refine GM_iconst (pc := 41) 1 (daX10_keepLand_0 21 rfl) rfl (R32_b rfl) ?_
      refine GM_iadd (pc := 42) (daX10_keepLand_0 22 rfl) ?_
      refine GM_callS0 (pc := 43) [(0, μ8 (μ8 v0 0) 4), (0, w32 (v1 + 1))] (tJ9_max_7cf53 l (fJ9_max_eq (μ8 (μ8 v0 0) 4) (w32 (v1 + 1)))) cwJ9_max_7cf53 ks_J9_max_7cf53 km_X10_135 ⟨Nat.le_of_ble_eq_true rfl, Nat.le_of_ble_eq_true rfl⟩ (Nat.le_of_ble_eq_true rfl) (Nat.le_of_ble_eq_true rfl) (daX10_keepLand_0 23 rfl) ?_
      obtain ⟨μ10, hμ10, h⟩ := lm_inv h
      refine GM_putf (pc := 46) 8 4 0 kf_X10_116 (Nat.le_of_ble_eq_true rfl) (Nat.le_of_ble_eq_true rfl) rfl rfl (daX10_keepLand_0 24 rfl) hc9 (fun q => absurd q (by decide)) ?_
      refine GM_mem hμ10 ?_
      refine GM_aload_n (pc := 49) 0 rfl (daX10_keepLand_0 25 rfl) rfl ?_
      refine GM_iload_n (pc := 50) 1 rfl (daX10_keepLand_0 26 rfl) rfl ?_
      obtain ⟨μ11, hf11, h⟩ := Option.bind_eq_some_iff.mp h
      refine GM_callV0 (pc := 51) [(0, v1)] (tX10_forget l hf11) cwX10_forget 10 (Nat.le_of_ble_eq_true rfl) rfl kv_X10_forget ke_X10_forget km_X10_140 hc3 ⟨Nat.le_of_ble_eq_true rfl, Nat.le_of_ble_eq_true rfl⟩ (Nat.le_of_ble_eq_true rfl) (Nat.le_of_ble_eq_true rfl) (daX10_keepLand_0 27 rfl) ?_
      cases h
      exact GM_vret (pc := 54) (daX10_keepLand_0 28 rfl) rfl hK
    · skip
      rw [if_neg c2] at h
      cases h
      exact GM_vret (pc := 9) (daX10_keepLand_0 5 rfl) rfl hK
theorem tX10_keepLand (l : Launch) {v0 v1 : Int} {μ : Mm} {t : Mm} (h : fX10_keepLand v0 v1 μ = some t) : Ct l yX10_keepLand mX10_keepLand [(3, v0), (0, v1)] μ ([], t, 0, 0) :=
  Ct_of (by decide +kernel) rfl rfl (Nat.le_of_ble_eq_true rfl) (fun _ _ _ => trivial) (gX10_keepLand_0 l h ⟨rfl, rfl⟩)
def mX10_keepSketch : MI := (RX10, cX10_keepSketch, 3, none, "keepSketch", 2, 81, fun _ _ _ => True)
theorem cwX10_keepSketch : CWd yX10_keepSketch mX10_keepSketch 2 := ⟨ki_X10, kk_X10_keepSketch, ⟨by decide, by decide⟩, rfl⟩
def dtX10_keepSketch_0 : List (Nat × Instr × Nat) := [(0, .iload_n 1, 1), (1, .ifCond .lt 8, 3), (4, .iload_n 1, 1), (5, .iconst 4, 1), (6, .if_icmp .lt 4, 3), (9, .return_, 1), (10, .aload_n 0, 1), (11, .getfield 12, 3), (14, .getfield 143, 3), (17, .iload_n 1, 1), (18, .aaload, 1), (19, .aload_n 2, 1), (20, .invokevirtual 146, 3), (23, .aload_n 0, 1), (24, .getfield 12, 3), (27, .aload_n 0, 1), (28, .getfield 12, 3), (31, .getfield 119, 3), (34, .iload_n 1, 1), (35, .iconst 1, 1), (36, .iadd, 1), (37, .invokestatic 135, 3), (40, .putfield 119, 3), (43, .return_, 1)]
theorem ddX10_keepSketch_0 : (dtX10_keepSketch_0.all fun e => decide (decode mX10_keepSketch.2.1 e.1 = .ok (e.2.1, e.2.2))) = true := by decide +kernel
theorem daX10_keepSketch_0 (j : Nat) {pc n : Nat} {i : Instr} (h : dtX10_keepSketch_0[j]? = some (pc, i, n)) : decode mX10_keepSketch.2.1 pc = .ok (i, n) := dec_of (c := mX10_keepSketch.2.1) ddX10_keepSketch_0 h
def fX10_keepSketch (v0 v1 v2 : Int) (μ : Mm) : Option Mm :=
  if v1 < 0 then
    some μ
  else
    if v1 < 4 then
      chk (KD v0 = 10) (
      chk (KD (μ v0 0) = 8) (
      chk (KD (μ (μ v0 0) 7) = 17 ∧ 0 ≤ v1 ∧ v1 < LN (μ (μ v0 0) 7)) (
      chk (KD (μ (μ (μ v0 0) 7) v1) = 6) (
      (fX6_take (μ (μ (μ v0 0) 7) v1) v2 μ).bind fun μ7 =>
      chk (KD (μ7 v0 0) = 8) (
      lm (mst μ7 (μ7 v0 0) 5 (imax (μ7 (μ7 v0 0) 5) (w32 (v1 + 1)))) fun μ9 =>
      some μ9)))))
    else
      some μ
set_option maxRecDepth 20000 in
theorem gX10_keepSketch_0 (l : Launch) {F : FI} {v0 v1 v2 : Int} {μ : Mm} {t : Mm} (h : fX10_keepSketch v0 v1 v2 μ = some t) (hK : F.1 = [] ∧ F.2.1 = t) : GM l mX10_keepSketch F 0 0 0 [(0, (3, v0)), (1, (0, v1)), (2, (3, v2))] [] μ := by
  unfold fX10_keepSketch at h
  refine GM_iload_n (pc := 0) 1 rfl (daX10_keepSketch_0 0 rfl) rfl ?_
  refine GM_if_lt (pc := 1) 9 (daX10_keepSketch_0 1 rfl) rfl (fun c1 => ?_) (fun c1 => ?_)
  · skip
    rw [if_pos c1] at h
    cases h
    exact GM_vret (pc := 9) (daX10_keepSketch_0 5 rfl) rfl hK
  · skip
    rw [if_neg c1] at h
    refine GM_iload_n (pc := 4) 1 rfl (daX10_keepSketch_0 2 rfl) rfl ?_
    refine GM_iconst (pc := 5) 4 (daX10_keepSketch_0 3 rfl) rfl (R32_b rfl) ?_
    refine GM_icmp_lt (pc := 6) 10 (daX10_keepSketch_0 4 rfl) rfl (fun c2 => ?_) (fun c2 => ?_)
    · skip
      rw [if_pos c2] at h
      refine GM_aload_n (pc := 10) 0 rfl (daX10_keepSketch_0 6 rfl) rfl ?_
      obtain ⟨hc3, h⟩ := chk_inv h
      refine GM_getf (pc := 11) 10 0 3 0 kf_X10_12 (Nat.le_of_ble_eq_true rfl) (Nat.le_of_ble_eq_true rfl) rfl (daX10_keepSketch_0 7 rfl) hc3 rfl ?_
      obtain ⟨hc4, h⟩ := chk_inv h
      refine GM_getf (pc := 14) 8 7 3 7 kf_X10_143 (Nat.le_of_ble_eq_true rfl) (Nat.le_of_ble_eq_true rfl) rfl (daX10_keepSketch_0 8 rfl) hc4 rfl ?_
      refine GM_iload_n (pc := 17) 1 rfl (daX10_keepSketch_0 9 rfl) rfl ?_
      obtain ⟨hc5, h⟩ := chk_inv h
      refine GM_aald (pc := 18) 17 6 (by decide) (by decide) (fun _ => rfl) (daX10_keepSketch_0 10 rfl) hc5.1 hc5.2.1 hc5.2.2 ?_
      refine GM_aload_n (pc := 19) 2 rfl (daX10_keepSketch_0 11 rfl) rfl ?_
      obtain ⟨hc6, h⟩ := chk_inv h
      obtain ⟨μ7, hf7, h⟩ := Option.bind_eq_some_iff.mp h
      refine GM_callV0 (pc := 20) [(3, v2)] (tX6_take l hf7) cwX6_take 6 (Nat.le_of_ble_eq_true rfl) rfl kv_X6_take ke_X6_take km_X10_146 hc6 ⟨Nat.le_of_ble_eq_true rfl, Nat.le_of_ble_eq_true rfl⟩ (Nat.le_of_ble_eq_true rfl) (Nat.le_of_ble_eq_true rfl) (daX10_keepSketch_0 12 rfl) ?_
      refine GM_aload_n (pc := 23) 0 rfl (daX10_keepSketch_0 13 rfl) rfl ?_
      refine GM_getf (pc := 24) 10 0 3 0 kf_X10_12 (Nat.le_of_ble_eq_true rfl) (Nat.le_of_ble_eq_true rfl) rfl (daX10_keepSketch_0 14 rfl) hc3 rfl ?_
      refine GM_aload_n (pc := 27) 0 rfl (daX10_keepSketch_0 15 rfl) rfl ?_
      refine GM_getf (pc := 28) 10 0 3 0 kf_X10_12 (Nat.le_of_ble_eq_true rfl) (Nat.le_of_ble_eq_true rfl) rfl (daX10_keepSketch_0 16 rfl) hc3 rfl ?_
      obtain ⟨hc8, h⟩ := chk_inv h
      refine GM_getf (pc := 31) 8 5 0 5 kf_X10_119 (Nat.le_of_ble_eq_true rfl) (Nat.le_of_ble_eq_true rfl) rfl (daX10_keepSketch_0 17 rfl) hc8 rfl ?_
      refine GM_iload_n (pc := 34) 1 rfl (daX10_keepSketch_0 18 rfl) rfl ?_
      refine GM_iconst (pc := 35) 1 (daX10_keepSketch_0 19 rfl) rfl (R32_b rfl) ?_
      refine GM_iadd (pc := 36) (daX10_keepSketch_0 20 rfl) ?_
      refine GM_callS0 (pc := 37) [(0, μ7 (μ7 v0 0) 5), (0, w32 (v1 + 1))] (tJ9_max_7cf53 l (fJ9_max_eq (μ7 (μ7 v0 0) 5) (w32 (v1 + 1)))) cwJ9_max_7cf53 ks_J9_max_7cf53 km_X10_135 ⟨Nat.le_of_ble_eq_true rfl, Nat.le_of_ble_eq_true rfl⟩ (Nat.le_of_ble_eq_true rfl) (Nat.le_of_ble_eq_true rfl) (daX10_keepSketch_0 21 rfl) ?_
      obtain ⟨μ9, hμ9, h⟩ := lm_inv h
      refine GM_putf (pc := 40) 8 5 0 kf_X10_119 (Nat.le_of_ble_eq_true rfl) (Nat.le_of_ble_eq_true rfl) rfl rfl (daX10_keepSketch_0 22 rfl) hc8 (fun q => absurd q (by decide)) ?_
      refine GM_mem hμ9 ?_
      cases h
      exact GM_vret (pc := 43) (daX10_keepSketch_0 23 rfl) rfl hK
    · skip
      rw [if_neg c2] at h
      cases h
      exact GM_vret (pc := 9) (daX10_keepSketch_0 5 rfl) rfl hK
theorem tX10_keepSketch (l : Launch) {v0 v1 v2 : Int} {μ : Mm} {t : Mm} (h : fX10_keepSketch v0 v1 v2 μ = some t) : Ct l yX10_keepSketch mX10_keepSketch [(3, v0), (0, v1), (3, v2)] μ ([], t, 0, 0) :=
  Ct_of (by decide +kernel) rfl rfl (Nat.le_of_ble_eq_true rfl) (fun _ _ _ => trivial) (gX10_keepSketch_0 l h ⟨rfl, rfl⟩)
def mX10_text : MI := (RX10, cX10_text, 5, (some .int), "text", 10, 216, fun _ _ _ => True)
theorem cwX10_text : CWd yX10_text mX10_text 2 := ⟨ki_X10, kk_X10_text, ⟨by decide, by decide⟩, rfl⟩
def dtX10_text_0 : List (Nat × Instr × Nat) := [(0, .aload_n 0, 1), (1, .getfield 12, 3), (4, .getfield 75, 3), (7, .istore_n 3, 1), (8, .aload_n 0, 1), (9, .getfield 12, 3), (12, .iconst 0, 1), (13, .putfield 75, 3), (16, .aload_n 0, 1), (17, .getfield 12, 3), (20, .iconst 0, 1), (21, .putfield 83, 3), (24, .aload_n 0, 1), (25, .getfield 12, 3), (28, .iconst (-1), 1), (29, .putfield 86, 3), (32, .aload_n 0, 1), (33, .iload_n 1, 1), (34, .iload_n 2, 1), (35, .invokevirtual 89, 3), (38, .istore 4, 2), (40, .iload 4, 2), (42, .bipush (-2), 2), (44, .if_icmp .ne 6, 3), (47, .bipush (-2), 2), (49, .ireturn, 1), (50, .iload_n 1, 1), (51, .ifCond .ne 21, 3), (54, .aload_n 0, 1), (55, .getfield 23, 3), (58, .aload_n 0, 1), (59, .getfield 12, 3), (62, .getfield 93, 3), (65, .iload_n 3, 1), (66, .invokevirtual 97, 3), (69, .goto 18, 3), (72, .aload_n 0, 1), (73, .getfield 23, 3), (76, .aload_n 0, 1), (77, .getfield 12, 3), (80, .getfield 93, 3), (83, .iload_n 3, 1), (84, .invokevirtual 101, 3), (87, .aload_n 0, 1), (88, .getfield 23, 3), (91, .getfield 104, 3), (94, .ifCond .eq 33, 3), (97, .aload_n 0, 1), (98, .getfield 12, 3), (101, .aload_n 0, 1), (102, .getfield 23, 3), (105, .getfield 104, 3), (108, .putfield 83, 3), (111, .aload_n 0, 1), (112, .getfield 12, 3), (115, .aload_n 0, 1), (116, .getfield 23, 3), (119, .getfield 105, 3), (122, .putfield 86, 3), (125, .iconst (-1), 1), (126, .ireturn, 1), (127, .iload_n 1, 1), (128, .ifCond .ne 12, 3), (131, .aload_n 0, 1)]
theorem ddX10_text_0 : (dtX10_text_0.all fun e => decide (decode mX10_text.2.1 e.1 = .ok (e.2.1, e.2.2))) = true := by decide +kernel
theorem daX10_text_0 (j : Nat) {pc n : Nat} {i : Instr} (h : dtX10_text_0[j]? = some (pc, i, n)) : decode mX10_text.2.1 pc = .ok (i, n) := dec_of (c := mX10_text.2.1) ddX10_text_0 h
def dtX10_text_1 : List (Nat × Instr × Nat) := [(132, .iload 4, 2), (134, .invokevirtual 106, 3), (137, .goto 16, 3), (140, .aload_n 0, 1), (141, .iload 4, 2), (143, .aload_n 0, 1), (144, .getfield 23, 3), (147, .getfield 109, 3), (150, .invokevirtual 112, 3), (153, .iload 4, 2), (155, .ireturn, 1)]
theorem ddX10_text_1 : (dtX10_text_1.all fun e => decide (decode mX10_text.2.1 e.1 = .ok (e.2.1, e.2.2))) = true := by decide +kernel
theorem daX10_text_1 (j : Nat) {pc n : Nat} {i : Instr} (h : dtX10_text_1[j]? = some (pc, i, n)) : decode mX10_text.2.1 pc = .ok (i, n) := dec_of (c := mX10_text.2.1) ddX10_text_1 h
def jX10_text_87 (v0 v1 v4 : Int) (μ : Mm) : Option (Int × Mm) :=
  chk (KD v0 = 10) (
  chk (KD (μ v0 2) = 3) (
  if μ (μ v0 2) 2 = 0 then
    if v1 = 0 then
      (fX10_keepLand v0 v4 μ).bind fun μ6 =>
      some (v4, μ6)
    else
      (fX10_keepSketch v0 v4 (μ (μ v0 2) 1) μ).bind fun μ5 =>
      some (v4, μ5)
  else
    chk (KD (μ v0 0) = 8) (
    lm (mst μ (μ v0 0) 2 (μ (μ v0 2) 2)) fun μ8 =>
    chk (KD (μ8 v0 2) = 3) (
    chk (KD (μ8 v0 0) = 8) (
    lm (mst μ8 (μ8 v0 0) 3 (μ8 (μ8 v0 2) 3)) fun μ11 =>
    some ((-1), μ11))))))
def fX10_text (v0 v1 v2 : Int) (μ : Mm) : Option (Int × Mm) :=
  chk (KD v0 = 10) (
  chk (KD (μ v0 0) = 8) (
  lm (mst μ (μ v0 0) 1 0) fun μ14 =>
  chk (KD (μ14 v0 0) = 8) (
  lm (mst μ14 (μ14 v0 0) 2 0) fun μ16 =>
  chk (KD (μ16 v0 0) = 8) (
  lm (mst μ16 (μ16 v0 0) 3 (-1)) fun μ18 =>
  (fX10_slotFor v0 v1 v2 μ18).bind fun r19 =>
  if r19 = (-2) then
    some ((-2), μ18)
  else
    if v1 = 0 then
      chk (KD (μ18 v0 0) = 8) (
      chk (KD (μ18 v0 2) = 3) (
      (fX3_readLand (μ18 v0 2) (μ18 (μ18 v0 0) 0) (μ (μ v0 0) 1) μ18).bind fun μ27 =>
      jX10_text_87 v0 v1 r19 μ27))
    else
      chk (KD (μ18 v0 0) = 8) (
      chk (KD (μ18 v0 2) = 3) (
      (fX3_readSketch (μ18 v0 2) (μ18 (μ18 v0 0) 0) (μ (μ v0 0) 1) μ18).bind fun μ24 =>
      jX10_text_87 v0 v1 r19 μ24))))))
set_option maxRecDepth 20000 in
theorem gX10_text_87 (l : Launch) {F : FI} {v0 v1 v4 : Int} {μ : Mm} {t : (Int × Mm)} (h : jX10_text_87 v0 v1 v4 μ = some t) (hK : F.1 = [(0, t.1)] ∧ F.2.1 = t.2) : GM l mX10_text F 0 0 87 [(0, (3, v0)), (1, (0, v1)), (4, (0, v4))] [] μ := by
  unfold jX10_text_87 at h
  refine GM_aload_n (pc := 87) 0 rfl (daX10_text_0 43 rfl) rfl ?_
  obtain ⟨hc1, h⟩ := chk_inv h
  refine GM_getf (pc := 88) 10 2 3 2 kf_X10_23 (Nat.le_of_ble_eq_true rfl) (Nat.le_of_ble_eq_true rfl) rfl (daX10_text_0 44 rfl) hc1 rfl ?_
  obtain ⟨hc2, h⟩ := chk_inv h
  refine GM_getf (pc := 91) 3 2 0 2 kf_X10_104 (Nat.le_of_ble_eq_true rfl) (Nat.le_of_ble_eq_true rfl) rfl (daX10_text_0 45 rfl) hc2 rfl ?_
  refine GM_if_eq (pc := 94) 127 (daX10_text_0 46 rfl) rfl (fun c3 => ?_) (fun c3 => ?_)
  · skip
    rw [if_pos c3] at h
    refine GM_iload_n (pc := 127) 1 rfl (daX10_text_0 61 rfl) rfl ?_
    refine GM_if_ne (pc := 128) 140 (daX10_text_0 62 rfl) rfl (fun c4 => ?_) (fun c4 => ?_)
    · skip
      rw [if_neg c4] at h
      refine GM_aload_n (pc := 140) 0 rfl (daX10_text_1 3 rfl) rfl ?_
      refine GM_iload (pc := 141) 2 rfl (daX10_text_1 4 rfl) ?_
      refine GM_aload_n (pc := 143) 0 rfl (daX10_text_1 5 rfl) rfl ?_
      refine GM_getf (pc := 144) 10 2 3 2 kf_X10_23 (Nat.le_of_ble_eq_true rfl) (Nat.le_of_ble_eq_true rfl) rfl (daX10_text_1 6 rfl) hc1 rfl ?_
      refine GM_getf (pc := 147) 3 1 3 1 kf_X10_109 (Nat.le_of_ble_eq_true rfl) (Nat.le_of_ble_eq_true rfl) rfl (daX10_text_1 7 rfl) hc2 rfl ?_
      obtain ⟨μ5, hf5, h⟩ := Option.bind_eq_some_iff.mp h
      refine GM_callV0 (pc := 150) [(0, v4), (3, μ (μ v0 2) 1)] (tX10_keepSketch l hf5) cwX10_keepSketch 10 (Nat.le_of_ble_eq_true rfl) rfl kv_X10_keepSketch ke_X10_keepSketch km_X10_112 hc1 ⟨Nat.le_of_ble_eq_true rfl, Nat.le_of_ble_eq_true rfl⟩ (Nat.le_of_ble_eq_true rfl) (Nat.le_of_ble_eq_true rfl) (daX10_text_1 8 rfl) ?_
      refine GM_iload (pc := 153) 2 rfl (daX10_text_1 9 rfl) ?_
      cases h
      exact GM_iret (pc := 155) (daX10_text_1 10 rfl) rfl hK
    · skip
      rw [if_pos c4] at h
      refine GM_aload_n (pc := 131) 0 rfl (daX10_text_0 63 rfl) rfl ?_
      refine GM_iload (pc := 132) 2 rfl (daX10_text_1 0 rfl) ?_
      obtain ⟨μ6, hf6, h⟩ := Option.bind_eq_some_iff.mp h
      refine GM_callV0 (pc := 134) [(0, v4)] (tX10_keepLand l hf6) cwX10_keepLand 10 (Nat.le_of_ble_eq_true rfl) rfl kv_X10_keepLand ke_X10_keepLand km_X10_106 hc1 ⟨Nat.le_of_ble_eq_true rfl, Nat.le_of_ble_eq_true rfl⟩ (Nat.le_of_ble_eq_true rfl) (Nat.le_of_ble_eq_true rfl) (daX10_text_1 1 rfl) ?_
      refine GM_goto (pc := 137) 153 (daX10_text_1 2 rfl) rfl ?_
      refine GM_iload (pc := 153) 2 rfl (daX10_text_1 9 rfl) ?_
      cases h
      exact GM_iret (pc := 155) (daX10_text_1 10 rfl) rfl hK
  · skip
    rw [if_neg c3] at h
    refine GM_aload_n (pc := 97) 0 rfl (daX10_text_0 47 rfl) rfl ?_
    refine GM_getf (pc := 98) 10 0 3 0 kf_X10_12 (Nat.le_of_ble_eq_true rfl) (Nat.le_of_ble_eq_true rfl) rfl (daX10_text_0 48 rfl) hc1 rfl ?_
    refine GM_aload_n (pc := 101) 0 rfl (daX10_text_0 49 rfl) rfl ?_
    refine GM_getf (pc := 102) 10 2 3 2 kf_X10_23 (Nat.le_of_ble_eq_true rfl) (Nat.le_of_ble_eq_true rfl) rfl (daX10_text_0 50 rfl) hc1 rfl ?_
    refine GM_getf (pc := 105) 3 2 0 2 kf_X10_104 (Nat.le_of_ble_eq_true rfl) (Nat.le_of_ble_eq_true rfl) rfl (daX10_text_0 51 rfl) hc2 rfl ?_
    obtain ⟨hc7, h⟩ := chk_inv h
    obtain ⟨μ8, hμ8, h⟩ := lm_inv h
    refine GM_putf (pc := 108) 8 2 0 kf_X10_83 (Nat.le_of_ble_eq_true rfl) (Nat.le_of_ble_eq_true rfl) rfl rfl (daX10_text_0 52 rfl) hc7 (fun q => absurd q (by decide)) ?_
    refine GM_mem hμ8 ?_
    refine GM_aload_n (pc := 111) 0 rfl (daX10_text_0 53 rfl) rfl ?_
    refine GM_getf (pc := 112) 10 0 3 0 kf_X10_12 (Nat.le_of_ble_eq_true rfl) (Nat.le_of_ble_eq_true rfl) rfl (daX10_text_0 54 rfl) hc1 rfl ?_
    refine GM_aload_n (pc := 115) 0 rfl (daX10_text_0 55 rfl) rfl ?_
    refine GM_getf (pc := 116) 10 2 3 2 kf_X10_23 (Nat.le_of_ble_eq_true rfl) (Nat.le_of_ble_eq_true rfl) rfl (daX10_text_0 56 rfl) hc1 rfl ?_
    obtain ⟨hc9, h⟩ := chk_inv h
    refine GM_getf (pc := 119) 3 3 0 3 kf_X10_105 (Nat.le_of_ble_eq_true rfl) (Nat.le_of_ble_eq_true rfl) rfl (daX10_text_0 57 rfl) hc9 rfl ?_
    obtain ⟨hc10, h⟩ := chk_inv h
    obtain ⟨μ11, hμ11, h⟩ := lm_inv h
    refine GM_putf (pc := 122) 8 3 0 kf_X10_86 (Nat.le_of_ble_eq_true rfl) (Nat.le_of_ble_eq_true rfl) rfl rfl (daX10_text_0 58 rfl) hc10 (fun q => absurd q (by decide)) ?_
    refine GM_mem hμ11 ?_
    refine GM_iconst (pc := 125) (-1) (daX10_text_0 59 rfl) rfl (R32_b rfl) ?_
    cases h
    exact GM_iret (pc := 126) (daX10_text_0 60 rfl) rfl hK
set_option maxRecDepth 20000 in
theorem gX10_text_0 (l : Launch) {F : FI} {v0 v1 v2 : Int} {μ : Mm} {t : (Int × Mm)} (h : fX10_text v0 v1 v2 μ = some t) (hK : F.1 = [(0, t.1)] ∧ F.2.1 = t.2) : GM l mX10_text F 0 0 0 [(0, (3, v0)), (1, (0, v1)), (2, (0, v2))] [] μ := by
  unfold fX10_text at h
  refine GM_aload_n (pc := 0) 0 rfl (daX10_text_0 0 rfl) rfl ?_
  obtain ⟨hc12, h⟩ := chk_inv h
  refine GM_getf (pc := 1) 10 0 3 0 kf_X10_12 (Nat.le_of_ble_eq_true rfl) (Nat.le_of_ble_eq_true rfl) rfl (daX10_text_0 1 rfl) hc12 rfl ?_
  obtain ⟨hc13, h⟩ := chk_inv h
  refine GM_getf (pc := 4) 8 1 0 1 kf_X10_75 (Nat.le_of_ble_eq_true rfl) (Nat.le_of_ble_eq_true rfl) rfl (daX10_text_0 2 rfl) hc13 rfl ?_
  refine GM_istore_n (L' := [(3, (0, μ (μ v0 0) 1)), (0, (3, v0)), (1, (0, v1)), (2, (0, v2))]) (pc := 7) (daX10_text_0 3 rfl) rfl (Nat.le_of_ble_eq_true rfl) rfl ?_
  refine GM_aload_n (pc := 8) 1 rfl (daX10_text_0 4 rfl) rfl ?_
  refine GM_getf (pc := 9) 10 0 3 0 kf_X10_12 (Nat.le_of_ble_eq_true rfl) (Nat.le_of_ble_eq_true rfl) rfl (daX10_text_0 5 rfl) hc12 rfl ?_
  refine GM_iconst (pc := 12) 0 (daX10_text_0 6 rfl) rfl (R32_b rfl) ?_
  obtain ⟨μ14, hμ14, h⟩ := lm_inv h
  refine GM_putf (pc := 13) 8 1 0 kf_X10_75 (Nat.le_of_ble_eq_true rfl) (Nat.le_of_ble_eq_true rfl) rfl rfl (daX10_text_0 7 rfl) hc13 (fun q => absurd q (by decide)) ?_
  refine GM_mem hμ14 ?_
  refine GM_aload_n (pc := 16) 1 rfl (daX10_text_0 8 rfl) rfl ?_
  refine GM_getf (pc := 17) 10 0 3 0 kf_X10_12 (Nat.le_of_ble_eq_true rfl) (Nat.le_of_ble_eq_true rfl) rfl (daX10_text_0 9 rfl) hc12 rfl ?_
  refine GM_iconst (pc := 20) 0 (daX10_text_0 10 rfl) rfl (R32_b rfl) ?_
  obtain ⟨hc15, h⟩ := chk_inv h
  obtain ⟨μ16, hμ16, h⟩ := lm_inv h
  refine GM_putf (pc := 21) 8 2 0 kf_X10_83 (Nat.le_of_ble_eq_true rfl) (Nat.le_of_ble_eq_true rfl) rfl rfl (daX10_text_0 11 rfl) hc15 (fun q => absurd q (by decide)) ?_
  refine GM_mem hμ16 ?_
  refine GM_aload_n (pc := 24) 1 rfl (daX10_text_0 12 rfl) rfl ?_
  refine GM_getf (pc := 25) 10 0 3 0 kf_X10_12 (Nat.le_of_ble_eq_true rfl) (Nat.le_of_ble_eq_true rfl) rfl (daX10_text_0 13 rfl) hc12 rfl ?_
  refine GM_iconst (pc := 28) (-1) (daX10_text_0 14 rfl) rfl (R32_b rfl) ?_
  obtain ⟨hc17, h⟩ := chk_inv h
  obtain ⟨μ18, hμ18, h⟩ := lm_inv h
  refine GM_putf (pc := 29) 8 3 0 kf_X10_86 (Nat.le_of_ble_eq_true rfl) (Nat.le_of_ble_eq_true rfl) rfl rfl (daX10_text_0 15 rfl) hc17 (fun q => absurd q (by decide)) ?_
  refine GM_mem hμ18 ?_
  refine GM_aload_n (pc := 32) 1 rfl (daX10_text_0 16 rfl) rfl ?_
  refine GM_iload_n (pc := 33) 2 rfl (daX10_text_0 17 rfl) rfl ?_
  refine GM_iload_n (pc := 34) 3 rfl (daX10_text_0 18 rfl) rfl ?_
  obtain ⟨r19, hf19, h⟩ := Option.bind_eq_some_iff.mp h
  refine GM_callV0 (pc := 35) [(0, v1), (0, v2)] (tX10_slotFor l hf19) cwX10_slotFor 10 (Nat.le_of_ble_eq_true rfl) rfl kv_X10_slotFor ke_X10_slotFor km_X10_89 hc12 ⟨Nat.le_of_ble_eq_true rfl, Nat.le_of_ble_eq_true rfl⟩ (Nat.le_of_ble_eq_true rfl) (Nat.le_of_ble_eq_true rfl) (daX10_text_0 19 rfl) ?_
  refine GM_istore (L' := [(4, (0, r19)), (3, (0, μ (μ v0 0) 1)), (0, (3, v0)), (1, (0, v1)), (2, (0, v2))]) (pc := 38) (daX10_text_0 20 rfl) (Nat.le_of_ble_eq_true rfl) rfl ?_
  refine GM_iload (pc := 40) 0 rfl (daX10_text_0 21 rfl) ?_
  refine GM_bipush (pc := 42) (-2) (daX10_text_0 22 rfl) rfl (R32_b rfl) ?_
  refine GM_icmp_ne (pc := 44) 50 (daX10_text_0 23 rfl) rfl (fun c20 => ?_) (fun c20 => ?_)
  · skip
    rw [if_neg c20] at h
    refine GM_iload_n (pc := 50) 3 rfl (daX10_text_0 26 rfl) rfl ?_
    refine GM_if_ne (pc := 51) 72 (daX10_text_0 27 rfl) rfl (fun c21 => ?_) (fun c21 => ?_)
    · skip
      rw [if_neg c21] at h
      refine GM_aload_n (pc := 72) 2 rfl (daX10_text_0 36 rfl) rfl ?_
      refine GM_getf (pc := 73) 10 2 3 2 kf_X10_23 (Nat.le_of_ble_eq_true rfl) (Nat.le_of_ble_eq_true rfl) rfl (daX10_text_0 37 rfl) hc12 rfl ?_
      refine GM_aload_n (pc := 76) 2 rfl (daX10_text_0 38 rfl) rfl ?_
      refine GM_getf (pc := 77) 10 0 3 0 kf_X10_12 (Nat.le_of_ble_eq_true rfl) (Nat.le_of_ble_eq_true rfl) rfl (daX10_text_0 39 rfl) hc12 rfl ?_
      obtain ⟨hc22, h⟩ := chk_inv h
      refine GM_getf (pc := 80) 8 0 3 0 kf_X10_93 (Nat.le_of_ble_eq_true rfl) (Nat.le_of_ble_eq_true rfl) rfl (daX10_text_0 40 rfl) hc22 rfl ?_
      refine GM_iload_n (pc := 83) 1 rfl (daX10_text_0 41 rfl) rfl ?_
      obtain ⟨hc23, h⟩ := chk_inv h
      obtain ⟨μ24, hf24, h⟩ := Option.bind_eq_some_iff.mp h
      refine GM_callV0 (pc := 84) [(3, μ18 (μ18 v0 0) 0), (0, μ (μ v0 0) 1)] (tX3_readSketch l hf24) cwX3_readSketch 3 (Nat.le_of_ble_eq_true rfl) rfl kv_X3_readSketch ke_X3_readSketch km_X10_101 hc23 ⟨Nat.le_of_ble_eq_true rfl, Nat.le_of_ble_eq_true rfl⟩ (Nat.le_of_ble_eq_true rfl) (Nat.le_of_ble_eq_true rfl) (daX10_text_0 42 rfl) ?_
      refine GM_pick [2, 3, 0] rfl ?_
      exact gX10_text_87 l h hK
    · skip
      rw [if_pos c21] at h
      refine GM_aload_n (pc := 54) 2 rfl (daX10_text_0 28 rfl) rfl ?_
      refine GM_getf (pc := 55) 10 2 3 2 kf_X10_23 (Nat.le_of_ble_eq_true rfl) (Nat.le_of_ble_eq_true rfl) rfl (daX10_text_0 29 rfl) hc12 rfl ?_
      refine GM_aload_n (pc := 58) 2 rfl (daX10_text_0 30 rfl) rfl ?_
      refine GM_getf (pc := 59) 10 0 3 0 kf_X10_12 (Nat.le_of_ble_eq_true rfl) (Nat.le_of_ble_eq_true rfl) rfl (daX10_text_0 31 rfl) hc12 rfl ?_
      obtain ⟨hc25, h⟩ := chk_inv h
      refine GM_getf (pc := 62) 8 0 3 0 kf_X10_93 (Nat.le_of_ble_eq_true rfl) (Nat.le_of_ble_eq_true rfl) rfl (daX10_text_0 32 rfl) hc25 rfl ?_
      refine GM_iload_n (pc := 65) 1 rfl (daX10_text_0 33 rfl) rfl ?_
      obtain ⟨hc26, h⟩ := chk_inv h
      obtain ⟨μ27, hf27, h⟩ := Option.bind_eq_some_iff.mp h
      refine GM_callV0 (pc := 66) [(3, μ18 (μ18 v0 0) 0), (0, μ (μ v0 0) 1)] (tX3_readLand l hf27) cwX3_readLand 3 (Nat.le_of_ble_eq_true rfl) rfl kv_X3_readLand ke_X3_readLand km_X10_97 hc26 ⟨Nat.le_of_ble_eq_true rfl, Nat.le_of_ble_eq_true rfl⟩ (Nat.le_of_ble_eq_true rfl) (Nat.le_of_ble_eq_true rfl) (daX10_text_0 34 rfl) ?_
      refine GM_goto (pc := 69) 87 (daX10_text_0 35 rfl) rfl ?_
      refine GM_pick [2, 3, 0] rfl ?_
      exact gX10_text_87 l h hK
  · skip
    rw [if_pos c20] at h
    refine GM_bipush (pc := 47) (-2) (daX10_text_0 24 rfl) rfl (R32_b rfl) ?_
    cases h
    exact GM_iret (pc := 49) (daX10_text_0 25 rfl) rfl hK
theorem tX10_text (l : Launch) {v0 v1 v2 : Int} {μ : Mm} {t : (Int × Mm)} (h : fX10_text v0 v1 v2 μ = some t) : Ct l yX10_text mX10_text [(3, v0), (0, v1), (0, v2)] μ ([(0, t.1)], t.2, 0, 0) :=
  Ct_of (by decide +kernel) rfl rfl (Nat.le_of_ble_eq_true rfl) (fun _ _ _ => trivial) (gX10_text_0 l h ⟨rfl, rfl⟩)
def mX10_fault : MI := (RX10, cX10_fault, 2, (some .int), "fault", 0, 0, fun _ _ _ => True)
theorem cwX10_fault : CWd yX10_fault mX10_fault 1 := ⟨ki_X10, kk_X10_fault, ⟨by decide, by decide⟩, rfl⟩
def dtX10_fault_0 : List (Nat × Instr × Nat) := [(0, .iload_n 1, 1), (1, .ifCond .ne 11, 3), (4, .aload_n 0, 1), (5, .getfield 12, 3), (8, .getfield 83, 3), (11, .ireturn, 1), (12, .iload_n 1, 1), (13, .iconst 1, 1), (14, .if_icmp .ne 13, 3), (17, .aload_n 0, 1), (18, .getfield 12, 3), (21, .getfield 86, 3), (24, .goto 4, 3), (27, .iconst (-1), 1), (28, .ireturn, 1)]
theorem ddX10_fault_0 : (dtX10_fault_0.all fun e => decide (decode mX10_fault.2.1 e.1 = .ok (e.2.1, e.2.2))) = true := by decide +kernel
theorem daX10_fault_0 (j : Nat) {pc n : Nat} {i : Instr} (h : dtX10_fault_0[j]? = some (pc, i, n)) : decode mX10_fault.2.1 pc = .ok (i, n) := dec_of (c := mX10_fault.2.1) ddX10_fault_0 h
def fX10_fault (v0 v1 : Int) (μ : Mm) : Option Int :=
  if v1 = 0 then
    chk (KD v0 = 10) (
    chk (KD (μ v0 0) = 8) (
    some (μ (μ v0 0) 2)))
  else
    if v1 = 1 then
      chk (KD v0 = 10) (
      chk (KD (μ v0 0) = 8) (
      some (μ (μ v0 0) 3)))
    else
      some (-1)
set_option maxRecDepth 20000 in
theorem gX10_fault_0 (l : Launch) {F : FI} {v0 v1 : Int} {μ : Mm} {t : Int} (h : fX10_fault v0 v1 μ = some t) (hK : F.1 = [(0, t)] ∧ F.2.1 = μ) : GM l mX10_fault F 0 0 0 [(0, (3, v0)), (1, (0, v1))] [] μ := by
  unfold fX10_fault at h
  refine GM_iload_n (pc := 0) 1 rfl (daX10_fault_0 0 rfl) rfl ?_
  refine GM_if_ne (pc := 1) 12 (daX10_fault_0 1 rfl) rfl (fun c1 => ?_) (fun c1 => ?_)
  · skip
    rw [if_neg c1] at h
    refine GM_iload_n (pc := 12) 1 rfl (daX10_fault_0 6 rfl) rfl ?_
    refine GM_iconst (pc := 13) 1 (daX10_fault_0 7 rfl) rfl (R32_b rfl) ?_
    refine GM_icmp_ne (pc := 14) 27 (daX10_fault_0 8 rfl) rfl (fun c2 => ?_) (fun c2 => ?_)
    · skip
      rw [if_neg c2] at h
      refine GM_iconst (pc := 27) (-1) (daX10_fault_0 13 rfl) rfl (R32_b rfl) ?_
      cases h
      exact GM_iret (pc := 28) (daX10_fault_0 14 rfl) rfl hK
    · skip
      rw [if_pos c2] at h
      refine GM_aload_n (pc := 17) 0 rfl (daX10_fault_0 9 rfl) rfl ?_
      obtain ⟨hc3, h⟩ := chk_inv h
      refine GM_getf (pc := 18) 10 0 3 0 kf_X10_12 (Nat.le_of_ble_eq_true rfl) (Nat.le_of_ble_eq_true rfl) rfl (daX10_fault_0 10 rfl) hc3 rfl ?_
      obtain ⟨hc4, h⟩ := chk_inv h
      refine GM_getf (pc := 21) 8 3 0 3 kf_X10_86 (Nat.le_of_ble_eq_true rfl) (Nat.le_of_ble_eq_true rfl) rfl (daX10_fault_0 11 rfl) hc4 rfl ?_
      refine GM_goto (pc := 24) 28 (daX10_fault_0 12 rfl) rfl ?_
      cases h
      exact GM_iret (pc := 28) (daX10_fault_0 14 rfl) rfl hK
  · skip
    rw [if_pos c1] at h
    refine GM_aload_n (pc := 4) 0 rfl (daX10_fault_0 2 rfl) rfl ?_
    obtain ⟨hc5, h⟩ := chk_inv h
    refine GM_getf (pc := 5) 10 0 3 0 kf_X10_12 (Nat.le_of_ble_eq_true rfl) (Nat.le_of_ble_eq_true rfl) rfl (daX10_fault_0 3 rfl) hc5 rfl ?_
    obtain ⟨hc6, h⟩ := chk_inv h
    refine GM_getf (pc := 8) 8 2 0 2 kf_X10_83 (Nat.le_of_ble_eq_true rfl) (Nat.le_of_ble_eq_true rfl) rfl (daX10_fault_0 4 rfl) hc6 rfl ?_
    cases h
    exact GM_iret (pc := 11) (daX10_fault_0 5 rfl) rfl hK
theorem tX10_fault (l : Launch) {v0 v1 : Int} {μ : Mm} {t : Int} (h : fX10_fault v0 v1 μ = some t) : Ct l yX10_fault mX10_fault [(3, v0), (0, v1)] μ ([(0, t)], μ, 0, 0) :=
  Ct_of (by decide +kernel) rfl rfl (Nat.le_of_ble_eq_true rfl) (fun _ _ _ => trivial) (gX10_fault_0 l h ⟨rfl, rfl⟩)
def mX10_landAt : MI := (RX10, cX10_landAt, 2, (some (.object "HillSketch$Land")), "landAt", 0, 0, fun _ _ _ => True)
theorem cwX10_landAt : CWd yX10_landAt mX10_landAt 1 := ⟨ki_X10, kk_X10_landAt, ⟨by decide, by decide⟩, rfl⟩
def dtX10_landAt_0 : List (Nat × Instr × Nat) := [(0, .iload_n 1, 1), (1, .ifCond .lt 31, 3), (4, .iload_n 1, 1), (5, .aload_n 0, 1), (6, .getfield 12, 3), (9, .getfield 116, 3), (12, .if_icmp .ge 20, 3), (15, .iload_n 1, 1), (16, .iconst 2, 1), (17, .if_icmp .ge 15, 3), (20, .aload_n 0, 1), (21, .getfield 12, 3), (24, .getfield 122, 3), (27, .iload_n 1, 1), (28, .aaload, 1), (29, .goto 4, 3), (32, .aconst_null, 1), (33, .areturn, 1)]
theorem ddX10_landAt_0 : (dtX10_landAt_0.all fun e => decide (decode mX10_landAt.2.1 e.1 = .ok (e.2.1, e.2.2))) = true := by decide +kernel
theorem daX10_landAt_0 (j : Nat) {pc n : Nat} {i : Instr} (h : dtX10_landAt_0[j]? = some (pc, i, n)) : decode mX10_landAt.2.1 pc = .ok (i, n) := dec_of (c := mX10_landAt.2.1) ddX10_landAt_0 h
def fX10_landAt (v0 v1 : Int) (μ : Mm) : Option Int :=
  if v1 < 0 then
    some 0
  else
    chk (KD v0 = 10) (
    chk (KD (μ v0 0) = 8) (
    if μ (μ v0 0) 4 ≤ v1 then
      some 0
    else
      if 2 ≤ v1 then
        some 0
      else
        chk (KD (μ (μ v0 0) 6) = 15 ∧ 0 ≤ v1 ∧ v1 < LN (μ (μ v0 0) 6)) (
        some (μ (μ (μ v0 0) 6) v1))))
set_option maxRecDepth 20000 in
theorem gX10_landAt_0 (l : Launch) {F : FI} {v0 v1 : Int} {μ : Mm} {t : Int} (h : fX10_landAt v0 v1 μ = some t) (hK : F.1 = [(3, t)] ∧ F.2.1 = μ) : GM l mX10_landAt F 0 0 0 [(0, (3, v0)), (1, (0, v1))] [] μ := by
  unfold fX10_landAt at h
  refine GM_iload_n (pc := 0) 1 rfl (daX10_landAt_0 0 rfl) rfl ?_
  refine GM_if_lt (pc := 1) 32 (daX10_landAt_0 1 rfl) rfl (fun c1 => ?_) (fun c1 => ?_)
  · skip
    rw [if_pos c1] at h
    refine GM_null (pc := 32) (daX10_landAt_0 16 rfl) ?_
    cases h
    exact GM_aret (pc := 33) "HillSketch$Land" (daX10_landAt_0 17 rfl) rfl hK
  · skip
    rw [if_neg c1] at h
    refine GM_iload_n (pc := 4) 1 rfl (daX10_landAt_0 2 rfl) rfl ?_
    refine GM_aload_n (pc := 5) 0 rfl (daX10_landAt_0 3 rfl) rfl ?_
    obtain ⟨hc2, h⟩ := chk_inv h
    refine GM_getf (pc := 6) 10 0 3 0 kf_X10_12 (Nat.le_of_ble_eq_true rfl) (Nat.le_of_ble_eq_true rfl) rfl (daX10_landAt_0 4 rfl) hc2 rfl ?_
    obtain ⟨hc3, h⟩ := chk_inv h
    refine GM_getf (pc := 9) 8 4 0 4 kf_X10_116 (Nat.le_of_ble_eq_true rfl) (Nat.le_of_ble_eq_true rfl) rfl (daX10_landAt_0 5 rfl) hc3 rfl ?_
    refine GM_icmp_ge (pc := 12) 32 (daX10_landAt_0 6 rfl) rfl (fun c4 => ?_) (fun c4 => ?_)
    · skip
      rw [if_pos c4] at h
      refine GM_null (pc := 32) (daX10_landAt_0 16 rfl) ?_
      cases h
      exact GM_aret (pc := 33) "HillSketch$Land" (daX10_landAt_0 17 rfl) rfl hK
    · skip
      rw [if_neg c4] at h
      refine GM_iload_n (pc := 15) 1 rfl (daX10_landAt_0 7 rfl) rfl ?_
      refine GM_iconst (pc := 16) 2 (daX10_landAt_0 8 rfl) rfl (R32_b rfl) ?_
      refine GM_icmp_ge (pc := 17) 32 (daX10_landAt_0 9 rfl) rfl (fun c5 => ?_) (fun c5 => ?_)
      · skip
        rw [if_pos c5] at h
        refine GM_null (pc := 32) (daX10_landAt_0 16 rfl) ?_
        cases h
        exact GM_aret (pc := 33) "HillSketch$Land" (daX10_landAt_0 17 rfl) rfl hK
      · skip
        rw [if_neg c5] at h
        refine GM_aload_n (pc := 20) 0 rfl (daX10_landAt_0 10 rfl) rfl ?_
        refine GM_getf (pc := 21) 10 0 3 0 kf_X10_12 (Nat.le_of_ble_eq_true rfl) (Nat.le_of_ble_eq_true rfl) rfl (daX10_landAt_0 11 rfl) hc2 rfl ?_
        refine GM_getf (pc := 24) 8 6 3 6 kf_X10_122 (Nat.le_of_ble_eq_true rfl) (Nat.le_of_ble_eq_true rfl) rfl (daX10_landAt_0 12 rfl) hc3 rfl ?_
        refine GM_iload_n (pc := 27) 1 rfl (daX10_landAt_0 13 rfl) rfl ?_
        obtain ⟨hc6, h⟩ := chk_inv h
        refine GM_aald (pc := 28) 15 2 (by decide) (by decide) (fun _ => rfl) (daX10_landAt_0 14 rfl) hc6.1 hc6.2.1 hc6.2.2 ?_
        refine GM_goto (pc := 29) 33 (daX10_landAt_0 15 rfl) rfl ?_
        cases h
        exact GM_aret (pc := 33) "HillSketch$Land" (daX10_landAt_0 17 rfl) rfl hK
theorem tX10_landAt (l : Launch) {v0 v1 : Int} {μ : Mm} {t : Int} (h : fX10_landAt v0 v1 μ = some t) : Ct l yX10_landAt mX10_landAt [(3, v0), (0, v1)] μ ([(3, t)], μ, 0, 0) :=
  Ct_of (by decide +kernel) rfl rfl (Nat.le_of_ble_eq_true rfl) (fun _ _ _ => trivial) (gX10_landAt_0 l h ⟨rfl, rfl⟩)
def mX10_land : MI := (RX10, cX10_land, 4, (some .int), "land", 2, 42, fun _ _ _ => True)
theorem cwX10_land : CWd yX10_land mX10_land 2 := ⟨ki_X10, kk_X10_land, ⟨by decide, by decide⟩, rfl⟩
def dtX10_land_0 : List (Nat × Instr × Nat) := [(0, .aload_n 0, 1), (1, .iload_n 1, 1), (2, .invokevirtual 149, 3), (5, .astore_n 3, 1), (6, .aload_n 3, 1), (7, .ifnonnull 5, 3), (10, .iconst (-1), 1), (11, .ireturn, 1), (12, .iload_n 2, 1), (13, .tableswitch 69 0 5 #[39, 44, 49, 54, 59, 64], 39), (52, .aload_n 3, 1), (53, .getfield 153, 3), (56, .ireturn, 1), (57, .aload_n 3, 1), (58, .getfield 156, 3), (61, .ireturn, 1), (62, .aload_n 3, 1), (63, .getfield 159, 3), (66, .ireturn, 1), (67, .aload_n 3, 1), (68, .getfield 162, 3), (71, .ireturn, 1), (72, .aload_n 3, 1), (73, .getfield 165, 3), (76, .ireturn, 1), (77, .aload_n 3, 1), (78, .getfield 168, 3), (81, .ireturn, 1), (82, .aload_n 3, 1), (83, .iload_n 2, 1), (84, .invokevirtual 171, 3), (87, .ireturn, 1)]
theorem ddX10_land_0 : (dtX10_land_0.all fun e => decide (decode mX10_land.2.1 e.1 = .ok (e.2.1, e.2.2))) = true := by decide +kernel
theorem daX10_land_0 (j : Nat) {pc n : Nat} {i : Instr} (h : dtX10_land_0[j]? = some (pc, i, n)) : decode mX10_land.2.1 pc = .ok (i, n) := dec_of (c := mX10_land.2.1) ddX10_land_0 h
def fX10_land (v0 v1 v2 : Int) (μ : Mm) : Option Int :=
  chk (KD v0 = 10) (
  (fX10_landAt v0 v1 μ).bind fun r2 =>
  if r2 = 0 then
    some (-1)
  else
    if v2 = 0 then
      chk (KD r2 = 2) (
      some (μ r2 0))
    else
    if v2 = 1 then
      chk (KD r2 = 2) (
      some (μ r2 1))
    else
    if v2 = 2 then
      chk (KD r2 = 2) (
      some (μ r2 2))
    else
    if v2 = 3 then
      chk (KD r2 = 2) (
      some (μ r2 3))
    else
    if v2 = 4 then
      chk (KD r2 = 2) (
      some (μ r2 4))
    else
    if v2 = 5 then
      chk (KD r2 = 2) (
      some (μ r2 5))
    else
      chk (KD r2 = 2) (
      (fX2_tellThing r2 v2 μ).bind fun r17 =>
      some r17))
set_option maxRecDepth 20000 in
theorem gX10_land_0 (l : Launch) {F : FI} {v0 v1 v2 : Int} {μ : Mm} {t : Int} (h : fX10_land v0 v1 v2 μ = some t) (hK : F.1 = [(0, t)] ∧ F.2.1 = μ) : GM l mX10_land F 0 0 0 [(0, (3, v0)), (1, (0, v1)), (2, (0, v2))] [] μ := by
  unfold fX10_land at h
  refine GM_aload_n (pc := 0) 0 rfl (daX10_land_0 0 rfl) rfl ?_
  refine GM_iload_n (pc := 1) 1 rfl (daX10_land_0 1 rfl) rfl ?_
  obtain ⟨hc1, h⟩ := chk_inv h
  obtain ⟨r2, hf2, h⟩ := Option.bind_eq_some_iff.mp h
  refine GM_callV0 (pc := 2) [(0, v1)] (tX10_landAt l hf2) cwX10_landAt 10 (Nat.le_of_ble_eq_true rfl) rfl kv_X10_landAt ke_X10_landAt km_X10_149 hc1 ⟨Nat.le_of_ble_eq_true rfl, Nat.le_of_ble_eq_true rfl⟩ (Nat.le_of_ble_eq_true rfl) (Nat.le_of_ble_eq_true rfl) (daX10_land_0 2 rfl) ?_
  refine GM_astore_n (L' := [(3, (3, r2)), (0, (3, v0)), (1, (0, v1)), (2, (0, v2))]) (pc := 5) (daX10_land_0 3 rfl) rfl (Nat.le_of_ble_eq_true rfl) rfl ?_
  refine GM_aload_n (pc := 6) 0 rfl (daX10_land_0 4 rfl) rfl ?_
  refine GM_ifnonnull (pc := 7) 12 (daX10_land_0 5 rfl) rfl (fun c3 => ?_) (fun c3 => ?_)
  · skip
    rw [if_neg c3] at h
    refine GM_iload_n (pc := 12) 3 rfl (daX10_land_0 8 rfl) rfl ?_
    by_cases c4 : v2 = 0
    · rw [if_pos c4] at h
      refine GM_tableIn (pc := 13) 52 (daX10_land_0 9 rfl) (by omega) (by omega) (by rw [c4]; rfl) rfl ?_
      refine GM_aload_n (pc := 52) 0 rfl (daX10_land_0 10 rfl) rfl ?_
      obtain ⟨hc5, h⟩ := chk_inv h
      refine GM_getf (pc := 53) 2 0 0 0 kf_X10_153 (Nat.le_of_ble_eq_true rfl) (Nat.le_of_ble_eq_true rfl) rfl (daX10_land_0 11 rfl) hc5 rfl ?_
      cases h
      exact GM_iret (pc := 56) (daX10_land_0 12 rfl) rfl hK
    rw [if_neg c4] at h
    by_cases c6 : v2 = 1
    · rw [if_pos c6] at h
      refine GM_tableIn (pc := 13) 57 (daX10_land_0 9 rfl) (by omega) (by omega) (by rw [c6]; rfl) rfl ?_
      refine GM_aload_n (pc := 57) 0 rfl (daX10_land_0 13 rfl) rfl ?_
      obtain ⟨hc7, h⟩ := chk_inv h
      refine GM_getf (pc := 58) 2 1 0 1 kf_X10_156 (Nat.le_of_ble_eq_true rfl) (Nat.le_of_ble_eq_true rfl) rfl (daX10_land_0 14 rfl) hc7 rfl ?_
      cases h
      exact GM_iret (pc := 61) (daX10_land_0 15 rfl) rfl hK
    rw [if_neg c6] at h
    by_cases c8 : v2 = 2
    · rw [if_pos c8] at h
      refine GM_tableIn (pc := 13) 62 (daX10_land_0 9 rfl) (by omega) (by omega) (by rw [c8]; rfl) rfl ?_
      refine GM_aload_n (pc := 62) 0 rfl (daX10_land_0 16 rfl) rfl ?_
      obtain ⟨hc9, h⟩ := chk_inv h
      refine GM_getf (pc := 63) 2 2 0 2 kf_X10_159 (Nat.le_of_ble_eq_true rfl) (Nat.le_of_ble_eq_true rfl) rfl (daX10_land_0 17 rfl) hc9 rfl ?_
      cases h
      exact GM_iret (pc := 66) (daX10_land_0 18 rfl) rfl hK
    rw [if_neg c8] at h
    by_cases c10 : v2 = 3
    · rw [if_pos c10] at h
      refine GM_tableIn (pc := 13) 67 (daX10_land_0 9 rfl) (by omega) (by omega) (by rw [c10]; rfl) rfl ?_
      refine GM_aload_n (pc := 67) 0 rfl (daX10_land_0 19 rfl) rfl ?_
      obtain ⟨hc11, h⟩ := chk_inv h
      refine GM_getf (pc := 68) 2 3 0 3 kf_X10_162 (Nat.le_of_ble_eq_true rfl) (Nat.le_of_ble_eq_true rfl) rfl (daX10_land_0 20 rfl) hc11 rfl ?_
      cases h
      exact GM_iret (pc := 71) (daX10_land_0 21 rfl) rfl hK
    rw [if_neg c10] at h
    by_cases c12 : v2 = 4
    · rw [if_pos c12] at h
      refine GM_tableIn (pc := 13) 72 (daX10_land_0 9 rfl) (by omega) (by omega) (by rw [c12]; rfl) rfl ?_
      refine GM_aload_n (pc := 72) 0 rfl (daX10_land_0 22 rfl) rfl ?_
      obtain ⟨hc13, h⟩ := chk_inv h
      refine GM_getf (pc := 73) 2 4 0 4 kf_X10_165 (Nat.le_of_ble_eq_true rfl) (Nat.le_of_ble_eq_true rfl) rfl (daX10_land_0 23 rfl) hc13 rfl ?_
      cases h
      exact GM_iret (pc := 76) (daX10_land_0 24 rfl) rfl hK
    rw [if_neg c12] at h
    by_cases c14 : v2 = 5
    · rw [if_pos c14] at h
      refine GM_tableIn (pc := 13) 77 (daX10_land_0 9 rfl) (by omega) (by omega) (by rw [c14]; rfl) rfl ?_
      refine GM_aload_n (pc := 77) 0 rfl (daX10_land_0 25 rfl) rfl ?_
      obtain ⟨hc15, h⟩ := chk_inv h
      refine GM_getf (pc := 78) 2 5 0 5 kf_X10_168 (Nat.le_of_ble_eq_true rfl) (Nat.le_of_ble_eq_true rfl) rfl (daX10_land_0 26 rfl) hc15 rfl ?_
      cases h
      exact GM_iret (pc := 81) (daX10_land_0 27 rfl) rfl hK
    rw [if_neg c14] at h
    refine GM_tableOut (pc := 13) 82 (daX10_land_0 9 rfl) (by omega) rfl ?_
    refine GM_aload_n (pc := 82) 0 rfl (daX10_land_0 28 rfl) rfl ?_
    refine GM_iload_n (pc := 83) 3 rfl (daX10_land_0 29 rfl) rfl ?_
    obtain ⟨hc16, h⟩ := chk_inv h
    obtain ⟨r17, hf17, h⟩ := Option.bind_eq_some_iff.mp h
    refine GM_callV0 (pc := 84) [(0, v2)] (tX2_tellThing l hf17) cwX2_tellThing 2 (Nat.le_of_ble_eq_true rfl) rfl kv_X2_tellThing ke_X2_tellThing km_X10_171 hc16 ⟨Nat.le_of_ble_eq_true rfl, Nat.le_of_ble_eq_true rfl⟩ (Nat.le_of_ble_eq_true rfl) (Nat.le_of_ble_eq_true rfl) (daX10_land_0 30 rfl) ?_
    cases h
    exact GM_iret (pc := 87) (daX10_land_0 31 rfl) rfl hK
  · skip
    rw [if_pos c3] at h
    refine GM_iconst (pc := 10) (-1) (daX10_land_0 6 rfl) rfl (R32_b rfl) ?_
    cases h
    exact GM_iret (pc := 11) (daX10_land_0 7 rfl) rfl hK
theorem tX10_land (l : Launch) {v0 v1 v2 : Int} {μ : Mm} {t : Int} (h : fX10_land v0 v1 v2 μ = some t) : Ct l yX10_land mX10_land [(3, v0), (0, v1), (0, v2)] μ ([(0, t)], μ, 0, 0) :=
  Ct_of (by decide +kernel) rfl rfl (Nat.le_of_ble_eq_true rfl) (fun _ _ _ => trivial) (gX10_land_0 l h ⟨rfl, rfl⟩)
def mX10_height : MI := (RX10, cX10_height, 4, (some .int), "height", 2, 42, fun _ _ _ => True)
theorem cwX10_height : CWd yX10_height mX10_height 2 := ⟨ki_X10, kk_X10_height, ⟨by decide, by decide⟩, rfl⟩
def dtX10_height_0 : List (Nat × Instr × Nat) := [(0, .aload_n 0, 1), (1, .iload_n 1, 1), (2, .invokevirtual 149, 3), (5, .astore_n 3, 1), (6, .aload_n 3, 1), (7, .ifnull 20, 3), (10, .aload_n 3, 1), (11, .iload_n 2, 1), (12, .invokevirtual 175, 3), (15, .ifCond .eq 12, 3), (18, .aload_n 3, 1), (19, .getfield 179, 3), (22, .iload_n 2, 1), (23, .iaload, 1), (24, .goto 4, 3), (27, .iconst (-1), 1), (28, .ireturn, 1)]
theorem ddX10_height_0 : (dtX10_height_0.all fun e => decide (decode mX10_height.2.1 e.1 = .ok (e.2.1, e.2.2))) = true := by decide +kernel
theorem daX10_height_0 (j : Nat) {pc n : Nat} {i : Instr} (h : dtX10_height_0[j]? = some (pc, i, n)) : decode mX10_height.2.1 pc = .ok (i, n) := dec_of (c := mX10_height.2.1) ddX10_height_0 h
def fX10_height (v0 v1 v2 : Int) (μ : Mm) : Option Int :=
  chk (KD v0 = 10) (
  (fX10_landAt v0 v1 μ).bind fun r2 =>
  if r2 = 0 then
    some (-1)
  else
    chk (KD r2 = 2) (
    (fX2_has r2 v2 μ).bind fun r5 =>
    if r5 = 0 then
      some (-1)
    else
      chk (KD (μ r2 6) = 12 ∧ 0 ≤ v2 ∧ v2 < LN (μ r2 6)) (
      some (μ (μ r2 6) v2))))
set_option maxRecDepth 20000 in
theorem gX10_height_0 (l : Launch) {F : FI} {v0 v1 v2 : Int} {μ : Mm} {t : Int} (h : fX10_height v0 v1 v2 μ = some t) (hK : F.1 = [(0, t)] ∧ F.2.1 = μ) : GM l mX10_height F 0 0 0 [(0, (3, v0)), (1, (0, v1)), (2, (0, v2))] [] μ := by
  unfold fX10_height at h
  refine GM_aload_n (pc := 0) 0 rfl (daX10_height_0 0 rfl) rfl ?_
  refine GM_iload_n (pc := 1) 1 rfl (daX10_height_0 1 rfl) rfl ?_
  obtain ⟨hc1, h⟩ := chk_inv h
  obtain ⟨r2, hf2, h⟩ := Option.bind_eq_some_iff.mp h
  refine GM_callV0 (pc := 2) [(0, v1)] (tX10_landAt l hf2) cwX10_landAt 10 (Nat.le_of_ble_eq_true rfl) rfl kv_X10_landAt ke_X10_landAt km_X10_149 hc1 ⟨Nat.le_of_ble_eq_true rfl, Nat.le_of_ble_eq_true rfl⟩ (Nat.le_of_ble_eq_true rfl) (Nat.le_of_ble_eq_true rfl) (daX10_height_0 2 rfl) ?_
  refine GM_astore_n (L' := [(3, (3, r2)), (0, (3, v0)), (1, (0, v1)), (2, (0, v2))]) (pc := 5) (daX10_height_0 3 rfl) rfl (Nat.le_of_ble_eq_true rfl) rfl ?_
  refine GM_aload_n (pc := 6) 0 rfl (daX10_height_0 4 rfl) rfl ?_
  refine GM_ifnull (pc := 7) 27 (daX10_height_0 5 rfl) rfl (fun c3 => ?_) (fun c3 => ?_)
  · skip
    rw [if_pos c3] at h
    refine GM_iconst (pc := 27) (-1) (daX10_height_0 15 rfl) rfl (R32_b rfl) ?_
    cases h
    exact GM_iret (pc := 28) (daX10_height_0 16 rfl) rfl hK
  · skip
    rw [if_neg c3] at h
    refine GM_aload_n (pc := 10) 0 rfl (daX10_height_0 6 rfl) rfl ?_
    refine GM_iload_n (pc := 11) 3 rfl (daX10_height_0 7 rfl) rfl ?_
    obtain ⟨hc4, h⟩ := chk_inv h
    obtain ⟨r5, hf5, h⟩ := Option.bind_eq_some_iff.mp h
    refine GM_callV0 (pc := 12) [(0, v2)] (tX2_has l hf5) cwX2_has 2 (Nat.le_of_ble_eq_true rfl) rfl kv_X2_has ke_X2_has km_X10_175 hc4 ⟨Nat.le_of_ble_eq_true rfl, Nat.le_of_ble_eq_true rfl⟩ (Nat.le_of_ble_eq_true rfl) (Nat.le_of_ble_eq_true rfl) (daX10_height_0 8 rfl) ?_
    refine GM_if_eq (pc := 15) 27 (daX10_height_0 9 rfl) rfl (fun c6 => ?_) (fun c6 => ?_)
    · skip
      rw [if_pos c6] at h
      refine GM_iconst (pc := 27) (-1) (daX10_height_0 15 rfl) rfl (R32_b rfl) ?_
      cases h
      exact GM_iret (pc := 28) (daX10_height_0 16 rfl) rfl hK
    · skip
      rw [if_neg c6] at h
      refine GM_aload_n (pc := 18) 0 rfl (daX10_height_0 10 rfl) rfl ?_
      refine GM_getf (pc := 19) 2 6 3 6 kf_X10_179 (Nat.le_of_ble_eq_true rfl) (Nat.le_of_ble_eq_true rfl) rfl (daX10_height_0 11 rfl) hc4 rfl ?_
      refine GM_iload_n (pc := 22) 3 rfl (daX10_height_0 12 rfl) rfl ?_
      obtain ⟨hc7, h⟩ := chk_inv h
      refine GM_iald (pc := 23) (daX10_height_0 13 rfl) hc7.1 hc7.2.1 hc7.2.2 ?_
      refine GM_goto (pc := 24) 28 (daX10_height_0 14 rfl) rfl ?_
      cases h
      exact GM_iret (pc := 28) (daX10_height_0 16 rfl) rfl hK
theorem tX10_height (l : Launch) {v0 v1 v2 : Int} {μ : Mm} {t : Int} (h : fX10_height v0 v1 v2 μ = some t) : Ct l yX10_height mX10_height [(3, v0), (0, v1), (0, v2)] μ ([(0, t)], μ, 0, 0) :=
  Ct_of (by decide +kernel) rfl rfl (Nat.le_of_ble_eq_true rfl) (fun _ _ _ => trivial) (gX10_height_0 l h ⟨rfl, rfl⟩)
def mX10_mend : MI := (RX10, cX10_mend, 5, (some .boolean), "mend", 2, 42, fun _ _ _ => True)
theorem cwX10_mend : CWd yX10_mend mX10_mend 3 := ⟨ki_X10, kk_X10_mend, ⟨by decide, by decide⟩, rfl⟩
def dtX10_mend_0 : List (Nat × Instr × Nat) := [(0, .aload_n 0, 1), (1, .iload_n 1, 1), (2, .invokevirtual 149, 3), (5, .astore 4, 2), (7, .aload 4, 2), (9, .ifnull 23, 3), (12, .aload 4, 2), (14, .iload_n 2, 1), (15, .invokevirtual 175, 3), (18, .ifCond .eq 14, 3), (21, .iload_n 3, 1), (22, .ifCond .lt 10, 3), (25, .iload_n 3, 1), (26, .sipush 999, 3), (29, .if_icmp .le 5, 3), (32, .iconst 0, 1), (33, .ireturn, 1), (34, .aload 4, 2), (36, .getfield 179, 3), (39, .iload_n 2, 1), (40, .iload_n 3, 1), (41, .iastore, 1), (42, .aload_n 0, 1), (43, .iload_n 1, 1), (44, .invokevirtual 140, 3), (47, .iconst 1, 1), (48, .ireturn, 1)]
theorem ddX10_mend_0 : (dtX10_mend_0.all fun e => decide (decode mX10_mend.2.1 e.1 = .ok (e.2.1, e.2.2))) = true := by decide +kernel
theorem daX10_mend_0 (j : Nat) {pc n : Nat} {i : Instr} (h : dtX10_mend_0[j]? = some (pc, i, n)) : decode mX10_mend.2.1 pc = .ok (i, n) := dec_of (c := mX10_mend.2.1) ddX10_mend_0 h
def fX10_mend (v0 v1 v2 v3 : Int) (μ : Mm) : Option (Int × Mm) :=
  chk (KD v0 = 10) (
  (fX10_landAt v0 v1 μ).bind fun r2 =>
  if r2 = 0 then
    some (0, μ)
  else
    chk (KD r2 = 2) (
    (fX2_has r2 v2 μ).bind fun r5 =>
    if r5 = 0 then
      some (0, μ)
    else
      if v3 < 0 then
        some (0, μ)
      else
        if v3 ≤ 999 then
          chk (KD (μ r2 6) = 12 ∧ 0 ≤ v2 ∧ v2 < LN (μ r2 6)) (
          lm (mst μ (μ r2 6) v2 v3) fun μ10 =>
          (fX10_forget v0 v1 μ10).bind fun μ11 =>
          some (1, μ11))
        else
          some (0, μ)))
set_option maxRecDepth 20000 in
theorem gX10_mend_0 (l : Launch) {F : FI} {v0 v1 v2 v3 : Int} {μ : Mm} {t : (Int × Mm)} (h : fX10_mend v0 v1 v2 v3 μ = some t) (hK : F.1 = [(0, t.1)] ∧ F.2.1 = t.2) : GM l mX10_mend F 0 0 0 [(0, (3, v0)), (1, (0, v1)), (2, (0, v2)), (3, (0, v3))] [] μ := by
  unfold fX10_mend at h
  refine GM_aload_n (pc := 0) 0 rfl (daX10_mend_0 0 rfl) rfl ?_
  refine GM_iload_n (pc := 1) 1 rfl (daX10_mend_0 1 rfl) rfl ?_
  obtain ⟨hc1, h⟩ := chk_inv h
  obtain ⟨r2, hf2, h⟩ := Option.bind_eq_some_iff.mp h
  refine GM_callV0 (pc := 2) [(0, v1)] (tX10_landAt l hf2) cwX10_landAt 10 (Nat.le_of_ble_eq_true rfl) rfl kv_X10_landAt ke_X10_landAt km_X10_149 hc1 ⟨Nat.le_of_ble_eq_true rfl, Nat.le_of_ble_eq_true rfl⟩ (Nat.le_of_ble_eq_true rfl) (Nat.le_of_ble_eq_true rfl) (daX10_mend_0 2 rfl) ?_
  refine GM_astore (L' := [(4, (3, r2)), (0, (3, v0)), (1, (0, v1)), (2, (0, v2)), (3, (0, v3))]) (pc := 5) (daX10_mend_0 3 rfl) (Nat.le_of_ble_eq_true rfl) rfl ?_
  refine GM_aload (pc := 7) 0 rfl (daX10_mend_0 4 rfl) ?_
  refine GM_ifnull (pc := 9) 32 (daX10_mend_0 5 rfl) rfl (fun c3 => ?_) (fun c3 => ?_)
  · skip
    rw [if_pos c3] at h
    refine GM_iconst (pc := 32) 0 (daX10_mend_0 15 rfl) rfl (R32_b rfl) ?_
    cases h
    exact GM_zret (pc := 33) (daX10_mend_0 16 rfl) rfl (Or.inl rfl) hK
  · skip
    rw [if_neg c3] at h
    refine GM_aload (pc := 12) 0 rfl (daX10_mend_0 6 rfl) ?_
    refine GM_iload_n (pc := 14) 3 rfl (daX10_mend_0 7 rfl) rfl ?_
    obtain ⟨hc4, h⟩ := chk_inv h
    obtain ⟨r5, hf5, h⟩ := Option.bind_eq_some_iff.mp h
    refine GM_callV0 (pc := 15) [(0, v2)] (tX2_has l hf5) cwX2_has 2 (Nat.le_of_ble_eq_true rfl) rfl kv_X2_has ke_X2_has km_X10_175 hc4 ⟨Nat.le_of_ble_eq_true rfl, Nat.le_of_ble_eq_true rfl⟩ (Nat.le_of_ble_eq_true rfl) (Nat.le_of_ble_eq_true rfl) (daX10_mend_0 8 rfl) ?_
    refine GM_if_eq (pc := 18) 32 (daX10_mend_0 9 rfl) rfl (fun c6 => ?_) (fun c6 => ?_)
    · skip
      rw [if_pos c6] at h
      refine GM_iconst (pc := 32) 0 (daX10_mend_0 15 rfl) rfl (R32_b rfl) ?_
      cases h
      exact GM_zret (pc := 33) (daX10_mend_0 16 rfl) rfl (Or.inl rfl) hK
    · skip
      rw [if_neg c6] at h
      refine GM_iload_n (pc := 21) 4 rfl (daX10_mend_0 10 rfl) rfl ?_
      refine GM_if_lt (pc := 22) 32 (daX10_mend_0 11 rfl) rfl (fun c7 => ?_) (fun c7 => ?_)
      · skip
        rw [if_pos c7] at h
        refine GM_iconst (pc := 32) 0 (daX10_mend_0 15 rfl) rfl (R32_b rfl) ?_
        cases h
        exact GM_zret (pc := 33) (daX10_mend_0 16 rfl) rfl (Or.inl rfl) hK
      · skip
        rw [if_neg c7] at h
        refine GM_iload_n (pc := 25) 4 rfl (daX10_mend_0 12 rfl) rfl ?_
        refine GM_sipush (pc := 26) 999 (daX10_mend_0 13 rfl) rfl (R32_b rfl) ?_
        refine GM_icmp_le (pc := 29) 34 (daX10_mend_0 14 rfl) rfl (fun c8 => ?_) (fun c8 => ?_)
        · skip
          rw [if_pos c8] at h
          refine GM_aload (pc := 34) 0 rfl (daX10_mend_0 17 rfl) ?_
          refine GM_getf (pc := 36) 2 6 3 6 kf_X10_179 (Nat.le_of_ble_eq_true rfl) (Nat.le_of_ble_eq_true rfl) rfl (daX10_mend_0 18 rfl) hc4 rfl ?_
          refine GM_iload_n (pc := 39) 3 rfl (daX10_mend_0 19 rfl) rfl ?_
          refine GM_iload_n (pc := 40) 4 rfl (daX10_mend_0 20 rfl) rfl ?_
          obtain ⟨hc9, h⟩ := chk_inv h
          obtain ⟨μ10, hμ10, h⟩ := lm_inv h
          refine GM_iast (pc := 41) (daX10_mend_0 21 rfl) hc9.1 hc9.2.1 hc9.2.2 ?_
          refine GM_mem hμ10 ?_
          refine GM_aload_n (pc := 42) 1 rfl (daX10_mend_0 22 rfl) rfl ?_
          refine GM_iload_n (pc := 43) 2 rfl (daX10_mend_0 23 rfl) rfl ?_
          obtain ⟨μ11, hf11, h⟩ := Option.bind_eq_some_iff.mp h
          refine GM_callV0 (pc := 44) [(0, v1)] (tX10_forget l hf11) cwX10_forget 10 (Nat.le_of_ble_eq_true rfl) rfl kv_X10_forget ke_X10_forget km_X10_140 hc1 ⟨Nat.le_of_ble_eq_true rfl, Nat.le_of_ble_eq_true rfl⟩ (Nat.le_of_ble_eq_true rfl) (Nat.le_of_ble_eq_true rfl) (daX10_mend_0 24 rfl) ?_
          refine GM_iconst (pc := 47) 1 (daX10_mend_0 25 rfl) rfl (R32_b rfl) ?_
          cases h
          exact GM_zret (pc := 48) (daX10_mend_0 26 rfl) rfl (Or.inr rfl) hK
        · skip
          rw [if_neg c8] at h
          refine GM_iconst (pc := 32) 0 (daX10_mend_0 15 rfl) rfl (R32_b rfl) ?_
          cases h
          exact GM_zret (pc := 33) (daX10_mend_0 16 rfl) rfl (Or.inl rfl) hK
theorem tX10_mend (l : Launch) {v0 v1 v2 v3 : Int} {μ : Mm} {t : (Int × Mm)} (h : fX10_mend v0 v1 v2 v3 μ = some t) : Ct l yX10_mend mX10_mend [(3, v0), (0, v1), (0, v2), (0, v3)] μ ([(0, t.1)], t.2, 0, 0) :=
  Ct_of (by decide +kernel) rfl rfl (Nat.le_of_ble_eq_true rfl) (fun _ _ _ => trivial) (gX10_mend_0 l h ⟨rfl, rfl⟩)
def mX10_sketchAt : MI := (RX10, cX10_sketchAt, 2, (some (.object "HillSketch$Sketch")), "sketchAt", 0, 0, fun _ _ _ => True)
theorem cwX10_sketchAt : CWd yX10_sketchAt mX10_sketchAt 1 := ⟨ki_X10, kk_X10_sketchAt, ⟨by decide, by decide⟩, rfl⟩
def dtX10_sketchAt_0 : List (Nat × Instr × Nat) := [(0, .iload_n 1, 1), (1, .ifCond .lt 31, 3), (4, .iload_n 1, 1), (5, .aload_n 0, 1), (6, .getfield 12, 3), (9, .getfield 119, 3), (12, .if_icmp .ge 20, 3), (15, .iload_n 1, 1), (16, .iconst 4, 1), (17, .if_icmp .ge 15, 3), (20, .aload_n 0, 1), (21, .getfield 12, 3), (24, .getfield 143, 3), (27, .iload_n 1, 1), (28, .aaload, 1), (29, .goto 4, 3), (32, .aconst_null, 1), (33, .areturn, 1)]
theorem ddX10_sketchAt_0 : (dtX10_sketchAt_0.all fun e => decide (decode mX10_sketchAt.2.1 e.1 = .ok (e.2.1, e.2.2))) = true := by decide +kernel
theorem daX10_sketchAt_0 (j : Nat) {pc n : Nat} {i : Instr} (h : dtX10_sketchAt_0[j]? = some (pc, i, n)) : decode mX10_sketchAt.2.1 pc = .ok (i, n) := dec_of (c := mX10_sketchAt.2.1) ddX10_sketchAt_0 h
def fX10_sketchAt (v0 v1 : Int) (μ : Mm) : Option Int :=
  if v1 < 0 then
    some 0
  else
    chk (KD v0 = 10) (
    chk (KD (μ v0 0) = 8) (
    if μ (μ v0 0) 5 ≤ v1 then
      some 0
    else
      if 4 ≤ v1 then
        some 0
      else
        chk (KD (μ (μ v0 0) 7) = 17 ∧ 0 ≤ v1 ∧ v1 < LN (μ (μ v0 0) 7)) (
        some (μ (μ (μ v0 0) 7) v1))))
set_option maxRecDepth 20000 in
theorem gX10_sketchAt_0 (l : Launch) {F : FI} {v0 v1 : Int} {μ : Mm} {t : Int} (h : fX10_sketchAt v0 v1 μ = some t) (hK : F.1 = [(3, t)] ∧ F.2.1 = μ) : GM l mX10_sketchAt F 0 0 0 [(0, (3, v0)), (1, (0, v1))] [] μ := by
  unfold fX10_sketchAt at h
  refine GM_iload_n (pc := 0) 1 rfl (daX10_sketchAt_0 0 rfl) rfl ?_
  refine GM_if_lt (pc := 1) 32 (daX10_sketchAt_0 1 rfl) rfl (fun c1 => ?_) (fun c1 => ?_)
  · skip
    rw [if_pos c1] at h
    refine GM_null (pc := 32) (daX10_sketchAt_0 16 rfl) ?_
    cases h
    exact GM_aret (pc := 33) "HillSketch$Sketch" (daX10_sketchAt_0 17 rfl) rfl hK
  · skip
    rw [if_neg c1] at h
    refine GM_iload_n (pc := 4) 1 rfl (daX10_sketchAt_0 2 rfl) rfl ?_
    refine GM_aload_n (pc := 5) 0 rfl (daX10_sketchAt_0 3 rfl) rfl ?_
    obtain ⟨hc2, h⟩ := chk_inv h
    refine GM_getf (pc := 6) 10 0 3 0 kf_X10_12 (Nat.le_of_ble_eq_true rfl) (Nat.le_of_ble_eq_true rfl) rfl (daX10_sketchAt_0 4 rfl) hc2 rfl ?_
    obtain ⟨hc3, h⟩ := chk_inv h
    refine GM_getf (pc := 9) 8 5 0 5 kf_X10_119 (Nat.le_of_ble_eq_true rfl) (Nat.le_of_ble_eq_true rfl) rfl (daX10_sketchAt_0 5 rfl) hc3 rfl ?_
    refine GM_icmp_ge (pc := 12) 32 (daX10_sketchAt_0 6 rfl) rfl (fun c4 => ?_) (fun c4 => ?_)
    · skip
      rw [if_pos c4] at h
      refine GM_null (pc := 32) (daX10_sketchAt_0 16 rfl) ?_
      cases h
      exact GM_aret (pc := 33) "HillSketch$Sketch" (daX10_sketchAt_0 17 rfl) rfl hK
    · skip
      rw [if_neg c4] at h
      refine GM_iload_n (pc := 15) 1 rfl (daX10_sketchAt_0 7 rfl) rfl ?_
      refine GM_iconst (pc := 16) 4 (daX10_sketchAt_0 8 rfl) rfl (R32_b rfl) ?_
      refine GM_icmp_ge (pc := 17) 32 (daX10_sketchAt_0 9 rfl) rfl (fun c5 => ?_) (fun c5 => ?_)
      · skip
        rw [if_pos c5] at h
        refine GM_null (pc := 32) (daX10_sketchAt_0 16 rfl) ?_
        cases h
        exact GM_aret (pc := 33) "HillSketch$Sketch" (daX10_sketchAt_0 17 rfl) rfl hK
      · skip
        rw [if_neg c5] at h
        refine GM_aload_n (pc := 20) 0 rfl (daX10_sketchAt_0 10 rfl) rfl ?_
        refine GM_getf (pc := 21) 10 0 3 0 kf_X10_12 (Nat.le_of_ble_eq_true rfl) (Nat.le_of_ble_eq_true rfl) rfl (daX10_sketchAt_0 11 rfl) hc2 rfl ?_
        refine GM_getf (pc := 24) 8 7 3 7 kf_X10_143 (Nat.le_of_ble_eq_true rfl) (Nat.le_of_ble_eq_true rfl) rfl (daX10_sketchAt_0 12 rfl) hc3 rfl ?_
        refine GM_iload_n (pc := 27) 1 rfl (daX10_sketchAt_0 13 rfl) rfl ?_
        obtain ⟨hc6, h⟩ := chk_inv h
        refine GM_aald (pc := 28) 17 6 (by decide) (by decide) (fun _ => rfl) (daX10_sketchAt_0 14 rfl) hc6.1 hc6.2.1 hc6.2.2 ?_
        refine GM_goto (pc := 29) 33 (daX10_sketchAt_0 15 rfl) rfl ?_
        cases h
        exact GM_aret (pc := 33) "HillSketch$Sketch" (daX10_sketchAt_0 17 rfl) rfl hK
theorem tX10_sketchAt (l : Launch) {v0 v1 : Int} {μ : Mm} {t : Int} (h : fX10_sketchAt v0 v1 μ = some t) : Ct l yX10_sketchAt mX10_sketchAt [(3, v0), (0, v1)] μ ([(3, t)], μ, 0, 0) :=
  Ct_of (by decide +kernel) rfl rfl (Nat.le_of_ble_eq_true rfl) (fun _ _ _ => trivial) (gX10_sketchAt_0 l h ⟨rfl, rfl⟩)
def mX10_sketch : MI := (RX10, cX10_sketch, 4, (some .int), "sketch", 2, 42, fun _ _ _ => True)
theorem cwX10_sketch : CWd yX10_sketch mX10_sketch 2 := ⟨ki_X10, kk_X10_sketch, ⟨by decide, by decide⟩, rfl⟩
def dtX10_sketch_0 : List (Nat × Instr × Nat) := [(0, .aload_n 0, 1), (1, .iload_n 1, 1), (2, .invokevirtual 182, 3), (5, .astore_n 3, 1), (6, .aload_n 3, 1), (7, .ifnonnull 5, 3), (10, .iconst (-1), 1), (11, .ireturn, 1), (12, .iload_n 2, 1), (13, .tableswitch 102 0 6 #[43, 48, 53, 66, 79, 92, 97], 43), (56, .aload_n 3, 1), (57, .getfield 186, 3), (60, .ireturn, 1), (61, .aload_n 3, 1), (62, .getfield 189, 3), (65, .ireturn, 1), (66, .aload_n 3, 1), (67, .getfield 192, 3), (70, .ifCond .eq 7, 3), (73, .iconst 1, 1), (74, .goto 4, 3), (77, .iconst 0, 1), (78, .ireturn, 1), (79, .aload_n 3, 1), (80, .getfield 196, 3), (83, .ifCond .eq 7, 3), (86, .iconst 1, 1), (87, .goto 4, 3), (90, .iconst 0, 1), (91, .ireturn, 1), (92, .aload_n 3, 1), (93, .getfield 199, 3), (96, .ifCond .eq 7, 3), (99, .iconst 1, 1), (100, .goto 4, 3), (103, .iconst 0, 1), (104, .ireturn, 1), (105, .aload_n 3, 1), (106, .getfield 202, 3), (109, .ireturn, 1), (110, .aload_n 3, 1), (111, .getfield 205, 3), (114, .ireturn, 1), (115, .aload_n 3, 1), (116, .iload_n 2, 1), (117, .invokevirtual 208, 3), (120, .ireturn, 1)]
theorem ddX10_sketch_0 : (dtX10_sketch_0.all fun e => decide (decode mX10_sketch.2.1 e.1 = .ok (e.2.1, e.2.2))) = true := by decide +kernel
theorem daX10_sketch_0 (j : Nat) {pc n : Nat} {i : Instr} (h : dtX10_sketch_0[j]? = some (pc, i, n)) : decode mX10_sketch.2.1 pc = .ok (i, n) := dec_of (c := mX10_sketch.2.1) ddX10_sketch_0 h
def fX10_sketch (v0 v1 v2 : Int) (μ : Mm) : Option Int :=
  chk (KD v0 = 10) (
  (fX10_sketchAt v0 v1 μ).bind fun r2 =>
  if r2 = 0 then
    some (-1)
  else
    if v2 = 0 then
      chk (KD r2 = 6) (
      some (μ r2 0))
    else
    if v2 = 1 then
      chk (KD r2 = 6) (
      some (μ r2 1))
    else
    if v2 = 2 then
      chk (KD r2 = 6) (
      if μ r2 2 = 0 then
        some 0
      else
        some 1)
    else
    if v2 = 3 then
      chk (KD r2 = 6) (
      if μ r2 3 = 0 then
        some 0
      else
        some 1)
    else
    if v2 = 4 then
      chk (KD r2 = 6) (
      if μ r2 4 = 0 then
        some 0
      else
        some 1)
    else
    if v2 = 5 then
      chk (KD r2 = 6) (
      some (μ r2 5))
    else
    if v2 = 6 then
      chk (KD r2 = 6) (
      some (μ r2 6))
    else
      chk (KD r2 = 6) (
      (fX6_tellHump r2 v2 μ).bind fun r22 =>
      some r22))
set_option maxRecDepth 20000 in
theorem gX10_sketch_0 (l : Launch) {F : FI} {v0 v1 v2 : Int} {μ : Mm} {t : Int} (h : fX10_sketch v0 v1 v2 μ = some t) (hK : F.1 = [(0, t)] ∧ F.2.1 = μ) : GM l mX10_sketch F 0 0 0 [(0, (3, v0)), (1, (0, v1)), (2, (0, v2))] [] μ := by
  unfold fX10_sketch at h
  refine GM_aload_n (pc := 0) 0 rfl (daX10_sketch_0 0 rfl) rfl ?_
  refine GM_iload_n (pc := 1) 1 rfl (daX10_sketch_0 1 rfl) rfl ?_
  obtain ⟨hc1, h⟩ := chk_inv h
  obtain ⟨r2, hf2, h⟩ := Option.bind_eq_some_iff.mp h
  refine GM_callV0 (pc := 2) [(0, v1)] (tX10_sketchAt l hf2) cwX10_sketchAt 10 (Nat.le_of_ble_eq_true rfl) rfl kv_X10_sketchAt ke_X10_sketchAt km_X10_182 hc1 ⟨Nat.le_of_ble_eq_true rfl, Nat.le_of_ble_eq_true rfl⟩ (Nat.le_of_ble_eq_true rfl) (Nat.le_of_ble_eq_true rfl) (daX10_sketch_0 2 rfl) ?_
  refine GM_astore_n (L' := [(3, (3, r2)), (0, (3, v0)), (1, (0, v1)), (2, (0, v2))]) (pc := 5) (daX10_sketch_0 3 rfl) rfl (Nat.le_of_ble_eq_true rfl) rfl ?_
  refine GM_aload_n (pc := 6) 0 rfl (daX10_sketch_0 4 rfl) rfl ?_
  refine GM_ifnonnull (pc := 7) 12 (daX10_sketch_0 5 rfl) rfl (fun c3 => ?_) (fun c3 => ?_)
  · skip
    rw [if_neg c3] at h
    refine GM_iload_n (pc := 12) 3 rfl (daX10_sketch_0 8 rfl) rfl ?_
    by_cases c4 : v2 = 0
    · rw [if_pos c4] at h
      refine GM_tableIn (pc := 13) 56 (daX10_sketch_0 9 rfl) (by omega) (by omega) (by rw [c4]; rfl) rfl ?_
      refine GM_aload_n (pc := 56) 0 rfl (daX10_sketch_0 10 rfl) rfl ?_
      obtain ⟨hc5, h⟩ := chk_inv h
      refine GM_getf (pc := 57) 6 0 0 0 kf_X10_186 (Nat.le_of_ble_eq_true rfl) (Nat.le_of_ble_eq_true rfl) rfl (daX10_sketch_0 11 rfl) hc5 rfl ?_
      cases h
      exact GM_iret (pc := 60) (daX10_sketch_0 12 rfl) rfl hK
    rw [if_neg c4] at h
    by_cases c6 : v2 = 1
    · rw [if_pos c6] at h
      refine GM_tableIn (pc := 13) 61 (daX10_sketch_0 9 rfl) (by omega) (by omega) (by rw [c6]; rfl) rfl ?_
      refine GM_aload_n (pc := 61) 0 rfl (daX10_sketch_0 13 rfl) rfl ?_
      obtain ⟨hc7, h⟩ := chk_inv h
      refine GM_getf (pc := 62) 6 1 0 1 kf_X10_189 (Nat.le_of_ble_eq_true rfl) (Nat.le_of_ble_eq_true rfl) rfl (daX10_sketch_0 14 rfl) hc7 rfl ?_
      cases h
      exact GM_iret (pc := 65) (daX10_sketch_0 15 rfl) rfl hK
    rw [if_neg c6] at h
    by_cases c8 : v2 = 2
    · rw [if_pos c8] at h
      refine GM_tableIn (pc := 13) 66 (daX10_sketch_0 9 rfl) (by omega) (by omega) (by rw [c8]; rfl) rfl ?_
      refine GM_aload_n (pc := 66) 0 rfl (daX10_sketch_0 16 rfl) rfl ?_
      obtain ⟨hc9, h⟩ := chk_inv h
      refine GM_getf (pc := 67) 6 2 0 2 kf_X10_192 (Nat.le_of_ble_eq_true rfl) (Nat.le_of_ble_eq_true rfl) rfl (daX10_sketch_0 17 rfl) hc9 rfl ?_
      refine GM_if_eq (pc := 70) 77 (daX10_sketch_0 18 rfl) rfl (fun c10 => ?_) (fun c10 => ?_)
      · skip
        rw [if_pos c10] at h
        refine GM_iconst (pc := 77) 0 (daX10_sketch_0 21 rfl) rfl (R32_b rfl) ?_
        cases h
        exact GM_iret (pc := 78) (daX10_sketch_0 22 rfl) rfl hK
      · skip
        rw [if_neg c10] at h
        refine GM_iconst (pc := 73) 1 (daX10_sketch_0 19 rfl) rfl (R32_b rfl) ?_
        refine GM_goto (pc := 74) 78 (daX10_sketch_0 20 rfl) rfl ?_
        cases h
        exact GM_iret (pc := 78) (daX10_sketch_0 22 rfl) rfl hK
    rw [if_neg c8] at h
    by_cases c11 : v2 = 3
    · rw [if_pos c11] at h
      refine GM_tableIn (pc := 13) 79 (daX10_sketch_0 9 rfl) (by omega) (by omega) (by rw [c11]; rfl) rfl ?_
      refine GM_aload_n (pc := 79) 0 rfl (daX10_sketch_0 23 rfl) rfl ?_
      obtain ⟨hc12, h⟩ := chk_inv h
      refine GM_getf (pc := 80) 6 3 0 3 kf_X10_196 (Nat.le_of_ble_eq_true rfl) (Nat.le_of_ble_eq_true rfl) rfl (daX10_sketch_0 24 rfl) hc12 rfl ?_
      refine GM_if_eq (pc := 83) 90 (daX10_sketch_0 25 rfl) rfl (fun c13 => ?_) (fun c13 => ?_)
      · skip
        rw [if_pos c13] at h
        refine GM_iconst (pc := 90) 0 (daX10_sketch_0 28 rfl) rfl (R32_b rfl) ?_
        cases h
        exact GM_iret (pc := 91) (daX10_sketch_0 29 rfl) rfl hK
      · skip
        rw [if_neg c13] at h
        refine GM_iconst (pc := 86) 1 (daX10_sketch_0 26 rfl) rfl (R32_b rfl) ?_
        refine GM_goto (pc := 87) 91 (daX10_sketch_0 27 rfl) rfl ?_
        cases h
        exact GM_iret (pc := 91) (daX10_sketch_0 29 rfl) rfl hK
    rw [if_neg c11] at h
    by_cases c14 : v2 = 4
    · rw [if_pos c14] at h
      refine GM_tableIn (pc := 13) 92 (daX10_sketch_0 9 rfl) (by omega) (by omega) (by rw [c14]; rfl) rfl ?_
      refine GM_aload_n (pc := 92) 0 rfl (daX10_sketch_0 30 rfl) rfl ?_
      obtain ⟨hc15, h⟩ := chk_inv h
      refine GM_getf (pc := 93) 6 4 0 4 kf_X10_199 (Nat.le_of_ble_eq_true rfl) (Nat.le_of_ble_eq_true rfl) rfl (daX10_sketch_0 31 rfl) hc15 rfl ?_
      refine GM_if_eq (pc := 96) 103 (daX10_sketch_0 32 rfl) rfl (fun c16 => ?_) (fun c16 => ?_)
      · skip
        rw [if_pos c16] at h
        refine GM_iconst (pc := 103) 0 (daX10_sketch_0 35 rfl) rfl (R32_b rfl) ?_
        cases h
        exact GM_iret (pc := 104) (daX10_sketch_0 36 rfl) rfl hK
      · skip
        rw [if_neg c16] at h
        refine GM_iconst (pc := 99) 1 (daX10_sketch_0 33 rfl) rfl (R32_b rfl) ?_
        refine GM_goto (pc := 100) 104 (daX10_sketch_0 34 rfl) rfl ?_
        cases h
        exact GM_iret (pc := 104) (daX10_sketch_0 36 rfl) rfl hK
    rw [if_neg c14] at h
    by_cases c17 : v2 = 5
    · rw [if_pos c17] at h
      refine GM_tableIn (pc := 13) 105 (daX10_sketch_0 9 rfl) (by omega) (by omega) (by rw [c17]; rfl) rfl ?_
      refine GM_aload_n (pc := 105) 0 rfl (daX10_sketch_0 37 rfl) rfl ?_
      obtain ⟨hc18, h⟩ := chk_inv h
      refine GM_getf (pc := 106) 6 5 0 5 kf_X10_202 (Nat.le_of_ble_eq_true rfl) (Nat.le_of_ble_eq_true rfl) rfl (daX10_sketch_0 38 rfl) hc18 rfl ?_
      cases h
      exact GM_iret (pc := 109) (daX10_sketch_0 39 rfl) rfl hK
    rw [if_neg c17] at h
    by_cases c19 : v2 = 6
    · rw [if_pos c19] at h
      refine GM_tableIn (pc := 13) 110 (daX10_sketch_0 9 rfl) (by omega) (by omega) (by rw [c19]; rfl) rfl ?_
      refine GM_aload_n (pc := 110) 0 rfl (daX10_sketch_0 40 rfl) rfl ?_
      obtain ⟨hc20, h⟩ := chk_inv h
      refine GM_getf (pc := 111) 6 6 0 6 kf_X10_205 (Nat.le_of_ble_eq_true rfl) (Nat.le_of_ble_eq_true rfl) rfl (daX10_sketch_0 41 rfl) hc20 rfl ?_
      cases h
      exact GM_iret (pc := 114) (daX10_sketch_0 42 rfl) rfl hK
    rw [if_neg c19] at h
    refine GM_tableOut (pc := 13) 115 (daX10_sketch_0 9 rfl) (by omega) rfl ?_
    refine GM_aload_n (pc := 115) 0 rfl (daX10_sketch_0 43 rfl) rfl ?_
    refine GM_iload_n (pc := 116) 3 rfl (daX10_sketch_0 44 rfl) rfl ?_
    obtain ⟨hc21, h⟩ := chk_inv h
    obtain ⟨r22, hf22, h⟩ := Option.bind_eq_some_iff.mp h
    refine GM_callV0 (pc := 117) [(0, v2)] (tX6_tellHump l hf22) cwX6_tellHump 6 (Nat.le_of_ble_eq_true rfl) rfl kv_X6_tellHump ke_X6_tellHump km_X10_208 hc21 ⟨Nat.le_of_ble_eq_true rfl, Nat.le_of_ble_eq_true rfl⟩ (Nat.le_of_ble_eq_true rfl) (Nat.le_of_ble_eq_true rfl) (daX10_sketch_0 45 rfl) ?_
    cases h
    exact GM_iret (pc := 120) (daX10_sketch_0 46 rfl) rfl hK
  · skip
    rw [if_pos c3] at h
    refine GM_iconst (pc := 10) (-1) (daX10_sketch_0 6 rfl) rfl (R32_b rfl) ?_
    cases h
    exact GM_iret (pc := 11) (daX10_sketch_0 7 rfl) rfl hK
theorem tX10_sketch (l : Launch) {v0 v1 v2 : Int} {μ : Mm} {t : Int} (h : fX10_sketch v0 v1 v2 μ = some t) : Ct l yX10_sketch mX10_sketch [(3, v0), (0, v1), (0, v2)] μ ([(0, t)], μ, 0, 0) :=
  Ct_of (by decide +kernel) rfl rfl (Nat.le_of_ble_eq_true rfl) (fun _ _ _ => trivial) (gX10_sketch_0 l h ⟨rfl, rfl⟩)
def mX10_count : MI := (RX10, cX10_count, 2, (some .int), "count", 0, 0, fun _ _ _ => True)
theorem cwX10_count : CWd yX10_count mX10_count 1 := ⟨ki_X10, kk_X10_count, ⟨by decide, by decide⟩, rfl⟩
def dtX10_count_0 : List (Nat × Instr × Nat) := [(0, .iload_n 1, 1), (1, .ifCond .ne 11, 3), (4, .aload_n 0, 1), (5, .getfield 12, 3), (8, .getfield 116, 3), (11, .ireturn, 1), (12, .iload_n 1, 1), (13, .iconst 1, 1), (14, .if_icmp .ne 13, 3), (17, .aload_n 0, 1), (18, .getfield 12, 3), (21, .getfield 119, 3), (24, .goto 5, 3), (27, .bipush (-2), 2), (29, .ireturn, 1)]
theorem ddX10_count_0 : (dtX10_count_0.all fun e => decide (decode mX10_count.2.1 e.1 = .ok (e.2.1, e.2.2))) = true := by decide +kernel
theorem daX10_count_0 (j : Nat) {pc n : Nat} {i : Instr} (h : dtX10_count_0[j]? = some (pc, i, n)) : decode mX10_count.2.1 pc = .ok (i, n) := dec_of (c := mX10_count.2.1) ddX10_count_0 h
def fX10_count (v0 v1 : Int) (μ : Mm) : Option Int :=
  if v1 = 0 then
    chk (KD v0 = 10) (
    chk (KD (μ v0 0) = 8) (
    some (μ (μ v0 0) 4)))
  else
    if v1 = 1 then
      chk (KD v0 = 10) (
      chk (KD (μ v0 0) = 8) (
      some (μ (μ v0 0) 5)))
    else
      some (-2)
set_option maxRecDepth 20000 in
theorem gX10_count_0 (l : Launch) {F : FI} {v0 v1 : Int} {μ : Mm} {t : Int} (h : fX10_count v0 v1 μ = some t) (hK : F.1 = [(0, t)] ∧ F.2.1 = μ) : GM l mX10_count F 0 0 0 [(0, (3, v0)), (1, (0, v1))] [] μ := by
  unfold fX10_count at h
  refine GM_iload_n (pc := 0) 1 rfl (daX10_count_0 0 rfl) rfl ?_
  refine GM_if_ne (pc := 1) 12 (daX10_count_0 1 rfl) rfl (fun c1 => ?_) (fun c1 => ?_)
  · skip
    rw [if_neg c1] at h
    refine GM_iload_n (pc := 12) 1 rfl (daX10_count_0 6 rfl) rfl ?_
    refine GM_iconst (pc := 13) 1 (daX10_count_0 7 rfl) rfl (R32_b rfl) ?_
    refine GM_icmp_ne (pc := 14) 27 (daX10_count_0 8 rfl) rfl (fun c2 => ?_) (fun c2 => ?_)
    · skip
      rw [if_neg c2] at h
      refine GM_bipush (pc := 27) (-2) (daX10_count_0 13 rfl) rfl (R32_b rfl) ?_
      cases h
      exact GM_iret (pc := 29) (daX10_count_0 14 rfl) rfl hK
    · skip
      rw [if_pos c2] at h
      refine GM_aload_n (pc := 17) 0 rfl (daX10_count_0 9 rfl) rfl ?_
      obtain ⟨hc3, h⟩ := chk_inv h
      refine GM_getf (pc := 18) 10 0 3 0 kf_X10_12 (Nat.le_of_ble_eq_true rfl) (Nat.le_of_ble_eq_true rfl) rfl (daX10_count_0 10 rfl) hc3 rfl ?_
      obtain ⟨hc4, h⟩ := chk_inv h
      refine GM_getf (pc := 21) 8 5 0 5 kf_X10_119 (Nat.le_of_ble_eq_true rfl) (Nat.le_of_ble_eq_true rfl) rfl (daX10_count_0 11 rfl) hc4 rfl ?_
      refine GM_goto (pc := 24) 29 (daX10_count_0 12 rfl) rfl ?_
      cases h
      exact GM_iret (pc := 29) (daX10_count_0 14 rfl) rfl hK
  · skip
    rw [if_pos c1] at h
    refine GM_aload_n (pc := 4) 0 rfl (daX10_count_0 2 rfl) rfl ?_
    obtain ⟨hc5, h⟩ := chk_inv h
    refine GM_getf (pc := 5) 10 0 3 0 kf_X10_12 (Nat.le_of_ble_eq_true rfl) (Nat.le_of_ble_eq_true rfl) rfl (daX10_count_0 3 rfl) hc5 rfl ?_
    obtain ⟨hc6, h⟩ := chk_inv h
    refine GM_getf (pc := 8) 8 4 0 4 kf_X10_116 (Nat.le_of_ble_eq_true rfl) (Nat.le_of_ble_eq_true rfl) rfl (daX10_count_0 4 rfl) hc6 rfl ?_
    cases h
    exact GM_iret (pc := 11) (daX10_count_0 5 rfl) rfl hK
theorem tX10_count (l : Launch) {v0 v1 : Int} {μ : Mm} {t : Int} (h : fX10_count v0 v1 μ = some t) : Ct l yX10_count mX10_count [(3, v0), (0, v1)] μ ([(0, t)], μ, 0, 0) :=
  Ct_of (by decide +kernel) rfl rfl (Nat.le_of_ble_eq_true rfl) (fun _ _ _ => trivial) (gX10_count_0 l h ⟨rfl, rfl⟩)
def mX10_image : MI := (RX10, cX10_image, 2, (some .boolean), "image", 3, 104, fun _ _ _ => True)
theorem cwX10_image : CWd yX10_image mX10_image 1 := ⟨ki_X10, kk_X10_image, ⟨by decide, by decide⟩, rfl⟩
def dtX10_image_0 : List (Nat × Instr × Nat) := [(0, .iload_n 1, 1), (1, .ifCond .lt 8, 3), (4, .iload_n 1, 1), (5, .iconst 3, 1), (6, .if_icmp .lt 5, 3), (9, .iconst 0, 1), (10, .ireturn, 1), (11, .aload_n 0, 1), (12, .getfield 16, 3), (15, .iload_n 1, 1), (16, .aaload, 1), (17, .ifnonnull 16, 3), (20, .aload_n 0, 1), (21, .getfield 16, 3), (24, .iload_n 1, 1), (25, .new 9, 3), (28, .dup, 1), (29, .invokespecial 11, 3), (32, .aastore, 1), (33, .aload_n 0, 1), (34, .getfield 16, 3), (37, .iload_n 1, 1), (38, .aaload, 1), (39, .aload_n 0, 1), (40, .getfield 12, 3), (43, .invokevirtual 211, 3), (46, .iconst 1, 1), (47, .ireturn, 1)]
theorem ddX10_image_0 : (dtX10_image_0.all fun e => decide (decode mX10_image.2.1 e.1 = .ok (e.2.1, e.2.2))) = true := by decide +kernel
theorem daX10_image_0 (j : Nat) {pc n : Nat} {i : Instr} (h : dtX10_image_0[j]? = some (pc, i, n)) : decode mX10_image.2.1 pc = .ok (i, n) := dec_of (c := mX10_image.2.1) ddX10_image_0 h
def jX10_image_33 (v0 v1 : Int) (μ : Mm) : Option ((Int × Mm) × Nat × Nat) :=
  chk (KD v0 = 10) (
  chk (KD (μ v0 1) = 19 ∧ 0 ≤ v1 ∧ v1 < LN (μ v0 1)) (
  chk (KD (μ (μ v0 1) v1) = 8) (
  (fX8_take (μ (μ v0 1) v1) (μ v0 0) μ).bind fun μ4 =>
  some ((1, μ4), 0, 0))))
def fX10_image (v0 v1 : Int) (μ : Mm) : Option ((Int × Mm) × Nat × Nat) :=
  if v1 < 0 then
    some ((0, μ), 0, 0)
  else
    if v1 < 3 then
      chk (KD v0 = 10) (
      chk (KD (μ v0 1) = 19 ∧ 0 ≤ v1 ∧ v1 < LN (μ v0 1)) (
      if μ (μ v0 1) v1 = 0 then
        chk (KD (1100 + 100 * v1) = 8 ∧ μ 0 (1100 + 100 * v1) = 0) (
        pay 1 8 (
        lm (mnw μ (1100 + 100 * v1)) fun μ12 =>
        chk (1100 + 100 * v1 ≠ 0) (
        (fX8_init (1100 + 100 * v1) μ12).bind fun (μ14, c14, n14) =>
        pay c14 n14 (
        lm (mst μ14 (μ v0 1) v1 (1100 + 100 * v1)) fun μ16 =>
        jX10_image_33 v0 v1 μ16))))
      else
        jX10_image_33 v0 v1 μ))
    else
      some ((0, μ), 0, 0)
set_option maxRecDepth 20000 in
theorem gX10_image_33 (l : Launch) {F : FI} {v0 v1 : Int} {μ : Mm} {t : (Int × Mm)} {c0 n0 k n : Nat} (h : jX10_image_33 v0 v1 μ = some (t, c0, n0)) (hK : F.1 = [(0, t.1)] ∧ F.2.1 = t.2) : GM l mX10_image F (c0 + k) (n0 + n) 33 [(0, (3, v0)), (1, (0, v1))] [] μ := by
  unfold jX10_image_33 at h
  refine GM_aload_n (pc := 33) 0 rfl (daX10_image_0 19 rfl) rfl ?_
  obtain ⟨hc1, h⟩ := chk_inv h
  refine GM_getf (pc := 34) 10 1 3 1 kf_X10_16 (Nat.le_of_ble_eq_true rfl) (Nat.le_of_ble_eq_true rfl) rfl (daX10_image_0 20 rfl) hc1 rfl ?_
  refine GM_iload_n (pc := 37) 1 rfl (daX10_image_0 21 rfl) rfl ?_
  obtain ⟨hc2, h⟩ := chk_inv h
  refine GM_aald (pc := 38) 19 8 (by decide) (by decide) (fun _ => rfl) (daX10_image_0 22 rfl) hc2.1 hc2.2.1 hc2.2.2 ?_
  refine GM_aload_n (pc := 39) 0 rfl (daX10_image_0 23 rfl) rfl ?_
  refine GM_getf (pc := 40) 10 0 3 0 kf_X10_12 (Nat.le_of_ble_eq_true rfl) (Nat.le_of_ble_eq_true rfl) rfl (daX10_image_0 24 rfl) hc1 rfl ?_
  obtain ⟨hc3, h⟩ := chk_inv h
  obtain ⟨μ4, hf4, h⟩ := Option.bind_eq_some_iff.mp h
  refine GM_callV0 (pc := 43) [(3, μ v0 0)] (tX8_take l hf4) cwX8_take 8 (Nat.le_of_ble_eq_true rfl) rfl kv_X8_take ke_X8_take km_X10_211 hc3 ⟨Nat.le_of_ble_eq_true rfl, Nat.le_of_ble_eq_true rfl⟩ (Nat.le_of_ble_eq_true rfl) (Nat.le_of_ble_eq_true rfl) (daX10_image_0 25 rfl) ?_
  refine GM_iconst (pc := 46) 1 (daX10_image_0 26 rfl) rfl (R32_b rfl) ?_
  cases h
  exact GM_zret (pc := 47) (daX10_image_0 27 rfl) rfl (Or.inr rfl) hK
set_option maxRecDepth 20000 in
theorem gX10_image_0 (l : Launch) {F : FI} {v0 v1 : Int} {μ : Mm} {t : (Int × Mm)} {c0 n0 k n : Nat} (h : fX10_image v0 v1 μ = some (t, c0, n0)) (hK : F.1 = [(0, t.1)] ∧ F.2.1 = t.2) : GM l mX10_image F (c0 + k) (n0 + n) 0 [(0, (3, v0)), (1, (0, v1))] [] μ := by
  unfold fX10_image at h
  refine GM_iload_n (pc := 0) 1 rfl (daX10_image_0 0 rfl) rfl ?_
  refine GM_if_lt (pc := 1) 9 (daX10_image_0 1 rfl) rfl (fun c5 => ?_) (fun c5 => ?_)
  · skip
    rw [if_pos c5] at h
    refine GM_iconst (pc := 9) 0 (daX10_image_0 5 rfl) rfl (R32_b rfl) ?_
    cases h
    exact GM_zret (pc := 10) (daX10_image_0 6 rfl) rfl (Or.inl rfl) hK
  · skip
    rw [if_neg c5] at h
    refine GM_iload_n (pc := 4) 1 rfl (daX10_image_0 2 rfl) rfl ?_
    refine GM_iconst (pc := 5) 3 (daX10_image_0 3 rfl) rfl (R32_b rfl) ?_
    refine GM_icmp_lt (pc := 6) 11 (daX10_image_0 4 rfl) rfl (fun c6 => ?_) (fun c6 => ?_)
    · skip
      rw [if_pos c6] at h
      refine GM_aload_n (pc := 11) 0 rfl (daX10_image_0 7 rfl) rfl ?_
      obtain ⟨hc7, h⟩ := chk_inv h
      refine GM_getf (pc := 12) 10 1 3 1 kf_X10_16 (Nat.le_of_ble_eq_true rfl) (Nat.le_of_ble_eq_true rfl) rfl (daX10_image_0 8 rfl) hc7 rfl ?_
      refine GM_iload_n (pc := 15) 1 rfl (daX10_image_0 9 rfl) rfl ?_
      obtain ⟨hc8, h⟩ := chk_inv h
      refine GM_aald (pc := 16) 19 8 (by decide) (by decide) (fun _ => rfl) (daX10_image_0 10 rfl) hc8.1 hc8.2.1 hc8.2.2 ?_
      refine GM_ifnonnull (pc := 17) 33 (daX10_image_0 11 rfl) rfl (fun c9 => ?_) (fun c9 => ?_)
      · skip
        rw [if_neg c9] at h
        exact gX10_image_33 l h hK
      · skip
        rw [if_pos c9] at h
        refine GM_aload_n (pc := 20) 0 rfl (daX10_image_0 12 rfl) rfl ?_
        refine GM_getf (pc := 21) 10 1 3 1 kf_X10_16 (Nat.le_of_ble_eq_true rfl) (Nat.le_of_ble_eq_true rfl) rfl (daX10_image_0 13 rfl) hc7 rfl ?_
        refine GM_iload_n (pc := 24) 1 rfl (daX10_image_0 14 rfl) rfl ?_
        obtain ⟨hc10, h⟩ := chk_inv h
        obtain ⟨c11, n11, hp, e1, e2⟩ := pay_inv h
        subst e1 e2
        replace h := hp
        clear hp
        rw [Nat.add_assoc, Nat.add_assoc]
        obtain ⟨μ12, hμ12, h⟩ := lm_inv h
        refine GM_new (pc := 25) 8 (1100 + 100 * v1) (by decide) kc_X10_9 (daX10_image_0 15 rfl) hc10.1 hc10.2 ?_
        refine GM_mem hμ12 ?_
        refine GM_dup (pc := 28) (daX10_image_0 16 rfl) (Nat.ne_of_beq_eq_false rfl) ?_
        obtain ⟨hc13, h⟩ := chk_inv h
        obtain ⟨⟨μ14, c14, n14⟩, hf14, h⟩ := Option.bind_eq_some_iff.mp h
        dsimp only at h
        obtain ⟨c15, n15, hp, e1, e2⟩ := pay_inv h
        subst e1 e2
        replace h := hp
        clear hp
        rw [Nat.add_assoc, Nat.add_assoc]
        refine GM_callI (pc := 29) [] (tX8_init l hf14) cwX8_init rfl rfl kv_X8_init km_X10_11 hc13 ⟨Nat.le_of_ble_eq_true rfl, Nat.le_of_ble_eq_true rfl⟩ (Nat.le_of_ble_eq_true rfl) (Nat.le_of_ble_eq_true rfl) (daX10_image_0 17 rfl) ?_
        obtain ⟨μ16, hμ16, h⟩ := lm_inv h
        refine GM_aast (pc := 32) 19 8 (by decide) (by decide) (by decide) (fun _ => rfl) (daX10_image_0 18 rfl) hc8.1 hc8.2.1 hc8.2.2 hc10.1 ?_
        refine GM_mem hμ16 ?_
        exact gX10_image_33 l h hK
    · skip
      rw [if_neg c6] at h
      refine GM_iconst (pc := 9) 0 (daX10_image_0 5 rfl) rfl (R32_b rfl) ?_
      cases h
      exact GM_zret (pc := 10) (daX10_image_0 6 rfl) rfl (Or.inl rfl) hK
theorem tX10_image (l : Launch) {v0 v1 : Int} {μ : Mm} {t : (Int × Mm)} {c0 n0 : Nat} (h : fX10_image v0 v1 μ = some (t, c0, n0)) : Ct l yX10_image mX10_image [(3, v0), (0, v1)] μ ([(0, t.1)], t.2, c0, n0) :=
  Ct_of (by decide +kernel) rfl rfl (Nat.le_of_ble_eq_true rfl) (fun _ _ _ => trivial) (gX10_image_0 (k := 0) (n := 0) l h ⟨rfl, rfl⟩)
def mX10_again : MI := (RX10, cX10_again, 3, (some .boolean), "again", 3, 104, fun _ _ _ => True)
theorem cwX10_again : CWd yX10_again mX10_again 1 := ⟨ki_X10, kk_X10_again, ⟨by decide, by decide⟩, rfl⟩
def dtX10_again_0 : List (Nat × Instr × Nat) := [(0, .iload_n 1, 1), (1, .ifCond .lt 17, 3), (4, .iload_n 1, 1), (5, .iconst 3, 1), (6, .if_icmp .ge 12, 3), (9, .aload_n 0, 1), (10, .getfield 16, 3), (13, .iload_n 1, 1), (14, .aaload, 1), (15, .ifnonnull 5, 3), (18, .iconst 0, 1), (19, .ireturn, 1), (20, .aload_n 0, 1), (21, .getfield 12, 3), (24, .aload_n 0, 1), (25, .getfield 16, 3), (28, .iload_n 1, 1), (29, .aaload, 1), (30, .invokevirtual 211, 3), (33, .iconst 0, 1), (34, .istore_n 2, 1), (35, .iload_n 2, 1), (36, .iconst 2, 1), (37, .if_icmp .ge 14, 3), (40, .aload_n 0, 1), (41, .iload_n 2, 1), (42, .invokevirtual 140, 3), (45, .iinc 2 1, 3), (48, .goto (-13), 3), (51, .iconst 1, 1), (52, .ireturn, 1)]
theorem ddX10_again_0 : (dtX10_again_0.all fun e => decide (decode mX10_again.2.1 e.1 = .ok (e.2.1, e.2.2))) = true := by decide +kernel
theorem daX10_again_0 (j : Nat) {pc n : Nat} {i : Instr} (h : dtX10_again_0[j]? = some (pc, i, n)) : decode mX10_again.2.1 pc = .ok (i, n) := dec_of (c := mX10_again.2.1) ddX10_again_0 h
def zX10_again_35 (l : Launch) (F : FI) (v0 : Int) (k n : Nat) : (Int × Mm) ⊕ Mm → Prop
  | .inl (v2, μ) => GM l mX10_again F k n 35 [(0, (3, v0)), (2, (0, v2))] [] μ
  | .inr μ => GM l mX10_again F k n 51 [] [] μ
def sX10_again_35 (v0 : Int) : (Int × Mm) → Option ((Int × Mm) ⊕ Mm) := fun (v2, μ) =>
  if 2 ≤ v2 then
    some (.inr μ)
  else
    chk (KD v0 = 10) (
    (fX10_forget v0 v2 μ).bind fun μ3 =>
    some (.inl (w32 (v2 + 1), μ3)))
def fX10_again (v0 v1 : Int) (μ : Mm) : Option (Int × Mm) :=
  if v1 < 0 then
    some (0, μ)
  else
    if 3 ≤ v1 then
      some (0, μ)
    else
      chk (KD v0 = 10) (
      chk (KD (μ v0 1) = 19 ∧ 0 ≤ v1 ∧ v1 < LN (μ v0 1)) (
      if μ (μ v0 1) v1 = 0 then
        some (0, μ)
      else
        chk (KD (μ v0 0) = 8) (
        (fX8_take (μ v0 0) (μ (μ v0 1) v1) μ).bind fun μ10 =>
        (lop (sX10_again_35 v0) FU (0, μ10)).bind fun μ_12 =>
          some (1, μ_12))))
set_option maxRecDepth 20000 in
theorem qX10_again_35 (l : Launch) (F : FI) (v0 : Int) (k n : Nat) : ∀ (q : (Int × Mm)) (t : ((Int × Mm) ⊕ Mm)), sX10_again_35 v0 q = some t → zX10_again_35 l F v0 k n t → zX10_again_35 l F v0 k n (.inl q) := by
  intro q t h hK
  obtain ⟨v2, μ⟩ := q
  unfold sX10_again_35 at h
  try dsimp only at h
  show GM l mX10_again F k n 35 [(0, (3, v0)), (2, (0, v2))] [] μ
  refine GM_iload_n (pc := 35) 1 rfl (daX10_again_0 21 rfl) rfl ?_
  refine GM_iconst (pc := 36) 2 (daX10_again_0 22 rfl) rfl (R32_b rfl) ?_
  refine GM_icmp_ge (pc := 37) 51 (daX10_again_0 23 rfl) rfl (fun c1 => ?_) (fun c1 => ?_)
  · skip
    rw [if_pos c1] at h
    refine GM_pick [] rfl ?_
    cases h
    exact hK
  · skip
    rw [if_neg c1] at h
    refine GM_aload_n (pc := 40) 0 rfl (daX10_again_0 24 rfl) rfl ?_
    refine GM_iload_n (pc := 41) 1 rfl (daX10_again_0 25 rfl) rfl ?_
    obtain ⟨hc2, h⟩ := chk_inv h
    obtain ⟨μ3, hf3, h⟩ := Option.bind_eq_some_iff.mp h
    refine GM_callV0 (pc := 42) [(0, v2)] (tX10_forget l hf3) cwX10_forget 10 (Nat.le_of_ble_eq_true rfl) rfl kv_X10_forget ke_X10_forget km_X10_140 hc2 ⟨Nat.le_of_ble_eq_true rfl, Nat.le_of_ble_eq_true rfl⟩ (Nat.le_of_ble_eq_true rfl) (Nat.le_of_ble_eq_true rfl) (daX10_again_0 26 rfl) ?_
    refine GM_iinc (L' := [(2, (0, w32 (v2 + 1))), (0, (3, v0))]) (pc := 45) 1 rfl (daX10_again_0 27 rfl) (Nat.le_of_ble_eq_true rfl) rfl ?_
    refine GM_goto (pc := 48) 35 (daX10_again_0 28 rfl) rfl ?_
    refine GM_pick [1, 0] rfl ?_
    cases h
    exact hK
set_option maxRecDepth 20000 in
theorem gX10_again_0 (l : Launch) {F : FI} {v0 v1 : Int} {μ : Mm} {t : (Int × Mm)} (h : fX10_again v0 v1 μ = some t) (hK : F.1 = [(0, t.1)] ∧ F.2.1 = t.2) : GM l mX10_again F 0 0 0 [(0, (3, v0)), (1, (0, v1))] [] μ := by
  unfold fX10_again at h
  refine GM_iload_n (pc := 0) 1 rfl (daX10_again_0 0 rfl) rfl ?_
  refine GM_if_lt (pc := 1) 18 (daX10_again_0 1 rfl) rfl (fun c4 => ?_) (fun c4 => ?_)
  · skip
    rw [if_pos c4] at h
    refine GM_iconst (pc := 18) 0 (daX10_again_0 10 rfl) rfl (R32_b rfl) ?_
    cases h
    exact GM_zret (pc := 19) (daX10_again_0 11 rfl) rfl (Or.inl rfl) hK
  · skip
    rw [if_neg c4] at h
    refine GM_iload_n (pc := 4) 1 rfl (daX10_again_0 2 rfl) rfl ?_
    refine GM_iconst (pc := 5) 3 (daX10_again_0 3 rfl) rfl (R32_b rfl) ?_
    refine GM_icmp_ge (pc := 6) 18 (daX10_again_0 4 rfl) rfl (fun c5 => ?_) (fun c5 => ?_)
    · skip
      rw [if_pos c5] at h
      refine GM_iconst (pc := 18) 0 (daX10_again_0 10 rfl) rfl (R32_b rfl) ?_
      cases h
      exact GM_zret (pc := 19) (daX10_again_0 11 rfl) rfl (Or.inl rfl) hK
    · skip
      rw [if_neg c5] at h
      refine GM_aload_n (pc := 9) 0 rfl (daX10_again_0 5 rfl) rfl ?_
      obtain ⟨hc6, h⟩ := chk_inv h
      refine GM_getf (pc := 10) 10 1 3 1 kf_X10_16 (Nat.le_of_ble_eq_true rfl) (Nat.le_of_ble_eq_true rfl) rfl (daX10_again_0 6 rfl) hc6 rfl ?_
      refine GM_iload_n (pc := 13) 1 rfl (daX10_again_0 7 rfl) rfl ?_
      obtain ⟨hc7, h⟩ := chk_inv h
      refine GM_aald (pc := 14) 19 8 (by decide) (by decide) (fun _ => rfl) (daX10_again_0 8 rfl) hc7.1 hc7.2.1 hc7.2.2 ?_
      refine GM_ifnonnull (pc := 15) 20 (daX10_again_0 9 rfl) rfl (fun c8 => ?_) (fun c8 => ?_)
      · skip
        rw [if_neg c8] at h
        refine GM_aload_n (pc := 20) 0 rfl (daX10_again_0 12 rfl) rfl ?_
        refine GM_getf (pc := 21) 10 0 3 0 kf_X10_12 (Nat.le_of_ble_eq_true rfl) (Nat.le_of_ble_eq_true rfl) rfl (daX10_again_0 13 rfl) hc6 rfl ?_
        refine GM_aload_n (pc := 24) 0 rfl (daX10_again_0 14 rfl) rfl ?_
        refine GM_getf (pc := 25) 10 1 3 1 kf_X10_16 (Nat.le_of_ble_eq_true rfl) (Nat.le_of_ble_eq_true rfl) rfl (daX10_again_0 15 rfl) hc6 rfl ?_
        refine GM_iload_n (pc := 28) 1 rfl (daX10_again_0 16 rfl) rfl ?_
        refine GM_aald (pc := 29) 19 8 (by decide) (by decide) (fun _ => rfl) (daX10_again_0 17 rfl) hc7.1 hc7.2.1 hc7.2.2 ?_
        obtain ⟨hc9, h⟩ := chk_inv h
        obtain ⟨μ10, hf10, h⟩ := Option.bind_eq_some_iff.mp h
        refine GM_callV0 (pc := 30) [(3, μ (μ v0 1) v1)] (tX8_take l hf10) cwX8_take 8 (Nat.le_of_ble_eq_true rfl) rfl kv_X8_take ke_X8_take km_X10_211 hc9 ⟨Nat.le_of_ble_eq_true rfl, Nat.le_of_ble_eq_true rfl⟩ (Nat.le_of_ble_eq_true rfl) (Nat.le_of_ble_eq_true rfl) (daX10_again_0 18 rfl) ?_
        refine GM_iconst (pc := 33) 0 (daX10_again_0 19 rfl) rfl (R32_b rfl) ?_
        refine GM_istore_n (L' := [(2, (0, 0)), (0, (3, v0)), (1, (0, v1))]) (pc := 34) (daX10_again_0 20 rfl) rfl (Nat.le_of_ble_eq_true rfl) rfl ?_
        refine GM_pick [1, 0] rfl ?_
        obtain ⟨x11, hqx11, h⟩ := Option.bind_eq_some_iff.mp h
        refine lop_ind (zX10_again_35 l F v0 0 0) (qX10_again_35 l F v0 0 0) FU _ x11 hqx11 ?_
        obtain ⟨μ_12, hqq⟩ : ∃ z, z = x11 := ⟨x11, rfl⟩
        subst hqq
        show GM l mX10_again F 0 0 51 [] [] μ_12
        refine GM_iconst (pc := 51) 1 (daX10_again_0 29 rfl) rfl (R32_b rfl) ?_
        cases h
        exact GM_zret (pc := 52) (daX10_again_0 30 rfl) rfl (Or.inr rfl) hK
      · skip
        rw [if_pos c8] at h
        refine GM_iconst (pc := 18) 0 (daX10_again_0 10 rfl) rfl (R32_b rfl) ?_
        cases h
        exact GM_zret (pc := 19) (daX10_again_0 11 rfl) rfl (Or.inl rfl) hK
theorem tX10_again (l : Launch) {v0 v1 : Int} {μ : Mm} {t : (Int × Mm)} (h : fX10_again v0 v1 μ = some t) : Ct l yX10_again mX10_again [(3, v0), (0, v1)] μ ([(0, t.1)], t.2, 0, 0) :=
  Ct_of (by decide +kernel) rfl rfl (Nat.le_of_ble_eq_true rfl) (fun _ _ _ => trivial) (gX10_again_0 l h ⟨rfl, rfl⟩)
def mX10_sceneAt : MI := (RX10, cX10_sceneAt, 3, (some (.object "HillSketch$Scene")), "sceneAt", 3, 58, fun _ _ _ => True)
theorem cwX10_sceneAt : CWd yX10_sceneAt mX10_sceneAt 1 := ⟨ki_X10, kk_X10_sceneAt, ⟨by decide, by decide⟩, rfl⟩
def dtX10_sceneAt_0 : List (Nat × Instr × Nat) := [(0, .aload_n 0, 1), (1, .iload_n 1, 1), (2, .invokevirtual 149, 3), (5, .astore_n 2, 1), (6, .aload_n 2, 1), (7, .ifnull 12, 3), (10, .iload_n 1, 1), (11, .ifCond .lt 8, 3), (14, .iload_n 1, 1), (15, .iconst 2, 1), (16, .if_icmp .lt 5, 3), (19, .aconst_null, 1), (20, .areturn, 1), (21, .aload_n 0, 1), (22, .getfield 36, 3), (25, .iload_n 1, 1), (26, .aaload, 1), (27, .ifnonnull 21, 3), (30, .aload_n 0, 1), (31, .getfield 36, 3), (34, .iload_n 1, 1), (35, .new 34, 3), (38, .dup, 1), (39, .aload_n 2, 1), (40, .aload_n 0, 1), (41, .getfield 30, 3), (44, .invokespecial 214, 3), (47, .aastore, 1), (48, .aload_n 0, 1), (49, .getfield 36, 3), (52, .iload_n 1, 1), (53, .aaload, 1), (54, .areturn, 1)]
theorem ddX10_sceneAt_0 : (dtX10_sceneAt_0.all fun e => decide (decode mX10_sceneAt.2.1 e.1 = .ok (e.2.1, e.2.2))) = true := by decide +kernel
theorem daX10_sceneAt_0 (j : Nat) {pc n : Nat} {i : Instr} (h : dtX10_sceneAt_0[j]? = some (pc, i, n)) : decode mX10_sceneAt.2.1 pc = .ok (i, n) := dec_of (c := mX10_sceneAt.2.1) ddX10_sceneAt_0 h
def fX10_sceneAt (v0 v1 : Int) (μ : Mm) : Option ((Int × Mm) × Nat × Nat) :=
  chk (KD v0 = 10) (
  (fX10_landAt v0 v1 μ).bind fun r2 =>
  if r2 = 0 then
    some ((0, μ), 0, 0)
  else
    if v1 < 0 then
      some ((0, μ), 0, 0)
    else
      if v1 < 2 then
        chk (KD (μ v0 4) = 16 ∧ 0 ≤ v1 ∧ v1 < LN (μ v0 4)) (
        if μ (μ v0 4) v1 = 0 then
          chk (KD (10000 + 2000 * v1) = 4 ∧ μ 0 (10000 + 2000 * v1) = 0) (
          pay 1 11 (
          lm (mnw μ (10000 + 2000 * v1)) fun μ10 =>
          chk (10000 + 2000 * v1 ≠ 0) (
          (fX4_init (10000 + 2000 * v1) r2 (μ10 v0 3) μ10).bind fun (μ12, c12, n12) =>
          pay c12 n12 (
          lm (mst μ12 (μ v0 4) v1 (10000 + 2000 * v1)) fun μ14 =>
          chk (KD (μ14 v0 4) = 16 ∧ v1 < LN (μ14 v0 4)) (
          some ((μ14 (μ14 v0 4) v1, μ14), 0, 0))))))
        else
          some ((μ (μ v0 4) v1, μ), 0, 0))
      else
        some ((0, μ), 0, 0))
set_option maxRecDepth 20000 in
theorem gX10_sceneAt_0 (l : Launch) {F : FI} {v0 v1 : Int} {μ : Mm} {t : (Int × Mm)} {c0 n0 k n : Nat} (h : fX10_sceneAt v0 v1 μ = some (t, c0, n0)) (hK : F.1 = [(3, t.1)] ∧ F.2.1 = t.2) : GM l mX10_sceneAt F (c0 + k) (n0 + n) 0 [(0, (3, v0)), (1, (0, v1))] [] μ := by
  unfold fX10_sceneAt at h
  refine GM_aload_n (pc := 0) 0 rfl (daX10_sceneAt_0 0 rfl) rfl ?_
  refine GM_iload_n (pc := 1) 1 rfl (daX10_sceneAt_0 1 rfl) rfl ?_
  obtain ⟨hc1, h⟩ := chk_inv h
  obtain ⟨r2, hf2, h⟩ := Option.bind_eq_some_iff.mp h
  refine GM_callV0 (pc := 2) [(0, v1)] (tX10_landAt l hf2) cwX10_landAt 10 (Nat.le_of_ble_eq_true rfl) rfl kv_X10_landAt ke_X10_landAt km_X10_149 hc1 ⟨Nat.le_of_ble_eq_true rfl, Nat.le_of_ble_eq_true rfl⟩ (Nat.le_of_ble_eq_true rfl) (Nat.le_of_ble_eq_true rfl) (daX10_sceneAt_0 2 rfl) ?_
  refine GM_astore_n (L' := [(2, (3, r2)), (0, (3, v0)), (1, (0, v1))]) (pc := 5) (daX10_sceneAt_0 3 rfl) rfl (Nat.le_of_ble_eq_true rfl) rfl ?_
  refine GM_aload_n (pc := 6) 0 rfl (daX10_sceneAt_0 4 rfl) rfl ?_
  refine GM_ifnull (pc := 7) 19 (daX10_sceneAt_0 5 rfl) rfl (fun c3 => ?_) (fun c3 => ?_)
  · skip
    rw [if_pos c3] at h
    refine GM_null (pc := 19) (daX10_sceneAt_0 11 rfl) ?_
    cases h
    exact GM_aret (pc := 20) "HillSketch$Scene" (daX10_sceneAt_0 12 rfl) rfl hK
  · skip
    rw [if_neg c3] at h
    refine GM_iload_n (pc := 10) 2 rfl (daX10_sceneAt_0 6 rfl) rfl ?_
    refine GM_if_lt (pc := 11) 19 (daX10_sceneAt_0 7 rfl) rfl (fun c4 => ?_) (fun c4 => ?_)
    · skip
      rw [if_pos c4] at h
      refine GM_null (pc := 19) (daX10_sceneAt_0 11 rfl) ?_
      cases h
      exact GM_aret (pc := 20) "HillSketch$Scene" (daX10_sceneAt_0 12 rfl) rfl hK
    · skip
      rw [if_neg c4] at h
      refine GM_iload_n (pc := 14) 2 rfl (daX10_sceneAt_0 8 rfl) rfl ?_
      refine GM_iconst (pc := 15) 2 (daX10_sceneAt_0 9 rfl) rfl (R32_b rfl) ?_
      refine GM_icmp_lt (pc := 16) 21 (daX10_sceneAt_0 10 rfl) rfl (fun c5 => ?_) (fun c5 => ?_)
      · skip
        rw [if_pos c5] at h
        refine GM_aload_n (pc := 21) 1 rfl (daX10_sceneAt_0 13 rfl) rfl ?_
        refine GM_getf (pc := 22) 10 4 3 4 kf_X10_36 (Nat.le_of_ble_eq_true rfl) (Nat.le_of_ble_eq_true rfl) rfl (daX10_sceneAt_0 14 rfl) hc1 rfl ?_
        refine GM_iload_n (pc := 25) 2 rfl (daX10_sceneAt_0 15 rfl) rfl ?_
        obtain ⟨hc6, h⟩ := chk_inv h
        refine GM_aald (pc := 26) 16 4 (by decide) (by decide) (fun _ => rfl) (daX10_sceneAt_0 16 rfl) hc6.1 hc6.2.1 hc6.2.2 ?_
        refine GM_ifnonnull (pc := 27) 48 (daX10_sceneAt_0 17 rfl) rfl (fun c7 => ?_) (fun c7 => ?_)
        · skip
          rw [if_neg c7] at h
          refine GM_aload_n (pc := 48) 1 rfl (daX10_sceneAt_0 28 rfl) rfl ?_
          refine GM_getf (pc := 49) 10 4 3 4 kf_X10_36 (Nat.le_of_ble_eq_true rfl) (Nat.le_of_ble_eq_true rfl) rfl (daX10_sceneAt_0 29 rfl) hc1 rfl ?_
          refine GM_iload_n (pc := 52) 2 rfl (daX10_sceneAt_0 30 rfl) rfl ?_
          refine GM_aald (pc := 53) 16 4 (by decide) (by decide) (fun _ => rfl) (daX10_sceneAt_0 31 rfl) hc6.1 hc6.2.1 hc6.2.2 ?_
          cases h
          exact GM_aret (pc := 54) "HillSketch$Scene" (daX10_sceneAt_0 32 rfl) rfl hK
        · skip
          rw [if_pos c7] at h
          refine GM_aload_n (pc := 30) 1 rfl (daX10_sceneAt_0 18 rfl) rfl ?_
          refine GM_getf (pc := 31) 10 4 3 4 kf_X10_36 (Nat.le_of_ble_eq_true rfl) (Nat.le_of_ble_eq_true rfl) rfl (daX10_sceneAt_0 19 rfl) hc1 rfl ?_
          refine GM_iload_n (pc := 34) 2 rfl (daX10_sceneAt_0 20 rfl) rfl ?_
          obtain ⟨hc8, h⟩ := chk_inv h
          obtain ⟨c9, n9, hp, e1, e2⟩ := pay_inv h
          subst e1 e2
          replace h := hp
          clear hp
          rw [Nat.add_assoc, Nat.add_assoc]
          obtain ⟨μ10, hμ10, h⟩ := lm_inv h
          refine GM_new (pc := 35) 4 (10000 + 2000 * v1) (by decide) kc_X10_34 (daX10_sceneAt_0 21 rfl) hc8.1 hc8.2 ?_
          refine GM_mem hμ10 ?_
          refine GM_dup (pc := 38) (daX10_sceneAt_0 22 rfl) (Nat.ne_of_beq_eq_false rfl) ?_
          refine GM_aload_n (pc := 39) 0 rfl (daX10_sceneAt_0 23 rfl) rfl ?_
          refine GM_aload_n (pc := 40) 1 rfl (daX10_sceneAt_0 24 rfl) rfl ?_
          refine GM_getf (pc := 41) 10 3 3 3 kf_X10_30 (Nat.le_of_ble_eq_true rfl) (Nat.le_of_ble_eq_true rfl) rfl (daX10_sceneAt_0 25 rfl) hc1 rfl ?_
          obtain ⟨hc11, h⟩ := chk_inv h
          obtain ⟨⟨μ12, c12, n12⟩, hf12, h⟩ := Option.bind_eq_some_iff.mp h
          dsimp only at h
          obtain ⟨c13, n13, hp, e1, e2⟩ := pay_inv h
          subst e1 e2
          replace h := hp
          clear hp
          rw [Nat.add_assoc, Nat.add_assoc]
          refine GM_callI (pc := 44) [(3, r2), (3, μ10 v0 3)] (tX4_init l hf12) cwX4_init rfl rfl kv_X4_init km_X10_214 hc11 ⟨Nat.le_of_ble_eq_true rfl, Nat.le_of_ble_eq_true rfl⟩ (Nat.le_of_ble_eq_true rfl) (Nat.le_of_ble_eq_true rfl) (daX10_sceneAt_0 26 rfl) ?_
          obtain ⟨μ14, hμ14, h⟩ := lm_inv h
          refine GM_aast (pc := 47) 16 4 (by decide) (by decide) (by decide) (fun _ => rfl) (daX10_sceneAt_0 27 rfl) hc6.1 hc6.2.1 hc6.2.2 hc8.1 ?_
          refine GM_mem hμ14 ?_
          refine GM_aload_n (pc := 48) 1 rfl (daX10_sceneAt_0 28 rfl) rfl ?_
          refine GM_getf (pc := 49) 10 4 3 4 kf_X10_36 (Nat.le_of_ble_eq_true rfl) (Nat.le_of_ble_eq_true rfl) rfl (daX10_sceneAt_0 29 rfl) hc1 rfl ?_
          refine GM_iload_n (pc := 52) 2 rfl (daX10_sceneAt_0 30 rfl) rfl ?_
          obtain ⟨hc15, h⟩ := chk_inv h
          refine GM_aald (pc := 53) 16 4 (by decide) (by decide) (fun _ => rfl) (daX10_sceneAt_0 31 rfl) hc15.1 hc6.2.1 hc15.2 ?_
          cases h
          exact GM_aret (pc := 54) "HillSketch$Scene" (daX10_sceneAt_0 32 rfl) rfl hK
      · skip
        rw [if_neg c5] at h
        refine GM_null (pc := 19) (daX10_sceneAt_0 11 rfl) ?_
        cases h
        exact GM_aret (pc := 20) "HillSketch$Scene" (daX10_sceneAt_0 12 rfl) rfl hK
theorem tX10_sceneAt (l : Launch) {v0 v1 : Int} {μ : Mm} {t : (Int × Mm)} {c0 n0 : Nat} (h : fX10_sceneAt v0 v1 μ = some (t, c0, n0)) : Ct l yX10_sceneAt mX10_sceneAt [(3, v0), (0, v1)] μ ([(3, t.1)], t.2, c0, n0) :=
  Ct_of (by decide +kernel) rfl rfl (Nat.le_of_ble_eq_true rfl) (fun _ _ _ => trivial) (gX10_sceneAt_0 (k := 0) (n := 0) l h ⟨rfl, rfl⟩)
def mX10_lineAt : MI := (RX10, cX10_lineAt, 4, (some (.object "HillSketch$Skyline")), "lineAt", 4, 99, fun _ _ _ => True)
theorem cwX10_lineAt : CWd yX10_lineAt mX10_lineAt 2 := ⟨ki_X10, kk_X10_lineAt, ⟨by decide, by decide⟩, rfl⟩
def dtX10_lineAt_0 : List (Nat × Instr × Nat) := [(0, .aload_n 0, 1), (1, .iload_n 1, 1), (2, .invokevirtual 220, 3), (5, .astore_n 3, 1), (6, .aload_n 3, 1), (7, .ifnull 22, 3), (10, .aload_n 3, 1), (11, .getfield 224, 3), (14, .iload_n 2, 1), (15, .invokevirtual 175, 3), (18, .ifCond .eq 11, 3), (21, .aload_n 3, 1), (22, .iload_n 2, 1), (23, .invokevirtual 225, 3), (26, .goto 4, 3), (29, .aconst_null, 1), (30, .areturn, 1)]
theorem ddX10_lineAt_0 : (dtX10_lineAt_0.all fun e => decide (decode mX10_lineAt.2.1 e.1 = .ok (e.2.1, e.2.2))) = true := by decide +kernel
theorem daX10_lineAt_0 (j : Nat) {pc n : Nat} {i : Instr} (h : dtX10_lineAt_0[j]? = some (pc, i, n)) : decode mX10_lineAt.2.1 pc = .ok (i, n) := dec_of (c := mX10_lineAt.2.1) ddX10_lineAt_0 h
def fX10_lineAt (v0 v1 v2 : Int) (μ : Mm) : Option ((Int × Mm) × Nat × Nat) :=
  chk (KD v0 = 10) (
  (fX10_sceneAt v0 v1 μ).bind fun ((r2, μ2), c2, n2) =>
  pay c2 n2 (
  if r2 = 0 then
    some ((0, μ2), 0, 0)
  else
    chk (KD r2 = 4) (
    chk (KD (μ2 r2 0) = 2) (
    (fX2_has (μ2 r2 0) v2 μ2).bind fun r7 =>
    if r7 = 0 then
      some ((0, μ2), 0, 0)
    else
      (fX4_lineOf r2 v2 μ2).bind fun ((r9, μ9), c9, n9) =>
      pay c9 n9 (
      some ((r9, μ9), 0, 0))))))
set_option maxRecDepth 20000 in
theorem gX10_lineAt_0 (l : Launch) {F : FI} {v0 v1 v2 : Int} {μ : Mm} {t : (Int × Mm)} {c0 n0 k n : Nat} (h : fX10_lineAt v0 v1 v2 μ = some (t, c0, n0)) (hK : F.1 = [(3, t.1)] ∧ F.2.1 = t.2) : GM l mX10_lineAt F (c0 + k) (n0 + n) 0 [(0, (3, v0)), (1, (0, v1)), (2, (0, v2))] [] μ := by
  unfold fX10_lineAt at h
  refine GM_aload_n (pc := 0) 0 rfl (daX10_lineAt_0 0 rfl) rfl ?_
  refine GM_iload_n (pc := 1) 1 rfl (daX10_lineAt_0 1 rfl) rfl ?_
  obtain ⟨hc1, h⟩ := chk_inv h
  obtain ⟨⟨⟨r2, μ2⟩, c2, n2⟩, hf2, h⟩ := Option.bind_eq_some_iff.mp h
  dsimp only at h
  obtain ⟨c3, n3, hp, e1, e2⟩ := pay_inv h
  subst e1 e2
  replace h := hp
  clear hp
  rw [Nat.add_assoc, Nat.add_assoc]
  refine GM_callV (pc := 2) [(0, v1)] (tX10_sceneAt l hf2) cwX10_sceneAt 10 (Nat.le_of_ble_eq_true rfl) rfl kv_X10_sceneAt ke_X10_sceneAt km_X10_220 hc1 ⟨Nat.le_of_ble_eq_true rfl, Nat.le_of_ble_eq_true rfl⟩ (Nat.le_of_ble_eq_true rfl) (Nat.le_of_ble_eq_true rfl) (daX10_lineAt_0 2 rfl) ?_
  refine GM_astore_n (L' := [(3, (3, r2)), (0, (3, v0)), (1, (0, v1)), (2, (0, v2))]) (pc := 5) (daX10_lineAt_0 3 rfl) rfl (Nat.le_of_ble_eq_true rfl) rfl ?_
  refine GM_aload_n (pc := 6) 0 rfl (daX10_lineAt_0 4 rfl) rfl ?_
  refine GM_ifnull (pc := 7) 29 (daX10_lineAt_0 5 rfl) rfl (fun c4 => ?_) (fun c4 => ?_)
  · skip
    rw [if_pos c4] at h
    refine GM_null (pc := 29) (daX10_lineAt_0 15 rfl) ?_
    cases h
    exact GM_aret (pc := 30) "HillSketch$Skyline" (daX10_lineAt_0 16 rfl) rfl hK
  · skip
    rw [if_neg c4] at h
    refine GM_aload_n (pc := 10) 0 rfl (daX10_lineAt_0 6 rfl) rfl ?_
    obtain ⟨hc5, h⟩ := chk_inv h
    refine GM_getf (pc := 11) 4 0 3 0 kf_X10_224 (Nat.le_of_ble_eq_true rfl) (Nat.le_of_ble_eq_true rfl) rfl (daX10_lineAt_0 7 rfl) hc5 rfl ?_
    refine GM_iload_n (pc := 14) 3 rfl (daX10_lineAt_0 8 rfl) rfl ?_
    obtain ⟨hc6, h⟩ := chk_inv h
    obtain ⟨r7, hf7, h⟩ := Option.bind_eq_some_iff.mp h
    refine GM_callV0 (pc := 15) [(0, v2)] (tX2_has l hf7) cwX2_has 2 (Nat.le_of_ble_eq_true rfl) rfl kv_X2_has ke_X2_has km_X10_175 hc6 ⟨Nat.le_of_ble_eq_true rfl, Nat.le_of_ble_eq_true rfl⟩ (Nat.le_of_ble_eq_true rfl) (Nat.le_of_ble_eq_true rfl) (daX10_lineAt_0 9 rfl) ?_
    refine GM_if_eq (pc := 18) 29 (daX10_lineAt_0 10 rfl) rfl (fun c8 => ?_) (fun c8 => ?_)
    · skip
      rw [if_pos c8] at h
      refine GM_null (pc := 29) (daX10_lineAt_0 15 rfl) ?_
      cases h
      exact GM_aret (pc := 30) "HillSketch$Skyline" (daX10_lineAt_0 16 rfl) rfl hK
    · skip
      rw [if_neg c8] at h
      refine GM_aload_n (pc := 21) 0 rfl (daX10_lineAt_0 11 rfl) rfl ?_
      refine GM_iload_n (pc := 22) 3 rfl (daX10_lineAt_0 12 rfl) rfl ?_
      obtain ⟨⟨⟨r9, μ9⟩, c9, n9⟩, hf9, h⟩ := Option.bind_eq_some_iff.mp h
      dsimp only at h
      obtain ⟨c10, n10, hp, e1, e2⟩ := pay_inv h
      subst e1 e2
      replace h := hp
      clear hp
      rw [Nat.add_assoc, Nat.add_assoc]
      refine GM_callV (pc := 23) [(0, v2)] (tX4_lineOf l hf9) cwX4_lineOf 4 (Nat.le_of_ble_eq_true rfl) rfl kv_X4_lineOf ke_X4_lineOf km_X10_225 hc5 ⟨Nat.le_of_ble_eq_true rfl, Nat.le_of_ble_eq_true rfl⟩ (Nat.le_of_ble_eq_true rfl) (Nat.le_of_ble_eq_true rfl) (daX10_lineAt_0 13 rfl) ?_
      refine GM_goto (pc := 26) 30 (daX10_lineAt_0 14 rfl) rfl ?_
      cases h
      exact GM_aret (pc := 30) "HillSketch$Skyline" (daX10_lineAt_0 16 rfl) rfl hK
theorem tX10_lineAt (l : Launch) {v0 v1 v2 : Int} {μ : Mm} {t : (Int × Mm)} {c0 n0 : Nat} (h : fX10_lineAt v0 v1 v2 μ = some (t, c0, n0)) : Ct l yX10_lineAt mX10_lineAt [(3, v0), (0, v1), (0, v2)] μ ([(3, t.1)], t.2, c0, n0) :=
  Ct_of (by decide +kernel) rfl rfl (Nat.le_of_ble_eq_true rfl) (fun _ _ _ => trivial) (gX10_lineAt_0 (k := 0) (n := 0) l h ⟨rfl, rfl⟩)
def mX10_rise : MI := (RX10, cX10_rise, 5, (some .int), "rise", 2, 45, fun _ _ _ => True)
theorem cwX10_rise : CWd yX10_rise mX10_rise 3 := ⟨ki_X10, kk_X10_rise, ⟨by decide, by decide⟩, rfl⟩
def dtX10_rise_0 : List (Nat × Instr × Nat) := [(0, .aload_n 0, 1), (1, .iload_n 1, 1), (2, .invokevirtual 149, 3), (5, .astore 4, 2), (7, .aload 4, 2), (9, .ifnull 26, 3), (12, .aload 4, 2), (14, .iload_n 2, 1), (15, .invokevirtual 175, 3), (18, .ifCond .eq 17, 3), (21, .aload 4, 2), (23, .iload_n 3, 1), (24, .invokevirtual 175, 3), (27, .ifCond .eq 8, 3), (30, .iload_n 2, 1), (31, .iload_n 3, 1), (32, .if_icmp .ne 7, 3), (35, .sipush (-10000), 3), (38, .ireturn, 1), (39, .aload 4, 2), (41, .iload_n 2, 1), (42, .iload_n 3, 1), (43, .aload 4, 2), (45, .iload_n 2, 1), (46, .iload_n 3, 1), (47, .invokevirtual 229, 3), (50, .invokevirtual 232, 3), (53, .ireturn, 1)]
theorem ddX10_rise_0 : (dtX10_rise_0.all fun e => decide (decode mX10_rise.2.1 e.1 = .ok (e.2.1, e.2.2))) = true := by decide +kernel
theorem daX10_rise_0 (j : Nat) {pc n : Nat} {i : Instr} (h : dtX10_rise_0[j]? = some (pc, i, n)) : decode mX10_rise.2.1 pc = .ok (i, n) := dec_of (c := mX10_rise.2.1) ddX10_rise_0 h
def fX10_rise (v0 v1 v2 v3 : Int) (μ : Mm) : Option Int :=
  chk (KD v0 = 10) (
  (fX10_landAt v0 v1 μ).bind fun r2 =>
  if r2 = 0 then
    some (-10000)
  else
    chk (KD r2 = 2) (
    (fX2_has r2 v2 μ).bind fun r5 =>
    if r5 = 0 then
      some (-10000)
    else
      (fX2_has r2 v3 μ).bind fun r7 =>
      if r7 = 0 then
        some (-10000)
      else
        if v2 = v3 then
          some (-10000)
        else
          (fX2_apart r2 v2 v3 μ).bind fun r10 =>
          (fX2_lift r2 v2 v3 r10 μ).bind fun r11 =>
          some r11))
set_option maxRecDepth 20000 in
theorem gX10_rise_0 (l : Launch) {F : FI} {v0 v1 v2 v3 : Int} {μ : Mm} {t : Int} (h : fX10_rise v0 v1 v2 v3 μ = some t) (hK : F.1 = [(0, t)] ∧ F.2.1 = μ) : GM l mX10_rise F 0 0 0 [(0, (3, v0)), (1, (0, v1)), (2, (0, v2)), (3, (0, v3))] [] μ := by
  unfold fX10_rise at h
  refine GM_aload_n (pc := 0) 0 rfl (daX10_rise_0 0 rfl) rfl ?_
  refine GM_iload_n (pc := 1) 1 rfl (daX10_rise_0 1 rfl) rfl ?_
  obtain ⟨hc1, h⟩ := chk_inv h
  obtain ⟨r2, hf2, h⟩ := Option.bind_eq_some_iff.mp h
  refine GM_callV0 (pc := 2) [(0, v1)] (tX10_landAt l hf2) cwX10_landAt 10 (Nat.le_of_ble_eq_true rfl) rfl kv_X10_landAt ke_X10_landAt km_X10_149 hc1 ⟨Nat.le_of_ble_eq_true rfl, Nat.le_of_ble_eq_true rfl⟩ (Nat.le_of_ble_eq_true rfl) (Nat.le_of_ble_eq_true rfl) (daX10_rise_0 2 rfl) ?_
  refine GM_astore (L' := [(4, (3, r2)), (0, (3, v0)), (1, (0, v1)), (2, (0, v2)), (3, (0, v3))]) (pc := 5) (daX10_rise_0 3 rfl) (Nat.le_of_ble_eq_true rfl) rfl ?_
  refine GM_aload (pc := 7) 0 rfl (daX10_rise_0 4 rfl) ?_
  refine GM_ifnull (pc := 9) 35 (daX10_rise_0 5 rfl) rfl (fun c3 => ?_) (fun c3 => ?_)
  · skip
    rw [if_pos c3] at h
    refine GM_sipush (pc := 35) (-10000) (daX10_rise_0 17 rfl) rfl (R32_b rfl) ?_
    cases h
    exact GM_iret (pc := 38) (daX10_rise_0 18 rfl) rfl hK
  · skip
    rw [if_neg c3] at h
    refine GM_aload (pc := 12) 0 rfl (daX10_rise_0 6 rfl) ?_
    refine GM_iload_n (pc := 14) 3 rfl (daX10_rise_0 7 rfl) rfl ?_
    obtain ⟨hc4, h⟩ := chk_inv h
    obtain ⟨r5, hf5, h⟩ := Option.bind_eq_some_iff.mp h
    refine GM_callV0 (pc := 15) [(0, v2)] (tX2_has l hf5) cwX2_has 2 (Nat.le_of_ble_eq_true rfl) rfl kv_X2_has ke_X2_has km_X10_175 hc4 ⟨Nat.le_of_ble_eq_true rfl, Nat.le_of_ble_eq_true rfl⟩ (Nat.le_of_ble_eq_true rfl) (Nat.le_of_ble_eq_true rfl) (daX10_rise_0 8 rfl) ?_
    refine GM_if_eq (pc := 18) 35 (daX10_rise_0 9 rfl) rfl (fun c6 => ?_) (fun c6 => ?_)
    · skip
      rw [if_pos c6] at h
      refine GM_sipush (pc := 35) (-10000) (daX10_rise_0 17 rfl) rfl (R32_b rfl) ?_
      cases h
      exact GM_iret (pc := 38) (daX10_rise_0 18 rfl) rfl hK
    · skip
      rw [if_neg c6] at h
      refine GM_aload (pc := 21) 0 rfl (daX10_rise_0 10 rfl) ?_
      refine GM_iload_n (pc := 23) 4 rfl (daX10_rise_0 11 rfl) rfl ?_
      obtain ⟨r7, hf7, h⟩ := Option.bind_eq_some_iff.mp h
      refine GM_callV0 (pc := 24) [(0, v3)] (tX2_has l hf7) cwX2_has 2 (Nat.le_of_ble_eq_true rfl) rfl kv_X2_has ke_X2_has km_X10_175 hc4 ⟨Nat.le_of_ble_eq_true rfl, Nat.le_of_ble_eq_true rfl⟩ (Nat.le_of_ble_eq_true rfl) (Nat.le_of_ble_eq_true rfl) (daX10_rise_0 12 rfl) ?_
      refine GM_if_eq (pc := 27) 35 (daX10_rise_0 13 rfl) rfl (fun c8 => ?_) (fun c8 => ?_)
      · skip
        rw [if_pos c8] at h
        refine GM_sipush (pc := 35) (-10000) (daX10_rise_0 17 rfl) rfl (R32_b rfl) ?_
        cases h
        exact GM_iret (pc := 38) (daX10_rise_0 18 rfl) rfl hK
      · skip
        rw [if_neg c8] at h
        refine GM_iload_n (pc := 30) 3 rfl (daX10_rise_0 14 rfl) rfl ?_
        refine GM_iload_n (pc := 31) 4 rfl (daX10_rise_0 15 rfl) rfl ?_
        refine GM_icmp_ne (pc := 32) 39 (daX10_rise_0 16 rfl) rfl (fun c9 => ?_) (fun c9 => ?_)
        · skip
          rw [if_neg c9] at h
          refine GM_aload (pc := 39) 0 rfl (daX10_rise_0 19 rfl) ?_
          refine GM_iload_n (pc := 41) 3 rfl (daX10_rise_0 20 rfl) rfl ?_
          refine GM_iload_n (pc := 42) 4 rfl (daX10_rise_0 21 rfl) rfl ?_
          refine GM_aload (pc := 43) 0 rfl (daX10_rise_0 22 rfl) ?_
          refine GM_iload_n (pc := 45) 3 rfl (daX10_rise_0 23 rfl) rfl ?_
          refine GM_iload_n (pc := 46) 4 rfl (daX10_rise_0 24 rfl) rfl ?_
          obtain ⟨r10, hf10, h⟩ := Option.bind_eq_some_iff.mp h
          refine GM_callV0 (pc := 47) [(0, v2), (0, v3)] (tX2_apart l hf10) cwX2_apart 2 (Nat.le_of_ble_eq_true rfl) rfl kv_X2_apart ke_X2_apart km_X10_229 hc4 ⟨Nat.le_of_ble_eq_true rfl, Nat.le_of_ble_eq_true rfl⟩ (Nat.le_of_ble_eq_true rfl) (Nat.le_of_ble_eq_true rfl) (daX10_rise_0 25 rfl) ?_
          obtain ⟨r11, hf11, h⟩ := Option.bind_eq_some_iff.mp h
          refine GM_callV0 (pc := 50) [(0, v2), (0, v3), (0, r10)] (tX2_lift l hf11) cwX2_lift 2 (Nat.le_of_ble_eq_true rfl) rfl kv_X2_lift ke_X2_lift km_X10_232 hc4 ⟨Nat.le_of_ble_eq_true rfl, Nat.le_of_ble_eq_true rfl⟩ (Nat.le_of_ble_eq_true rfl) (Nat.le_of_ble_eq_true rfl) (daX10_rise_0 26 rfl) ?_
          cases h
          exact GM_iret (pc := 53) (daX10_rise_0 27 rfl) rfl hK
        · skip
          rw [if_pos c9] at h
          refine GM_sipush (pc := 35) (-10000) (daX10_rise_0 17 rfl) rfl (R32_b rfl) ?_
          cases h
          exact GM_iret (pc := 38) (daX10_rise_0 18 rfl) rfl hK
theorem tX10_rise (l : Launch) {v0 v1 v2 v3 : Int} {μ : Mm} {t : Int} (h : fX10_rise v0 v1 v2 v3 μ = some t) : Ct l yX10_rise mX10_rise [(3, v0), (0, v1), (0, v2), (0, v3)] μ ([(0, t)], μ, 0, 0) :=
  Ct_of (by decide +kernel) rfl rfl (Nat.le_of_ble_eq_true rfl) (fun _ _ _ => trivial) (gX10_rise_0 l h ⟨rfl, rfl⟩)
def mX10_seen : MI := (RX10, cX10_seen, 6, (some .int), "seen", 5, 122, fun _ _ _ => True)
theorem cwX10_seen : CWd yX10_seen mX10_seen 3 := ⟨ki_X10, kk_X10_seen, ⟨by decide, by decide⟩, rfl⟩
def dtX10_seen_0 : List (Nat × Instr × Nat) := [(0, .aload_n 0, 1), (1, .iload_n 1, 1), (2, .invokevirtual 149, 3), (5, .astore 4, 2), (7, .aload_n 0, 1), (8, .iload_n 1, 1), (9, .iload_n 2, 1), (10, .invokevirtual 236, 3), (13, .astore 5, 2), (15, .aload 4, 2), (17, .ifnull 22, 3), (20, .aload 5, 2), (22, .ifnull 17, 3), (25, .iload_n 2, 1), (26, .iload_n 3, 1), (27, .if_icmp .eq 12, 3), (30, .aload 4, 2), (32, .iload_n 3, 1), (33, .invokevirtual 175, 3), (36, .ifCond .ne 5, 3), (39, .iconst (-1), 1), (40, .ireturn, 1), (41, .aload 5, 2), (43, .iload_n 3, 1), (44, .invokevirtual 240, 3), (47, .ifCond .eq 7, 3), (50, .iconst 1, 1), (51, .goto 4, 3), (54, .iconst 0, 1), (55, .ireturn, 1)]
theorem ddX10_seen_0 : (dtX10_seen_0.all fun e => decide (decode mX10_seen.2.1 e.1 = .ok (e.2.1, e.2.2))) = true := by decide +kernel
theorem daX10_seen_0 (j : Nat) {pc n : Nat} {i : Instr} (h : dtX10_seen_0[j]? = some (pc, i, n)) : decode mX10_seen.2.1 pc = .ok (i, n) := dec_of (c := mX10_seen.2.1) ddX10_seen_0 h
def fX10_seen (v0 v1 v2 v3 : Int) (μ : Mm) : Option ((Int × Mm) × Nat × Nat) :=
  chk (KD v0 = 10) (
  (fX10_landAt v0 v1 μ).bind fun r2 =>
  (fX10_lineAt v0 v1 v2 μ).bind fun ((r3, μ3), c3, n3) =>
  pay c3 n3 (
  if r2 = 0 then
    some (((-1), μ3), 0, 0)
  else
    if r3 = 0 then
      some (((-1), μ3), 0, 0)
    else
      if v2 = v3 then
        some (((-1), μ3), 0, 0)
      else
        chk (KD r2 = 2) (
        (fX2_has r2 v3 μ3).bind fun r9 =>
        if r9 = 0 then
          some (((-1), μ3), 0, 0)
        else
          chk (KD r3 = 7) (
          (fX7_shows r3 v3 μ3).bind fun r12 =>
          if r12 = 0 then
            some ((0, μ3), 0, 0)
          else
            some ((1, μ3), 0, 0)))))
set_option maxRecDepth 20000 in
theorem gX10_seen_0 (l : Launch) {F : FI} {v0 v1 v2 v3 : Int} {μ : Mm} {t : (Int × Mm)} {c0 n0 k n : Nat} (h : fX10_seen v0 v1 v2 v3 μ = some (t, c0, n0)) (hK : F.1 = [(0, t.1)] ∧ F.2.1 = t.2) : GM l mX10_seen F (c0 + k) (n0 + n) 0 [(0, (3, v0)), (1, (0, v1)), (2, (0, v2)), (3, (0, v3))] [] μ := by
  unfold fX10_seen at h
  refine GM_aload_n (pc := 0) 0 rfl (daX10_seen_0 0 rfl) rfl ?_
  refine GM_iload_n (pc := 1) 1 rfl (daX10_seen_0 1 rfl) rfl ?_
  obtain ⟨hc1, h⟩ := chk_inv h
  obtain ⟨r2, hf2, h⟩ := Option.bind_eq_some_iff.mp h
  refine GM_callV0 (pc := 2) [(0, v1)] (tX10_landAt l hf2) cwX10_landAt 10 (Nat.le_of_ble_eq_true rfl) rfl kv_X10_landAt ke_X10_landAt km_X10_149 hc1 ⟨Nat.le_of_ble_eq_true rfl, Nat.le_of_ble_eq_true rfl⟩ (Nat.le_of_ble_eq_true rfl) (Nat.le_of_ble_eq_true rfl) (daX10_seen_0 2 rfl) ?_
  refine GM_astore (L' := [(4, (3, r2)), (0, (3, v0)), (1, (0, v1)), (2, (0, v2)), (3, (0, v3))]) (pc := 5) (daX10_seen_0 3 rfl) (Nat.le_of_ble_eq_true rfl) rfl ?_
  refine GM_aload_n (pc := 7) 1 rfl (daX10_seen_0 4 rfl) rfl ?_
  refine GM_iload_n (pc := 8) 2 rfl (daX10_seen_0 5 rfl) rfl ?_
  refine GM_iload_n (pc := 9) 3 rfl (daX10_seen_0 6 rfl) rfl ?_
  obtain ⟨⟨⟨r3, μ3⟩, c3, n3⟩, hf3, h⟩ := Option.bind_eq_some_iff.mp h
  dsimp only at h
  obtain ⟨c4, n4, hp, e1, e2⟩ := pay_inv h
  subst e1 e2
  replace h := hp
  clear hp
  rw [Nat.add_assoc, Nat.add_assoc]
  refine GM_callV (pc := 10) [(0, v1), (0, v2)] (tX10_lineAt l hf3) cwX10_lineAt 10 (Nat.le_of_ble_eq_true rfl) rfl kv_X10_lineAt ke_X10_lineAt km_X10_236 hc1 ⟨Nat.le_of_ble_eq_true rfl, Nat.le_of_ble_eq_true rfl⟩ (Nat.le_of_ble_eq_true rfl) (Nat.le_of_ble_eq_true rfl) (daX10_seen_0 7 rfl) ?_
  refine GM_astore (L' := [(5, (3, r3)), (4, (3, r2)), (0, (3, v0)), (1, (0, v1)), (2, (0, v2)), (3, (0, v3))]) (pc := 13) (daX10_seen_0 8 rfl) (Nat.le_of_ble_eq_true rfl) rfl ?_
  refine GM_aload (pc := 15) 1 rfl (daX10_seen_0 9 rfl) ?_
  refine GM_ifnull (pc := 17) 39 (daX10_seen_0 10 rfl) rfl (fun c5 => ?_) (fun c5 => ?_)
  · skip
    rw [if_pos c5] at h
    refine GM_iconst (pc := 39) (-1) (daX10_seen_0 20 rfl) rfl (R32_b rfl) ?_
    cases h
    exact GM_iret (pc := 40) (daX10_seen_0 21 rfl) rfl hK
  · skip
    rw [if_neg c5] at h
    refine GM_aload (pc := 20) 0 rfl (daX10_seen_0 11 rfl) ?_
    refine GM_ifnull (pc := 22) 39 (daX10_seen_0 12 rfl) rfl (fun c6 => ?_) (fun c6 => ?_)
    · skip
      rw [if_pos c6] at h
      refine GM_iconst (pc := 39) (-1) (daX10_seen_0 20 rfl) rfl (R32_b rfl) ?_
      cases h
      exact GM_iret (pc := 40) (daX10_seen_0 21 rfl) rfl hK
    · skip
      rw [if_neg c6] at h
      refine GM_iload_n (pc := 25) 4 rfl (daX10_seen_0 13 rfl) rfl ?_
      refine GM_iload_n (pc := 26) 5 rfl (daX10_seen_0 14 rfl) rfl ?_
      refine GM_icmp_eq (pc := 27) 39 (daX10_seen_0 15 rfl) rfl (fun c7 => ?_) (fun c7 => ?_)
      · skip
        rw [if_pos c7] at h
        refine GM_iconst (pc := 39) (-1) (daX10_seen_0 20 rfl) rfl (R32_b rfl) ?_
        cases h
        exact GM_iret (pc := 40) (daX10_seen_0 21 rfl) rfl hK
      · skip
        rw [if_neg c7] at h
        refine GM_aload (pc := 30) 1 rfl (daX10_seen_0 16 rfl) ?_
        refine GM_iload_n (pc := 32) 5 rfl (daX10_seen_0 17 rfl) rfl ?_
        obtain ⟨hc8, h⟩ := chk_inv h
        obtain ⟨r9, hf9, h⟩ := Option.bind_eq_some_iff.mp h
        refine GM_callV0 (pc := 33) [(0, v3)] (tX2_has l hf9) cwX2_has 2 (Nat.le_of_ble_eq_true rfl) rfl kv_X2_has ke_X2_has km_X10_175 hc8 ⟨Nat.le_of_ble_eq_true rfl, Nat.le_of_ble_eq_true rfl⟩ (Nat.le_of_ble_eq_true rfl) (Nat.le_of_ble_eq_true rfl) (daX10_seen_0 18 rfl) ?_
        refine GM_if_ne (pc := 36) 41 (daX10_seen_0 19 rfl) rfl (fun c10 => ?_) (fun c10 => ?_)
        · skip
          rw [if_neg c10] at h
          refine GM_aload (pc := 41) 0 rfl (daX10_seen_0 22 rfl) ?_
          refine GM_iload_n (pc := 43) 5 rfl (daX10_seen_0 23 rfl) rfl ?_
          obtain ⟨hc11, h⟩ := chk_inv h
          obtain ⟨r12, hf12, h⟩ := Option.bind_eq_some_iff.mp h
          refine GM_callV0 (pc := 44) [(0, v3)] (tX7_shows l hf12) cwX7_shows 7 (Nat.le_of_ble_eq_true rfl) rfl kv_X7_shows ke_X7_shows km_X10_240 hc11 ⟨Nat.le_of_ble_eq_true rfl, Nat.le_of_ble_eq_true rfl⟩ (Nat.le_of_ble_eq_true rfl) (Nat.le_of_ble_eq_true rfl) (daX10_seen_0 24 rfl) ?_
          refine GM_if_eq (pc := 47) 54 (daX10_seen_0 25 rfl) rfl (fun c13 => ?_) (fun c13 => ?_)
          · skip
            rw [if_pos c13] at h
            refine GM_iconst (pc := 54) 0 (daX10_seen_0 28 rfl) rfl (R32_b rfl) ?_
            cases h
            exact GM_iret (pc := 55) (daX10_seen_0 29 rfl) rfl hK
          · skip
            rw [if_neg c13] at h
            refine GM_iconst (pc := 50) 1 (daX10_seen_0 26 rfl) rfl (R32_b rfl) ?_
            refine GM_goto (pc := 51) 55 (daX10_seen_0 27 rfl) rfl ?_
            cases h
            exact GM_iret (pc := 55) (daX10_seen_0 29 rfl) rfl hK
        · skip
          rw [if_pos c10] at h
          refine GM_iconst (pc := 39) (-1) (daX10_seen_0 20 rfl) rfl (R32_b rfl) ?_
          cases h
          exact GM_iret (pc := 40) (daX10_seen_0 21 rfl) rfl hK
theorem tX10_seen (l : Launch) {v0 v1 v2 v3 : Int} {μ : Mm} {t : (Int × Mm)} {c0 n0 : Nat} (h : fX10_seen v0 v1 v2 v3 μ = some (t, c0, n0)) : Ct l yX10_seen mX10_seen [(3, v0), (0, v1), (0, v2), (0, v3)] μ ([(0, t.1)], t.2, c0, n0) :=
  Ct_of (by decide +kernel) rfl rfl (Nat.le_of_ble_eq_true rfl) (fun _ _ _ => trivial) (gX10_seen_0 (k := 0) (n := 0) l h ⟨rfl, rfl⟩)
def mX10_ray : MI := (RX10, cX10_ray, 5, (some .int), "ray", 5, 122, fun _ _ _ => True)
theorem cwX10_ray : CWd yX10_ray mX10_ray 3 := ⟨ki_X10, kk_X10_ray, ⟨by decide, by decide⟩, rfl⟩
def dtX10_ray_0 : List (Nat × Instr × Nat) := [(0, .aload_n 0, 1), (1, .iload_n 1, 1), (2, .iload_n 2, 1), (3, .invokevirtual 236, 3), (6, .astore 4, 2), (8, .aload 4, 2), (10, .ifnonnull 5, 3), (13, .iconst (-1), 1), (14, .ireturn, 1), (15, .iload_n 3, 1), (16, .iconst (-1), 1), (17, .if_icmp .ne 11, 3), (20, .aload 4, 2), (22, .getfield 243, 3), (25, .goto 9, 3), (28, .aload 4, 2), (30, .iload_n 3, 1), (31, .invokevirtual 246, 3), (34, .ireturn, 1)]
theorem ddX10_ray_0 : (dtX10_ray_0.all fun e => decide (decode mX10_ray.2.1 e.1 = .ok (e.2.1, e.2.2))) = true := by decide +kernel
theorem daX10_ray_0 (j : Nat) {pc n : Nat} {i : Instr} (h : dtX10_ray_0[j]? = some (pc, i, n)) : decode mX10_ray.2.1 pc = .ok (i, n) := dec_of (c := mX10_ray.2.1) ddX10_ray_0 h
def fX10_ray (v0 v1 v2 v3 : Int) (μ : Mm) : Option ((Int × Mm) × Nat × Nat) :=
  chk (KD v0 = 10) (
  (fX10_lineAt v0 v1 v2 μ).bind fun ((r2, μ2), c2, n2) =>
  pay c2 n2 (
  if r2 = 0 then
    some (((-1), μ2), 0, 0)
  else
    if v3 = (-1) then
      chk (KD r2 = 7) (
      some ((μ2 r2 1, μ2), 0, 0))
    else
      chk (KD r2 = 7) (
      (fX7_topOfRay r2 v3 μ2).bind fun r7 =>
      some ((r7, μ2), 0, 0))))
set_option maxRecDepth 20000 in
theorem gX10_ray_0 (l : Launch) {F : FI} {v0 v1 v2 v3 : Int} {μ : Mm} {t : (Int × Mm)} {c0 n0 k n : Nat} (h : fX10_ray v0 v1 v2 v3 μ = some (t, c0, n0)) (hK : F.1 = [(0, t.1)] ∧ F.2.1 = t.2) : GM l mX10_ray F (c0 + k) (n0 + n) 0 [(0, (3, v0)), (1, (0, v1)), (2, (0, v2)), (3, (0, v3))] [] μ := by
  unfold fX10_ray at h
  refine GM_aload_n (pc := 0) 0 rfl (daX10_ray_0 0 rfl) rfl ?_
  refine GM_iload_n (pc := 1) 1 rfl (daX10_ray_0 1 rfl) rfl ?_
  refine GM_iload_n (pc := 2) 2 rfl (daX10_ray_0 2 rfl) rfl ?_
  obtain ⟨hc1, h⟩ := chk_inv h
  obtain ⟨⟨⟨r2, μ2⟩, c2, n2⟩, hf2, h⟩ := Option.bind_eq_some_iff.mp h
  dsimp only at h
  obtain ⟨c3, n3, hp, e1, e2⟩ := pay_inv h
  subst e1 e2
  replace h := hp
  clear hp
  rw [Nat.add_assoc, Nat.add_assoc]
  refine GM_callV (pc := 3) [(0, v1), (0, v2)] (tX10_lineAt l hf2) cwX10_lineAt 10 (Nat.le_of_ble_eq_true rfl) rfl kv_X10_lineAt ke_X10_lineAt km_X10_236 hc1 ⟨Nat.le_of_ble_eq_true rfl, Nat.le_of_ble_eq_true rfl⟩ (Nat.le_of_ble_eq_true rfl) (Nat.le_of_ble_eq_true rfl) (daX10_ray_0 3 rfl) ?_
  refine GM_astore (L' := [(4, (3, r2)), (0, (3, v0)), (1, (0, v1)), (2, (0, v2)), (3, (0, v3))]) (pc := 6) (daX10_ray_0 4 rfl) (Nat.le_of_ble_eq_true rfl) rfl ?_
  refine GM_aload (pc := 8) 0 rfl (daX10_ray_0 5 rfl) ?_
  refine GM_ifnonnull (pc := 10) 15 (daX10_ray_0 6 rfl) rfl (fun c4 => ?_) (fun c4 => ?_)
  · skip
    rw [if_neg c4] at h
    refine GM_iload_n (pc := 15) 4 rfl (daX10_ray_0 9 rfl) rfl ?_
    refine GM_iconst (pc := 16) (-1) (daX10_ray_0 10 rfl) rfl (R32_b rfl) ?_
    refine GM_icmp_ne (pc := 17) 28 (daX10_ray_0 11 rfl) rfl (fun c5 => ?_) (fun c5 => ?_)
    · skip
      rw [if_neg c5] at h
      refine GM_aload (pc := 28) 0 rfl (daX10_ray_0 15 rfl) ?_
      refine GM_iload_n (pc := 30) 4 rfl (daX10_ray_0 16 rfl) rfl ?_
      obtain ⟨hc6, h⟩ := chk_inv h
      obtain ⟨r7, hf7, h⟩ := Option.bind_eq_some_iff.mp h
      refine GM_callV0 (pc := 31) [(0, v3)] (tX7_topOfRay l hf7) cwX7_topOfRay 7 (Nat.le_of_ble_eq_true rfl) rfl kv_X7_topOfRay ke_X7_topOfRay km_X10_246 hc6 ⟨Nat.le_of_ble_eq_true rfl, Nat.le_of_ble_eq_true rfl⟩ (Nat.le_of_ble_eq_true rfl) (Nat.le_of_ble_eq_true rfl) (daX10_ray_0 17 rfl) ?_
      cases h
      exact GM_iret (pc := 34) (daX10_ray_0 18 rfl) rfl hK
    · skip
      rw [if_pos c5] at h
      refine GM_aload (pc := 20) 0 rfl (daX10_ray_0 12 rfl) ?_
      obtain ⟨hc8, h⟩ := chk_inv h
      refine GM_getf (pc := 22) 7 1 0 1 kf_X10_243 (Nat.le_of_ble_eq_true rfl) (Nat.le_of_ble_eq_true rfl) rfl (daX10_ray_0 13 rfl) hc8 rfl ?_
      refine GM_goto (pc := 25) 34 (daX10_ray_0 14 rfl) rfl ?_
      cases h
      exact GM_iret (pc := 34) (daX10_ray_0 18 rfl) rfl hK
  · skip
    rw [if_pos c4] at h
    refine GM_iconst (pc := 13) (-1) (daX10_ray_0 7 rfl) rfl (R32_b rfl) ?_
    cases h
    exact GM_iret (pc := 14) (daX10_ray_0 8 rfl) rfl hK
theorem tX10_ray (l : Launch) {v0 v1 v2 v3 : Int} {μ : Mm} {t : (Int × Mm)} {c0 n0 : Nat} (h : fX10_ray v0 v1 v2 v3 μ = some (t, c0, n0)) : Ct l yX10_ray mX10_ray [(3, v0), (0, v1), (0, v2), (0, v3)] μ ([(0, t.1)], t.2, c0, n0) :=
  Ct_of (by decide +kernel) rfl rfl (Nat.le_of_ble_eq_true rfl) (fun _ _ _ => trivial) (gX10_ray_0 (k := 0) (n := 0) l h ⟨rfl, rfl⟩)
def mX10_hump : MI := (RX10, cX10_hump, 5, (some .int), "hump", 5, 122, fun _ _ _ => True)
theorem cwX10_hump : CWd yX10_hump mX10_hump 3 := ⟨ki_X10, kk_X10_hump, ⟨by decide, by decide⟩, rfl⟩
def dtX10_hump_0 : List (Nat × Instr × Nat) := [(0, .aload_n 0, 1), (1, .iload_n 1, 1), (2, .iload_n 2, 1), (3, .invokevirtual 236, 3), (6, .astore 4, 2), (8, .aload 4, 2), (10, .ifnonnull 5, 3), (13, .iconst (-1), 1), (14, .ireturn, 1), (15, .iload_n 3, 1), (16, .iconst (-1), 1), (17, .if_icmp .ne 11, 3), (20, .aload 4, 2), (22, .getfield 249, 3), (25, .goto 9, 3), (28, .aload 4, 2), (30, .iload_n 3, 1), (31, .invokevirtual 250, 3), (34, .ireturn, 1)]
theorem ddX10_hump_0 : (dtX10_hump_0.all fun e => decide (decode mX10_hump.2.1 e.1 = .ok (e.2.1, e.2.2))) = true := by decide +kernel
theorem daX10_hump_0 (j : Nat) {pc n : Nat} {i : Instr} (h : dtX10_hump_0[j]? = some (pc, i, n)) : decode mX10_hump.2.1 pc = .ok (i, n) := dec_of (c := mX10_hump.2.1) ddX10_hump_0 h
def fX10_hump (v0 v1 v2 v3 : Int) (μ : Mm) : Option ((Int × Mm) × Nat × Nat) :=
  chk (KD v0 = 10) (
  (fX10_lineAt v0 v1 v2 μ).bind fun ((r2, μ2), c2, n2) =>
  pay c2 n2 (
  if r2 = 0 then
    some (((-1), μ2), 0, 0)
  else
    if v3 = (-1) then
      chk (KD r2 = 7) (
      some ((μ2 r2 2, μ2), 0, 0))
    else
      chk (KD r2 = 7) (
      (fX7_topOfHump r2 v3 μ2).bind fun r7 =>
      some ((r7, μ2), 0, 0))))
set_option maxRecDepth 20000 in
theorem gX10_hump_0 (l : Launch) {F : FI} {v0 v1 v2 v3 : Int} {μ : Mm} {t : (Int × Mm)} {c0 n0 k n : Nat} (h : fX10_hump v0 v1 v2 v3 μ = some (t, c0, n0)) (hK : F.1 = [(0, t.1)] ∧ F.2.1 = t.2) : GM l mX10_hump F (c0 + k) (n0 + n) 0 [(0, (3, v0)), (1, (0, v1)), (2, (0, v2)), (3, (0, v3))] [] μ := by
  unfold fX10_hump at h
  refine GM_aload_n (pc := 0) 0 rfl (daX10_hump_0 0 rfl) rfl ?_
  refine GM_iload_n (pc := 1) 1 rfl (daX10_hump_0 1 rfl) rfl ?_
  refine GM_iload_n (pc := 2) 2 rfl (daX10_hump_0 2 rfl) rfl ?_
  obtain ⟨hc1, h⟩ := chk_inv h
  obtain ⟨⟨⟨r2, μ2⟩, c2, n2⟩, hf2, h⟩ := Option.bind_eq_some_iff.mp h
  dsimp only at h
  obtain ⟨c3, n3, hp, e1, e2⟩ := pay_inv h
  subst e1 e2
  replace h := hp
  clear hp
  rw [Nat.add_assoc, Nat.add_assoc]
  refine GM_callV (pc := 3) [(0, v1), (0, v2)] (tX10_lineAt l hf2) cwX10_lineAt 10 (Nat.le_of_ble_eq_true rfl) rfl kv_X10_lineAt ke_X10_lineAt km_X10_236 hc1 ⟨Nat.le_of_ble_eq_true rfl, Nat.le_of_ble_eq_true rfl⟩ (Nat.le_of_ble_eq_true rfl) (Nat.le_of_ble_eq_true rfl) (daX10_hump_0 3 rfl) ?_
  refine GM_astore (L' := [(4, (3, r2)), (0, (3, v0)), (1, (0, v1)), (2, (0, v2)), (3, (0, v3))]) (pc := 6) (daX10_hump_0 4 rfl) (Nat.le_of_ble_eq_true rfl) rfl ?_
  refine GM_aload (pc := 8) 0 rfl (daX10_hump_0 5 rfl) ?_
  refine GM_ifnonnull (pc := 10) 15 (daX10_hump_0 6 rfl) rfl (fun c4 => ?_) (fun c4 => ?_)
  · skip
    rw [if_neg c4] at h
    refine GM_iload_n (pc := 15) 4 rfl (daX10_hump_0 9 rfl) rfl ?_
    refine GM_iconst (pc := 16) (-1) (daX10_hump_0 10 rfl) rfl (R32_b rfl) ?_
    refine GM_icmp_ne (pc := 17) 28 (daX10_hump_0 11 rfl) rfl (fun c5 => ?_) (fun c5 => ?_)
    · skip
      rw [if_neg c5] at h
      refine GM_aload (pc := 28) 0 rfl (daX10_hump_0 15 rfl) ?_
      refine GM_iload_n (pc := 30) 4 rfl (daX10_hump_0 16 rfl) rfl ?_
      obtain ⟨hc6, h⟩ := chk_inv h
      obtain ⟨r7, hf7, h⟩ := Option.bind_eq_some_iff.mp h
      refine GM_callV0 (pc := 31) [(0, v3)] (tX7_topOfHump l hf7) cwX7_topOfHump 7 (Nat.le_of_ble_eq_true rfl) rfl kv_X7_topOfHump ke_X7_topOfHump km_X10_250 hc6 ⟨Nat.le_of_ble_eq_true rfl, Nat.le_of_ble_eq_true rfl⟩ (Nat.le_of_ble_eq_true rfl) (Nat.le_of_ble_eq_true rfl) (daX10_hump_0 17 rfl) ?_
      cases h
      exact GM_iret (pc := 34) (daX10_hump_0 18 rfl) rfl hK
    · skip
      rw [if_pos c5] at h
      refine GM_aload (pc := 20) 0 rfl (daX10_hump_0 12 rfl) ?_
      obtain ⟨hc8, h⟩ := chk_inv h
      refine GM_getf (pc := 22) 7 2 0 2 kf_X10_249 (Nat.le_of_ble_eq_true rfl) (Nat.le_of_ble_eq_true rfl) rfl (daX10_hump_0 13 rfl) hc8 rfl ?_
      refine GM_goto (pc := 25) 34 (daX10_hump_0 14 rfl) rfl ?_
      cases h
      exact GM_iret (pc := 34) (daX10_hump_0 18 rfl) rfl hK
  · skip
    rw [if_pos c4] at h
    refine GM_iconst (pc := 13) (-1) (daX10_hump_0 7 rfl) rfl (R32_b rfl) ?_
    cases h
    exact GM_iret (pc := 14) (daX10_hump_0 8 rfl) rfl hK
theorem tX10_hump (l : Launch) {v0 v1 v2 v3 : Int} {μ : Mm} {t : (Int × Mm)} {c0 n0 : Nat} (h : fX10_hump v0 v1 v2 v3 μ = some (t, c0, n0)) : Ct l yX10_hump mX10_hump [(3, v0), (0, v1), (0, v2), (0, v3)] μ ([(0, t.1)], t.2, c0, n0) :=
  Ct_of (by decide +kernel) rfl rfl (Nat.le_of_ble_eq_true rfl) (fun _ _ _ => trivial) (gX10_hump_0 (k := 0) (n := 0) l h ⟨rfl, rfl⟩)
def mX10_steeper : MI := (RX10, cX10_steeper, 6, (some .int), "steeper", 5, 122, fun _ _ _ => True)
theorem cwX10_steeper : CWd yX10_steeper mX10_steeper 4 := ⟨ki_X10, kk_X10_steeper, ⟨by decide, by decide⟩, rfl⟩
def dtX10_steeper_0 : List (Nat × Instr × Nat) := [(0, .aload_n 0, 1), (1, .iload_n 1, 1), (2, .iload_n 2, 1), (3, .invokevirtual 236, 3), (6, .astore 5, 2), (8, .aload 5, 2), (10, .ifnull 22, 3), (13, .aload 5, 2), (15, .iload_n 3, 1), (16, .invokevirtual 253, 3), (19, .ifCond .eq 13, 3), (22, .aload 5, 2), (24, .iload 4, 2), (26, .invokevirtual 253, 3), (29, .ifCond .ne 6, 3), (32, .bipush (-2), 2), (34, .ireturn, 1), (35, .aload 5, 2), (37, .aload 5, 2), (39, .getfield 256, 3), (42, .iload_n 3, 1), (43, .iaload, 1), (44, .aload 5, 2), (46, .getfield 256, 3), (49, .iload 4, 2), (51, .iaload, 1), (52, .invokevirtual 259, 3), (55, .ireturn, 1)]
theorem ddX10_steeper_0 : (dtX10_steeper_0.all fun e => decide (decode mX10_steeper.2.1 e.1 = .ok (e.2.1, e.2.2))) = true := by decide +kernel
theorem daX10_steeper_0 (j : Nat) {pc n : Nat} {i : Instr} (h : dtX10_steeper_0[j]? = some (pc, i, n)) : decode mX10_steeper.2.1 pc = .ok (i, n) := dec_of (c := mX10_steeper.2.1) ddX10_steeper_0 h
def fX10_steeper (v0 v1 v2 v3 v4 : Int) (μ : Mm) : Option ((Int × Mm) × Nat × Nat) :=
  chk (KD v0 = 10) (
  (fX10_lineAt v0 v1 v2 μ).bind fun ((r2, μ2), c2, n2) =>
  pay c2 n2 (
  if r2 = 0 then
    some (((-2), μ2), 0, 0)
  else
    chk (KD r2 = 7) (
    (fX7_hasHump r2 v3 μ2).bind fun r6 =>
    if r6 = 0 then
      some (((-2), μ2), 0, 0)
    else
      (fX7_hasHump r2 v4 μ2).bind fun r8 =>
      if r8 = 0 then
        some (((-2), μ2), 0, 0)
      else
        chk (KD (μ2 r2 7) = 12 ∧ 0 ≤ v3 ∧ v3 < LN (μ2 r2 7)) (
        chk (0 ≤ v4 ∧ v4 < LN (μ2 r2 7)) (
        (fX7_weigh r2 (μ2 (μ2 r2 7) v3) (μ2 (μ2 r2 7) v4) μ2).bind fun r12 =>
        some ((r12, μ2), 0, 0))))))
set_option maxRecDepth 20000 in
theorem gX10_steeper_0 (l : Launch) {F : FI} {v0 v1 v2 v3 v4 : Int} {μ : Mm} {t : (Int × Mm)} {c0 n0 k n : Nat} (h : fX10_steeper v0 v1 v2 v3 v4 μ = some (t, c0, n0)) (hK : F.1 = [(0, t.1)] ∧ F.2.1 = t.2) : GM l mX10_steeper F (c0 + k) (n0 + n) 0 [(0, (3, v0)), (1, (0, v1)), (2, (0, v2)), (3, (0, v3)), (4, (0, v4))] [] μ := by
  unfold fX10_steeper at h
  refine GM_aload_n (pc := 0) 0 rfl (daX10_steeper_0 0 rfl) rfl ?_
  refine GM_iload_n (pc := 1) 1 rfl (daX10_steeper_0 1 rfl) rfl ?_
  refine GM_iload_n (pc := 2) 2 rfl (daX10_steeper_0 2 rfl) rfl ?_
  obtain ⟨hc1, h⟩ := chk_inv h
  obtain ⟨⟨⟨r2, μ2⟩, c2, n2⟩, hf2, h⟩ := Option.bind_eq_some_iff.mp h
  dsimp only at h
  obtain ⟨c3, n3, hp, e1, e2⟩ := pay_inv h
  subst e1 e2
  replace h := hp
  clear hp
  rw [Nat.add_assoc, Nat.add_assoc]
  refine GM_callV (pc := 3) [(0, v1), (0, v2)] (tX10_lineAt l hf2) cwX10_lineAt 10 (Nat.le_of_ble_eq_true rfl) rfl kv_X10_lineAt ke_X10_lineAt km_X10_236 hc1 ⟨Nat.le_of_ble_eq_true rfl, Nat.le_of_ble_eq_true rfl⟩ (Nat.le_of_ble_eq_true rfl) (Nat.le_of_ble_eq_true rfl) (daX10_steeper_0 3 rfl) ?_
  refine GM_astore (L' := [(5, (3, r2)), (0, (3, v0)), (1, (0, v1)), (2, (0, v2)), (3, (0, v3)), (4, (0, v4))]) (pc := 6) (daX10_steeper_0 4 rfl) (Nat.le_of_ble_eq_true rfl) rfl ?_
  refine GM_aload (pc := 8) 0 rfl (daX10_steeper_0 5 rfl) ?_
  refine GM_ifnull (pc := 10) 32 (daX10_steeper_0 6 rfl) rfl (fun c4 => ?_) (fun c4 => ?_)
  · skip
    rw [if_pos c4] at h
    refine GM_bipush (pc := 32) (-2) (daX10_steeper_0 15 rfl) rfl (R32_b rfl) ?_
    cases h
    exact GM_iret (pc := 34) (daX10_steeper_0 16 rfl) rfl hK
  · skip
    rw [if_neg c4] at h
    refine GM_aload (pc := 13) 0 rfl (daX10_steeper_0 7 rfl) ?_
    refine GM_iload_n (pc := 15) 4 rfl (daX10_steeper_0 8 rfl) rfl ?_
    obtain ⟨hc5, h⟩ := chk_inv h
    obtain ⟨r6, hf6, h⟩ := Option.bind_eq_some_iff.mp h
    refine GM_callV0 (pc := 16) [(0, v3)] (tX7_hasHump l hf6) cwX7_hasHump 7 (Nat.le_of_ble_eq_true rfl) rfl kv_X7_hasHump ke_X7_hasHump km_X10_253 hc5 ⟨Nat.le_of_ble_eq_true rfl, Nat.le_of_ble_eq_true rfl⟩ (Nat.le_of_ble_eq_true rfl) (Nat.le_of_ble_eq_true rfl) (daX10_steeper_0 9 rfl) ?_
    refine GM_if_eq (pc := 19) 32 (daX10_steeper_0 10 rfl) rfl (fun c7 => ?_) (fun c7 => ?_)
    · skip
      rw [if_pos c7] at h
      refine GM_bipush (pc := 32) (-2) (daX10_steeper_0 15 rfl) rfl (R32_b rfl) ?_
      cases h
      exact GM_iret (pc := 34) (daX10_steeper_0 16 rfl) rfl hK
    · skip
      rw [if_neg c7] at h
      refine GM_aload (pc := 22) 0 rfl (daX10_steeper_0 11 rfl) ?_
      refine GM_iload (pc := 24) 5 rfl (daX10_steeper_0 12 rfl) ?_
      obtain ⟨r8, hf8, h⟩ := Option.bind_eq_some_iff.mp h
      refine GM_callV0 (pc := 26) [(0, v4)] (tX7_hasHump l hf8) cwX7_hasHump 7 (Nat.le_of_ble_eq_true rfl) rfl kv_X7_hasHump ke_X7_hasHump km_X10_253 hc5 ⟨Nat.le_of_ble_eq_true rfl, Nat.le_of_ble_eq_true rfl⟩ (Nat.le_of_ble_eq_true rfl) (Nat.le_of_ble_eq_true rfl) (daX10_steeper_0 13 rfl) ?_
      refine GM_if_ne (pc := 29) 35 (daX10_steeper_0 14 rfl) rfl (fun c9 => ?_) (fun c9 => ?_)
      · skip
        rw [if_neg c9] at h
        refine GM_aload (pc := 35) 0 rfl (daX10_steeper_0 17 rfl) ?_
        refine GM_aload (pc := 37) 0 rfl (daX10_steeper_0 18 rfl) ?_
        refine GM_getf (pc := 39) 7 7 3 7 kf_X10_256 (Nat.le_of_ble_eq_true rfl) (Nat.le_of_ble_eq_true rfl) rfl (daX10_steeper_0 19 rfl) hc5 rfl ?_
        refine GM_iload_n (pc := 42) 4 rfl (daX10_steeper_0 20 rfl) rfl ?_
        obtain ⟨hc10, h⟩ := chk_inv h
        refine GM_iald (pc := 43) (daX10_steeper_0 21 rfl) hc10.1 hc10.2.1 hc10.2.2 ?_
        refine GM_aload (pc := 44) 0 rfl (daX10_steeper_0 22 rfl) ?_
        refine GM_getf (pc := 46) 7 7 3 7 kf_X10_256 (Nat.le_of_ble_eq_true rfl) (Nat.le_of_ble_eq_true rfl) rfl (daX10_steeper_0 23 rfl) hc5 rfl ?_
        refine GM_iload (pc := 49) 5 rfl (daX10_steeper_0 24 rfl) ?_
        obtain ⟨hc11, h⟩ := chk_inv h
        refine GM_iald (pc := 51) (daX10_steeper_0 25 rfl) hc10.1 hc11.1 hc11.2 ?_
        obtain ⟨r12, hf12, h⟩ := Option.bind_eq_some_iff.mp h
        refine GM_callV0 (pc := 52) [(0, μ2 (μ2 r2 7) v3), (0, μ2 (μ2 r2 7) v4)] (tX7_weigh l hf12) cwX7_weigh 7 (Nat.le_of_ble_eq_true rfl) rfl kv_X7_weigh ke_X7_weigh km_X10_259 hc5 ⟨Nat.le_of_ble_eq_true rfl, Nat.le_of_ble_eq_true rfl⟩ (Nat.le_of_ble_eq_true rfl) (Nat.le_of_ble_eq_true rfl) (daX10_steeper_0 26 rfl) ?_
        cases h
        exact GM_iret (pc := 55) (daX10_steeper_0 27 rfl) rfl hK
      · skip
        rw [if_pos c9] at h
        refine GM_bipush (pc := 32) (-2) (daX10_steeper_0 15 rfl) rfl (R32_b rfl) ?_
        cases h
        exact GM_iret (pc := 34) (daX10_steeper_0 16 rfl) rfl hK
theorem tX10_steeper (l : Launch) {v0 v1 v2 v3 v4 : Int} {μ : Mm} {t : (Int × Mm)} {c0 n0 : Nat} (h : fX10_steeper v0 v1 v2 v3 v4 μ = some (t, c0, n0)) : Ct l yX10_steeper mX10_steeper [(3, v0), (0, v1), (0, v2), (0, v3), (0, v4)] μ ([(0, t.1)], t.2, c0, n0) :=
  Ct_of (by decide +kernel) rfl rfl (Nat.le_of_ble_eq_true rfl) (fun _ _ _ => trivial) (gX10_steeper_0 (k := 0) (n := 0) l h ⟨rfl, rfl⟩)
def mX10_sees : MI := (RX10, cX10_sees, 4, (some .int), "sees", 5, 122, fun _ _ _ => True)
theorem cwX10_sees : CWd yX10_sees mX10_sees 2 := ⟨ki_X10, kk_X10_sees, ⟨by decide, by decide⟩, rfl⟩
def dtX10_sees_0 : List (Nat × Instr × Nat) := [(0, .aload_n 0, 1), (1, .iload_n 1, 1), (2, .iload_n 2, 1), (3, .invokevirtual 236, 3), (6, .astore_n 3, 1), (7, .aload_n 3, 1), (8, .ifnonnull 7, 3), (11, .iconst (-1), 1), (12, .goto 7, 3), (15, .aload_n 3, 1), (16, .invokevirtual 262, 3), (19, .ireturn, 1)]
theorem ddX10_sees_0 : (dtX10_sees_0.all fun e => decide (decode mX10_sees.2.1 e.1 = .ok (e.2.1, e.2.2))) = true := by decide +kernel
theorem daX10_sees_0 (j : Nat) {pc n : Nat} {i : Instr} (h : dtX10_sees_0[j]? = some (pc, i, n)) : decode mX10_sees.2.1 pc = .ok (i, n) := dec_of (c := mX10_sees.2.1) ddX10_sees_0 h
def fX10_sees (v0 v1 v2 : Int) (μ : Mm) : Option ((Int × Mm) × Nat × Nat) :=
  chk (KD v0 = 10) (
  (fX10_lineAt v0 v1 v2 μ).bind fun ((r2, μ2), c2, n2) =>
  pay c2 n2 (
  if r2 = 0 then
    some (((-1), μ2), 0, 0)
  else
    chk (KD r2 = 7) (
    (fX7_countShown r2 μ2).bind fun r6 =>
    some ((r6, μ2), 0, 0))))
set_option maxRecDepth 20000 in
theorem gX10_sees_0 (l : Launch) {F : FI} {v0 v1 v2 : Int} {μ : Mm} {t : (Int × Mm)} {c0 n0 k n : Nat} (h : fX10_sees v0 v1 v2 μ = some (t, c0, n0)) (hK : F.1 = [(0, t.1)] ∧ F.2.1 = t.2) : GM l mX10_sees F (c0 + k) (n0 + n) 0 [(0, (3, v0)), (1, (0, v1)), (2, (0, v2))] [] μ := by
  unfold fX10_sees at h
  refine GM_aload_n (pc := 0) 0 rfl (daX10_sees_0 0 rfl) rfl ?_
  refine GM_iload_n (pc := 1) 1 rfl (daX10_sees_0 1 rfl) rfl ?_
  refine GM_iload_n (pc := 2) 2 rfl (daX10_sees_0 2 rfl) rfl ?_
  obtain ⟨hc1, h⟩ := chk_inv h
  obtain ⟨⟨⟨r2, μ2⟩, c2, n2⟩, hf2, h⟩ := Option.bind_eq_some_iff.mp h
  dsimp only at h
  obtain ⟨c3, n3, hp, e1, e2⟩ := pay_inv h
  subst e1 e2
  replace h := hp
  clear hp
  rw [Nat.add_assoc, Nat.add_assoc]
  refine GM_callV (pc := 3) [(0, v1), (0, v2)] (tX10_lineAt l hf2) cwX10_lineAt 10 (Nat.le_of_ble_eq_true rfl) rfl kv_X10_lineAt ke_X10_lineAt km_X10_236 hc1 ⟨Nat.le_of_ble_eq_true rfl, Nat.le_of_ble_eq_true rfl⟩ (Nat.le_of_ble_eq_true rfl) (Nat.le_of_ble_eq_true rfl) (daX10_sees_0 3 rfl) ?_
  refine GM_astore_n (L' := [(3, (3, r2)), (0, (3, v0)), (1, (0, v1)), (2, (0, v2))]) (pc := 6) (daX10_sees_0 4 rfl) rfl (Nat.le_of_ble_eq_true rfl) rfl ?_
  refine GM_aload_n (pc := 7) 0 rfl (daX10_sees_0 5 rfl) rfl ?_
  refine GM_ifnonnull (pc := 8) 15 (daX10_sees_0 6 rfl) rfl (fun c4 => ?_) (fun c4 => ?_)
  · skip
    rw [if_neg c4] at h
    refine GM_aload_n (pc := 15) 0 rfl (daX10_sees_0 9 rfl) rfl ?_
    obtain ⟨hc5, h⟩ := chk_inv h
    obtain ⟨r6, hf6, h⟩ := Option.bind_eq_some_iff.mp h
    refine GM_callV0 (pc := 16) [] (tX7_countShown l hf6) cwX7_countShown 7 (Nat.le_of_ble_eq_true rfl) rfl kv_X7_countShown ke_X7_countShown km_X10_262 hc5 ⟨Nat.le_of_ble_eq_true rfl, Nat.le_of_ble_eq_true rfl⟩ (Nat.le_of_ble_eq_true rfl) (Nat.le_of_ble_eq_true rfl) (daX10_sees_0 10 rfl) ?_
    cases h
    exact GM_iret (pc := 19) (daX10_sees_0 11 rfl) rfl hK
  · skip
    rw [if_pos c4] at h
    refine GM_iconst (pc := 11) (-1) (daX10_sees_0 7 rfl) rfl (R32_b rfl) ?_
    refine GM_goto (pc := 12) 19 (daX10_sees_0 8 rfl) rfl ?_
    cases h
    exact GM_iret (pc := 19) (daX10_sees_0 11 rfl) rfl hK
theorem tX10_sees (l : Launch) {v0 v1 v2 : Int} {μ : Mm} {t : (Int × Mm)} {c0 n0 : Nat} (h : fX10_sees v0 v1 v2 μ = some (t, c0, n0)) : Ct l yX10_sees mX10_sees [(3, v0), (0, v1), (0, v2)] μ ([(0, t.1)], t.2, c0, n0) :=
  Ct_of (by decide +kernel) rfl rfl (Nat.le_of_ble_eq_true rfl) (fun _ _ _ => trivial) (gX10_sees_0 (k := 0) (n := 0) l h ⟨rfl, rfl⟩)
def mX10_most : MI := (RX10, cX10_most, 5, (some .int), "most", 4, 99, fun _ _ _ => True)
theorem cwX10_most : CWd yX10_most mX10_most 1 := ⟨ki_X10, kk_X10_most, ⟨by decide, by decide⟩, rfl⟩
def dtX10_most_0 : List (Nat × Instr × Nat) := [(0, .aload_n 0, 1), (1, .iload_n 1, 1), (2, .invokevirtual 220, 3), (5, .astore_n 2, 1), (6, .aload_n 2, 1), (7, .ifnonnull 5, 3), (10, .iconst (-1), 1), (11, .ireturn, 1), (12, .iconst 0, 1), (13, .istore_n 3, 1), (14, .iconst 1, 1), (15, .istore 4, 2), (17, .iload 4, 2), (19, .aload_n 2, 1), (20, .getfield 224, 3), (23, .invokevirtual 266, 3), (26, .if_icmp .ge 32, 3), (29, .aload_n 2, 1), (30, .iload 4, 2), (32, .invokevirtual 225, 3), (35, .invokevirtual 262, 3), (38, .aload_n 2, 1), (39, .iload_n 3, 1), (40, .invokevirtual 225, 3), (43, .invokevirtual 262, 3), (46, .if_icmp .le 6, 3), (49, .iload 4, 2), (51, .istore_n 3, 1), (52, .iinc 4 1, 3), (55, .goto (-38), 3), (58, .iload_n 3, 1), (59, .ireturn, 1)]
theorem ddX10_most_0 : (dtX10_most_0.all fun e => decide (decode mX10_most.2.1 e.1 = .ok (e.2.1, e.2.2))) = true := by decide +kernel
theorem daX10_most_0 (j : Nat) {pc n : Nat} {i : Instr} (h : dtX10_most_0[j]? = some (pc, i, n)) : decode mX10_most.2.1 pc = .ok (i, n) := dec_of (c := mX10_most.2.1) ddX10_most_0 h
def zX10_most_17 (l : Launch) (F : FI) (v2 : Int) (k n : Nat) : (Int × Int × Mm) ⊕ (Int × Mm) → Prop
  | .inl (v3, v4, μ) => GM l mX10_most F k n 17 [(2, (3, v2)), (3, (0, v3)), (4, (0, v4))] [] μ
  | .inr (v3, μ) => GM l mX10_most F k n 58 [(3, (0, v3))] [] μ
def sX10_most_17 (v2 : Int) : (Int × Int × Mm) → Option (((Int × Int × Mm) ⊕ (Int × Mm)) × Nat × Nat) := fun (v3, v4, μ) =>
  chk (KD v2 = 4) (
  chk (KD (μ v2 0) = 2) (
  (fX2_places (μ v2 0) μ).bind fun r3 =>
  if r3 ≤ v4 then
    some (.inr (v3, μ), 0, 0)
  else
    (fX4_lineOf v2 v4 μ).bind fun ((r5, μ5), c5, n5) =>
    pay c5 n5 (
    chk (KD r5 = 7) (
    (fX7_countShown r5 μ5).bind fun r8 =>
    (fX4_lineOf v2 v3 μ5).bind fun ((r9, μ9), c9, n9) =>
    pay c9 n9 (
    chk (KD r9 = 7) (
    (fX7_countShown r9 μ9).bind fun r12 =>
    if r8 ≤ r12 then
      some (.inl (v3, w32 (v4 + 1), μ9), 0, 0)
    else
      some (.inl (v4, w32 (v4 + 1), μ9), 0, 0)))))))
def fX10_most (v0 v1 : Int) (μ : Mm) : Option ((Int × Mm) × Nat × Nat) :=
  chk (KD v0 = 10) (
  (fX10_sceneAt v0 v1 μ).bind fun ((r15, μ15), c15, n15) =>
  pay c15 n15 (
  if r15 = 0 then
    some (((-1), μ15), 0, 0)
  else
    (lopA (sX10_most_17 r15) FU (0, 1, μ15)).bind fun (x18, ccx18, nnx18) =>
      pay ccx18 nnx18 (
      match x18 with
      | (v3_19, μ_19) =>
        some ((v3_19, μ_19), 0, 0))))
set_option maxRecDepth 20000 in
theorem qX10_most_17 (l : Launch) (F : FI) (v2 : Int) : ∀ (q : (Int × Int × Mm)) (t : ((Int × Int × Mm) ⊕ (Int × Mm))) (c0 n0 : Nat), sX10_most_17 v2 q = some (t, c0, n0) → ∀ k n, zX10_most_17 l F v2 k n t → zX10_most_17 l F v2 (c0 + k) (n0 + n) (.inl q) := by
  intro q t c0 n0 h k n hK
  obtain ⟨v3, v4, μ⟩ := q
  unfold sX10_most_17 at h
  try dsimp only at h
  show GM l mX10_most F (c0 + k) (n0 + n) 17 [(2, (3, v2)), (3, (0, v3)), (4, (0, v4))] [] μ
  refine GM_iload (pc := 17) 2 rfl (daX10_most_0 12 rfl) ?_
  refine GM_aload_n (pc := 19) 0 rfl (daX10_most_0 13 rfl) rfl ?_
  obtain ⟨hc1, h⟩ := chk_inv h
  refine GM_getf (pc := 20) 4 0 3 0 kf_X10_224 (Nat.le_of_ble_eq_true rfl) (Nat.le_of_ble_eq_true rfl) rfl (daX10_most_0 14 rfl) hc1 rfl ?_
  obtain ⟨hc2, h⟩ := chk_inv h
  obtain ⟨r3, hf3, h⟩ := Option.bind_eq_some_iff.mp h
  refine GM_callV0 (pc := 23) [] (tX2_places l hf3) cwX2_places 2 (Nat.le_of_ble_eq_true rfl) rfl kv_X2_places ke_X2_places km_X10_266 hc2 ⟨Nat.le_of_ble_eq_true rfl, Nat.le_of_ble_eq_true rfl⟩ (Nat.le_of_ble_eq_true rfl) (Nat.le_of_ble_eq_true rfl) (daX10_most_0 15 rfl) ?_
  refine GM_icmp_ge (pc := 26) 58 (daX10_most_0 16 rfl) rfl (fun c4 => ?_) (fun c4 => ?_)
  · skip
    rw [if_pos c4] at h
    refine GM_pick [1] rfl ?_
    cases h
    rw [Nat.zero_add, Nat.zero_add]
    exact hK
  · skip
    rw [if_neg c4] at h
    refine GM_aload_n (pc := 29) 0 rfl (daX10_most_0 17 rfl) rfl ?_
    refine GM_iload (pc := 30) 2 rfl (daX10_most_0 18 rfl) ?_
    obtain ⟨⟨⟨r5, μ5⟩, c5, n5⟩, hf5, h⟩ := Option.bind_eq_some_iff.mp h
    dsimp only at h
    obtain ⟨c6, n6, hp, e1, e2⟩ := pay_inv h
    subst e1 e2
    replace h := hp
    clear hp
    rw [Nat.add_assoc, Nat.add_assoc]
    refine GM_callV (pc := 32) [(0, v4)] (tX4_lineOf l hf5) cwX4_lineOf 4 (Nat.le_of_ble_eq_true rfl) rfl kv_X4_lineOf ke_X4_lineOf km_X10_225 hc1 ⟨Nat.le_of_ble_eq_true rfl, Nat.le_of_ble_eq_true rfl⟩ (Nat.le_of_ble_eq_true rfl) (Nat.le_of_ble_eq_true rfl) (daX10_most_0 19 rfl) ?_
    obtain ⟨hc7, h⟩ := chk_inv h
    obtain ⟨r8, hf8, h⟩ := Option.bind_eq_some_iff.mp h
    refine GM_callV0 (pc := 35) [] (tX7_countShown l hf8) cwX7_countShown 7 (Nat.le_of_ble_eq_true rfl) rfl kv_X7_countShown ke_X7_countShown km_X10_262 hc7 ⟨Nat.le_of_ble_eq_true rfl, Nat.le_of_ble_eq_true rfl⟩ (Nat.le_of_ble_eq_true rfl) (Nat.le_of_ble_eq_true rfl) (daX10_most_0 20 rfl) ?_
    refine GM_aload_n (pc := 38) 0 rfl (daX10_most_0 21 rfl) rfl ?_
    refine GM_iload_n (pc := 39) 1 rfl (daX10_most_0 22 rfl) rfl ?_
    obtain ⟨⟨⟨r9, μ9⟩, c9, n9⟩, hf9, h⟩ := Option.bind_eq_some_iff.mp h
    dsimp only at h
    obtain ⟨c10, n10, hp, e1, e2⟩ := pay_inv h
    subst e1 e2
    replace h := hp
    clear hp
    rw [Nat.add_assoc, Nat.add_assoc]
    refine GM_callV (pc := 40) [(0, v3)] (tX4_lineOf l hf9) cwX4_lineOf 4 (Nat.le_of_ble_eq_true rfl) rfl kv_X4_lineOf ke_X4_lineOf km_X10_225 hc1 ⟨Nat.le_of_ble_eq_true rfl, Nat.le_of_ble_eq_true rfl⟩ (Nat.le_of_ble_eq_true rfl) (Nat.le_of_ble_eq_true rfl) (daX10_most_0 23 rfl) ?_
    obtain ⟨hc11, h⟩ := chk_inv h
    obtain ⟨r12, hf12, h⟩ := Option.bind_eq_some_iff.mp h
    refine GM_callV0 (pc := 43) [] (tX7_countShown l hf12) cwX7_countShown 7 (Nat.le_of_ble_eq_true rfl) rfl kv_X7_countShown ke_X7_countShown km_X10_262 hc11 ⟨Nat.le_of_ble_eq_true rfl, Nat.le_of_ble_eq_true rfl⟩ (Nat.le_of_ble_eq_true rfl) (Nat.le_of_ble_eq_true rfl) (daX10_most_0 24 rfl) ?_
    refine GM_icmp_le (pc := 46) 52 (daX10_most_0 25 rfl) rfl (fun c13 => ?_) (fun c13 => ?_)
    · skip
      rw [if_pos c13] at h
      refine GM_iinc (L' := [(4, (0, w32 (v4 + 1))), (2, (3, v2)), (3, (0, v3))]) (pc := 52) 2 rfl (daX10_most_0 28 rfl) (Nat.le_of_ble_eq_true rfl) rfl ?_
      refine GM_goto (pc := 55) 17 (daX10_most_0 29 rfl) rfl ?_
      refine GM_pick [1, 2, 0] rfl ?_
      cases h
      rw [Nat.zero_add, Nat.zero_add]
      exact hK
    · skip
      rw [if_neg c13] at h
      refine GM_iload (pc := 49) 2 rfl (daX10_most_0 26 rfl) ?_
      refine GM_istore_n (L' := [(3, (0, v4)), (2, (3, v2)), (4, (0, v4))]) (pc := 51) (daX10_most_0 27 rfl) rfl (Nat.le_of_ble_eq_true rfl) rfl ?_
      refine GM_iinc (L' := [(4, (0, w32 (v4 + 1))), (3, (0, v4)), (2, (3, v2))]) (pc := 52) 2 rfl (daX10_most_0 28 rfl) (Nat.le_of_ble_eq_true rfl) rfl ?_
      refine GM_goto (pc := 55) 17 (daX10_most_0 29 rfl) rfl ?_
      refine GM_pick [2, 1, 0] rfl ?_
      cases h
      rw [Nat.zero_add, Nat.zero_add]
      exact hK
set_option maxRecDepth 20000 in
theorem gX10_most_0 (l : Launch) {F : FI} {v0 v1 : Int} {μ : Mm} {t : (Int × Mm)} {c0 n0 k n : Nat} (h : fX10_most v0 v1 μ = some (t, c0, n0)) (hK : F.1 = [(0, t.1)] ∧ F.2.1 = t.2) : GM l mX10_most F (c0 + k) (n0 + n) 0 [(0, (3, v0)), (1, (0, v1))] [] μ := by
  unfold fX10_most at h
  refine GM_aload_n (pc := 0) 0 rfl (daX10_most_0 0 rfl) rfl ?_
  refine GM_iload_n (pc := 1) 1 rfl (daX10_most_0 1 rfl) rfl ?_
  obtain ⟨hc14, h⟩ := chk_inv h
  obtain ⟨⟨⟨r15, μ15⟩, c15, n15⟩, hf15, h⟩ := Option.bind_eq_some_iff.mp h
  dsimp only at h
  obtain ⟨c16, n16, hp, e1, e2⟩ := pay_inv h
  subst e1 e2
  replace h := hp
  clear hp
  rw [Nat.add_assoc, Nat.add_assoc]
  refine GM_callV (pc := 2) [(0, v1)] (tX10_sceneAt l hf15) cwX10_sceneAt 10 (Nat.le_of_ble_eq_true rfl) rfl kv_X10_sceneAt ke_X10_sceneAt km_X10_220 hc14 ⟨Nat.le_of_ble_eq_true rfl, Nat.le_of_ble_eq_true rfl⟩ (Nat.le_of_ble_eq_true rfl) (Nat.le_of_ble_eq_true rfl) (daX10_most_0 2 rfl) ?_
  refine GM_astore_n (L' := [(2, (3, r15)), (0, (3, v0)), (1, (0, v1))]) (pc := 5) (daX10_most_0 3 rfl) rfl (Nat.le_of_ble_eq_true rfl) rfl ?_
  refine GM_aload_n (pc := 6) 0 rfl (daX10_most_0 4 rfl) rfl ?_
  refine GM_ifnonnull (pc := 7) 12 (daX10_most_0 5 rfl) rfl (fun c17 => ?_) (fun c17 => ?_)
  · skip
    rw [if_neg c17] at h
    refine GM_iconst (pc := 12) 0 (daX10_most_0 8 rfl) rfl (R32_b rfl) ?_
    refine GM_istore_n (L' := [(3, (0, 0)), (2, (3, r15)), (0, (3, v0)), (1, (0, v1))]) (pc := 13) (daX10_most_0 9 rfl) rfl (Nat.le_of_ble_eq_true rfl) rfl ?_
    refine GM_iconst (pc := 14) 1 (daX10_most_0 10 rfl) rfl (R32_b rfl) ?_
    refine GM_istore (L' := [(4, (0, 1)), (3, (0, 0)), (2, (3, r15)), (0, (3, v0)), (1, (0, v1))]) (pc := 15) (daX10_most_0 11 rfl) (Nat.le_of_ble_eq_true rfl) rfl ?_
    refine GM_pick [2, 1, 0] rfl ?_
    obtain ⟨x18, hqx18, h⟩ := Option.bind_eq_some_iff.mp h
    obtain ⟨x18, ccx18, nnx18⟩ := x18
    dsimp only at h
    obtain ⟨c20, n20, hp, e1, e2⟩ := pay_inv h
    subst e1 e2
    replace h := hp
    clear hp
    rw [Nat.add_assoc, Nat.add_assoc]
    refine lopA_ind (fun k n => zX10_most_17 l F r15 k n) (qX10_most_17 l F r15) FU _ x18 _ _ hqx18 _ _ ?_
    obtain ⟨v3_19, μ_19⟩ := x18
    dsimp only at h
    show GM l mX10_most F (c20 + k) (n20 + n) 58 [(3, (0, v3_19))] [] μ_19
    refine GM_iload_n (pc := 58) 0 rfl (daX10_most_0 30 rfl) rfl ?_
    cases h
    exact GM_iret (pc := 59) (daX10_most_0 31 rfl) rfl hK
  · skip
    rw [if_pos c17] at h
    refine GM_iconst (pc := 10) (-1) (daX10_most_0 6 rfl) rfl (R32_b rfl) ?_
    cases h
    exact GM_iret (pc := 11) (daX10_most_0 7 rfl) rfl hK
theorem tX10_most (l : Launch) {v0 v1 : Int} {μ : Mm} {t : (Int × Mm)} {c0 n0 : Nat} (h : fX10_most v0 v1 μ = some (t, c0, n0)) : Ct l yX10_most mX10_most [(3, v0), (0, v1)] μ ([(0, t.1)], t.2, c0, n0) :=
  Ct_of (by decide +kernel) rfl rfl (Nat.le_of_ble_eq_true rfl) (fun _ _ _ => trivial) (gX10_most_0 (k := 0) (n := 0) l h ⟨rfl, rfl⟩)
def mX10_isShown : MI := (RX10, cX10_isShown, 3, (some .boolean), "isShown", 4, 99, fun _ _ _ => True)
theorem cwX10_isShown : CWd yX10_isShown mX10_isShown 2 := ⟨ki_X10, kk_X10_isShown, ⟨by decide, by decide⟩, rfl⟩
def dtX10_isShown_0 : List (Nat × Instr × Nat) := [(0, .iconst 0, 1), (1, .istore_n 2, 1), (2, .iload_n 2, 1), (3, .aload_n 0, 1), (4, .getfield 224, 3), (7, .invokevirtual 266, 3), (10, .if_icmp .ge 23, 3), (13, .aload_n 0, 1), (14, .iload_n 2, 1), (15, .invokevirtual 225, 3), (18, .iload_n 1, 1), (19, .invokevirtual 240, 3), (22, .ifCond .eq 5, 3), (25, .iconst 1, 1), (26, .ireturn, 1), (27, .iinc 2 1, 3), (30, .goto (-28), 3), (33, .iconst 0, 1), (34, .ireturn, 1)]
theorem ddX10_isShown_0 : (dtX10_isShown_0.all fun e => decide (decode mX10_isShown.2.1 e.1 = .ok (e.2.1, e.2.2))) = true := by decide +kernel
theorem daX10_isShown_0 (j : Nat) {pc n : Nat} {i : Instr} (h : dtX10_isShown_0[j]? = some (pc, i, n)) : decode mX10_isShown.2.1 pc = .ok (i, n) := dec_of (c := mX10_isShown.2.1) ddX10_isShown_0 h
def zX10_isShown_2 (l : Launch) (F : FI) (v0 v1 : Int) (k n : Nat) : (Int × Mm) ⊕ (Mm ⊕ Mm) → Prop
  | .inl (v2, μ) => GM l mX10_isShown F k n 2 [(0, (3, v0)), (1, (0, v1)), (2, (0, v2))] [] μ
  | .inr (.inl μ) => GM l mX10_isShown F k n 33 [] [] μ
  | .inr (.inr μ) => GM l mX10_isShown F k n 25 [] [] μ
def sX10_isShown_2 (v0 v1 : Int) : (Int × Mm) → Option (((Int × Mm) ⊕ (Mm ⊕ Mm)) × Nat × Nat) := fun (v2, μ) =>
  chk (KD v0 = 4) (
  chk (KD (μ v0 0) = 2) (
  (fX2_places (μ v0 0) μ).bind fun r3 =>
  if r3 ≤ v2 then
    some (.inr (.inl μ), 0, 0)
  else
    (fX4_lineOf v0 v2 μ).bind fun ((r5, μ5), c5, n5) =>
    pay c5 n5 (
    chk (KD r5 = 7) (
    (fX7_shows r5 v1 μ5).bind fun r8 =>
    if r8 = 0 then
      some (.inl (w32 (v2 + 1), μ5), 0, 0)
    else
      some (.inr (.inr μ5), 0, 0)))))
def fX10_isShown (v0 v1 : Int) (μ : Mm) : Option ((Int × Mm) × Nat × Nat) :=
  (lopA (sX10_isShown_2 v0 v1) FU (0, μ)).bind fun (x10, ccx10, nnx10) =>
    pay ccx10 nnx10 (
    match x10 with
    | (.inl μ_11) =>
        some ((0, μ_11), 0, 0)
    | (.inr μ_12) =>
        some ((1, μ_12), 0, 0))
set_option maxRecDepth 20000 in
theorem qX10_isShown_2 (l : Launch) (F : FI) (v0 v1 : Int) : ∀ (q : (Int × Mm)) (t : ((Int × Mm) ⊕ (Mm ⊕ Mm))) (c0 n0 : Nat), sX10_isShown_2 v0 v1 q = some (t, c0, n0) → ∀ k n, zX10_isShown_2 l F v0 v1 k n t → zX10_isShown_2 l F v0 v1 (c0 + k) (n0 + n) (.inl q) := by
  intro q t c0 n0 h k n hK
  obtain ⟨v2, μ⟩ := q
  unfold sX10_isShown_2 at h
  try dsimp only at h
  show GM l mX10_isShown F (c0 + k) (n0 + n) 2 [(0, (3, v0)), (1, (0, v1)), (2, (0, v2))] [] μ
  refine GM_iload_n (pc := 2) 2 rfl (daX10_isShown_0 2 rfl) rfl ?_
  refine GM_aload_n (pc := 3) 0 rfl (daX10_isShown_0 3 rfl) rfl ?_
  obtain ⟨hc1, h⟩ := chk_inv h
  refine GM_getf (pc := 4) 4 0 3 0 kf_X10_224 (Nat.le_of_ble_eq_true rfl) (Nat.le_of_ble_eq_true rfl) rfl (daX10_isShown_0 4 rfl) hc1 rfl ?_
  obtain ⟨hc2, h⟩ := chk_inv h
  obtain ⟨r3, hf3, h⟩ := Option.bind_eq_some_iff.mp h
  refine GM_callV0 (pc := 7) [] (tX2_places l hf3) cwX2_places 2 (Nat.le_of_ble_eq_true rfl) rfl kv_X2_places ke_X2_places km_X10_266 hc2 ⟨Nat.le_of_ble_eq_true rfl, Nat.le_of_ble_eq_true rfl⟩ (Nat.le_of_ble_eq_true rfl) (Nat.le_of_ble_eq_true rfl) (daX10_isShown_0 5 rfl) ?_
  refine GM_icmp_ge (pc := 10) 33 (daX10_isShown_0 6 rfl) rfl (fun c4 => ?_) (fun c4 => ?_)
  · skip
    rw [if_pos c4] at h
    refine GM_pick [] rfl ?_
    cases h
    rw [Nat.zero_add, Nat.zero_add]
    exact hK
  · skip
    rw [if_neg c4] at h
    refine GM_aload_n (pc := 13) 0 rfl (daX10_isShown_0 7 rfl) rfl ?_
    refine GM_iload_n (pc := 14) 2 rfl (daX10_isShown_0 8 rfl) rfl ?_
    obtain ⟨⟨⟨r5, μ5⟩, c5, n5⟩, hf5, h⟩ := Option.bind_eq_some_iff.mp h
    dsimp only at h
    obtain ⟨c6, n6, hp, e1, e2⟩ := pay_inv h
    subst e1 e2
    replace h := hp
    clear hp
    rw [Nat.add_assoc, Nat.add_assoc]
    refine GM_callV (pc := 15) [(0, v2)] (tX4_lineOf l hf5) cwX4_lineOf 4 (Nat.le_of_ble_eq_true rfl) rfl kv_X4_lineOf ke_X4_lineOf km_X10_225 hc1 ⟨Nat.le_of_ble_eq_true rfl, Nat.le_of_ble_eq_true rfl⟩ (Nat.le_of_ble_eq_true rfl) (Nat.le_of_ble_eq_true rfl) (daX10_isShown_0 9 rfl) ?_
    refine GM_iload_n (pc := 18) 1 rfl (daX10_isShown_0 10 rfl) rfl ?_
    obtain ⟨hc7, h⟩ := chk_inv h
    obtain ⟨r8, hf8, h⟩ := Option.bind_eq_some_iff.mp h
    refine GM_callV0 (pc := 19) [(0, v1)] (tX7_shows l hf8) cwX7_shows 7 (Nat.le_of_ble_eq_true rfl) rfl kv_X7_shows ke_X7_shows km_X10_240 hc7 ⟨Nat.le_of_ble_eq_true rfl, Nat.le_of_ble_eq_true rfl⟩ (Nat.le_of_ble_eq_true rfl) (Nat.le_of_ble_eq_true rfl) (daX10_isShown_0 11 rfl) ?_
    refine GM_if_eq (pc := 22) 27 (daX10_isShown_0 12 rfl) rfl (fun c9 => ?_) (fun c9 => ?_)
    · skip
      rw [if_pos c9] at h
      refine GM_iinc (L' := [(2, (0, w32 (v2 + 1))), (0, (3, v0)), (1, (0, v1))]) (pc := 27) 2 rfl (daX10_isShown_0 15 rfl) (Nat.le_of_ble_eq_true rfl) rfl ?_
      refine GM_goto (pc := 30) 2 (daX10_isShown_0 16 rfl) rfl ?_
      refine GM_pick [1, 2, 0] rfl ?_
      cases h
      rw [Nat.zero_add, Nat.zero_add]
      exact hK
    · skip
      rw [if_neg c9] at h
      refine GM_pick [] rfl ?_
      cases h
      rw [Nat.zero_add, Nat.zero_add]
      exact hK
set_option maxRecDepth 20000 in
theorem gX10_isShown_0 (l : Launch) {F : FI} {v0 v1 : Int} {μ : Mm} {t : (Int × Mm)} {c0 n0 k n : Nat} (h : fX10_isShown v0 v1 μ = some (t, c0, n0)) (hK : F.1 = [(0, t.1)] ∧ F.2.1 = t.2) : GM l mX10_isShown F (c0 + k) (n0 + n) 0 [(0, (3, v0)), (1, (0, v1))] [] μ := by
  unfold fX10_isShown at h
  refine GM_iconst (pc := 0) 0 (daX10_isShown_0 0 rfl) rfl (R32_b rfl) ?_
  refine GM_istore_n (L' := [(2, (0, 0)), (0, (3, v0)), (1, (0, v1))]) (pc := 1) (daX10_isShown_0 1 rfl) rfl (Nat.le_of_ble_eq_true rfl) rfl ?_
  refine GM_pick [1, 2, 0] rfl ?_
  obtain ⟨x10, hqx10, h⟩ := Option.bind_eq_some_iff.mp h
  obtain ⟨x10, ccx10, nnx10⟩ := x10
  dsimp only at h
  obtain ⟨c13, n13, hp, e1, e2⟩ := pay_inv h
  subst e1 e2
  replace h := hp
  clear hp
  rw [Nat.add_assoc, Nat.add_assoc]
  refine lopA_ind (fun k n => zX10_isShown_2 l F v0 v1 k n) (qX10_isShown_2 l F v0 v1) FU _ x10 _ _ hqx10 _ _ ?_
  rcases x10 with μ_11 | μ_12
  · dsimp only at h
    show GM l mX10_isShown F (c13 + k) (n13 + n) 33 [] [] μ_11
    refine GM_iconst (pc := 33) 0 (daX10_isShown_0 17 rfl) rfl (R32_b rfl) ?_
    cases h
    exact GM_zret (pc := 34) (daX10_isShown_0 18 rfl) rfl (Or.inl rfl) hK
  · dsimp only at h
    show GM l mX10_isShown F (c13 + k) (n13 + n) 25 [] [] μ_12
    refine GM_iconst (pc := 25) 1 (daX10_isShown_0 13 rfl) rfl (R32_b rfl) ?_
    cases h
    exact GM_zret (pc := 26) (daX10_isShown_0 14 rfl) rfl (Or.inr rfl) hK
theorem tX10_isShown (l : Launch) {v0 v1 : Int} {μ : Mm} {t : (Int × Mm)} {c0 n0 : Nat} (h : fX10_isShown v0 v1 μ = some (t, c0, n0)) : Ct l yX10_isShown mX10_isShown [(3, v0), (0, v1)] μ ([(0, t.1)], t.2, c0, n0) :=
  Ct_of (by decide +kernel) rfl rfl (Nat.le_of_ble_eq_true rfl) (fun _ _ _ => trivial) (gX10_isShown_0 (k := 0) (n := 0) l h ⟨rfl, rfl⟩)
def mX10_hidden : MI := (RX10, cX10_hidden, 5, (some .int), "hidden", 5, 121, fun _ _ _ => True)
theorem cwX10_hidden : CWd yX10_hidden mX10_hidden 1 := ⟨ki_X10, kk_X10_hidden, ⟨by decide, by decide⟩, rfl⟩
def dtX10_hidden_0 : List (Nat × Instr × Nat) := [(0, .aload_n 0, 1), (1, .iload_n 1, 1), (2, .invokevirtual 220, 3), (5, .astore_n 2, 1), (6, .aload_n 2, 1), (7, .ifnonnull 5, 3), (10, .iconst (-1), 1), (11, .ireturn, 1), (12, .iconst 0, 1), (13, .istore_n 3, 1), (14, .iconst 0, 1), (15, .istore 4, 2), (17, .iload 4, 2), (19, .aload_n 2, 1), (20, .getfield 224, 3), (23, .invokevirtual 266, 3), (26, .if_icmp .ge 21, 3), (29, .aload_n 2, 1), (30, .iload 4, 2), (32, .invokestatic 269, 3), (35, .ifCond .ne 6, 3), (38, .iinc 3 1, 3), (41, .iinc 4 1, 3), (44, .goto (-27), 3), (47, .iload_n 3, 1), (48, .ireturn, 1)]
theorem ddX10_hidden_0 : (dtX10_hidden_0.all fun e => decide (decode mX10_hidden.2.1 e.1 = .ok (e.2.1, e.2.2))) = true := by decide +kernel
theorem daX10_hidden_0 (j : Nat) {pc n : Nat} {i : Instr} (h : dtX10_hidden_0[j]? = some (pc, i, n)) : decode mX10_hidden.2.1 pc = .ok (i, n) := dec_of (c := mX10_hidden.2.1) ddX10_hidden_0 h
def zX10_hidden_17 (l : Launch) (F : FI) (v2 : Int) (k n : Nat) : (Int × Int × Mm) ⊕ (Int × Mm) → Prop
  | .inl (v3, v4, μ) => GM l mX10_hidden F k n 17 [(2, (3, v2)), (3, (0, v3)), (4, (0, v4))] [] μ
  | .inr (v3, μ) => GM l mX10_hidden F k n 47 [(3, (0, v3))] [] μ
def sX10_hidden_17 (v2 : Int) : (Int × Int × Mm) → Option (((Int × Int × Mm) ⊕ (Int × Mm)) × Nat × Nat) := fun (v3, v4, μ) =>
  chk (KD v2 = 4) (
  chk (KD (μ v2 0) = 2) (
  (fX2_places (μ v2 0) μ).bind fun r3 =>
  if r3 ≤ v4 then
    some (.inr (v3, μ), 0, 0)
  else
    (fX10_isShown v2 v4 μ).bind fun ((r5, μ5), c5, n5) =>
    pay c5 n5 (
    if r5 = 0 then
      some (.inl (w32 (v3 + 1), w32 (v4 + 1), μ5), 0, 0)
    else
      some (.inl (v3, w32 (v4 + 1), μ5), 0, 0))))
def fX10_hidden (v0 v1 : Int) (μ : Mm) : Option ((Int × Mm) × Nat × Nat) :=
  chk (KD v0 = 10) (
  (fX10_sceneAt v0 v1 μ).bind fun ((r9, μ9), c9, n9) =>
  pay c9 n9 (
  if r9 = 0 then
    some (((-1), μ9), 0, 0)
  else
    (lopA (sX10_hidden_17 r9) FU (0, 0, μ9)).bind fun (x12, ccx12, nnx12) =>
      pay ccx12 nnx12 (
      match x12 with
      | (v3_13, μ_13) =>
        some ((v3_13, μ_13), 0, 0))))
set_option maxRecDepth 20000 in
theorem qX10_hidden_17 (l : Launch) (F : FI) (v2 : Int) : ∀ (q : (Int × Int × Mm)) (t : ((Int × Int × Mm) ⊕ (Int × Mm))) (c0 n0 : Nat), sX10_hidden_17 v2 q = some (t, c0, n0) → ∀ k n, zX10_hidden_17 l F v2 k n t → zX10_hidden_17 l F v2 (c0 + k) (n0 + n) (.inl q) := by
  intro q t c0 n0 h k n hK
  obtain ⟨v3, v4, μ⟩ := q
  unfold sX10_hidden_17 at h
  try dsimp only at h
  show GM l mX10_hidden F (c0 + k) (n0 + n) 17 [(2, (3, v2)), (3, (0, v3)), (4, (0, v4))] [] μ
  refine GM_iload (pc := 17) 2 rfl (daX10_hidden_0 12 rfl) ?_
  refine GM_aload_n (pc := 19) 0 rfl (daX10_hidden_0 13 rfl) rfl ?_
  obtain ⟨hc1, h⟩ := chk_inv h
  refine GM_getf (pc := 20) 4 0 3 0 kf_X10_224 (Nat.le_of_ble_eq_true rfl) (Nat.le_of_ble_eq_true rfl) rfl (daX10_hidden_0 14 rfl) hc1 rfl ?_
  obtain ⟨hc2, h⟩ := chk_inv h
  obtain ⟨r3, hf3, h⟩ := Option.bind_eq_some_iff.mp h
  refine GM_callV0 (pc := 23) [] (tX2_places l hf3) cwX2_places 2 (Nat.le_of_ble_eq_true rfl) rfl kv_X2_places ke_X2_places km_X10_266 hc2 ⟨Nat.le_of_ble_eq_true rfl, Nat.le_of_ble_eq_true rfl⟩ (Nat.le_of_ble_eq_true rfl) (Nat.le_of_ble_eq_true rfl) (daX10_hidden_0 15 rfl) ?_
  refine GM_icmp_ge (pc := 26) 47 (daX10_hidden_0 16 rfl) rfl (fun c4 => ?_) (fun c4 => ?_)
  · skip
    rw [if_pos c4] at h
    refine GM_pick [1] rfl ?_
    cases h
    rw [Nat.zero_add, Nat.zero_add]
    exact hK
  · skip
    rw [if_neg c4] at h
    refine GM_aload_n (pc := 29) 0 rfl (daX10_hidden_0 17 rfl) rfl ?_
    refine GM_iload (pc := 30) 2 rfl (daX10_hidden_0 18 rfl) ?_
    obtain ⟨⟨⟨r5, μ5⟩, c5, n5⟩, hf5, h⟩ := Option.bind_eq_some_iff.mp h
    dsimp only at h
    obtain ⟨c6, n6, hp, e1, e2⟩ := pay_inv h
    subst e1 e2
    replace h := hp
    clear hp
    rw [Nat.add_assoc, Nat.add_assoc]
    refine GM_callS (pc := 32) [(3, v2), (0, v4)] (tX10_isShown l hf5) cwX10_isShown ks_X10_isShown km_X10_269 ⟨Nat.le_of_ble_eq_true rfl, Nat.le_of_ble_eq_true rfl⟩ (Nat.le_of_ble_eq_true rfl) (Nat.le_of_ble_eq_true rfl) (daX10_hidden_0 19 rfl) ?_
    refine GM_if_ne (pc := 35) 41 (daX10_hidden_0 20 rfl) rfl (fun c7 => ?_) (fun c7 => ?_)
    · skip
      rw [if_neg c7] at h
      refine GM_iinc (L' := [(4, (0, w32 (v4 + 1))), (2, (3, v2)), (3, (0, v3))]) (pc := 41) 2 rfl (daX10_hidden_0 22 rfl) (Nat.le_of_ble_eq_true rfl) rfl ?_
      refine GM_goto (pc := 44) 17 (daX10_hidden_0 23 rfl) rfl ?_
      refine GM_pick [1, 2, 0] rfl ?_
      cases h
      rw [Nat.zero_add, Nat.zero_add]
      exact hK
    · skip
      rw [if_pos c7] at h
      refine GM_iinc (L' := [(3, (0, w32 (v3 + 1))), (2, (3, v2)), (4, (0, v4))]) (pc := 38) 1 rfl (daX10_hidden_0 21 rfl) (Nat.le_of_ble_eq_true rfl) rfl ?_
      refine GM_iinc (L' := [(4, (0, w32 (v4 + 1))), (3, (0, w32 (v3 + 1))), (2, (3, v2))]) (pc := 41) 2 rfl (daX10_hidden_0 22 rfl) (Nat.le_of_ble_eq_true rfl) rfl ?_
      refine GM_goto (pc := 44) 17 (daX10_hidden_0 23 rfl) rfl ?_
      refine GM_pick [2, 1, 0] rfl ?_
      cases h
      rw [Nat.zero_add, Nat.zero_add]
      exact hK
set_option maxRecDepth 20000 in
theorem gX10_hidden_0 (l : Launch) {F : FI} {v0 v1 : Int} {μ : Mm} {t : (Int × Mm)} {c0 n0 k n : Nat} (h : fX10_hidden v0 v1 μ = some (t, c0, n0)) (hK : F.1 = [(0, t.1)] ∧ F.2.1 = t.2) : GM l mX10_hidden F (c0 + k) (n0 + n) 0 [(0, (3, v0)), (1, (0, v1))] [] μ := by
  unfold fX10_hidden at h
  refine GM_aload_n (pc := 0) 0 rfl (daX10_hidden_0 0 rfl) rfl ?_
  refine GM_iload_n (pc := 1) 1 rfl (daX10_hidden_0 1 rfl) rfl ?_
  obtain ⟨hc8, h⟩ := chk_inv h
  obtain ⟨⟨⟨r9, μ9⟩, c9, n9⟩, hf9, h⟩ := Option.bind_eq_some_iff.mp h
  dsimp only at h
  obtain ⟨c10, n10, hp, e1, e2⟩ := pay_inv h
  subst e1 e2
  replace h := hp
  clear hp
  rw [Nat.add_assoc, Nat.add_assoc]
  refine GM_callV (pc := 2) [(0, v1)] (tX10_sceneAt l hf9) cwX10_sceneAt 10 (Nat.le_of_ble_eq_true rfl) rfl kv_X10_sceneAt ke_X10_sceneAt km_X10_220 hc8 ⟨Nat.le_of_ble_eq_true rfl, Nat.le_of_ble_eq_true rfl⟩ (Nat.le_of_ble_eq_true rfl) (Nat.le_of_ble_eq_true rfl) (daX10_hidden_0 2 rfl) ?_
  refine GM_astore_n (L' := [(2, (3, r9)), (0, (3, v0)), (1, (0, v1))]) (pc := 5) (daX10_hidden_0 3 rfl) rfl (Nat.le_of_ble_eq_true rfl) rfl ?_
  refine GM_aload_n (pc := 6) 0 rfl (daX10_hidden_0 4 rfl) rfl ?_
  refine GM_ifnonnull (pc := 7) 12 (daX10_hidden_0 5 rfl) rfl (fun c11 => ?_) (fun c11 => ?_)
  · skip
    rw [if_neg c11] at h
    refine GM_iconst (pc := 12) 0 (daX10_hidden_0 8 rfl) rfl (R32_b rfl) ?_
    refine GM_istore_n (L' := [(3, (0, 0)), (2, (3, r9)), (0, (3, v0)), (1, (0, v1))]) (pc := 13) (daX10_hidden_0 9 rfl) rfl (Nat.le_of_ble_eq_true rfl) rfl ?_
    refine GM_iconst (pc := 14) 0 (daX10_hidden_0 10 rfl) rfl (R32_b rfl) ?_
    refine GM_istore (L' := [(4, (0, 0)), (3, (0, 0)), (2, (3, r9)), (0, (3, v0)), (1, (0, v1))]) (pc := 15) (daX10_hidden_0 11 rfl) (Nat.le_of_ble_eq_true rfl) rfl ?_
    refine GM_pick [2, 1, 0] rfl ?_
    obtain ⟨x12, hqx12, h⟩ := Option.bind_eq_some_iff.mp h
    obtain ⟨x12, ccx12, nnx12⟩ := x12
    dsimp only at h
    obtain ⟨c14, n14, hp, e1, e2⟩ := pay_inv h
    subst e1 e2
    replace h := hp
    clear hp
    rw [Nat.add_assoc, Nat.add_assoc]
    refine lopA_ind (fun k n => zX10_hidden_17 l F r9 k n) (qX10_hidden_17 l F r9) FU _ x12 _ _ hqx12 _ _ ?_
    obtain ⟨v3_13, μ_13⟩ := x12
    dsimp only at h
    show GM l mX10_hidden F (c14 + k) (n14 + n) 47 [(3, (0, v3_13))] [] μ_13
    refine GM_iload_n (pc := 47) 0 rfl (daX10_hidden_0 24 rfl) rfl ?_
    cases h
    exact GM_iret (pc := 48) (daX10_hidden_0 25 rfl) rfl hK
  · skip
    rw [if_pos c11] at h
    refine GM_iconst (pc := 10) (-1) (daX10_hidden_0 6 rfl) rfl (R32_b rfl) ?_
    cases h
    exact GM_iret (pc := 11) (daX10_hidden_0 7 rfl) rfl hK
theorem tX10_hidden (l : Launch) {v0 v1 : Int} {μ : Mm} {t : (Int × Mm)} {c0 n0 : Nat} (h : fX10_hidden v0 v1 μ = some (t, c0, n0)) : Ct l yX10_hidden mX10_hidden [(3, v0), (0, v1)] μ ([(0, t.1)], t.2, c0, n0) :=
  Ct_of (by decide +kernel) rfl rfl (Nat.le_of_ble_eq_true rfl) (fun _ _ _ => trivial) (gX10_hidden_0 (k := 0) (n := 0) l h ⟨rfl, rfl⟩)
def mX10_guards : MI := (RX10, cX10_guards, 5, (some .int), "guards", 6, 144, fun _ _ _ => True)
theorem cwX10_guards : CWd yX10_guards mX10_guards 2 := ⟨ki_X10, kk_X10_guards, ⟨by decide, by decide⟩, rfl⟩
def dtX10_guards_0 : List (Nat × Instr × Nat) := [(0, .aload_n 0, 1), (1, .iload_n 1, 1), (2, .invokevirtual 220, 3), (5, .astore_n 3, 1), (6, .aload_n 3, 1), (7, .ifnonnull 5, 3), (10, .iconst (-1), 1), (11, .ireturn, 1), (12, .aload_n 3, 1), (13, .invokevirtual 273, 3), (16, .istore 4, 2), (18, .iload_n 2, 1), (19, .iconst (-1), 1), (20, .if_icmp .ne 6, 3), (23, .iload 4, 2), (25, .ireturn, 1), (26, .iload_n 2, 1), (27, .ifCond .lt 23, 3), (30, .iload_n 2, 1), (31, .iload 4, 2), (33, .if_icmp .ge 17, 3), (36, .iload_n 2, 1), (37, .iconst 3, 1), (38, .if_icmp .ge 12, 3), (41, .aload_n 3, 1), (42, .getfield 276, 3), (45, .iload_n 2, 1), (46, .iaload, 1), (47, .goto 4, 3), (50, .iconst (-1), 1), (51, .ireturn, 1)]
theorem ddX10_guards_0 : (dtX10_guards_0.all fun e => decide (decode mX10_guards.2.1 e.1 = .ok (e.2.1, e.2.2))) = true := by decide +kernel
theorem daX10_guards_0 (j : Nat) {pc n : Nat} {i : Instr} (h : dtX10_guards_0[j]? = some (pc, i, n)) : decode mX10_guards.2.1 pc = .ok (i, n) := dec_of (c := mX10_guards.2.1) ddX10_guards_0 h
def fX10_guards (v0 v1 v2 : Int) (μ : Mm) : Option ((Int × Mm) × Nat × Nat) :=
  chk (KD v0 = 10) (
  (fX10_sceneAt v0 v1 μ).bind fun ((r2, μ2), c2, n2) =>
  pay c2 n2 (
  if r2 = 0 then
    some (((-1), μ2), 0, 0)
  else
    chk (KD r2 = 4) (
    (fX4_guardCount r2 μ2).bind fun ((r6, μ6), c6, n6) =>
    pay c6 n6 (
    if v2 = (-1) then
      some ((r6, μ6), 0, 0)
    else
      if v2 < 0 then
        some (((-1), μ6), 0, 0)
      else
        if r6 ≤ v2 then
          some (((-1), μ6), 0, 0)
        else
          if 3 ≤ v2 then
            some (((-1), μ6), 0, 0)
          else
            chk (KD (μ6 r2 2) = 12 ∧ 0 ≤ v2 ∧ v2 < LN (μ6 r2 2)) (
            some ((μ6 (μ6 r2 2) v2, μ6), 0, 0))))))
set_option maxRecDepth 20000 in
theorem gX10_guards_0 (l : Launch) {F : FI} {v0 v1 v2 : Int} {μ : Mm} {t : (Int × Mm)} {c0 n0 k n : Nat} (h : fX10_guards v0 v1 v2 μ = some (t, c0, n0)) (hK : F.1 = [(0, t.1)] ∧ F.2.1 = t.2) : GM l mX10_guards F (c0 + k) (n0 + n) 0 [(0, (3, v0)), (1, (0, v1)), (2, (0, v2))] [] μ := by
  unfold fX10_guards at h
  refine GM_aload_n (pc := 0) 0 rfl (daX10_guards_0 0 rfl) rfl ?_
  refine GM_iload_n (pc := 1) 1 rfl (daX10_guards_0 1 rfl) rfl ?_
  obtain ⟨hc1, h⟩ := chk_inv h
  obtain ⟨⟨⟨r2, μ2⟩, c2, n2⟩, hf2, h⟩ := Option.bind_eq_some_iff.mp h
  dsimp only at h
  obtain ⟨c3, n3, hp, e1, e2⟩ := pay_inv h
  subst e1 e2
  replace h := hp
  clear hp
  rw [Nat.add_assoc, Nat.add_assoc]
  refine GM_callV (pc := 2) [(0, v1)] (tX10_sceneAt l hf2) cwX10_sceneAt 10 (Nat.le_of_ble_eq_true rfl) rfl kv_X10_sceneAt ke_X10_sceneAt km_X10_220 hc1 ⟨Nat.le_of_ble_eq_true rfl, Nat.le_of_ble_eq_true rfl⟩ (Nat.le_of_ble_eq_true rfl) (Nat.le_of_ble_eq_true rfl) (daX10_guards_0 2 rfl) ?_
  refine GM_astore_n (L' := [(3, (3, r2)), (0, (3, v0)), (1, (0, v1)), (2, (0, v2))]) (pc := 5) (daX10_guards_0 3 rfl) rfl (Nat.le_of_ble_eq_true rfl) rfl ?_
  refine GM_aload_n (pc := 6) 0 rfl (daX10_guards_0 4 rfl) rfl ?_
  refine GM_ifnonnull (pc := 7) 12 (daX10_guards_0 5 rfl) rfl (fun c4 => ?_) (fun c4 => ?_)
  · skip
    rw [if_neg c4] at h
    refine GM_aload_n (pc := 12) 0 rfl (daX10_guards_0 8 rfl) rfl ?_
    obtain ⟨hc5, h⟩ := chk_inv h
    obtain ⟨⟨⟨r6, μ6⟩, c6, n6⟩, hf6, h⟩ := Option.bind_eq_some_iff.mp h
    dsimp only at h
    obtain ⟨c7, n7, hp, e1, e2⟩ := pay_inv h
    subst e1 e2
    replace h := hp
    clear hp
    rw [Nat.add_assoc, Nat.add_assoc]
    refine GM_callV (pc := 13) [] (tX4_guardCount l hf6) cwX4_guardCount 4 (Nat.le_of_ble_eq_true rfl) rfl kv_X4_guardCount ke_X4_guardCount km_X10_273 hc5 ⟨Nat.le_of_ble_eq_true rfl, Nat.le_of_ble_eq_true rfl⟩ (Nat.le_of_ble_eq_true rfl) (Nat.le_of_ble_eq_true rfl) (daX10_guards_0 9 rfl) ?_
    refine GM_istore (L' := [(4, (0, r6)), (3, (3, r2)), (0, (3, v0)), (1, (0, v1)), (2, (0, v2))]) (pc := 16) (daX10_guards_0 10 rfl) (Nat.le_of_ble_eq_true rfl) rfl ?_
    refine GM_iload_n (pc := 18) 4 rfl (daX10_guards_0 11 rfl) rfl ?_
    refine GM_iconst (pc := 19) (-1) (daX10_guards_0 12 rfl) rfl (R32_b rfl) ?_
    refine GM_icmp_ne (pc := 20) 26 (daX10_guards_0 13 rfl) rfl (fun c8 => ?_) (fun c8 => ?_)
    · skip
      rw [if_neg c8] at h
      refine GM_iload_n (pc := 26) 4 rfl (daX10_guards_0 16 rfl) rfl ?_
      refine GM_if_lt (pc := 27) 50 (daX10_guards_0 17 rfl) rfl (fun c9 => ?_) (fun c9 => ?_)
      · skip
        rw [if_pos c9] at h
        refine GM_iconst (pc := 50) (-1) (daX10_guards_0 29 rfl) rfl (R32_b rfl) ?_
        cases h
        exact GM_iret (pc := 51) (daX10_guards_0 30 rfl) rfl hK
      · skip
        rw [if_neg c9] at h
        refine GM_iload_n (pc := 30) 4 rfl (daX10_guards_0 18 rfl) rfl ?_
        refine GM_iload (pc := 31) 0 rfl (daX10_guards_0 19 rfl) ?_
        refine GM_icmp_ge (pc := 33) 50 (daX10_guards_0 20 rfl) rfl (fun c10 => ?_) (fun c10 => ?_)
        · skip
          rw [if_pos c10] at h
          refine GM_iconst (pc := 50) (-1) (daX10_guards_0 29 rfl) rfl (R32_b rfl) ?_
          cases h
          exact GM_iret (pc := 51) (daX10_guards_0 30 rfl) rfl hK
        · skip
          rw [if_neg c10] at h
          refine GM_iload_n (pc := 36) 4 rfl (daX10_guards_0 21 rfl) rfl ?_
          refine GM_iconst (pc := 37) 3 (daX10_guards_0 22 rfl) rfl (R32_b rfl) ?_
          refine GM_icmp_ge (pc := 38) 50 (daX10_guards_0 23 rfl) rfl (fun c11 => ?_) (fun c11 => ?_)
          · skip
            rw [if_pos c11] at h
            refine GM_iconst (pc := 50) (-1) (daX10_guards_0 29 rfl) rfl (R32_b rfl) ?_
            cases h
            exact GM_iret (pc := 51) (daX10_guards_0 30 rfl) rfl hK
          · skip
            rw [if_neg c11] at h
            refine GM_aload_n (pc := 41) 1 rfl (daX10_guards_0 24 rfl) rfl ?_
            refine GM_getf (pc := 42) 4 2 3 2 kf_X10_276 (Nat.le_of_ble_eq_true rfl) (Nat.le_of_ble_eq_true rfl) rfl (daX10_guards_0 25 rfl) hc5 rfl ?_
            refine GM_iload_n (pc := 45) 4 rfl (daX10_guards_0 26 rfl) rfl ?_
            obtain ⟨hc12, h⟩ := chk_inv h
            refine GM_iald (pc := 46) (daX10_guards_0 27 rfl) hc12.1 hc12.2.1 hc12.2.2 ?_
            refine GM_goto (pc := 47) 51 (daX10_guards_0 28 rfl) rfl ?_
            cases h
            exact GM_iret (pc := 51) (daX10_guards_0 30 rfl) rfl hK
    · skip
      rw [if_pos c8] at h
      refine GM_iload (pc := 23) 0 rfl (daX10_guards_0 14 rfl) ?_
      cases h
      exact GM_iret (pc := 25) (daX10_guards_0 15 rfl) rfl hK
  · skip
    rw [if_pos c4] at h
    refine GM_iconst (pc := 10) (-1) (daX10_guards_0 6 rfl) rfl (R32_b rfl) ?_
    cases h
    exact GM_iret (pc := 11) (daX10_guards_0 7 rfl) rfl hK
theorem tX10_guards (l : Launch) {v0 v1 v2 : Int} {μ : Mm} {t : (Int × Mm)} {c0 n0 : Nat} (h : fX10_guards v0 v1 v2 μ = some (t, c0, n0)) : Ct l yX10_guards mX10_guards [(3, v0), (0, v1), (0, v2)] μ ([(0, t.1)], t.2, c0, n0) :=
  Ct_of (by decide +kernel) rfl rfl (Nat.le_of_ble_eq_true rfl) (fun _ _ _ => trivial) (gX10_guards_0 (k := 0) (n := 0) l h ⟨rfl, rfl⟩)
def mX10_differs : MI := (RX10, cX10_differs, 8, (some .int), "differs", 5, 122, fun _ _ _ => True)
theorem cwX10_differs : CWd yX10_differs mX10_differs 3 := ⟨ki_X10, kk_X10_differs, ⟨by decide, by decide⟩, rfl⟩
def dtX10_differs_0 : List (Nat × Instr × Nat) := [(0, .aload_n 0, 1), (1, .iload_n 1, 1), (2, .iload_n 3, 1), (3, .invokevirtual 236, 3), (6, .astore 4, 2), (8, .aload_n 0, 1), (9, .iload_n 2, 1), (10, .iload_n 3, 1), (11, .invokevirtual 236, 3), (14, .astore 5, 2), (16, .aload 4, 2), (18, .ifnull 8, 3), (21, .aload 5, 2), (23, .ifnonnull 5, 3), (26, .iconst (-1), 1), (27, .ireturn, 1), (28, .iconst 0, 1), (29, .istore 6, 2), (31, .iconst 0, 1), (32, .istore 7, 2), (34, .iload 7, 2), (36, .aload 4, 2), (38, .getfield 249, 3), (41, .if_icmp .ge 27, 3), (44, .aload 5, 2), (46, .aload 4, 2), (48, .iload 7, 2), (50, .invokevirtual 250, 3), (53, .invokevirtual 279, 3), (56, .ifCond .ne 6, 3), (59, .iinc 6 1, 3), (62, .iinc 7 1, 3), (65, .goto (-31), 3), (68, .iload 6, 2), (70, .ireturn, 1)]
theorem ddX10_differs_0 : (dtX10_differs_0.all fun e => decide (decode mX10_differs.2.1 e.1 = .ok (e.2.1, e.2.2))) = true := by decide +kernel
theorem daX10_differs_0 (j : Nat) {pc n : Nat} {i : Instr} (h : dtX10_differs_0[j]? = some (pc, i, n)) : decode mX10_differs.2.1 pc = .ok (i, n) := dec_of (c := mX10_differs.2.1) ddX10_differs_0 h
def zX10_differs_34 (l : Launch) (F : FI) (v4 v5 : Int) (μ : Mm) (k n : Nat) : (Int × Int) ⊕ Int → Prop
  | .inl (v6, v7) => GM l mX10_differs F k n 34 [(4, (3, v4)), (5, (3, v5)), (6, (0, v6)), (7, (0, v7))] [] μ
  | .inr v6 => GM l mX10_differs F k n 68 [(6, (0, v6))] [] μ
def sX10_differs_34 (v4 v5 : Int) (μ : Mm) : (Int × Int) → Option ((Int × Int) ⊕ Int) := fun (v6, v7) =>
  chk (KD v4 = 7) (
  if μ v4 2 ≤ v7 then
    some (.inr v6)
  else
    (fX7_topOfHump v4 v7 μ).bind fun r3 =>
    chk (KD v5 = 7) (
    (fX7_hasTop v5 r3 μ).bind fun r5 =>
    if r5 = 0 then
      some (.inl (w32 (v6 + 1), w32 (v7 + 1)))
    else
      some (.inl (v6, w32 (v7 + 1)))))
def fX10_differs (v0 v1 v2 v3 : Int) (μ : Mm) : Option ((Int × Mm) × Nat × Nat) :=
  chk (KD v0 = 10) (
  (fX10_lineAt v0 v1 v3 μ).bind fun ((r8, μ8), c8, n8) =>
  pay c8 n8 (
  (fX10_lineAt v0 v2 v3 μ8).bind fun ((r10, μ10), c10, n10) =>
  pay c10 n10 (
  if r8 = 0 then
    some (((-1), μ10), 0, 0)
  else
    if r10 = 0 then
      some (((-1), μ10), 0, 0)
    else
      (lop (sX10_differs_34 r8 r10 μ10) FU (0, 0)).bind fun v6_15 =>
        some ((v6_15, μ10), 0, 0))))
set_option maxRecDepth 20000 in
theorem qX10_differs_34 (l : Launch) (F : FI) (v4 v5 : Int) (μ : Mm) (k n : Nat) : ∀ (q : (Int × Int)) (t : ((Int × Int) ⊕ Int)), sX10_differs_34 v4 v5 μ q = some t → zX10_differs_34 l F v4 v5 μ k n t → zX10_differs_34 l F v4 v5 μ k n (.inl q) := by
  intro q t h hK
  obtain ⟨v6, v7⟩ := q
  unfold sX10_differs_34 at h
  try dsimp only at h
  show GM l mX10_differs F k n 34 [(4, (3, v4)), (5, (3, v5)), (6, (0, v6)), (7, (0, v7))] [] μ
  refine GM_iload (pc := 34) 3 rfl (daX10_differs_0 20 rfl) ?_
  refine GM_aload (pc := 36) 0 rfl (daX10_differs_0 21 rfl) ?_
  obtain ⟨hc1, h⟩ := chk_inv h
  refine GM_getf (pc := 38) 7 2 0 2 kf_X10_249 (Nat.le_of_ble_eq_true rfl) (Nat.le_of_ble_eq_true rfl) rfl (daX10_differs_0 22 rfl) hc1 rfl ?_
  refine GM_icmp_ge (pc := 41) 68 (daX10_differs_0 23 rfl) rfl (fun c2 => ?_) (fun c2 => ?_)
  · skip
    rw [if_pos c2] at h
    refine GM_pick [2] rfl ?_
    cases h
    exact hK
  · skip
    rw [if_neg c2] at h
    refine GM_aload (pc := 44) 1 rfl (daX10_differs_0 24 rfl) ?_
    refine GM_aload (pc := 46) 0 rfl (daX10_differs_0 25 rfl) ?_
    refine GM_iload (pc := 48) 3 rfl (daX10_differs_0 26 rfl) ?_
    obtain ⟨r3, hf3, h⟩ := Option.bind_eq_some_iff.mp h
    refine GM_callV0 (pc := 50) [(0, v7)] (tX7_topOfHump l hf3) cwX7_topOfHump 7 (Nat.le_of_ble_eq_true rfl) rfl kv_X7_topOfHump ke_X7_topOfHump km_X10_250 hc1 ⟨Nat.le_of_ble_eq_true rfl, Nat.le_of_ble_eq_true rfl⟩ (Nat.le_of_ble_eq_true rfl) (Nat.le_of_ble_eq_true rfl) (daX10_differs_0 27 rfl) ?_
    obtain ⟨hc4, h⟩ := chk_inv h
    obtain ⟨r5, hf5, h⟩ := Option.bind_eq_some_iff.mp h
    refine GM_callV0 (pc := 53) [(0, r3)] (tX7_hasTop l hf5) cwX7_hasTop 7 (Nat.le_of_ble_eq_true rfl) rfl kv_X7_hasTop ke_X7_hasTop km_X10_279 hc4 ⟨Nat.le_of_ble_eq_true rfl, Nat.le_of_ble_eq_true rfl⟩ (Nat.le_of_ble_eq_true rfl) (Nat.le_of_ble_eq_true rfl) (daX10_differs_0 28 rfl) ?_
    refine GM_if_ne (pc := 56) 62 (daX10_differs_0 29 rfl) rfl (fun c6 => ?_) (fun c6 => ?_)
    · skip
      rw [if_neg c6] at h
      refine GM_iinc (L' := [(7, (0, w32 (v7 + 1))), (4, (3, v4)), (5, (3, v5)), (6, (0, v6))]) (pc := 62) 3 rfl (daX10_differs_0 31 rfl) (Nat.le_of_ble_eq_true rfl) rfl ?_
      refine GM_goto (pc := 65) 34 (daX10_differs_0 32 rfl) rfl ?_
      refine GM_pick [1, 2, 3, 0] rfl ?_
      cases h
      exact hK
    · skip
      rw [if_pos c6] at h
      refine GM_iinc (L' := [(6, (0, w32 (v6 + 1))), (4, (3, v4)), (5, (3, v5)), (7, (0, v7))]) (pc := 59) 2 rfl (daX10_differs_0 30 rfl) (Nat.le_of_ble_eq_true rfl) rfl ?_
      refine GM_iinc (L' := [(7, (0, w32 (v7 + 1))), (6, (0, w32 (v6 + 1))), (4, (3, v4)), (5, (3, v5))]) (pc := 62) 3 rfl (daX10_differs_0 31 rfl) (Nat.le_of_ble_eq_true rfl) rfl ?_
      refine GM_goto (pc := 65) 34 (daX10_differs_0 32 rfl) rfl ?_
      refine GM_pick [2, 3, 1, 0] rfl ?_
      cases h
      exact hK
set_option maxRecDepth 20000 in
theorem gX10_differs_0 (l : Launch) {F : FI} {v0 v1 v2 v3 : Int} {μ : Mm} {t : (Int × Mm)} {c0 n0 k n : Nat} (h : fX10_differs v0 v1 v2 v3 μ = some (t, c0, n0)) (hK : F.1 = [(0, t.1)] ∧ F.2.1 = t.2) : GM l mX10_differs F (c0 + k) (n0 + n) 0 [(0, (3, v0)), (1, (0, v1)), (2, (0, v2)), (3, (0, v3))] [] μ := by
  unfold fX10_differs at h
  refine GM_aload_n (pc := 0) 0 rfl (daX10_differs_0 0 rfl) rfl ?_
  refine GM_iload_n (pc := 1) 1 rfl (daX10_differs_0 1 rfl) rfl ?_
  refine GM_iload_n (pc := 2) 3 rfl (daX10_differs_0 2 rfl) rfl ?_
  obtain ⟨hc7, h⟩ := chk_inv h
  obtain ⟨⟨⟨r8, μ8⟩, c8, n8⟩, hf8, h⟩ := Option.bind_eq_some_iff.mp h
  dsimp only at h
  obtain ⟨c9, n9, hp, e1, e2⟩ := pay_inv h
  subst e1 e2
  replace h := hp
  clear hp
  rw [Nat.add_assoc, Nat.add_assoc]
  refine GM_callV (pc := 3) [(0, v1), (0, v3)] (tX10_lineAt l hf8) cwX10_lineAt 10 (Nat.le_of_ble_eq_true rfl) rfl kv_X10_lineAt ke_X10_lineAt km_X10_236 hc7 ⟨Nat.le_of_ble_eq_true rfl, Nat.le_of_ble_eq_true rfl⟩ (Nat.le_of_ble_eq_true rfl) (Nat.le_of_ble_eq_true rfl) (daX10_differs_0 3 rfl) ?_
  refine GM_astore (L' := [(4, (3, r8)), (0, (3, v0)), (1, (0, v1)), (2, (0, v2)), (3, (0, v3))]) (pc := 6) (daX10_differs_0 4 rfl) (Nat.le_of_ble_eq_true rfl) rfl ?_
  refine GM_aload_n (pc := 8) 1 rfl (daX10_differs_0 5 rfl) rfl ?_
  refine GM_iload_n (pc := 9) 3 rfl (daX10_differs_0 6 rfl) rfl ?_
  refine GM_iload_n (pc := 10) 4 rfl (daX10_differs_0 7 rfl) rfl ?_
  obtain ⟨⟨⟨r10, μ10⟩, c10, n10⟩, hf10, h⟩ := Option.bind_eq_some_iff.mp h
  dsimp only at h
  obtain ⟨c11, n11, hp, e1, e2⟩ := pay_inv h
  subst e1 e2
  replace h := hp
  clear hp
  rw [Nat.add_assoc, Nat.add_assoc]
  refine GM_callV (pc := 11) [(0, v2), (0, v3)] (tX10_lineAt l hf10) cwX10_lineAt 10 (Nat.le_of_ble_eq_true rfl) rfl kv_X10_lineAt ke_X10_lineAt km_X10_236 hc7 ⟨Nat.le_of_ble_eq_true rfl, Nat.le_of_ble_eq_true rfl⟩ (Nat.le_of_ble_eq_true rfl) (Nat.le_of_ble_eq_true rfl) (daX10_differs_0 8 rfl) ?_
  refine GM_astore (L' := [(5, (3, r10)), (4, (3, r8)), (0, (3, v0)), (1, (0, v1)), (2, (0, v2)), (3, (0, v3))]) (pc := 14) (daX10_differs_0 9 rfl) (Nat.le_of_ble_eq_true rfl) rfl ?_
  refine GM_aload (pc := 16) 1 rfl (daX10_differs_0 10 rfl) ?_
  refine GM_ifnull (pc := 18) 26 (daX10_differs_0 11 rfl) rfl (fun c12 => ?_) (fun c12 => ?_)
  · skip
    rw [if_pos c12] at h
    refine GM_iconst (pc := 26) (-1) (daX10_differs_0 14 rfl) rfl (R32_b rfl) ?_
    cases h
    exact GM_iret (pc := 27) (daX10_differs_0 15 rfl) rfl hK
  · skip
    rw [if_neg c12] at h
    refine GM_aload (pc := 21) 0 rfl (daX10_differs_0 12 rfl) ?_
    refine GM_ifnonnull (pc := 23) 28 (daX10_differs_0 13 rfl) rfl (fun c13 => ?_) (fun c13 => ?_)
    · skip
      rw [if_neg c13] at h
      refine GM_iconst (pc := 28) 0 (daX10_differs_0 16 rfl) rfl (R32_b rfl) ?_
      refine GM_istore (L' := [(6, (0, 0)), (5, (3, r10)), (4, (3, r8)), (0, (3, v0)), (1, (0, v1)), (2, (0, v2)), (3, (0, v3))]) (pc := 29) (daX10_differs_0 17 rfl) (Nat.le_of_ble_eq_true rfl) rfl ?_
      refine GM_iconst (pc := 31) 0 (daX10_differs_0 18 rfl) rfl (R32_b rfl) ?_
      refine GM_istore (L' := [(7, (0, 0)), (6, (0, 0)), (5, (3, r10)), (4, (3, r8)), (0, (3, v0)), (1, (0, v1)), (2, (0, v2)), (3, (0, v3))]) (pc := 32) (daX10_differs_0 19 rfl) (Nat.le_of_ble_eq_true rfl) rfl ?_
      refine GM_pick [3, 2, 1, 0] rfl ?_
      obtain ⟨x14, hqx14, h⟩ := Option.bind_eq_some_iff.mp h
      refine lop_ind (zX10_differs_34 l F r8 r10 μ10 (c11 + k) (n11 + n)) (qX10_differs_34 l F r8 r10 μ10 (c11 + k) (n11 + n)) FU _ x14 hqx14 ?_
      obtain ⟨v6_15, hqq⟩ : ∃ z, z = x14 := ⟨x14, rfl⟩
      subst hqq
      show GM l mX10_differs F (c11 + k) (n11 + n) 68 [(6, (0, v6_15))] [] μ10
      refine GM_iload (pc := 68) 0 rfl (daX10_differs_0 33 rfl) ?_
      cases h
      exact GM_iret (pc := 70) (daX10_differs_0 34 rfl) rfl hK
    · skip
      rw [if_pos c13] at h
      refine GM_iconst (pc := 26) (-1) (daX10_differs_0 14 rfl) rfl (R32_b rfl) ?_
      cases h
      exact GM_iret (pc := 27) (daX10_differs_0 15 rfl) rfl hK
theorem tX10_differs (l : Launch) {v0 v1 v2 v3 : Int} {μ : Mm} {t : (Int × Mm)} {c0 n0 : Nat} (h : fX10_differs v0 v1 v2 v3 μ = some (t, c0, n0)) : Ct l yX10_differs mX10_differs [(3, v0), (0, v1), (0, v2), (0, v3)] μ ([(0, t.1)], t.2, c0, n0) :=
  Ct_of (by decide +kernel) rfl rfl (Nat.le_of_ble_eq_true rfl) (fun _ _ _ => trivial) (gX10_differs_0 (k := 0) (n := 0) l h ⟨rfl, rfl⟩)
def mX10_lookWith : MI := (RX10, cX10_lookWith, 6, none, "lookWith", 3, 77, fun _ _ _ => True)
theorem cwX10_lookWith : CWd yX10_lookWith mX10_lookWith 4 := ⟨ki_X10, kk_X10_lookWith, ⟨by decide, by decide⟩, rfl⟩
def dtX10_lookWith_0 : List (Nat × Instr × Nat) := [(0, .aload_n 1, 1), (1, .iload_n 3, 1), (2, .invokevirtual 175, 3), (5, .ifCond .ne 4, 3), (8, .return_, 1), (9, .aload_n 1, 1), (10, .getfield 179, 3), (13, .iload_n 3, 1), (14, .iaload, 1), (15, .istore 5, 2), (17, .aload_n 1, 1), (18, .getfield 179, 3), (21, .iload_n 3, 1), (22, .iload 4, 2), (24, .iastore, 1), (25, .aload_n 0, 1), (26, .getfield 30, 3), (29, .aload_n 1, 1), (30, .iload_n 2, 1), (31, .invokevirtual 286, 3), (34, .aload_n 0, 1), (35, .getfield 30, 3), (38, .aload_n 1, 1), (39, .aload_n 0, 1), (40, .getfield 43, 3), (43, .invokevirtual 290, 3), (46, .aload_n 1, 1), (47, .getfield 179, 3), (50, .iload_n 3, 1), (51, .iload 5, 2), (53, .iastore, 1), (54, .return_, 1)]
theorem ddX10_lookWith_0 : (dtX10_lookWith_0.all fun e => decide (decode mX10_lookWith.2.1 e.1 = .ok (e.2.1, e.2.2))) = true := by decide +kernel
theorem daX10_lookWith_0 (j : Nat) {pc n : Nat} {i : Instr} (h : dtX10_lookWith_0[j]? = some (pc, i, n)) : decode mX10_lookWith.2.1 pc = .ok (i, n) := dec_of (c := mX10_lookWith.2.1) ddX10_lookWith_0 h
def fX10_lookWith (v0 v1 v2 v3 v4 : Int) (μ : Mm) : Option Mm :=
  chk (KD v1 = 2) (
  (fX2_has v1 v3 μ).bind fun r2 =>
  if r2 = 0 then
    some μ
  else
    chk (KD (μ v1 6) = 12 ∧ 0 ≤ v3 ∧ v3 < LN (μ v1 6)) (
    lm (mst μ (μ v1 6) v3 v4) fun μ5 =>
    chk (KD v0 = 10) (
    chk (KD (μ5 v0 3) = 5) (
    (fX5_aim (μ5 v0 3) v1 v2 μ5).bind fun μ8 =>
    chk (KD (μ8 v0 3) = 5) (
    (fX5_look (μ8 v0 3) v1 (μ8 v0 5) μ8).bind fun μ10 =>
    chk (KD (μ10 v1 6) = 12 ∧ v3 < LN (μ10 v1 6)) (
    lm (mst μ10 (μ10 v1 6) v3 (μ (μ v1 6) v3)) fun μ12 =>
    some μ12))))))
set_option maxRecDepth 20000 in
theorem gX10_lookWith_0 (l : Launch) {F : FI} {v0 v1 v2 v3 v4 : Int} {μ : Mm} {t : Mm} (h : fX10_lookWith v0 v1 v2 v3 v4 μ = some t) (hK : F.1 = [] ∧ F.2.1 = t) : GM l mX10_lookWith F 0 0 0 [(0, (3, v0)), (1, (3, v1)), (2, (0, v2)), (3, (0, v3)), (4, (0, v4))] [] μ := by
  unfold fX10_lookWith at h
  refine GM_aload_n (pc := 0) 1 rfl (daX10_lookWith_0 0 rfl) rfl ?_
  refine GM_iload_n (pc := 1) 3 rfl (daX10_lookWith_0 1 rfl) rfl ?_
  obtain ⟨hc1, h⟩ := chk_inv h
  obtain ⟨r2, hf2, h⟩ := Option.bind_eq_some_iff.mp h
  refine GM_callV0 (pc := 2) [(0, v3)] (tX2_has l hf2) cwX2_has 2 (Nat.le_of_ble_eq_true rfl) rfl kv_X2_has ke_X2_has km_X10_175 hc1 ⟨Nat.le_of_ble_eq_true rfl, Nat.le_of_ble_eq_true rfl⟩ (Nat.le_of_ble_eq_true rfl) (Nat.le_of_ble_eq_true rfl) (daX10_lookWith_0 2 rfl) ?_
  refine GM_if_ne (pc := 5) 9 (daX10_lookWith_0 3 rfl) rfl (fun c3 => ?_) (fun c3 => ?_)
  · skip
    rw [if_neg c3] at h
    refine GM_aload_n (pc := 9) 1 rfl (daX10_lookWith_0 5 rfl) rfl ?_
    refine GM_getf (pc := 10) 2 6 3 6 kf_X10_179 (Nat.le_of_ble_eq_true rfl) (Nat.le_of_ble_eq_true rfl) rfl (daX10_lookWith_0 6 rfl) hc1 rfl ?_
    refine GM_iload_n (pc := 13) 3 rfl (daX10_lookWith_0 7 rfl) rfl ?_
    obtain ⟨hc4, h⟩ := chk_inv h
    refine GM_iald (pc := 14) (daX10_lookWith_0 8 rfl) hc4.1 hc4.2.1 hc4.2.2 ?_
    refine GM_istore (L' := [(5, (0, μ (μ v1 6) v3)), (0, (3, v0)), (1, (3, v1)), (2, (0, v2)), (3, (0, v3)), (4, (0, v4))]) (pc := 15) (daX10_lookWith_0 9 rfl) (Nat.le_of_ble_eq_true rfl) rfl ?_
    refine GM_aload_n (pc := 17) 2 rfl (daX10_lookWith_0 10 rfl) rfl ?_
    refine GM_getf (pc := 18) 2 6 3 6 kf_X10_179 (Nat.le_of_ble_eq_true rfl) (Nat.le_of_ble_eq_true rfl) rfl (daX10_lookWith_0 11 rfl) hc1 rfl ?_
    refine GM_iload_n (pc := 21) 4 rfl (daX10_lookWith_0 12 rfl) rfl ?_
    refine GM_iload (pc := 22) 5 rfl (daX10_lookWith_0 13 rfl) ?_
    obtain ⟨μ5, hμ5, h⟩ := lm_inv h
    refine GM_iast (pc := 24) (daX10_lookWith_0 14 rfl) hc4.1 hc4.2.1 hc4.2.2 ?_
    refine GM_mem hμ5 ?_
    refine GM_aload_n (pc := 25) 1 rfl (daX10_lookWith_0 15 rfl) rfl ?_
    obtain ⟨hc6, h⟩ := chk_inv h
    refine GM_getf (pc := 26) 10 3 3 3 kf_X10_30 (Nat.le_of_ble_eq_true rfl) (Nat.le_of_ble_eq_true rfl) rfl (daX10_lookWith_0 16 rfl) hc6 rfl ?_
    refine GM_aload_n (pc := 29) 2 rfl (daX10_lookWith_0 17 rfl) rfl ?_
    refine GM_iload_n (pc := 30) 3 rfl (daX10_lookWith_0 18 rfl) rfl ?_
    obtain ⟨hc7, h⟩ := chk_inv h
    obtain ⟨μ8, hf8, h⟩ := Option.bind_eq_some_iff.mp h
    refine GM_callV0 (pc := 31) [(3, v1), (0, v2)] (tX5_aim l hf8) cwX5_aim 5 (Nat.le_of_ble_eq_true rfl) rfl kv_X5_aim ke_X5_aim km_X10_286 hc7 ⟨Nat.le_of_ble_eq_true rfl, Nat.le_of_ble_eq_true rfl⟩ (Nat.le_of_ble_eq_true rfl) (Nat.le_of_ble_eq_true rfl) (daX10_lookWith_0 19 rfl) ?_
    refine GM_aload_n (pc := 34) 1 rfl (daX10_lookWith_0 20 rfl) rfl ?_
    refine GM_getf (pc := 35) 10 3 3 3 kf_X10_30 (Nat.le_of_ble_eq_true rfl) (Nat.le_of_ble_eq_true rfl) rfl (daX10_lookWith_0 21 rfl) hc6 rfl ?_
    refine GM_aload_n (pc := 38) 2 rfl (daX10_lookWith_0 22 rfl) rfl ?_
    refine GM_aload_n (pc := 39) 1 rfl (daX10_lookWith_0 23 rfl) rfl ?_
    refine GM_getf (pc := 40) 10 5 3 5 kf_X10_43 (Nat.le_of_ble_eq_true rfl) (Nat.le_of_ble_eq_true rfl) rfl (daX10_lookWith_0 24 rfl) hc6 rfl ?_
    obtain ⟨hc9, h⟩ := chk_inv h
    obtain ⟨μ10, hf10, h⟩ := Option.bind_eq_some_iff.mp h
    refine GM_callV0 (pc := 43) [(3, v1), (3, μ8 v0 5)] (tX5_look l hf10) cwX5_look 5 (Nat.le_of_ble_eq_true rfl) rfl kv_X5_look ke_X5_look km_X10_290 hc9 ⟨Nat.le_of_ble_eq_true rfl, Nat.le_of_ble_eq_true rfl⟩ (Nat.le_of_ble_eq_true rfl) (Nat.le_of_ble_eq_true rfl) (daX10_lookWith_0 25 rfl) ?_
    refine GM_aload_n (pc := 46) 2 rfl (daX10_lookWith_0 26 rfl) rfl ?_
    refine GM_getf (pc := 47) 2 6 3 6 kf_X10_179 (Nat.le_of_ble_eq_true rfl) (Nat.le_of_ble_eq_true rfl) rfl (daX10_lookWith_0 27 rfl) hc1 rfl ?_
    refine GM_iload_n (pc := 50) 4 rfl (daX10_lookWith_0 28 rfl) rfl ?_
    refine GM_iload (pc := 51) 0 rfl (daX10_lookWith_0 29 rfl) ?_
    obtain ⟨hc11, h⟩ := chk_inv h
    obtain ⟨μ12, hμ12, h⟩ := lm_inv h
    refine GM_iast (pc := 53) (daX10_lookWith_0 30 rfl) hc11.1 hc4.2.1 hc11.2 ?_
    refine GM_mem hμ12 ?_
    cases h
    exact GM_vret (pc := 54) (daX10_lookWith_0 31 rfl) rfl hK
  · skip
    rw [if_pos c3] at h
    cases h
    exact GM_vret (pc := 8) (daX10_lookWith_0 4 rfl) rfl hK
theorem tX10_lookWith (l : Launch) {v0 v1 v2 v3 v4 : Int} {μ : Mm} {t : Mm} (h : fX10_lookWith v0 v1 v2 v3 v4 μ = some t) : Ct l yX10_lookWith mX10_lookWith [(3, v0), (3, v1), (0, v2), (0, v3), (0, v4)] μ ([], t, 0, 0) :=
  Ct_of (by decide +kernel) rfl rfl (Nat.le_of_ble_eq_true rfl) (fun _ _ _ => trivial) (gX10_lookWith_0 l h ⟨rfl, rfl⟩)
def mX10_shift : MI := (RX10, cX10_shift, 8, (some .int), "shift", 4, 102, fun _ _ _ => True)
theorem cwX10_shift : CWd yX10_shift mX10_shift 3 := ⟨ki_X10, kk_X10_shift, ⟨by decide, by decide⟩, rfl⟩
def dtX10_shift_0 : List (Nat × Instr × Nat) := [(0, .aload_n 0, 1), (1, .iload_n 1, 1), (2, .invokevirtual 220, 3), (5, .astore 4, 2), (7, .aload 4, 2), (9, .ifnull 26, 3), (12, .aload 4, 2), (14, .getfield 224, 3), (17, .iload_n 2, 1), (18, .invokevirtual 175, 3), (21, .ifCond .eq 14, 3), (24, .iload_n 3, 1), (25, .ifCond .lt 10, 3), (28, .iload_n 3, 1), (29, .sipush 999, 3), (32, .if_icmp .le 5, 3), (35, .iconst (-1), 1), (36, .ireturn, 1), (37, .iconst 0, 1), (38, .istore 5, 2), (40, .iconst 0, 1), (41, .istore 6, 2), (43, .iload 6, 2), (45, .aload 4, 2), (47, .getfield 224, 3), (50, .invokevirtual 266, 3), (53, .if_icmp .ge 49, 3), (56, .aload 4, 2), (58, .iload 6, 2), (60, .invokevirtual 225, 3), (63, .getfield 249, 3), (66, .istore 7, 2), (68, .aload_n 0, 1), (69, .aload 4, 2), (71, .getfield 224, 3), (74, .iload 6, 2), (76, .iload_n 2, 1), (77, .iload_n 3, 1), (78, .invokevirtual 282, 3), (81, .aload_n 0, 1), (82, .getfield 43, 3), (85, .getfield 249, 3), (88, .iload 7, 2), (90, .if_icmp .eq 6, 3), (93, .iinc 5 1, 3), (96, .iinc 6 1, 3), (99, .goto (-56), 3), (102, .iload 5, 2), (104, .ireturn, 1)]
theorem ddX10_shift_0 : (dtX10_shift_0.all fun e => decide (decode mX10_shift.2.1 e.1 = .ok (e.2.1, e.2.2))) = true := by decide +kernel
theorem daX10_shift_0 (j : Nat) {pc n : Nat} {i : Instr} (h : dtX10_shift_0[j]? = some (pc, i, n)) : decode mX10_shift.2.1 pc = .ok (i, n) := dec_of (c := mX10_shift.2.1) ddX10_shift_0 h
def zX10_shift_43 (l : Launch) (F : FI) (v0 v2 v3 v4 : Int) (k n : Nat) : (Int × Int × Mm) ⊕ (Int × Mm) → Prop
  | .inl (v5, v6, μ) => GM l mX10_shift F k n 43 [(0, (3, v0)), (2, (0, v2)), (3, (0, v3)), (4, (3, v4)), (5, (0, v5)), (6, (0, v6))] [] μ
  | .inr (v5, μ) => GM l mX10_shift F k n 102 [(5, (0, v5))] [] μ
def sX10_shift_43 (v0 v2 v3 v4 : Int) : (Int × Int × Mm) → Option (((Int × Int × Mm) ⊕ (Int × Mm)) × Nat × Nat) := fun (v5, v6, μ) =>
  chk (KD v4 = 4) (
  chk (KD (μ v4 0) = 2) (
  (fX2_places (μ v4 0) μ).bind fun r3 =>
  if r3 ≤ v6 then
    some (.inr (v5, μ), 0, 0)
  else
    (fX4_lineOf v4 v6 μ).bind fun ((r5, μ5), c5, n5) =>
    pay c5 n5 (
    chk (KD r5 = 7) (
    chk (KD v0 = 10) (
    (fX10_lookWith v0 (μ5 v4 0) v6 v2 v3 μ5).bind fun μ9 =>
    chk (KD (μ9 v0 5) = 7) (
    if μ9 (μ9 v0 5) 2 = μ5 r5 2 then
      some (.inl (v5, w32 (v6 + 1), μ9), 0, 0)
    else
      some (.inl (w32 (v5 + 1), w32 (v6 + 1), μ9), 0, 0)))))))
def fX10_shift (v0 v1 v2 v3 : Int) (μ : Mm) : Option ((Int × Mm) × Nat × Nat) :=
  chk (KD v0 = 10) (
  (fX10_sceneAt v0 v1 μ).bind fun ((r13, μ13), c13, n13) =>
  pay c13 n13 (
  if r13 = 0 then
    some (((-1), μ13), 0, 0)
  else
    chk (KD r13 = 4) (
    chk (KD (μ13 r13 0) = 2) (
    (fX2_has (μ13 r13 0) v2 μ13).bind fun r18 =>
    if r18 = 0 then
      some (((-1), μ13), 0, 0)
    else
      if v3 < 0 then
        some (((-1), μ13), 0, 0)
      else
        if v3 ≤ 999 then
          (lopA (sX10_shift_43 v0 v2 v3 r13) FU (0, 0, μ13)).bind fun (x22, ccx22, nnx22) =>
            pay ccx22 nnx22 (
            match x22 with
            | (v5_23, μ_23) =>
              some ((v5_23, μ_23), 0, 0))
        else
          some (((-1), μ13), 0, 0)))))
set_option maxRecDepth 20000 in
theorem qX10_shift_43 (l : Launch) (F : FI) (v0 v2 v3 v4 : Int) : ∀ (q : (Int × Int × Mm)) (t : ((Int × Int × Mm) ⊕ (Int × Mm))) (c0 n0 : Nat), sX10_shift_43 v0 v2 v3 v4 q = some (t, c0, n0) → ∀ k n, zX10_shift_43 l F v0 v2 v3 v4 k n t → zX10_shift_43 l F v0 v2 v3 v4 (c0 + k) (n0 + n) (.inl q) := by
  intro q t c0 n0 h k n hK
  obtain ⟨v5, v6, μ⟩ := q
  unfold sX10_shift_43 at h
  try dsimp only at h
  show GM l mX10_shift F (c0 + k) (n0 + n) 43 [(0, (3, v0)), (2, (0, v2)), (3, (0, v3)), (4, (3, v4)), (5, (0, v5)), (6, (0, v6))] [] μ
  refine GM_iload (pc := 43) 5 rfl (daX10_shift_0 22 rfl) ?_
  refine GM_aload (pc := 45) 3 rfl (daX10_shift_0 23 rfl) ?_
  obtain ⟨hc1, h⟩ := chk_inv h
  refine GM_getf (pc := 47) 4 0 3 0 kf_X10_224 (Nat.le_of_ble_eq_true rfl) (Nat.le_of_ble_eq_true rfl) rfl (daX10_shift_0 24 rfl) hc1 rfl ?_
  obtain ⟨hc2, h⟩ := chk_inv h
  obtain ⟨r3, hf3, h⟩ := Option.bind_eq_some_iff.mp h
  refine GM_callV0 (pc := 50) [] (tX2_places l hf3) cwX2_places 2 (Nat.le_of_ble_eq_true rfl) rfl kv_X2_places ke_X2_places km_X10_266 hc2 ⟨Nat.le_of_ble_eq_true rfl, Nat.le_of_ble_eq_true rfl⟩ (Nat.le_of_ble_eq_true rfl) (Nat.le_of_ble_eq_true rfl) (daX10_shift_0 25 rfl) ?_
  refine GM_icmp_ge (pc := 53) 102 (daX10_shift_0 26 rfl) rfl (fun c4 => ?_) (fun c4 => ?_)
  · skip
    rw [if_pos c4] at h
    refine GM_pick [4] rfl ?_
    cases h
    rw [Nat.zero_add, Nat.zero_add]
    exact hK
  · skip
    rw [if_neg c4] at h
    refine GM_aload (pc := 56) 3 rfl (daX10_shift_0 27 rfl) ?_
    refine GM_iload (pc := 58) 5 rfl (daX10_shift_0 28 rfl) ?_
    obtain ⟨⟨⟨r5, μ5⟩, c5, n5⟩, hf5, h⟩ := Option.bind_eq_some_iff.mp h
    dsimp only at h
    obtain ⟨c6, n6, hp, e1, e2⟩ := pay_inv h
    subst e1 e2
    replace h := hp
    clear hp
    rw [Nat.add_assoc, Nat.add_assoc]
    refine GM_callV (pc := 60) [(0, v6)] (tX4_lineOf l hf5) cwX4_lineOf 4 (Nat.le_of_ble_eq_true rfl) rfl kv_X4_lineOf ke_X4_lineOf km_X10_225 hc1 ⟨Nat.le_of_ble_eq_true rfl, Nat.le_of_ble_eq_true rfl⟩ (Nat.le_of_ble_eq_true rfl) (Nat.le_of_ble_eq_true rfl) (daX10_shift_0 29 rfl) ?_
    obtain ⟨hc7, h⟩ := chk_inv h
    refine GM_getf (pc := 63) 7 2 0 2 kf_X10_249 (Nat.le_of_ble_eq_true rfl) (Nat.le_of_ble_eq_true rfl) rfl (daX10_shift_0 30 rfl) hc7 rfl ?_
    refine GM_istore (L' := [(7, (0, μ5 r5 2)), (0, (3, v0)), (2, (0, v2)), (3, (0, v3)), (4, (3, v4)), (5, (0, v5)), (6, (0, v6))]) (pc := 66) (daX10_shift_0 31 rfl) (Nat.le_of_ble_eq_true rfl) rfl ?_
    refine GM_aload_n (pc := 68) 1 rfl (daX10_shift_0 32 rfl) rfl ?_
    refine GM_aload (pc := 69) 4 rfl (daX10_shift_0 33 rfl) ?_
    refine GM_getf (pc := 71) 4 0 3 0 kf_X10_224 (Nat.le_of_ble_eq_true rfl) (Nat.le_of_ble_eq_true rfl) rfl (daX10_shift_0 34 rfl) hc1 rfl ?_
    refine GM_iload (pc := 74) 6 rfl (daX10_shift_0 35 rfl) ?_
    refine GM_iload_n (pc := 76) 2 rfl (daX10_shift_0 36 rfl) rfl ?_
    refine GM_iload_n (pc := 77) 3 rfl (daX10_shift_0 37 rfl) rfl ?_
    obtain ⟨hc8, h⟩ := chk_inv h
    obtain ⟨μ9, hf9, h⟩ := Option.bind_eq_some_iff.mp h
    refine GM_callV0 (pc := 78) [(3, μ5 v4 0), (0, v6), (0, v2), (0, v3)] (tX10_lookWith l hf9) cwX10_lookWith 10 (Nat.le_of_ble_eq_true rfl) rfl kv_X10_lookWith ke_X10_lookWith km_X10_282 hc8 ⟨Nat.le_of_ble_eq_true rfl, Nat.le_of_ble_eq_true rfl⟩ (Nat.le_of_ble_eq_true rfl) (Nat.le_of_ble_eq_true rfl) (daX10_shift_0 38 rfl) ?_
    refine GM_aload_n (pc := 81) 1 rfl (daX10_shift_0 39 rfl) rfl ?_
    refine GM_getf (pc := 82) 10 5 3 5 kf_X10_43 (Nat.le_of_ble_eq_true rfl) (Nat.le_of_ble_eq_true rfl) rfl (daX10_shift_0 40 rfl) hc8 rfl ?_
    obtain ⟨hc10, h⟩ := chk_inv h
    refine GM_getf (pc := 85) 7 2 0 2 kf_X10_249 (Nat.le_of_ble_eq_true rfl) (Nat.le_of_ble_eq_true rfl) rfl (daX10_shift_0 41 rfl) hc10 rfl ?_
    refine GM_iload (pc := 88) 0 rfl (daX10_shift_0 42 rfl) ?_
    refine GM_icmp_eq (pc := 90) 96 (daX10_shift_0 43 rfl) rfl (fun c11 => ?_) (fun c11 => ?_)
    · skip
      rw [if_pos c11] at h
      refine GM_iinc (L' := [(6, (0, w32 (v6 + 1))), (7, (0, μ5 r5 2)), (0, (3, v0)), (2, (0, v2)), (3, (0, v3)), (4, (3, v4)), (5, (0, v5))]) (pc := 96) 6 rfl (daX10_shift_0 45 rfl) (Nat.le_of_ble_eq_true rfl) rfl ?_
      refine GM_goto (pc := 99) 43 (daX10_shift_0 46 rfl) rfl ?_
      refine GM_pick [2, 3, 4, 5, 6, 0] rfl ?_
      cases h
      rw [Nat.zero_add, Nat.zero_add]
      exact hK
    · skip
      rw [if_neg c11] at h
      refine GM_iinc (L' := [(5, (0, w32 (v5 + 1))), (7, (0, μ5 r5 2)), (0, (3, v0)), (2, (0, v2)), (3, (0, v3)), (4, (3, v4)), (6, (0, v6))]) (pc := 93) 5 rfl (daX10_shift_0 44 rfl) (Nat.le_of_ble_eq_true rfl) rfl ?_
      refine GM_iinc (L' := [(6, (0, w32 (v6 + 1))), (5, (0, w32 (v5 + 1))), (7, (0, μ5 r5 2)), (0, (3, v0)), (2, (0, v2)), (3, (0, v3)), (4, (3, v4))]) (pc := 96) 6 rfl (daX10_shift_0 45 rfl) (Nat.le_of_ble_eq_true rfl) rfl ?_
      refine GM_goto (pc := 99) 43 (daX10_shift_0 46 rfl) rfl ?_
      refine GM_pick [3, 4, 5, 6, 1, 0] rfl ?_
      cases h
      rw [Nat.zero_add, Nat.zero_add]
      exact hK
set_option maxRecDepth 20000 in
theorem gX10_shift_0 (l : Launch) {F : FI} {v0 v1 v2 v3 : Int} {μ : Mm} {t : (Int × Mm)} {c0 n0 k n : Nat} (h : fX10_shift v0 v1 v2 v3 μ = some (t, c0, n0)) (hK : F.1 = [(0, t.1)] ∧ F.2.1 = t.2) : GM l mX10_shift F (c0 + k) (n0 + n) 0 [(0, (3, v0)), (1, (0, v1)), (2, (0, v2)), (3, (0, v3))] [] μ := by
  unfold fX10_shift at h
  refine GM_aload_n (pc := 0) 0 rfl (daX10_shift_0 0 rfl) rfl ?_
  refine GM_iload_n (pc := 1) 1 rfl (daX10_shift_0 1 rfl) rfl ?_
  obtain ⟨hc12, h⟩ := chk_inv h
  obtain ⟨⟨⟨r13, μ13⟩, c13, n13⟩, hf13, h⟩ := Option.bind_eq_some_iff.mp h
  dsimp only at h
  obtain ⟨c14, n14, hp, e1, e2⟩ := pay_inv h
  subst e1 e2
  replace h := hp
  clear hp
  rw [Nat.add_assoc, Nat.add_assoc]
  refine GM_callV (pc := 2) [(0, v1)] (tX10_sceneAt l hf13) cwX10_sceneAt 10 (Nat.le_of_ble_eq_true rfl) rfl kv_X10_sceneAt ke_X10_sceneAt km_X10_220 hc12 ⟨Nat.le_of_ble_eq_true rfl, Nat.le_of_ble_eq_true rfl⟩ (Nat.le_of_ble_eq_true rfl) (Nat.le_of_ble_eq_true rfl) (daX10_shift_0 2 rfl) ?_
  refine GM_astore (L' := [(4, (3, r13)), (0, (3, v0)), (1, (0, v1)), (2, (0, v2)), (3, (0, v3))]) (pc := 5) (daX10_shift_0 3 rfl) (Nat.le_of_ble_eq_true rfl) rfl ?_
  refine GM_aload (pc := 7) 0 rfl (daX10_shift_0 4 rfl) ?_
  refine GM_ifnull (pc := 9) 35 (daX10_shift_0 5 rfl) rfl (fun c15 => ?_) (fun c15 => ?_)
  · skip
    rw [if_pos c15] at h
    refine GM_iconst (pc := 35) (-1) (daX10_shift_0 16 rfl) rfl (R32_b rfl) ?_
    cases h
    exact GM_iret (pc := 36) (daX10_shift_0 17 rfl) rfl hK
  · skip
    rw [if_neg c15] at h
    refine GM_aload (pc := 12) 0 rfl (daX10_shift_0 6 rfl) ?_
    obtain ⟨hc16, h⟩ := chk_inv h
    refine GM_getf (pc := 14) 4 0 3 0 kf_X10_224 (Nat.le_of_ble_eq_true rfl) (Nat.le_of_ble_eq_true rfl) rfl (daX10_shift_0 7 rfl) hc16 rfl ?_
    refine GM_iload_n (pc := 17) 3 rfl (daX10_shift_0 8 rfl) rfl ?_
    obtain ⟨hc17, h⟩ := chk_inv h
    obtain ⟨r18, hf18, h⟩ := Option.bind_eq_some_iff.mp h
    refine GM_callV0 (pc := 18) [(0, v2)] (tX2_has l hf18) cwX2_has 2 (Nat.le_of_ble_eq_true rfl) rfl kv_X2_has ke_X2_has km_X10_175 hc17 ⟨Nat.le_of_ble_eq_true rfl, Nat.le_of_ble_eq_true rfl⟩ (Nat.le_of_ble_eq_true rfl) (Nat.le_of_ble_eq_true rfl) (daX10_shift_0 9 rfl) ?_
    refine GM_if_eq (pc := 21) 35 (daX10_shift_0 10 rfl) rfl (fun c19 => ?_) (fun c19 => ?_)
    · skip
      rw [if_pos c19] at h
      refine GM_iconst (pc := 35) (-1) (daX10_shift_0 16 rfl) rfl (R32_b rfl) ?_
      cases h
      exact GM_iret (pc := 36) (daX10_shift_0 17 rfl) rfl hK
    · skip
      rw [if_neg c19] at h
      refine GM_iload_n (pc := 24) 4 rfl (daX10_shift_0 11 rfl) rfl ?_
      refine GM_if_lt (pc := 25) 35 (daX10_shift_0 12 rfl) rfl (fun c20 => ?_) (fun c20 => ?_)
      · skip
        rw [if_pos c20] at h
        refine GM_iconst (pc := 35) (-1) (daX10_shift_0 16 rfl) rfl (R32_b rfl) ?_
        cases h
        exact GM_iret (pc := 36) (daX10_shift_0 17 rfl) rfl hK
      · skip
        rw [if_neg c20] at h
        refine GM_iload_n (pc := 28) 4 rfl (daX10_shift_0 13 rfl) rfl ?_
        refine GM_sipush (pc := 29) 999 (daX10_shift_0 14 rfl) rfl (R32_b rfl) ?_
        refine GM_icmp_le (pc := 32) 37 (daX10_shift_0 15 rfl) rfl (fun c21 => ?_) (fun c21 => ?_)
        · skip
          rw [if_pos c21] at h
          refine GM_iconst (pc := 37) 0 (daX10_shift_0 18 rfl) rfl (R32_b rfl) ?_
          refine GM_istore (L' := [(5, (0, 0)), (4, (3, r13)), (0, (3, v0)), (1, (0, v1)), (2, (0, v2)), (3, (0, v3))]) (pc := 38) (daX10_shift_0 19 rfl) (Nat.le_of_ble_eq_true rfl) rfl ?_
          refine GM_iconst (pc := 40) 0 (daX10_shift_0 20 rfl) rfl (R32_b rfl) ?_
          refine GM_istore (L' := [(6, (0, 0)), (5, (0, 0)), (4, (3, r13)), (0, (3, v0)), (1, (0, v1)), (2, (0, v2)), (3, (0, v3))]) (pc := 41) (daX10_shift_0 21 rfl) (Nat.le_of_ble_eq_true rfl) rfl ?_
          refine GM_pick [3, 5, 6, 2, 1, 0] rfl ?_
          obtain ⟨x22, hqx22, h⟩ := Option.bind_eq_some_iff.mp h
          obtain ⟨x22, ccx22, nnx22⟩ := x22
          dsimp only at h
          obtain ⟨c24, n24, hp, e1, e2⟩ := pay_inv h
          subst e1 e2
          replace h := hp
          clear hp
          rw [Nat.add_assoc, Nat.add_assoc]
          refine lopA_ind (fun k n => zX10_shift_43 l F v0 v2 v3 r13 k n) (qX10_shift_43 l F v0 v2 v3 r13) FU _ x22 _ _ hqx22 _ _ ?_
          obtain ⟨v5_23, μ_23⟩ := x22
          dsimp only at h
          show GM l mX10_shift F (c24 + k) (n24 + n) 102 [(5, (0, v5_23))] [] μ_23
          refine GM_iload (pc := 102) 0 rfl (daX10_shift_0 47 rfl) ?_
          cases h
          exact GM_iret (pc := 104) (daX10_shift_0 48 rfl) rfl hK
        · skip
          rw [if_neg c21] at h
          refine GM_iconst (pc := 35) (-1) (daX10_shift_0 16 rfl) rfl (R32_b rfl) ?_
          cases h
          exact GM_iret (pc := 36) (daX10_shift_0 17 rfl) rfl hK
theorem tX10_shift (l : Launch) {v0 v1 v2 v3 : Int} {μ : Mm} {t : (Int × Mm)} {c0 n0 : Nat} (h : fX10_shift v0 v1 v2 v3 μ = some (t, c0, n0)) : Ct l yX10_shift mX10_shift [(3, v0), (0, v1), (0, v2), (0, v3)] μ ([(0, t.1)], t.2, c0, n0) :=
  Ct_of (by decide +kernel) rfl rfl (Nat.le_of_ble_eq_true rfl) (fun _ _ _ => trivial) (gX10_shift_0 (k := 0) (n := 0) l h ⟨rfl, rfl⟩)
def mX10_takesUp : MI := (RX10, cX10_takesUp, 6, (some .boolean), "takesUp", 3, 67, fun _ _ _ => True)
theorem cwX10_takesUp : CWd yX10_takesUp mX10_takesUp 3 := ⟨ki_X10, kk_X10_takesUp, ⟨by decide, by decide⟩, rfl⟩
def dtX10_takesUp_0 : List (Nat × Instr × Nat) := [(0, .aload_n 0, 1), (1, .iload_n 1, 1), (2, .invokevirtual 149, 3), (5, .astore 4, 2), (7, .aload_n 0, 1), (8, .iload_n 2, 1), (9, .invokevirtual 182, 3), (12, .astore 5, 2), (14, .aload 4, 2), (16, .ifnull 19, 3), (19, .aload 5, 2), (21, .ifnull 14, 3), (24, .iload_n 3, 1), (25, .iconst (-1), 1), (26, .if_icmp .lt 9, 3), (29, .iload_n 3, 1), (30, .bipush 99, 2), (32, .if_icmp .le 5, 3), (35, .iconst 0, 1), (36, .ireturn, 1), (37, .aload_n 0, 1), (38, .getfield 50, 3), (41, .aload 4, 2), (43, .aload 5, 2), (45, .iload_n 3, 1), (46, .invokevirtual 294, 3), (49, .iconst 1, 1), (50, .ireturn, 1)]
theorem ddX10_takesUp_0 : (dtX10_takesUp_0.all fun e => decide (decode mX10_takesUp.2.1 e.1 = .ok (e.2.1, e.2.2))) = true := by decide +kernel
theorem daX10_takesUp_0 (j : Nat) {pc n : Nat} {i : Instr} (h : dtX10_takesUp_0[j]? = some (pc, i, n)) : decode mX10_takesUp.2.1 pc = .ok (i, n) := dec_of (c := mX10_takesUp.2.1) ddX10_takesUp_0 h
def fX10_takesUp (v0 v1 v2 v3 : Int) (μ : Mm) : Option (Int × Mm) :=
  chk (KD v0 = 10) (
  (fX10_landAt v0 v1 μ).bind fun r2 =>
  (fX10_sketchAt v0 v2 μ).bind fun r3 =>
  if r2 = 0 then
    some (0, μ)
  else
    if r3 = 0 then
      some (0, μ)
    else
      if v3 < (-1) then
        some (0, μ)
      else
        if v3 ≤ 99 then
          chk (KD (μ v0 6) = 1) (
          (fX1_hold (μ v0 6) r2 r3 v3 μ).bind fun μ9 =>
          some (1, μ9))
        else
          some (0, μ))
set_option maxRecDepth 20000 in
theorem gX10_takesUp_0 (l : Launch) {F : FI} {v0 v1 v2 v3 : Int} {μ : Mm} {t : (Int × Mm)} (h : fX10_takesUp v0 v1 v2 v3 μ = some t) (hK : F.1 = [(0, t.1)] ∧ F.2.1 = t.2) : GM l mX10_takesUp F 0 0 0 [(0, (3, v0)), (1, (0, v1)), (2, (0, v2)), (3, (0, v3))] [] μ := by
  unfold fX10_takesUp at h
  refine GM_aload_n (pc := 0) 0 rfl (daX10_takesUp_0 0 rfl) rfl ?_
  refine GM_iload_n (pc := 1) 1 rfl (daX10_takesUp_0 1 rfl) rfl ?_
  obtain ⟨hc1, h⟩ := chk_inv h
  obtain ⟨r2, hf2, h⟩ := Option.bind_eq_some_iff.mp h
  refine GM_callV0 (pc := 2) [(0, v1)] (tX10_landAt l hf2) cwX10_landAt 10 (Nat.le_of_ble_eq_true rfl) rfl kv_X10_landAt ke_X10_landAt km_X10_149 hc1 ⟨Nat.le_of_ble_eq_true rfl, Nat.le_of_ble_eq_true rfl⟩ (Nat.le_of_ble_eq_true rfl) (Nat.le_of_ble_eq_true rfl) (daX10_takesUp_0 2 rfl) ?_
  refine GM_astore (L' := [(4, (3, r2)), (0, (3, v0)), (1, (0, v1)), (2, (0, v2)), (3, (0, v3))]) (pc := 5) (daX10_takesUp_0 3 rfl) (Nat.le_of_ble_eq_true rfl) rfl ?_
  refine GM_aload_n (pc := 7) 1 rfl (daX10_takesUp_0 4 rfl) rfl ?_
  refine GM_iload_n (pc := 8) 3 rfl (daX10_takesUp_0 5 rfl) rfl ?_
  obtain ⟨r3, hf3, h⟩ := Option.bind_eq_some_iff.mp h
  refine GM_callV0 (pc := 9) [(0, v2)] (tX10_sketchAt l hf3) cwX10_sketchAt 10 (Nat.le_of_ble_eq_true rfl) rfl kv_X10_sketchAt ke_X10_sketchAt km_X10_182 hc1 ⟨Nat.le_of_ble_eq_true rfl, Nat.le_of_ble_eq_true rfl⟩ (Nat.le_of_ble_eq_true rfl) (Nat.le_of_ble_eq_true rfl) (daX10_takesUp_0 6 rfl) ?_
  refine GM_astore (L' := [(5, (3, r3)), (4, (3, r2)), (0, (3, v0)), (1, (0, v1)), (2, (0, v2)), (3, (0, v3))]) (pc := 12) (daX10_takesUp_0 7 rfl) (Nat.le_of_ble_eq_true rfl) rfl ?_
  refine GM_aload (pc := 14) 1 rfl (daX10_takesUp_0 8 rfl) ?_
  refine GM_ifnull (pc := 16) 35 (daX10_takesUp_0 9 rfl) rfl (fun c4 => ?_) (fun c4 => ?_)
  · skip
    rw [if_pos c4] at h
    refine GM_iconst (pc := 35) 0 (daX10_takesUp_0 18 rfl) rfl (R32_b rfl) ?_
    cases h
    exact GM_zret (pc := 36) (daX10_takesUp_0 19 rfl) rfl (Or.inl rfl) hK
  · skip
    rw [if_neg c4] at h
    refine GM_aload (pc := 19) 0 rfl (daX10_takesUp_0 10 rfl) ?_
    refine GM_ifnull (pc := 21) 35 (daX10_takesUp_0 11 rfl) rfl (fun c5 => ?_) (fun c5 => ?_)
    · skip
      rw [if_pos c5] at h
      refine GM_iconst (pc := 35) 0 (daX10_takesUp_0 18 rfl) rfl (R32_b rfl) ?_
      cases h
      exact GM_zret (pc := 36) (daX10_takesUp_0 19 rfl) rfl (Or.inl rfl) hK
    · skip
      rw [if_neg c5] at h
      refine GM_iload_n (pc := 24) 5 rfl (daX10_takesUp_0 12 rfl) rfl ?_
      refine GM_iconst (pc := 25) (-1) (daX10_takesUp_0 13 rfl) rfl (R32_b rfl) ?_
      refine GM_icmp_lt (pc := 26) 35 (daX10_takesUp_0 14 rfl) rfl (fun c6 => ?_) (fun c6 => ?_)
      · skip
        rw [if_pos c6] at h
        refine GM_iconst (pc := 35) 0 (daX10_takesUp_0 18 rfl) rfl (R32_b rfl) ?_
        cases h
        exact GM_zret (pc := 36) (daX10_takesUp_0 19 rfl) rfl (Or.inl rfl) hK
      · skip
        rw [if_neg c6] at h
        refine GM_iload_n (pc := 29) 5 rfl (daX10_takesUp_0 15 rfl) rfl ?_
        refine GM_bipush (pc := 30) 99 (daX10_takesUp_0 16 rfl) rfl (R32_b rfl) ?_
        refine GM_icmp_le (pc := 32) 37 (daX10_takesUp_0 17 rfl) rfl (fun c7 => ?_) (fun c7 => ?_)
        · skip
          rw [if_pos c7] at h
          refine GM_aload_n (pc := 37) 2 rfl (daX10_takesUp_0 20 rfl) rfl ?_
          refine GM_getf (pc := 38) 10 6 3 6 kf_X10_50 (Nat.le_of_ble_eq_true rfl) (Nat.le_of_ble_eq_true rfl) rfl (daX10_takesUp_0 21 rfl) hc1 rfl ?_
          refine GM_aload (pc := 41) 1 rfl (daX10_takesUp_0 22 rfl) ?_
          refine GM_aload (pc := 43) 0 rfl (daX10_takesUp_0 23 rfl) ?_
          refine GM_iload_n (pc := 45) 5 rfl (daX10_takesUp_0 24 rfl) rfl ?_
          obtain ⟨hc8, h⟩ := chk_inv h
          obtain ⟨μ9, hf9, h⟩ := Option.bind_eq_some_iff.mp h
          refine GM_callV0 (pc := 46) [(3, r2), (3, r3), (0, v3)] (tX1_hold l hf9) cwX1_hold 1 (Nat.le_of_ble_eq_true rfl) rfl kv_X1_hold ke_X1_hold km_X10_294 hc8 ⟨Nat.le_of_ble_eq_true rfl, Nat.le_of_ble_eq_true rfl⟩ (Nat.le_of_ble_eq_true rfl) (Nat.le_of_ble_eq_true rfl) (daX10_takesUp_0 25 rfl) ?_
          refine GM_iconst (pc := 49) 1 (daX10_takesUp_0 26 rfl) rfl (R32_b rfl) ?_
          cases h
          exact GM_zret (pc := 50) (daX10_takesUp_0 27 rfl) rfl (Or.inr rfl) hK
        · skip
          rw [if_neg c7] at h
          refine GM_iconst (pc := 35) 0 (daX10_takesUp_0 18 rfl) rfl (R32_b rfl) ?_
          cases h
          exact GM_zret (pc := 36) (daX10_takesUp_0 19 rfl) rfl (Or.inl rfl) hK
theorem tX10_takesUp (l : Launch) {v0 v1 v2 v3 : Int} {μ : Mm} {t : (Int × Mm)} (h : fX10_takesUp v0 v1 v2 v3 μ = some t) : Ct l yX10_takesUp mX10_takesUp [(3, v0), (0, v1), (0, v2), (0, v3)] μ ([(0, t.1)], t.2, 0, 0) :=
  Ct_of (by decide +kernel) rfl rfl (Nat.le_of_ble_eq_true rfl) (fun _ _ _ => trivial) (gX10_takesUp_0 l h ⟨rfl, rfl⟩)
def mX10_facesPlace : MI := (RX10, cX10_facesPlace, 6, (some .boolean), "facesPlace", 5, 122, fun _ _ _ => True)
theorem cwX10_facesPlace : CWd yX10_facesPlace mX10_facesPlace 4 := ⟨ki_X10, kk_X10_facesPlace, ⟨by decide, by decide⟩, rfl⟩
def dtX10_facesPlace_0 : List (Nat × Instr × Nat) := [(0, .aload_n 0, 1), (1, .iload_n 1, 1), (2, .iload_n 3, 1), (3, .invokevirtual 236, 3), (6, .astore 5, 2), (8, .aload 5, 2), (10, .ifnull 14, 3), (13, .aload_n 0, 1), (14, .iload_n 1, 1), (15, .iload_n 2, 1), (16, .iload 4, 2), (18, .invokevirtual 298, 3), (21, .ifCond .ne 5, 3), (24, .iconst 0, 1), (25, .ireturn, 1), (26, .aload_n 0, 1), (27, .getfield 50, 3), (30, .aload 5, 2), (32, .putfield 302, 3), (35, .iconst 1, 1), (36, .ireturn, 1)]
theorem ddX10_facesPlace_0 : (dtX10_facesPlace_0.all fun e => decide (decode mX10_facesPlace.2.1 e.1 = .ok (e.2.1, e.2.2))) = true := by decide +kernel
theorem daX10_facesPlace_0 (j : Nat) {pc n : Nat} {i : Instr} (h : dtX10_facesPlace_0[j]? = some (pc, i, n)) : decode mX10_facesPlace.2.1 pc = .ok (i, n) := dec_of (c := mX10_facesPlace.2.1) ddX10_facesPlace_0 h
def fX10_facesPlace (v0 v1 v2 v3 v4 : Int) (μ : Mm) : Option ((Int × Mm) × Nat × Nat) :=
  chk (KD v0 = 10) (
  (fX10_lineAt v0 v1 v3 μ).bind fun ((r2, μ2), c2, n2) =>
  pay c2 n2 (
  if r2 = 0 then
    some ((0, μ2), 0, 0)
  else
    (fX10_takesUp v0 v1 v2 v4 μ2).bind fun (r5, μ5) =>
    if r5 = 0 then
      some ((0, μ5), 0, 0)
    else
      chk (KD (μ5 v0 6) = 1) (
      lm (mst μ5 (μ5 v0 6) 2 r2) fun μ8 =>
      some ((1, μ8), 0, 0))))
set_option maxRecDepth 20000 in
theorem gX10_facesPlace_0 (l : Launch) {F : FI} {v0 v1 v2 v3 v4 : Int} {μ : Mm} {t : (Int × Mm)} {c0 n0 k n : Nat} (h : fX10_facesPlace v0 v1 v2 v3 v4 μ = some (t, c0, n0)) (hK : F.1 = [(0, t.1)] ∧ F.2.1 = t.2) : GM l mX10_facesPlace F (c0 + k) (n0 + n) 0 [(0, (3, v0)), (1, (0, v1)), (2, (0, v2)), (3, (0, v3)), (4, (0, v4))] [] μ := by
  unfold fX10_facesPlace at h
  refine GM_aload_n (pc := 0) 0 rfl (daX10_facesPlace_0 0 rfl) rfl ?_
  refine GM_iload_n (pc := 1) 1 rfl (daX10_facesPlace_0 1 rfl) rfl ?_
  refine GM_iload_n (pc := 2) 3 rfl (daX10_facesPlace_0 2 rfl) rfl ?_
  obtain ⟨hc1, h⟩ := chk_inv h
  obtain ⟨⟨⟨r2, μ2⟩, c2, n2⟩, hf2, h⟩ := Option.bind_eq_some_iff.mp h
  dsimp only at h
  obtain ⟨c3, n3, hp, e1, e2⟩ := pay_inv h
  subst e1 e2
  replace h := hp
  clear hp
  rw [Nat.add_assoc, Nat.add_assoc]
  refine GM_callV (pc := 3) [(0, v1), (0, v3)] (tX10_lineAt l hf2) cwX10_lineAt 10 (Nat.le_of_ble_eq_true rfl) rfl kv_X10_lineAt ke_X10_lineAt km_X10_236 hc1 ⟨Nat.le_of_ble_eq_true rfl, Nat.le_of_ble_eq_true rfl⟩ (Nat.le_of_ble_eq_true rfl) (Nat.le_of_ble_eq_true rfl) (daX10_facesPlace_0 3 rfl) ?_
  refine GM_astore (L' := [(5, (3, r2)), (0, (3, v0)), (1, (0, v1)), (2, (0, v2)), (3, (0, v3)), (4, (0, v4))]) (pc := 6) (daX10_facesPlace_0 4 rfl) (Nat.le_of_ble_eq_true rfl) rfl ?_
  refine GM_aload (pc := 8) 0 rfl (daX10_facesPlace_0 5 rfl) ?_
  refine GM_ifnull (pc := 10) 24 (daX10_facesPlace_0 6 rfl) rfl (fun c4 => ?_) (fun c4 => ?_)
  · skip
    rw [if_pos c4] at h
    refine GM_iconst (pc := 24) 0 (daX10_facesPlace_0 13 rfl) rfl (R32_b rfl) ?_
    cases h
    exact GM_zret (pc := 25) (daX10_facesPlace_0 14 rfl) rfl (Or.inl rfl) hK
  · skip
    rw [if_neg c4] at h
    refine GM_aload_n (pc := 13) 1 rfl (daX10_facesPlace_0 7 rfl) rfl ?_
    refine GM_iload_n (pc := 14) 2 rfl (daX10_facesPlace_0 8 rfl) rfl ?_
    refine GM_iload_n (pc := 15) 3 rfl (daX10_facesPlace_0 9 rfl) rfl ?_
    refine GM_iload (pc := 16) 5 rfl (daX10_facesPlace_0 10 rfl) ?_
    obtain ⟨⟨r5, μ5⟩, hf5, h⟩ := Option.bind_eq_some_iff.mp h
    dsimp only at h
    refine GM_callV0 (pc := 18) [(0, v1), (0, v2), (0, v4)] (tX10_takesUp l hf5) cwX10_takesUp 10 (Nat.le_of_ble_eq_true rfl) rfl kv_X10_takesUp ke_X10_takesUp km_X10_298 hc1 ⟨Nat.le_of_ble_eq_true rfl, Nat.le_of_ble_eq_true rfl⟩ (Nat.le_of_ble_eq_true rfl) (Nat.le_of_ble_eq_true rfl) (daX10_facesPlace_0 11 rfl) ?_
    refine GM_if_ne (pc := 21) 26 (daX10_facesPlace_0 12 rfl) rfl (fun c6 => ?_) (fun c6 => ?_)
    · skip
      rw [if_neg c6] at h
      refine GM_aload_n (pc := 26) 1 rfl (daX10_facesPlace_0 15 rfl) rfl ?_
      refine GM_getf (pc := 27) 10 6 3 6 kf_X10_50 (Nat.le_of_ble_eq_true rfl) (Nat.le_of_ble_eq_true rfl) rfl (daX10_facesPlace_0 16 rfl) hc1 rfl ?_
      refine GM_aload (pc := 30) 0 rfl (daX10_facesPlace_0 17 rfl) ?_
      obtain ⟨hc7, h⟩ := chk_inv h
      obtain ⟨μ8, hμ8, h⟩ := lm_inv h
      refine GM_putf (pc := 32) 1 2 3 kf_X10_302 (Nat.le_of_ble_eq_true rfl) (Nat.le_of_ble_eq_true rfl) rfl rfl (daX10_facesPlace_0 18 rfl) hc7 (fun q => absurd q (by decide)) ?_
      refine GM_mem hμ8 ?_
      refine GM_iconst (pc := 35) 1 (daX10_facesPlace_0 19 rfl) rfl (R32_b rfl) ?_
      cases h
      exact GM_zret (pc := 36) (daX10_facesPlace_0 20 rfl) rfl (Or.inr rfl) hK
    · skip
      rw [if_pos c6] at h
      refine GM_iconst (pc := 24) 0 (daX10_facesPlace_0 13 rfl) rfl (R32_b rfl) ?_
      cases h
      exact GM_zret (pc := 25) (daX10_facesPlace_0 14 rfl) rfl (Or.inl rfl) hK
theorem tX10_facesPlace (l : Launch) {v0 v1 v2 v3 v4 : Int} {μ : Mm} {t : (Int × Mm)} {c0 n0 : Nat} (h : fX10_facesPlace v0 v1 v2 v3 v4 μ = some (t, c0, n0)) : Ct l yX10_facesPlace mX10_facesPlace [(3, v0), (0, v1), (0, v2), (0, v3), (0, v4)] μ ([(0, t.1)], t.2, c0, n0) :=
  Ct_of (by decide +kernel) rfl rfl (Nat.le_of_ble_eq_true rfl) (fun _ _ _ => trivial) (gX10_facesPlace_0 (k := 0) (n := 0) l h ⟨rfl, rfl⟩)
def mX10_first : MI := (RX10, cX10_first, 6, (some .int), "first", 6, 147, fun _ _ _ => True)
theorem cwX10_first : CWd yX10_first mX10_first 5 := ⟨ki_X10, kk_X10_first, ⟨by decide, by decide⟩, rfl⟩
def dtX10_first_0 : List (Nat × Instr × Nat) := [(0, .aload_n 0, 1), (1, .iload_n 1, 1), (2, .iload_n 2, 1), (3, .iload_n 3, 1), (4, .iload 5, 2), (6, .invokevirtual 305, 3), (9, .ifCond .eq 18, 3), (12, .aload_n 0, 1), (13, .getfield 50, 3), (16, .getfield 302, 3), (19, .iload 4, 2), (21, .invokevirtual 253, 3), (24, .ifCond .ne 5, 3), (27, .iconst (-1), 1), (28, .ireturn, 1), (29, .aload_n 0, 1), (30, .getfield 50, 3), (33, .iload 4, 2), (35, .invokevirtual 309, 3), (38, .ireturn, 1)]
theorem ddX10_first_0 : (dtX10_first_0.all fun e => decide (decode mX10_first.2.1 e.1 = .ok (e.2.1, e.2.2))) = true := by decide +kernel
theorem daX10_first_0 (j : Nat) {pc n : Nat} {i : Instr} (h : dtX10_first_0[j]? = some (pc, i, n)) : decode mX10_first.2.1 pc = .ok (i, n) := dec_of (c := mX10_first.2.1) ddX10_first_0 h
def fX10_first (v0 v1 v2 v3 v4 v5 : Int) (μ : Mm) : Option ((Int × Mm) × Nat × Nat) :=
  chk (KD v0 = 10) (
  (fX10_facesPlace v0 v1 v2 v3 v5 μ).bind fun ((r2, μ2), c2, n2) =>
  pay c2 n2 (
  if r2 = 0 then
    some (((-1), μ2), 0, 0)
  else
    chk (KD (μ2 v0 6) = 1) (
    chk (KD (μ2 (μ2 v0 6) 2) = 7) (
    (fX7_hasHump (μ2 (μ2 v0 6) 2) v4 μ2).bind fun r7 =>
    if r7 = 0 then
      some (((-1), μ2), 0, 0)
    else
      (fX1_reach (μ2 v0 6) v4 μ2).bind fun (r9, μ9) =>
      some ((r9, μ9), 0, 0)))))
set_option maxRecDepth 20000 in
theorem gX10_first_0 (l : Launch) {F : FI} {v0 v1 v2 v3 v4 v5 : Int} {μ : Mm} {t : (Int × Mm)} {c0 n0 k n : Nat} (h : fX10_first v0 v1 v2 v3 v4 v5 μ = some (t, c0, n0)) (hK : F.1 = [(0, t.1)] ∧ F.2.1 = t.2) : GM l mX10_first F (c0 + k) (n0 + n) 0 [(0, (3, v0)), (1, (0, v1)), (2, (0, v2)), (3, (0, v3)), (4, (0, v4)), (5, (0, v5))] [] μ := by
  unfold fX10_first at h
  refine GM_aload_n (pc := 0) 0 rfl (daX10_first_0 0 rfl) rfl ?_
  refine GM_iload_n (pc := 1) 1 rfl (daX10_first_0 1 rfl) rfl ?_
  refine GM_iload_n (pc := 2) 2 rfl (daX10_first_0 2 rfl) rfl ?_
  refine GM_iload_n (pc := 3) 3 rfl (daX10_first_0 3 rfl) rfl ?_
  refine GM_iload (pc := 4) 5 rfl (daX10_first_0 4 rfl) ?_
  obtain ⟨hc1, h⟩ := chk_inv h
  obtain ⟨⟨⟨r2, μ2⟩, c2, n2⟩, hf2, h⟩ := Option.bind_eq_some_iff.mp h
  dsimp only at h
  obtain ⟨c3, n3, hp, e1, e2⟩ := pay_inv h
  subst e1 e2
  replace h := hp
  clear hp
  rw [Nat.add_assoc, Nat.add_assoc]
  refine GM_callV (pc := 6) [(0, v1), (0, v2), (0, v3), (0, v5)] (tX10_facesPlace l hf2) cwX10_facesPlace 10 (Nat.le_of_ble_eq_true rfl) rfl kv_X10_facesPlace ke_X10_facesPlace km_X10_305 hc1 ⟨Nat.le_of_ble_eq_true rfl, Nat.le_of_ble_eq_true rfl⟩ (Nat.le_of_ble_eq_true rfl) (Nat.le_of_ble_eq_true rfl) (daX10_first_0 5 rfl) ?_
  refine GM_if_eq (pc := 9) 27 (daX10_first_0 6 rfl) rfl (fun c4 => ?_) (fun c4 => ?_)
  · skip
    rw [if_pos c4] at h
    refine GM_iconst (pc := 27) (-1) (daX10_first_0 13 rfl) rfl (R32_b rfl) ?_
    cases h
    exact GM_iret (pc := 28) (daX10_first_0 14 rfl) rfl hK
  · skip
    rw [if_neg c4] at h
    refine GM_aload_n (pc := 12) 0 rfl (daX10_first_0 7 rfl) rfl ?_
    refine GM_getf (pc := 13) 10 6 3 6 kf_X10_50 (Nat.le_of_ble_eq_true rfl) (Nat.le_of_ble_eq_true rfl) rfl (daX10_first_0 8 rfl) hc1 rfl ?_
    obtain ⟨hc5, h⟩ := chk_inv h
    refine GM_getf (pc := 16) 1 2 3 2 kf_X10_302 (Nat.le_of_ble_eq_true rfl) (Nat.le_of_ble_eq_true rfl) rfl (daX10_first_0 9 rfl) hc5 rfl ?_
    refine GM_iload (pc := 19) 4 rfl (daX10_first_0 10 rfl) ?_
    obtain ⟨hc6, h⟩ := chk_inv h
    obtain ⟨r7, hf7, h⟩ := Option.bind_eq_some_iff.mp h
    refine GM_callV0 (pc := 21) [(0, v4)] (tX7_hasHump l hf7) cwX7_hasHump 7 (Nat.le_of_ble_eq_true rfl) rfl kv_X7_hasHump ke_X7_hasHump km_X10_253 hc6 ⟨Nat.le_of_ble_eq_true rfl, Nat.le_of_ble_eq_true rfl⟩ (Nat.le_of_ble_eq_true rfl) (Nat.le_of_ble_eq_true rfl) (daX10_first_0 11 rfl) ?_
    refine GM_if_ne (pc := 24) 29 (daX10_first_0 12 rfl) rfl (fun c8 => ?_) (fun c8 => ?_)
    · skip
      rw [if_neg c8] at h
      refine GM_aload_n (pc := 29) 0 rfl (daX10_first_0 15 rfl) rfl ?_
      refine GM_getf (pc := 30) 10 6 3 6 kf_X10_50 (Nat.le_of_ble_eq_true rfl) (Nat.le_of_ble_eq_true rfl) rfl (daX10_first_0 16 rfl) hc1 rfl ?_
      refine GM_iload (pc := 33) 4 rfl (daX10_first_0 17 rfl) ?_
      obtain ⟨⟨r9, μ9⟩, hf9, h⟩ := Option.bind_eq_some_iff.mp h
      dsimp only at h
      refine GM_callV0 (pc := 35) [(0, v4)] (tX1_reach l hf9) cwX1_reach 1 (Nat.le_of_ble_eq_true rfl) rfl kv_X1_reach ke_X1_reach km_X10_309 hc5 ⟨Nat.le_of_ble_eq_true rfl, Nat.le_of_ble_eq_true rfl⟩ (Nat.le_of_ble_eq_true rfl) (Nat.le_of_ble_eq_true rfl) (daX10_first_0 18 rfl) ?_
      cases h
      exact GM_iret (pc := 38) (daX10_first_0 19 rfl) rfl hK
    · skip
      rw [if_pos c8] at h
      refine GM_iconst (pc := 27) (-1) (daX10_first_0 13 rfl) rfl (R32_b rfl) ?_
      cases h
      exact GM_iret (pc := 28) (daX10_first_0 14 rfl) rfl hK
theorem tX10_first (l : Launch) {v0 v1 v2 v3 v4 v5 : Int} {μ : Mm} {t : (Int × Mm)} {c0 n0 : Nat} (h : fX10_first v0 v1 v2 v3 v4 v5 μ = some (t, c0, n0)) : Ct l yX10_first mX10_first [(3, v0), (0, v1), (0, v2), (0, v3), (0, v4), (0, v5)] μ ([(0, t.1)], t.2, c0, n0) :=
  Ct_of (by decide +kernel) rfl rfl (Nat.le_of_ble_eq_true rfl) (fun _ _ _ => trivial) (gX10_first_0 (k := 0) (n := 0) l h ⟨rfl, rfl⟩)
def mX10_fits : MI := (RX10, cX10_fits, 5, (some .int), "fits", 6, 147, fun _ _ _ => True)
theorem cwX10_fits : CWd yX10_fits mX10_fits 4 := ⟨ki_X10, kk_X10_fits, ⟨by decide, by decide⟩, rfl⟩
def dtX10_fits_0 : List (Nat × Instr × Nat) := [(0, .aload_n 0, 1), (1, .iload_n 1, 1), (2, .iload_n 2, 1), (3, .iload_n 3, 1), (4, .iload 4, 2), (6, .invokevirtual 305, 3), (9, .ifCond .eq 13, 3), (12, .aload_n 0, 1), (13, .getfield 50, 3), (16, .invokevirtual 312, 3), (19, .goto 4, 3), (22, .iconst (-1), 1), (23, .ireturn, 1)]
theorem ddX10_fits_0 : (dtX10_fits_0.all fun e => decide (decode mX10_fits.2.1 e.1 = .ok (e.2.1, e.2.2))) = true := by decide +kernel
theorem daX10_fits_0 (j : Nat) {pc n : Nat} {i : Instr} (h : dtX10_fits_0[j]? = some (pc, i, n)) : decode mX10_fits.2.1 pc = .ok (i, n) := dec_of (c := mX10_fits.2.1) ddX10_fits_0 h
def fX10_fits (v0 v1 v2 v3 v4 : Int) (μ : Mm) : Option ((Int × Mm) × Nat × Nat) :=
  chk (KD v0 = 10) (
  (fX10_facesPlace v0 v1 v2 v3 v4 μ).bind fun ((r2, μ2), c2, n2) =>
  pay c2 n2 (
  if r2 = 0 then
    some (((-1), μ2), 0, 0)
  else
    chk (KD (μ2 v0 6) = 1) (
    (fX1_leastStart (μ2 v0 6) μ2).bind fun (r6, μ6) =>
    some ((r6, μ6), 0, 0))))
set_option maxRecDepth 20000 in
theorem gX10_fits_0 (l : Launch) {F : FI} {v0 v1 v2 v3 v4 : Int} {μ : Mm} {t : (Int × Mm)} {c0 n0 k n : Nat} (h : fX10_fits v0 v1 v2 v3 v4 μ = some (t, c0, n0)) (hK : F.1 = [(0, t.1)] ∧ F.2.1 = t.2) : GM l mX10_fits F (c0 + k) (n0 + n) 0 [(0, (3, v0)), (1, (0, v1)), (2, (0, v2)), (3, (0, v3)), (4, (0, v4))] [] μ := by
  unfold fX10_fits at h
  refine GM_aload_n (pc := 0) 0 rfl (daX10_fits_0 0 rfl) rfl ?_
  refine GM_iload_n (pc := 1) 1 rfl (daX10_fits_0 1 rfl) rfl ?_
  refine GM_iload_n (pc := 2) 2 rfl (daX10_fits_0 2 rfl) rfl ?_
  refine GM_iload_n (pc := 3) 3 rfl (daX10_fits_0 3 rfl) rfl ?_
  refine GM_iload (pc := 4) 4 rfl (daX10_fits_0 4 rfl) ?_
  obtain ⟨hc1, h⟩ := chk_inv h
  obtain ⟨⟨⟨r2, μ2⟩, c2, n2⟩, hf2, h⟩ := Option.bind_eq_some_iff.mp h
  dsimp only at h
  obtain ⟨c3, n3, hp, e1, e2⟩ := pay_inv h
  subst e1 e2
  replace h := hp
  clear hp
  rw [Nat.add_assoc, Nat.add_assoc]
  refine GM_callV (pc := 6) [(0, v1), (0, v2), (0, v3), (0, v4)] (tX10_facesPlace l hf2) cwX10_facesPlace 10 (Nat.le_of_ble_eq_true rfl) rfl kv_X10_facesPlace ke_X10_facesPlace km_X10_305 hc1 ⟨Nat.le_of_ble_eq_true rfl, Nat.le_of_ble_eq_true rfl⟩ (Nat.le_of_ble_eq_true rfl) (Nat.le_of_ble_eq_true rfl) (daX10_fits_0 5 rfl) ?_
  refine GM_if_eq (pc := 9) 22 (daX10_fits_0 6 rfl) rfl (fun c4 => ?_) (fun c4 => ?_)
  · skip
    rw [if_pos c4] at h
    refine GM_iconst (pc := 22) (-1) (daX10_fits_0 11 rfl) rfl (R32_b rfl) ?_
    cases h
    exact GM_iret (pc := 23) (daX10_fits_0 12 rfl) rfl hK
  · skip
    rw [if_neg c4] at h
    refine GM_aload_n (pc := 12) 0 rfl (daX10_fits_0 7 rfl) rfl ?_
    refine GM_getf (pc := 13) 10 6 3 6 kf_X10_50 (Nat.le_of_ble_eq_true rfl) (Nat.le_of_ble_eq_true rfl) rfl (daX10_fits_0 8 rfl) hc1 rfl ?_
    obtain ⟨hc5, h⟩ := chk_inv h
    obtain ⟨⟨r6, μ6⟩, hf6, h⟩ := Option.bind_eq_some_iff.mp h
    dsimp only at h
    refine GM_callV0 (pc := 16) [] (tX1_leastStart l hf6) cwX1_leastStart 1 (Nat.le_of_ble_eq_true rfl) rfl kv_X1_leastStart ke_X1_leastStart km_X10_312 hc5 ⟨Nat.le_of_ble_eq_true rfl, Nat.le_of_ble_eq_true rfl⟩ (Nat.le_of_ble_eq_true rfl) (Nat.le_of_ble_eq_true rfl) (daX10_fits_0 9 rfl) ?_
    refine GM_goto (pc := 19) 23 (daX10_fits_0 10 rfl) rfl ?_
    cases h
    exact GM_iret (pc := 23) (daX10_fits_0 12 rfl) rfl hK
theorem tX10_fits (l : Launch) {v0 v1 v2 v3 v4 : Int} {μ : Mm} {t : (Int × Mm)} {c0 n0 : Nat} (h : fX10_fits v0 v1 v2 v3 v4 μ = some (t, c0, n0)) : Ct l yX10_fits mX10_fits [(3, v0), (0, v1), (0, v2), (0, v3), (0, v4)] μ ([(0, t.1)], t.2, c0, n0) :=
  Ct_of (by decide +kernel) rfl rfl (Nat.le_of_ble_eq_true rfl) (fun _ _ _ => trivial) (gX10_fits_0 (k := 0) (n := 0) l h ⟨rfl, rfl⟩)
def mX10_marksFitting : MI := (RX10, cX10_marksFitting, 7, (some .boolean), "marksFitting", 6, 141, fun _ _ _ => True)
theorem cwX10_marksFitting : CWd yX10_marksFitting mX10_marksFitting 4 := ⟨ki_X10, kk_X10_marksFitting, ⟨by decide, by decide⟩, rfl⟩
def dtX10_marksFitting_0 : List (Nat × Instr × Nat) := [(0, .aload_n 0, 1), (1, .iload_n 1, 1), (2, .invokevirtual 220, 3), (5, .astore 5, 2), (7, .aload 5, 2), (9, .ifnull 13, 3), (12, .aload_n 0, 1), (13, .iload_n 1, 1), (14, .iload_n 2, 1), (15, .iload_n 3, 1), (16, .invokevirtual 298, 3), (19, .ifCond .ne 5, 3), (22, .iconst 0, 1), (23, .ireturn, 1), (24, .aload 4, 2), (26, .invokestatic 323, 3), (29, .iconst 0, 1), (30, .istore 6, 2), (32, .iload 6, 2), (34, .aload 5, 2), (36, .getfield 224, 3), (39, .invokevirtual 266, 3), (42, .if_icmp .ge 52, 3), (45, .iload 6, 2), (47, .aload 4, 2), (49, .arraylength, 1), (50, .if_icmp .ge 44, 3), (53, .aload_n 0, 1), (54, .getfield 50, 3), (57, .aload 5, 2), (59, .iload 6, 2), (61, .invokevirtual 225, 3), (64, .putfield 302, 3), (67, .aload 4, 2), (69, .iload 6, 2), (71, .aload_n 0, 1), (72, .getfield 50, 3), (75, .invokevirtual 312, 3), (78, .iconst (-1), 1), (79, .if_icmp .eq 7, 3), (82, .iconst 1, 1), (83, .goto 4, 3), (86, .iconst 0, 1), (87, .bastore, 1), (88, .iinc 6 1, 3), (91, .goto (-59), 3), (94, .iconst 1, 1), (95, .ireturn, 1)]
theorem ddX10_marksFitting_0 : (dtX10_marksFitting_0.all fun e => decide (decode mX10_marksFitting.2.1 e.1 = .ok (e.2.1, e.2.2))) = true := by decide +kernel
theorem daX10_marksFitting_0 (j : Nat) {pc n : Nat} {i : Instr} (h : dtX10_marksFitting_0[j]? = some (pc, i, n)) : decode mX10_marksFitting.2.1 pc = .ok (i, n) := dec_of (c := mX10_marksFitting.2.1) ddX10_marksFitting_0 h
def zX10_marksFitting_32 (l : Launch) (F : FI) (v0 v4 v5 : Int) (k n : Nat) : (Int × Mm) ⊕ Mm → Prop
  | .inl (v6, μ) => GM l mX10_marksFitting F k n 32 [(0, (3, v0)), (4, (3, v4)), (5, (3, v5)), (6, (0, v6))] [] μ
  | .inr μ => GM l mX10_marksFitting F k n 94 [] [] μ
def sX10_marksFitting_32 (v0 v4 v5 : Int) : (Int × Mm) → Option (((Int × Mm) ⊕ Mm) × Nat × Nat) := fun (v6, μ) =>
  chk (KD v5 = 4) (
  chk (KD (μ v5 0) = 2) (
  (fX2_places (μ v5 0) μ).bind fun r3 =>
  if r3 ≤ v6 then
    some (.inr μ, 0, 0)
  else
    chk (KD v4 = 14 ∧ 0 ≤ LN v4 ∧ LN v4 < 2147483648) (
    if LN v4 ≤ v6 then
      some (.inr μ, 0, 0)
    else
      chk (KD v0 = 10) (
      (fX4_lineOf v5 v6 μ).bind fun ((r8, μ8), c8, n8) =>
      pay c8 n8 (
      chk (KD (μ v0 6) = 1) (
      lm (mst μ8 (μ v0 6) 2 r8) fun μ11 =>
      chk (KD (μ11 v0 6) = 1) (
      (fX1_leastStart (μ11 v0 6) μ11).bind fun (r13, μ13) =>
      if r13 = (-1) then
        chk (0 ≤ v6 ∧ v6 < LN v4) (
        lm (mst μ13 v4 v6 0) fun μ16 =>
        some (.inl (w32 (v6 + 1), μ16), 0, 0))
      else
        chk (0 ≤ v6 ∧ v6 < LN v4) (
        lm (mst μ13 v4 v6 1) fun μ18 =>
        some (.inl (w32 (v6 + 1), μ18), 0, 0)))))))))
def fX10_marksFitting (v0 v1 v2 v3 v4 : Int) (μ : Mm) : Option ((Int × Mm) × Nat × Nat) :=
  chk (KD v0 = 10) (
  (fX10_sceneAt v0 v1 μ).bind fun ((r20, μ20), c20, n20) =>
  pay c20 n20 (
  if r20 = 0 then
    some ((0, μ20), 0, 0)
  else
    (fX10_takesUp v0 v1 v2 v3 μ20).bind fun (r23, μ23) =>
    if r23 = 0 then
      some ((0, μ23), 0, 0)
    else
      (fX10_wipe v4 μ23).bind fun μ25 =>
      (lopA (sX10_marksFitting_32 v0 v4 r20) FU (0, μ25)).bind fun (μ_27, ccx26, nnx26) =>
        pay ccx26 nnx26 (
        some ((1, μ_27), 0, 0))))
set_option maxRecDepth 20000 in
theorem qX10_marksFitting_32 (l : Launch) (F : FI) (v0 v4 v5 : Int) : ∀ (q : (Int × Mm)) (t : ((Int × Mm) ⊕ Mm)) (c0 n0 : Nat), sX10_marksFitting_32 v0 v4 v5 q = some (t, c0, n0) → ∀ k n, zX10_marksFitting_32 l F v0 v4 v5 k n t → zX10_marksFitting_32 l F v0 v4 v5 (c0 + k) (n0 + n) (.inl q) := by
  intro q t c0 n0 h k n hK
  obtain ⟨v6, μ⟩ := q
  unfold sX10_marksFitting_32 at h
  try dsimp only at h
  show GM l mX10_marksFitting F (c0 + k) (n0 + n) 32 [(0, (3, v0)), (4, (3, v4)), (5, (3, v5)), (6, (0, v6))] [] μ
  refine GM_iload (pc := 32) 3 rfl (daX10_marksFitting_0 18 rfl) ?_
  refine GM_aload (pc := 34) 2 rfl (daX10_marksFitting_0 19 rfl) ?_
  obtain ⟨hc1, h⟩ := chk_inv h
  refine GM_getf (pc := 36) 4 0 3 0 kf_X10_224 (Nat.le_of_ble_eq_true rfl) (Nat.le_of_ble_eq_true rfl) rfl (daX10_marksFitting_0 20 rfl) hc1 rfl ?_
  obtain ⟨hc2, h⟩ := chk_inv h
  obtain ⟨r3, hf3, h⟩ := Option.bind_eq_some_iff.mp h
  refine GM_callV0 (pc := 39) [] (tX2_places l hf3) cwX2_places 2 (Nat.le_of_ble_eq_true rfl) rfl kv_X2_places ke_X2_places km_X10_266 hc2 ⟨Nat.le_of_ble_eq_true rfl, Nat.le_of_ble_eq_true rfl⟩ (Nat.le_of_ble_eq_true rfl) (Nat.le_of_ble_eq_true rfl) (daX10_marksFitting_0 21 rfl) ?_
  refine GM_icmp_ge (pc := 42) 94 (daX10_marksFitting_0 22 rfl) rfl (fun c4 => ?_) (fun c4 => ?_)
  · skip
    rw [if_pos c4] at h
    refine GM_pick [] rfl ?_
    cases h
    rw [Nat.zero_add, Nat.zero_add]
    exact hK
  · skip
    rw [if_neg c4] at h
    refine GM_iload (pc := 45) 3 rfl (daX10_marksFitting_0 23 rfl) ?_
    refine GM_aload (pc := 47) 1 rfl (daX10_marksFitting_0 24 rfl) ?_
    obtain ⟨hc5, h⟩ := chk_inv h
    refine GM_zlen (pc := 49) (daX10_marksFitting_0 25 rfl) hc5.1 hc5.2.1 hc5.2.2 ?_
    refine GM_icmp_ge (pc := 50) 94 (daX10_marksFitting_0 26 rfl) rfl (fun c6 => ?_) (fun c6 => ?_)
    · skip
      rw [if_pos c6] at h
      refine GM_pick [] rfl ?_
      cases h
      rw [Nat.zero_add, Nat.zero_add]
      exact hK
    · skip
      rw [if_neg c6] at h
      refine GM_aload_n (pc := 53) 0 rfl (daX10_marksFitting_0 27 rfl) rfl ?_
      obtain ⟨hc7, h⟩ := chk_inv h
      refine GM_getf (pc := 54) 10 6 3 6 kf_X10_50 (Nat.le_of_ble_eq_true rfl) (Nat.le_of_ble_eq_true rfl) rfl (daX10_marksFitting_0 28 rfl) hc7 rfl ?_
      refine GM_aload (pc := 57) 2 rfl (daX10_marksFitting_0 29 rfl) ?_
      refine GM_iload (pc := 59) 3 rfl (daX10_marksFitting_0 30 rfl) ?_
      obtain ⟨⟨⟨r8, μ8⟩, c8, n8⟩, hf8, h⟩ := Option.bind_eq_some_iff.mp h
      dsimp only at h
      obtain ⟨c9, n9, hp, e1, e2⟩ := pay_inv h
      subst e1 e2
      replace h := hp
      clear hp
      rw [Nat.add_assoc, Nat.add_assoc]
      refine GM_callV (pc := 61) [(0, v6)] (tX4_lineOf l hf8) cwX4_lineOf 4 (Nat.le_of_ble_eq_true rfl) rfl kv_X4_lineOf ke_X4_lineOf km_X10_225 hc1 ⟨Nat.le_of_ble_eq_true rfl, Nat.le_of_ble_eq_true rfl⟩ (Nat.le_of_ble_eq_true rfl) (Nat.le_of_ble_eq_true rfl) (daX10_marksFitting_0 31 rfl) ?_
      obtain ⟨hc10, h⟩ := chk_inv h
      obtain ⟨μ11, hμ11, h⟩ := lm_inv h
      refine GM_putf (pc := 64) 1 2 3 kf_X10_302 (Nat.le_of_ble_eq_true rfl) (Nat.le_of_ble_eq_true rfl) rfl rfl (daX10_marksFitting_0 32 rfl) hc10 (fun q => absurd q (by decide)) ?_
      refine GM_mem hμ11 ?_
      refine GM_aload (pc := 67) 1 rfl (daX10_marksFitting_0 33 rfl) ?_
      refine GM_iload (pc := 69) 3 rfl (daX10_marksFitting_0 34 rfl) ?_
      refine GM_aload_n (pc := 71) 0 rfl (daX10_marksFitting_0 35 rfl) rfl ?_
      refine GM_getf (pc := 72) 10 6 3 6 kf_X10_50 (Nat.le_of_ble_eq_true rfl) (Nat.le_of_ble_eq_true rfl) rfl (daX10_marksFitting_0 36 rfl) hc7 rfl ?_
      obtain ⟨hc12, h⟩ := chk_inv h
      obtain ⟨⟨r13, μ13⟩, hf13, h⟩ := Option.bind_eq_some_iff.mp h
      dsimp only at h
      refine GM_callV0 (pc := 75) [] (tX1_leastStart l hf13) cwX1_leastStart 1 (Nat.le_of_ble_eq_true rfl) rfl kv_X1_leastStart ke_X1_leastStart km_X10_312 hc12 ⟨Nat.le_of_ble_eq_true rfl, Nat.le_of_ble_eq_true rfl⟩ (Nat.le_of_ble_eq_true rfl) (Nat.le_of_ble_eq_true rfl) (daX10_marksFitting_0 37 rfl) ?_
      refine GM_iconst (pc := 78) (-1) (daX10_marksFitting_0 38 rfl) rfl (R32_b rfl) ?_
      refine GM_icmp_eq (pc := 79) 86 (daX10_marksFitting_0 39 rfl) rfl (fun c14 => ?_) (fun c14 => ?_)
      · skip
        rw [if_pos c14] at h
        refine GM_iconst (pc := 86) 0 (daX10_marksFitting_0 42 rfl) rfl (R32_b rfl) ?_
        obtain ⟨hc15, h⟩ := chk_inv h
        obtain ⟨μ16, hμ16, h⟩ := lm_inv h
        refine GM_zast (pc := 87) (daX10_marksFitting_0 43 rfl) hc5.1 hc15.1 hc15.2 (Or.inl rfl) ?_
        refine GM_mem hμ16 ?_
        refine GM_iinc (L' := [(6, (0, w32 (v6 + 1))), (0, (3, v0)), (4, (3, v4)), (5, (3, v5))]) (pc := 88) 3 rfl (daX10_marksFitting_0 44 rfl) (Nat.le_of_ble_eq_true rfl) rfl ?_
        refine GM_goto (pc := 91) 32 (daX10_marksFitting_0 45 rfl) rfl ?_
        refine GM_pick [1, 2, 3, 0] rfl ?_
        cases h
        rw [Nat.zero_add, Nat.zero_add]
        exact hK
      · skip
        rw [if_neg c14] at h
        refine GM_iconst (pc := 82) 1 (daX10_marksFitting_0 40 rfl) rfl (R32_b rfl) ?_
        refine GM_goto (pc := 83) 87 (daX10_marksFitting_0 41 rfl) rfl ?_
        obtain ⟨hc17, h⟩ := chk_inv h
        obtain ⟨μ18, hμ18, h⟩ := lm_inv h
        refine GM_zast (pc := 87) (daX10_marksFitting_0 43 rfl) hc5.1 hc17.1 hc17.2 (Or.inr rfl) ?_
        refine GM_mem hμ18 ?_
        refine GM_iinc (L' := [(6, (0, w32 (v6 + 1))), (0, (3, v0)), (4, (3, v4)), (5, (3, v5))]) (pc := 88) 3 rfl (daX10_marksFitting_0 44 rfl) (Nat.le_of_ble_eq_true rfl) rfl ?_
        refine GM_goto (pc := 91) 32 (daX10_marksFitting_0 45 rfl) rfl ?_
        refine GM_pick [1, 2, 3, 0] rfl ?_
        cases h
        rw [Nat.zero_add, Nat.zero_add]
        exact hK
set_option maxRecDepth 20000 in
theorem gX10_marksFitting_0 (l : Launch) {F : FI} {v0 v1 v2 v3 v4 : Int} {μ : Mm} {t : (Int × Mm)} {c0 n0 k n : Nat} (h : fX10_marksFitting v0 v1 v2 v3 v4 μ = some (t, c0, n0)) (hK : F.1 = [(0, t.1)] ∧ F.2.1 = t.2) : GM l mX10_marksFitting F (c0 + k) (n0 + n) 0 [(0, (3, v0)), (1, (0, v1)), (2, (0, v2)), (3, (0, v3)), (4, (3, v4))] [] μ := by
  unfold fX10_marksFitting at h
  refine GM_aload_n (pc := 0) 0 rfl (daX10_marksFitting_0 0 rfl) rfl ?_
  refine GM_iload_n (pc := 1) 1 rfl (daX10_marksFitting_0 1 rfl) rfl ?_
  obtain ⟨hc19, h⟩ := chk_inv h
  obtain ⟨⟨⟨r20, μ20⟩, c20, n20⟩, hf20, h⟩ := Option.bind_eq_some_iff.mp h
  dsimp only at h
  obtain ⟨c21, n21, hp, e1, e2⟩ := pay_inv h
  subst e1 e2
  replace h := hp
  clear hp
  rw [Nat.add_assoc, Nat.add_assoc]
  refine GM_callV (pc := 2) [(0, v1)] (tX10_sceneAt l hf20) cwX10_sceneAt 10 (Nat.le_of_ble_eq_true rfl) rfl kv_X10_sceneAt ke_X10_sceneAt km_X10_220 hc19 ⟨Nat.le_of_ble_eq_true rfl, Nat.le_of_ble_eq_true rfl⟩ (Nat.le_of_ble_eq_true rfl) (Nat.le_of_ble_eq_true rfl) (daX10_marksFitting_0 2 rfl) ?_
  refine GM_astore (L' := [(5, (3, r20)), (0, (3, v0)), (1, (0, v1)), (2, (0, v2)), (3, (0, v3)), (4, (3, v4))]) (pc := 5) (daX10_marksFitting_0 3 rfl) (Nat.le_of_ble_eq_true rfl) rfl ?_
  refine GM_aload (pc := 7) 0 rfl (daX10_marksFitting_0 4 rfl) ?_
  refine GM_ifnull (pc := 9) 22 (daX10_marksFitting_0 5 rfl) rfl (fun c22 => ?_) (fun c22 => ?_)
  · skip
    rw [if_pos c22] at h
    refine GM_iconst (pc := 22) 0 (daX10_marksFitting_0 12 rfl) rfl (R32_b rfl) ?_
    cases h
    exact GM_zret (pc := 23) (daX10_marksFitting_0 13 rfl) rfl (Or.inl rfl) hK
  · skip
    rw [if_neg c22] at h
    refine GM_aload_n (pc := 12) 1 rfl (daX10_marksFitting_0 6 rfl) rfl ?_
    refine GM_iload_n (pc := 13) 2 rfl (daX10_marksFitting_0 7 rfl) rfl ?_
    refine GM_iload_n (pc := 14) 3 rfl (daX10_marksFitting_0 8 rfl) rfl ?_
    refine GM_iload_n (pc := 15) 4 rfl (daX10_marksFitting_0 9 rfl) rfl ?_
    obtain ⟨⟨r23, μ23⟩, hf23, h⟩ := Option.bind_eq_some_iff.mp h
    dsimp only at h
    refine GM_callV0 (pc := 16) [(0, v1), (0, v2), (0, v3)] (tX10_takesUp l hf23) cwX10_takesUp 10 (Nat.le_of_ble_eq_true rfl) rfl kv_X10_takesUp ke_X10_takesUp km_X10_298 hc19 ⟨Nat.le_of_ble_eq_true rfl, Nat.le_of_ble_eq_true rfl⟩ (Nat.le_of_ble_eq_true rfl) (Nat.le_of_ble_eq_true rfl) (daX10_marksFitting_0 10 rfl) ?_
    refine GM_if_ne (pc := 19) 24 (daX10_marksFitting_0 11 rfl) rfl (fun c24 => ?_) (fun c24 => ?_)
    · skip
      rw [if_neg c24] at h
      refine GM_aload (pc := 24) 5 rfl (daX10_marksFitting_0 14 rfl) ?_
      obtain ⟨μ25, hf25, h⟩ := Option.bind_eq_some_iff.mp h
      refine GM_callS0 (pc := 26) [(3, v4)] (tX10_wipe l hf25) cwX10_wipe ks_X10_wipe km_X10_323 ⟨Nat.le_of_ble_eq_true rfl, Nat.le_of_ble_eq_true rfl⟩ (Nat.le_of_ble_eq_true rfl) (Nat.le_of_ble_eq_true rfl) (daX10_marksFitting_0 15 rfl) ?_
      refine GM_iconst (pc := 29) 0 (daX10_marksFitting_0 16 rfl) rfl (R32_b rfl) ?_
      refine GM_istore (L' := [(6, (0, 0)), (5, (3, r20)), (0, (3, v0)), (1, (0, v1)), (2, (0, v2)), (3, (0, v3)), (4, (3, v4))]) (pc := 30) (daX10_marksFitting_0 17 rfl) (Nat.le_of_ble_eq_true rfl) rfl ?_
      refine GM_pick [2, 6, 1, 0] rfl ?_
      obtain ⟨x26, hqx26, h⟩ := Option.bind_eq_some_iff.mp h
      obtain ⟨x26, ccx26, nnx26⟩ := x26
      dsimp only at h
      obtain ⟨c28, n28, hp, e1, e2⟩ := pay_inv h
      subst e1 e2
      replace h := hp
      clear hp
      rw [Nat.add_assoc, Nat.add_assoc]
      refine lopA_ind (fun k n => zX10_marksFitting_32 l F v0 v4 r20 k n) (qX10_marksFitting_32 l F v0 v4 r20) FU _ x26 _ _ hqx26 _ _ ?_
      obtain ⟨μ_27, hqq⟩ : ∃ z, z = x26 := ⟨x26, rfl⟩
      subst hqq
      show GM l mX10_marksFitting F (c28 + k) (n28 + n) 94 [] [] μ_27
      refine GM_iconst (pc := 94) 1 (daX10_marksFitting_0 46 rfl) rfl (R32_b rfl) ?_
      cases h
      exact GM_zret (pc := 95) (daX10_marksFitting_0 47 rfl) rfl (Or.inr rfl) hK
    · skip
      rw [if_pos c24] at h
      refine GM_iconst (pc := 22) 0 (daX10_marksFitting_0 12 rfl) rfl (R32_b rfl) ?_
      cases h
      exact GM_zret (pc := 23) (daX10_marksFitting_0 13 rfl) rfl (Or.inl rfl) hK
theorem tX10_marksFitting (l : Launch) {v0 v1 v2 v3 v4 : Int} {μ : Mm} {t : (Int × Mm)} {c0 n0 : Nat} (h : fX10_marksFitting v0 v1 v2 v3 v4 μ = some (t, c0, n0)) : Ct l yX10_marksFitting mX10_marksFitting [(3, v0), (0, v1), (0, v2), (0, v3), (3, v4)] μ ([(0, t.1)], t.2, c0, n0) :=
  Ct_of (by decide +kernel) rfl rfl (Nat.le_of_ble_eq_true rfl) (fun _ _ _ => trivial) (gX10_marksFitting_0 (k := 0) (n := 0) l h ⟨rfl, rfl⟩)
def mX10_tellMarked : MI := (RX10, cX10_tellMarked, 4, (some .int), "tellMarked", 0, 0, fun _ _ _ => True)
theorem cwX10_tellMarked : CWd yX10_tellMarked mX10_tellMarked 2 := ⟨ki_X10, kk_X10_tellMarked, ⟨by decide, by decide⟩, rfl⟩
def dtX10_tellMarked_0 : List (Nat × Instr × Nat) := [(0, .iconst 0, 1), (1, .istore_n 2, 1), (2, .iconst 0, 1), (3, .istore_n 3, 1), (4, .iload_n 3, 1), (5, .aload_n 0, 1), (6, .arraylength, 1), (7, .if_icmp .ge 25, 3), (10, .aload_n 0, 1), (11, .iload_n 3, 1), (12, .baload, 1), (13, .ifCond .eq 13, 3), (16, .iload_n 2, 1), (17, .iload_n 1, 1), (18, .if_icmp .ne 5, 3), (21, .iload_n 3, 1), (22, .ireturn, 1), (23, .iinc 2 1, 3), (26, .iinc 3 1, 3), (29, .goto (-25), 3), (32, .iload_n 1, 1), (33, .iconst (-1), 1), (34, .if_icmp .ne 7, 3), (37, .iload_n 2, 1), (38, .goto 4, 3), (41, .iconst (-1), 1), (42, .ireturn, 1)]
theorem ddX10_tellMarked_0 : (dtX10_tellMarked_0.all fun e => decide (decode mX10_tellMarked.2.1 e.1 = .ok (e.2.1, e.2.2))) = true := by decide +kernel
theorem daX10_tellMarked_0 (j : Nat) {pc n : Nat} {i : Instr} (h : dtX10_tellMarked_0[j]? = some (pc, i, n)) : decode mX10_tellMarked.2.1 pc = .ok (i, n) := dec_of (c := mX10_tellMarked.2.1) ddX10_tellMarked_0 h
def zX10_tellMarked_4 (l : Launch) (F : FI) (v0 v1 : Int) (μ : Mm) (k n : Nat) : (Int × Int) ⊕ (Int ⊕ Int) → Prop
  | .inl (v2, v3) => GM l mX10_tellMarked F k n 4 [(0, (3, v0)), (1, (0, v1)), (2, (0, v2)), (3, (0, v3))] [] μ
  | .inr (.inl v2) => GM l mX10_tellMarked F k n 32 [(1, (0, v1)), (2, (0, v2))] [] μ
  | .inr (.inr v3) => GM l mX10_tellMarked F k n 21 [(3, (0, v3))] [] μ
def sX10_tellMarked_4 (v0 v1 : Int) (μ : Mm) : (Int × Int) → Option ((Int × Int) ⊕ (Int ⊕ Int)) := fun (v2, v3) =>
  chk (KD v0 = 14 ∧ 0 ≤ LN v0 ∧ LN v0 < 2147483648) (
  if LN v0 ≤ v3 then
    some (.inr (.inl v2))
  else
    chk (0 ≤ v3 ∧ v3 < LN v0) (
    if μ v0 v3 = 0 then
      some (.inl (v2, w32 (v3 + 1)))
    else
      if v2 = v1 then
        some (.inr (.inr v3))
      else
        some (.inl (w32 (v2 + 1), w32 (v3 + 1)))))
def fX10_tellMarked (v0 v1 : Int) (μ : Mm) : Option Int :=
  (lop (sX10_tellMarked_4 v0 v1 μ) FU (0, 0)).bind fun x6 =>
    match x6 with
    | (.inl v2_7) =>
        if v1 = (-1) then
          some v2_7
        else
          some (-1)
    | (.inr v3_8) =>
        some v3_8
set_option maxRecDepth 20000 in
theorem qX10_tellMarked_4 (l : Launch) (F : FI) (v0 v1 : Int) (μ : Mm) (k n : Nat) : ∀ (q : (Int × Int)) (t : ((Int × Int) ⊕ (Int ⊕ Int))), sX10_tellMarked_4 v0 v1 μ q = some t → zX10_tellMarked_4 l F v0 v1 μ k n t → zX10_tellMarked_4 l F v0 v1 μ k n (.inl q) := by
  intro q t h hK
  obtain ⟨v2, v3⟩ := q
  unfold sX10_tellMarked_4 at h
  try dsimp only at h
  show GM l mX10_tellMarked F k n 4 [(0, (3, v0)), (1, (0, v1)), (2, (0, v2)), (3, (0, v3))] [] μ
  refine GM_iload_n (pc := 4) 3 rfl (daX10_tellMarked_0 4 rfl) rfl ?_
  refine GM_aload_n (pc := 5) 0 rfl (daX10_tellMarked_0 5 rfl) rfl ?_
  obtain ⟨hc1, h⟩ := chk_inv h
  refine GM_zlen (pc := 6) (daX10_tellMarked_0 6 rfl) hc1.1 hc1.2.1 hc1.2.2 ?_
  refine GM_icmp_ge (pc := 7) 32 (daX10_tellMarked_0 7 rfl) rfl (fun c2 => ?_) (fun c2 => ?_)
  · skip
    rw [if_pos c2] at h
    refine GM_pick [1, 2] rfl ?_
    cases h
    exact hK
  · skip
    rw [if_neg c2] at h
    refine GM_aload_n (pc := 10) 0 rfl (daX10_tellMarked_0 8 rfl) rfl ?_
    refine GM_iload_n (pc := 11) 3 rfl (daX10_tellMarked_0 9 rfl) rfl ?_
    obtain ⟨hc3, h⟩ := chk_inv h
    refine GM_zald (pc := 12) (daX10_tellMarked_0 10 rfl) hc1.1 hc3.1 hc3.2 ?_
    refine GM_if_eq (pc := 13) 26 (daX10_tellMarked_0 11 rfl) rfl (fun c4 => ?_) (fun c4 => ?_)
    · skip
      rw [if_pos c4] at h
      refine GM_iinc (L' := [(3, (0, w32 (v3 + 1))), (0, (3, v0)), (1, (0, v1)), (2, (0, v2))]) (pc := 26) 3 rfl (daX10_tellMarked_0 18 rfl) (Nat.le_of_ble_eq_true rfl) rfl ?_
      refine GM_goto (pc := 29) 4 (daX10_tellMarked_0 19 rfl) rfl ?_
      refine GM_pick [1, 2, 3, 0] rfl ?_
      cases h
      exact hK
    · skip
      rw [if_neg c4] at h
      refine GM_iload_n (pc := 16) 2 rfl (daX10_tellMarked_0 12 rfl) rfl ?_
      refine GM_iload_n (pc := 17) 1 rfl (daX10_tellMarked_0 13 rfl) rfl ?_
      refine GM_icmp_ne (pc := 18) 23 (daX10_tellMarked_0 14 rfl) rfl (fun c5 => ?_) (fun c5 => ?_)
      · skip
        rw [if_neg c5] at h
        refine GM_iinc (L' := [(2, (0, w32 (v2 + 1))), (0, (3, v0)), (1, (0, v1)), (3, (0, v3))]) (pc := 23) 2 rfl (daX10_tellMarked_0 17 rfl) (Nat.le_of_ble_eq_true rfl) rfl ?_
        refine GM_iinc (L' := [(3, (0, w32 (v3 + 1))), (2, (0, w32 (v2 + 1))), (0, (3, v0)), (1, (0, v1))]) (pc := 26) 3 rfl (daX10_tellMarked_0 18 rfl) (Nat.le_of_ble_eq_true rfl) rfl ?_
        refine GM_goto (pc := 29) 4 (daX10_tellMarked_0 19 rfl) rfl ?_
        refine GM_pick [2, 3, 1, 0] rfl ?_
        cases h
        exact hK
      · skip
        rw [if_pos c5] at h
        refine GM_pick [3] rfl ?_
        cases h
        exact hK
set_option maxRecDepth 20000 in
theorem gX10_tellMarked_0 (l : Launch) {F : FI} {v0 v1 : Int} {μ : Mm} {t : Int} (h : fX10_tellMarked v0 v1 μ = some t) (hK : F.1 = [(0, t)] ∧ F.2.1 = μ) : GM l mX10_tellMarked F 0 0 0 [(0, (3, v0)), (1, (0, v1))] [] μ := by
  unfold fX10_tellMarked at h
  refine GM_iconst (pc := 0) 0 (daX10_tellMarked_0 0 rfl) rfl (R32_b rfl) ?_
  refine GM_istore_n (L' := [(2, (0, 0)), (0, (3, v0)), (1, (0, v1))]) (pc := 1) (daX10_tellMarked_0 1 rfl) rfl (Nat.le_of_ble_eq_true rfl) rfl ?_
  refine GM_iconst (pc := 2) 0 (daX10_tellMarked_0 2 rfl) rfl (R32_b rfl) ?_
  refine GM_istore_n (L' := [(3, (0, 0)), (2, (0, 0)), (0, (3, v0)), (1, (0, v1))]) (pc := 3) (daX10_tellMarked_0 3 rfl) rfl (Nat.le_of_ble_eq_true rfl) rfl ?_
  refine GM_pick [2, 3, 1, 0] rfl ?_
  obtain ⟨x6, hqx6, h⟩ := Option.bind_eq_some_iff.mp h
  refine lop_ind (zX10_tellMarked_4 l F v0 v1 μ 0 0) (qX10_tellMarked_4 l F v0 v1 μ 0 0) FU _ x6 hqx6 ?_
  rcases x6 with v2_7 | v3_8
  · dsimp only at h
    show GM l mX10_tellMarked F 0 0 32 [(1, (0, v1)), (2, (0, v2_7))] [] μ
    refine GM_iload_n (pc := 32) 0 rfl (daX10_tellMarked_0 20 rfl) rfl ?_
    refine GM_iconst (pc := 33) (-1) (daX10_tellMarked_0 21 rfl) rfl (R32_b rfl) ?_
    refine GM_icmp_ne (pc := 34) 41 (daX10_tellMarked_0 22 rfl) rfl (fun c9 => ?_) (fun c9 => ?_)
    · skip
      rw [if_neg c9] at h
      refine GM_iconst (pc := 41) (-1) (daX10_tellMarked_0 25 rfl) rfl (R32_b rfl) ?_
      cases h
      exact GM_iret (pc := 42) (daX10_tellMarked_0 26 rfl) rfl hK
    · skip
      rw [if_pos c9] at h
      refine GM_iload_n (pc := 37) 1 rfl (daX10_tellMarked_0 23 rfl) rfl ?_
      refine GM_goto (pc := 38) 42 (daX10_tellMarked_0 24 rfl) rfl ?_
      cases h
      exact GM_iret (pc := 42) (daX10_tellMarked_0 26 rfl) rfl hK
  · dsimp only at h
    show GM l mX10_tellMarked F 0 0 21 [(3, (0, v3_8))] [] μ
    refine GM_iload_n (pc := 21) 0 rfl (daX10_tellMarked_0 15 rfl) rfl ?_
    cases h
    exact GM_iret (pc := 22) (daX10_tellMarked_0 16 rfl) rfl hK
theorem tX10_tellMarked (l : Launch) {v0 v1 : Int} {μ : Mm} {t : Int} (h : fX10_tellMarked v0 v1 μ = some t) : Ct l yX10_tellMarked mX10_tellMarked [(3, v0), (0, v1)] μ ([(0, t)], μ, 0, 0) :=
  Ct_of (by decide +kernel) rfl rfl (Nat.le_of_ble_eq_true rfl) (fun _ _ _ => trivial) (gX10_tellMarked_0 l h ⟨rfl, rfl⟩)
