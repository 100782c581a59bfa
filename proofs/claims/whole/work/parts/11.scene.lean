def mX4_init : MI := (RX4, cX4_init, 3, none, "<init>", 2, 36, fun _ _ _ => True)
theorem cwX4_init : CWd yX4_init mX4_init 2 := ⟨ki_X4, kk_X4_init, ⟨by decide, by decide⟩, rfl⟩
def dtX4_init_0 : List (Nat × Instr × Nat) := [(0, .aload_n 0, 1), (1, .invokespecial 3, 3), (4, .aload_n 0, 1), (5, .iconst 3, 1), (6, .newarray .int, 2), (8, .putfield 9, 3), (11, .aload_n 0, 1), (12, .new 15, 3), (15, .dup, 1), (16, .invokespecial 17, 3), (19, .putfield 18, 3), (22, .aload_n 0, 1), (23, .sipush 144, 3), (26, .anewarray 15, 3), (29, .putfield 22, 3), (32, .aload_n 0, 1), (33, .sipush 432, 3), (36, .newarray .long, 2), (38, .putfield 26, 3), (41, .aload_n 0, 1), (42, .bipush 12, 2), (44, .newarray .long, 2), (46, .putfield 30, 3), (49, .aload_n 0, 1), (50, .iconst (-1), 1), (51, .putfield 33, 3), (54, .aload_n 0, 1), (55, .aload_n 1, 1), (56, .putfield 37, 3), (59, .aload_n 0, 1), (60, .aload_n 2, 1), (61, .putfield 41, 3), (64, .return_, 1)]
theorem ddX4_init_0 : (dtX4_init_0.all fun e => decide (decode mX4_init.2.1 e.1 = .ok (e.2.1, e.2.2))) = true := by decide +kernel
theorem daX4_init_0 (j : Nat) {pc n : Nat} {i : Instr} (h : dtX4_init_0[j]? = some (pc, i, n)) : decode mX4_init.2.1 pc = .ok (i, n) := dec_of (c := mX4_init.2.1) ddX4_init_0 h
def fX4_init (v0 v1 v2 : Int) (μ : Mm) : Option (Mm × Nat × Nat) :=
  chk (v0 ≠ 0) (
  chk (KD (v0 + 1) = 12 ∧ LN (v0 + 1) = 3 ∧ μ 0 (v0 + 1) = 0) (
  pay 1 3 (
  lm (mnw μ (v0 + 1)) fun μ4 =>
  chk (KD v0 = 4) (
  lm (mst μ4 v0 2 (v0 + 1)) fun μ6 =>
  chk (KD (v0 + 10) = 7 ∧ μ6 0 (v0 + 10) = 0) (
  pay 1 10 (
  lm (mnw μ6 (v0 + 10)) fun μ9 =>
  chk (v0 + 10 ≠ 0) (
  (fX7_init (v0 + 10) μ9).bind fun (μ11, c11, n11) =>
  pay c11 n11 (
  lm (mst μ11 v0 4 (v0 + 10)) fun μ13 =>
  chk (KD (v0 + 2) = 18 ∧ LN (v0 + 2) = 144 ∧ μ13 0 (v0 + 2) = 0) (
  pay 1 144 (
  lm (mnw μ13 (v0 + 2)) fun μ16 =>
  lm (mst μ16 v0 5 (v0 + 2)) fun μ17 =>
  chk (KD (v0 + 3) = 13 ∧ LN (v0 + 3) = 432 ∧ μ17 0 (v0 + 3) = 0) (
  pay 1 432 (
  lm (mnw μ17 (v0 + 3)) fun μ20 =>
  lm (mst μ20 v0 6 (v0 + 3)) fun μ21 =>
  chk (KD (v0 + 4) = 13 ∧ LN (v0 + 4) = 12 ∧ μ21 0 (v0 + 4) = 0) (
  pay 1 12 (
  lm (mnw μ21 (v0 + 4)) fun μ24 =>
  lm (mst μ24 v0 7 (v0 + 4)) fun μ25 =>
  lm (mst μ25 v0 9 (-1)) fun μ26 =>
  lm (mst μ26 v0 0 v1) fun μ27 =>
  lm (mst μ27 v0 3 v2) fun μ28 =>
  some (μ28, 0, 0)))))))))))))))
set_option maxRecDepth 20000 in
theorem gX4_init_0 (l : Launch) {F : FI} {v0 v1 v2 : Int} {μ : Mm} {t : Mm} {c0 n0 k n : Nat} (h : fX4_init v0 v1 v2 μ = some (t, c0, n0)) (hK : F.1 = [] ∧ F.2.1 = t) : GM l mX4_init F (c0 + k) (n0 + n) 0 [(0, (3, v0)), (1, (3, v1)), (2, (3, v2))] [] μ := by
  unfold fX4_init at h
  refine GM_aload_n (pc := 0) 0 rfl (daX4_init_0 0 rfl) rfl ?_
  obtain ⟨hc1, h⟩ := chk_inv h
  refine GM_objInit (pc := 1) km_X4_3 kv__java_lang_Object__init____V_ kk_obj (daX4_init_0 1 rfl) hc1 ⟨Nat.le_of_ble_eq_true rfl, Nat.le_of_ble_eq_true rfl⟩ ?_
  refine GM_aload_n (pc := 4) 0 rfl (daX4_init_0 2 rfl) rfl ?_
  refine GM_iconst (pc := 5) 3 (daX4_init_0 3 rfl) rfl (R32_b rfl) ?_
  obtain ⟨hc2, h⟩ := chk_inv h
  obtain ⟨c3, n3, hp, e1, e2⟩ := pay_inv h
  subst e1 e2
  replace h := hp
  clear hp
  rw [Nat.add_assoc, Nat.add_assoc]
  obtain ⟨μ4, hμ4, h⟩ := lm_inv h
  refine GM_newi (pc := 6) (N := 3) (v0 + 1) (daX4_init_0 4 rfl) hc2.1 hc2.2.1 (Nat.le_of_ble_eq_true rfl) hc2.2.2 ?_
  refine GM_mem hμ4 ?_
  obtain ⟨hc5, h⟩ := chk_inv h
  obtain ⟨μ6, hμ6, h⟩ := lm_inv h
  refine GM_putF (pc := 8) 4 2 3 kf_X4_9 (Nat.le_of_ble_eq_true rfl) (Nat.le_of_ble_eq_true rfl) rfl rfl rfl rfl (daX4_init_0 5 rfl) hc5 (fun q => absurd q (by decide)) ?_
  refine GM_mem hμ6 ?_
  refine GM_aload_n (pc := 11) 0 rfl (daX4_init_0 6 rfl) rfl ?_
  obtain ⟨hc7, h⟩ := chk_inv h
  obtain ⟨c8, n8, hp, e1, e2⟩ := pay_inv h
  subst e1 e2
  replace h := hp
  clear hp
  rw [Nat.add_assoc, Nat.add_assoc]
  obtain ⟨μ9, hμ9, h⟩ := lm_inv h
  refine GM_new (pc := 12) 7 (v0 + 10) (by decide) kc_X4_15 (daX4_init_0 7 rfl) hc7.1 hc7.2 ?_
  refine GM_mem hμ9 ?_
  refine GM_dup (pc := 15) (daX4_init_0 8 rfl) (Nat.ne_of_beq_eq_false rfl) ?_
  obtain ⟨hc10, h⟩ := chk_inv h
  obtain ⟨⟨μ11, c11, n11⟩, hf11, h⟩ := Option.bind_eq_some_iff.mp h
  dsimp only at h
  obtain ⟨c12, n12, hp, e1, e2⟩ := pay_inv h
  subst e1 e2
  replace h := hp
  clear hp
  rw [Nat.add_assoc, Nat.add_assoc]
  refine GM_callIN (pc := 16) [] (tX7_init l hf11) cwX7_init "HillSketch" rfl rfl kv_X7_init (by decide) hc10 ⟨Nat.le_of_ble_eq_true rfl, Nat.le_of_ble_eq_true rfl⟩ (Nat.le_of_ble_eq_true rfl) (Nat.le_of_ble_eq_true rfl) (daX4_init_0 9 rfl) ?_
  obtain ⟨μ13, hμ13, h⟩ := lm_inv h
  refine GM_putF (pc := 19) 4 4 3 kf_X4_18 (Nat.le_of_ble_eq_true rfl) (Nat.le_of_ble_eq_true rfl) rfl rfl rfl rfl (daX4_init_0 10 rfl) hc5 (fun q => absurd q (by decide)) ?_
  refine GM_mem hμ13 ?_
  refine GM_aload_n (pc := 22) 0 rfl (daX4_init_0 11 rfl) rfl ?_
  refine GM_sipush (pc := 23) 144 (daX4_init_0 12 rfl) rfl (R32_b rfl) ?_
  obtain ⟨hc14, h⟩ := chk_inv h
  obtain ⟨c15, n15, hp, e1, e2⟩ := pay_inv h
  subst e1 e2
  replace h := hp
  clear hp
  rw [Nat.add_assoc, Nat.add_assoc]
  obtain ⟨μ16, hμ16, h⟩ := lm_inv h
  refine GM_newr (pc := 26) (N := 144) 18 7 (v0 + 2) (by decide) (by decide) (fun _ => rfl) (by decide) kc_X4_15 (daX4_init_0 13 rfl) hc14.1 hc14.2.1 (Nat.le_of_ble_eq_true rfl) hc14.2.2 ?_
  refine GM_mem hμ16 ?_
  obtain ⟨μ17, hμ17, h⟩ := lm_inv h
  refine GM_putF (pc := 29) 4 5 3 kf_X4_22 (Nat.le_of_ble_eq_true rfl) (Nat.le_of_ble_eq_true rfl) rfl rfl rfl rfl (daX4_init_0 14 rfl) hc5 (fun q => absurd q (by decide)) ?_
  refine GM_mem hμ17 ?_
  refine GM_aload_n (pc := 32) 0 rfl (daX4_init_0 15 rfl) rfl ?_
  refine GM_sipush (pc := 33) 432 (daX4_init_0 16 rfl) rfl (R32_b rfl) ?_
  obtain ⟨hc18, h⟩ := chk_inv h
  obtain ⟨c19, n19, hp, e1, e2⟩ := pay_inv h
  subst e1 e2
  replace h := hp
  clear hp
  rw [Nat.add_assoc, Nat.add_assoc]
  obtain ⟨μ20, hμ20, h⟩ := lm_inv h
  refine GM_newl (pc := 36) (N := 432) (v0 + 3) (daX4_init_0 17 rfl) hc18.1 hc18.2.1 (Nat.le_of_ble_eq_true rfl) hc18.2.2 ?_
  refine GM_mem hμ20 ?_
  obtain ⟨μ21, hμ21, h⟩ := lm_inv h
  refine GM_putF (pc := 38) 4 6 3 kf_X4_26 (Nat.le_of_ble_eq_true rfl) (Nat.le_of_ble_eq_true rfl) rfl rfl rfl rfl (daX4_init_0 18 rfl) hc5 (fun q => absurd q (by decide)) ?_
  refine GM_mem hμ21 ?_
  refine GM_aload_n (pc := 41) 0 rfl (daX4_init_0 19 rfl) rfl ?_
  refine GM_bipush (pc := 42) 12 (daX4_init_0 20 rfl) rfl (R32_b rfl) ?_
  obtain ⟨hc22, h⟩ := chk_inv h
  obtain ⟨c23, n23, hp, e1, e2⟩ := pay_inv h
  subst e1 e2
  replace h := hp
  clear hp
  rw [Nat.add_assoc, Nat.add_assoc]
  obtain ⟨μ24, hμ24, h⟩ := lm_inv h
  refine GM_newl (pc := 44) (N := 12) (v0 + 4) (daX4_init_0 21 rfl) hc22.1 hc22.2.1 (Nat.le_of_ble_eq_true rfl) hc22.2.2 ?_
  refine GM_mem hμ24 ?_
  obtain ⟨μ25, hμ25, h⟩ := lm_inv h
  refine GM_putF (pc := 46) 4 7 3 kf_X4_30 (Nat.le_of_ble_eq_true rfl) (Nat.le_of_ble_eq_true rfl) rfl rfl rfl rfl (daX4_init_0 22 rfl) hc5 (fun q => absurd q (by decide)) ?_
  refine GM_mem hμ25 ?_
  refine GM_aload_n (pc := 49) 0 rfl (daX4_init_0 23 rfl) rfl ?_
  refine GM_iconst (pc := 50) (-1) (daX4_init_0 24 rfl) rfl (R32_b rfl) ?_
  obtain ⟨μ26, hμ26, h⟩ := lm_inv h
  refine GM_putf (pc := 51) 4 9 0 kf_X4_33 (Nat.le_of_ble_eq_true rfl) (Nat.le_of_ble_eq_true rfl) rfl rfl (daX4_init_0 25 rfl) hc5 (fun q => absurd q (by decide)) ?_
  refine GM_mem hμ26 ?_
  refine GM_aload_n (pc := 54) 0 rfl (daX4_init_0 26 rfl) rfl ?_
  refine GM_aload_n (pc := 55) 1 rfl (daX4_init_0 27 rfl) rfl ?_
  obtain ⟨μ27, hμ27, h⟩ := lm_inv h
  refine GM_putF (pc := 56) 4 0 3 kf_X4_37 (Nat.le_of_ble_eq_true rfl) (Nat.le_of_ble_eq_true rfl) rfl rfl rfl rfl (daX4_init_0 28 rfl) hc5 (fun q => absurd q (by decide)) ?_
  refine GM_mem hμ27 ?_
  refine GM_aload_n (pc := 59) 0 rfl (daX4_init_0 29 rfl) rfl ?_
  refine GM_aload_n (pc := 60) 2 rfl (daX4_init_0 30 rfl) rfl ?_
  obtain ⟨μ28, hμ28, h⟩ := lm_inv h
  refine GM_putF (pc := 61) 4 3 3 kf_X4_41 (Nat.le_of_ble_eq_true rfl) (Nat.le_of_ble_eq_true rfl) rfl rfl rfl rfl (daX4_init_0 31 rfl) hc5 (fun q => absurd q (by decide)) ?_
  refine GM_mem hμ28 ?_
  cases h
  exact GM_vret (pc := 64) (daX4_init_0 32 rfl) rfl hK
theorem tX4_init (l : Launch) {v0 v1 v2 : Int} {μ : Mm} {t : Mm} {c0 n0 : Nat} (h : fX4_init v0 v1 v2 μ = some (t, c0, n0)) : Ct l yX4_init mX4_init [(3, v0), (3, v1), (3, v2)] μ ([], t, c0, n0) :=
  Ct_of (by decide +kernel) rfl rfl (Nat.le_of_ble_eq_true rfl) (fun _ _ _ => trivial) (gX4_init_0 (k := 0) (n := 0) l h ⟨rfl, rfl⟩)
def mX4_lineOf : MI := (RX4, cX4_lineOf, 3, (some (.object "HillSketch$Skyline")), "lineOf", 3, 77, fun _ _ _ => True)
theorem cwX4_lineOf : CWd yX4_lineOf mX4_lineOf 1 := ⟨ki_X4, kk_X4_lineOf, ⟨by decide, by decide⟩, rfl⟩
def dtX4_lineOf_0 : List (Nat × Instr × Nat) := [(0, .iload_n 1, 1), (1, .ifCond .lt 10, 3), (4, .iload_n 1, 1), (5, .sipush 144, 3), (8, .if_icmp .lt 8, 3), (11, .aload_n 0, 1), (12, .getfield 18, 3), (15, .areturn, 1), (16, .aload_n 0, 1), (17, .getfield 22, 3), (20, .iload_n 1, 1), (21, .aaload, 1), (22, .ifnonnull 16, 3), (25, .aload_n 0, 1), (26, .getfield 22, 3), (29, .iload_n 1, 1), (30, .new 15, 3), (33, .dup, 1), (34, .invokespecial 17, 3), (37, .aastore, 1), (38, .aload_n 0, 1), (39, .getfield 22, 3), (42, .iload_n 1, 1), (43, .aaload, 1), (44, .astore_n 2, 1), (45, .aload_n 2, 1), (46, .getfield 45, 3), (49, .aload_n 0, 1), (50, .getfield 48, 3), (53, .if_icmp .eq 35, 3), (56, .aload_n 0, 1), (57, .getfield 41, 3), (60, .aload_n 0, 1), (61, .getfield 37, 3), (64, .iload_n 1, 1), (65, .invokevirtual 49, 3), (68, .aload_n 0, 1), (69, .getfield 41, 3), (72, .aload_n 0, 1), (73, .getfield 37, 3), (76, .aload_n 2, 1), (77, .invokevirtual 55, 3), (80, .aload_n 2, 1), (81, .aload_n 0, 1), (82, .getfield 48, 3), (85, .putfield 45, 3), (88, .aload_n 2, 1), (89, .areturn, 1)]
theorem ddX4_lineOf_0 : (dtX4_lineOf_0.all fun e => decide (decode mX4_lineOf.2.1 e.1 = .ok (e.2.1, e.2.2))) = true := by decide +kernel
theorem daX4_lineOf_0 (j : Nat) {pc n : Nat} {i : Instr} (h : dtX4_lineOf_0[j]? = some (pc, i, n)) : decode mX4_lineOf.2.1 pc = .ok (i, n) := dec_of (c := mX4_lineOf.2.1) ddX4_lineOf_0 h
def jX4_lineOf_38 (v0 v1 : Int) (μ : Mm) : Option ((Int × Mm) × Nat × Nat) :=
  chk (KD v0 = 4) (
  chk (KD (μ v0 5) = 18 ∧ 0 ≤ v1 ∧ v1 < LN (μ v0 5)) (
  chk (KD (μ (μ v0 5) v1) = 7) (
  if μ (μ (μ v0 5) v1) 0 = μ v0 1 then
    some ((μ (μ v0 5) v1, μ), 0, 0)
  else
    chk (KD (μ v0 3) = 5) (
    (fX5_aim (μ v0 3) (μ v0 0) v1 μ).bind fun μ6 =>
    chk (KD (μ6 v0 3) = 5) (
    (fX5_look (μ6 v0 3) (μ6 v0 0) (μ (μ v0 5) v1) μ6).bind fun μ8 =>
    lm (mst μ8 (μ (μ v0 5) v1) 0 (μ8 v0 1)) fun μ9 =>
    some ((μ (μ v0 5) v1, μ9), 0, 0))))))
def fX4_lineOf (v0 v1 : Int) (μ : Mm) : Option ((Int × Mm) × Nat × Nat) :=
  if v1 < 0 then
    chk (KD v0 = 4) (
    some ((μ v0 4, μ), 0, 0))
  else
    if v1 < 144 then
      chk (KD v0 = 4) (
      chk (KD (μ v0 5) = 18 ∧ 0 ≤ v1 ∧ v1 < LN (μ v0 5)) (
      if μ (μ v0 5) v1 = 0 then
        chk (KD (v0 + 100 + 10 * v1) = 7 ∧ μ 0 (v0 + 100 + 10 * v1) = 0) (
        pay 1 10 (
        lm (mnw μ (v0 + 100 + 10 * v1)) fun μ18 =>
        chk (v0 + 100 + 10 * v1 ≠ 0) (
        (fX7_init (v0 + 100 + 10 * v1) μ18).bind fun (μ20, c20, n20) =>
        pay c20 n20 (
        lm (mst μ20 (μ v0 5) v1 (v0 + 100 + 10 * v1)) fun μ22 =>
        jX4_lineOf_38 v0 v1 μ22))))
      else
        jX4_lineOf_38 v0 v1 μ))
    else
      chk (KD v0 = 4) (
      some ((μ v0 4, μ), 0, 0))
set_option maxRecDepth 20000 in
theorem gX4_lineOf_38 (l : Launch) {F : FI} {v0 v1 : Int} {μ : Mm} {t : (Int × Mm)} {c0 n0 k n : Nat} (h : jX4_lineOf_38 v0 v1 μ = some (t, c0, n0)) (hK : F.1 = [(3, t.1)] ∧ F.2.1 = t.2) : GM l mX4_lineOf F (c0 + k) (n0 + n) 38 [(0, (3, v0)), (1, (0, v1))] [] μ := by
  unfold jX4_lineOf_38 at h
  refine GM_aload_n (pc := 38) 0 rfl (daX4_lineOf_0 20 rfl) rfl ?_
  obtain ⟨hc1, h⟩ := chk_inv h
  refine GM_getf (pc := 39) 4 5 3 5 kf_X4_22 (Nat.le_of_ble_eq_true rfl) (Nat.le_of_ble_eq_true rfl) rfl (daX4_lineOf_0 21 rfl) hc1 rfl ?_
  refine GM_iload_n (pc := 42) 1 rfl (daX4_lineOf_0 22 rfl) rfl ?_
  obtain ⟨hc2, h⟩ := chk_inv h
  refine GM_aald (pc := 43) 18 7 (by decide) (by decide) (fun _ => rfl) (daX4_lineOf_0 23 rfl) hc2.1 hc2.2.1 hc2.2.2 ?_
  refine GM_astore_n (L' := [(2, (3, μ (μ v0 5) v1)), (0, (3, v0)), (1, (0, v1))]) (pc := 44) (daX4_lineOf_0 24 rfl) rfl (Nat.le_of_ble_eq_true rfl) rfl ?_
  refine GM_aload_n (pc := 45) 0 rfl (daX4_lineOf_0 25 rfl) rfl ?_
  obtain ⟨hc3, h⟩ := chk_inv h
  refine GM_getf (pc := 46) 7 0 0 0 kf_X4_45 (Nat.le_of_ble_eq_true rfl) (Nat.le_of_ble_eq_true rfl) rfl (daX4_lineOf_0 26 rfl) hc3 rfl ?_
  refine GM_aload_n (pc := 49) 1 rfl (daX4_lineOf_0 27 rfl) rfl ?_
  refine GM_getf (pc := 50) 4 1 0 1 kf_X4_48 (Nat.le_of_ble_eq_true rfl) (Nat.le_of_ble_eq_true rfl) rfl (daX4_lineOf_0 28 rfl) hc1 rfl ?_
  refine GM_icmp_eq (pc := 53) 88 (daX4_lineOf_0 29 rfl) rfl (fun c4 => ?_) (fun c4 => ?_)
  · skip
    rw [if_pos c4] at h
    refine GM_aload_n (pc := 88) 0 rfl (daX4_lineOf_0 46 rfl) rfl ?_
    cases h
    exact GM_aret (pc := 89) "HillSketch$Skyline" (daX4_lineOf_0 47 rfl) rfl hK
  · skip
    rw [if_neg c4] at h
    refine GM_aload_n (pc := 56) 1 rfl (daX4_lineOf_0 30 rfl) rfl ?_
    refine GM_getf (pc := 57) 4 3 3 3 kf_X4_41 (Nat.le_of_ble_eq_true rfl) (Nat.le_of_ble_eq_true rfl) rfl (daX4_lineOf_0 31 rfl) hc1 rfl ?_
    refine GM_aload_n (pc := 60) 1 rfl (daX4_lineOf_0 32 rfl) rfl ?_
    refine GM_getf (pc := 61) 4 0 3 0 kf_X4_37 (Nat.le_of_ble_eq_true rfl) (Nat.le_of_ble_eq_true rfl) rfl (daX4_lineOf_0 33 rfl) hc1 rfl ?_
    refine GM_iload_n (pc := 64) 2 rfl (daX4_lineOf_0 34 rfl) rfl ?_
    obtain ⟨hc5, h⟩ := chk_inv h
    obtain ⟨μ6, hf6, h⟩ := Option.bind_eq_some_iff.mp h
    refine GM_callV0 (pc := 65) [(3, μ v0 0), (0, v1)] (tX5_aim l hf6) cwX5_aim 5 (Nat.le_of_ble_eq_true rfl) rfl kv_X5_aim ke_X5_aim km_X4_49 hc5 ⟨Nat.le_of_ble_eq_true rfl, Nat.le_of_ble_eq_true rfl⟩ (Nat.le_of_ble_eq_true rfl) (Nat.le_of_ble_eq_true rfl) (daX4_lineOf_0 35 rfl) ?_
    refine GM_aload_n (pc := 68) 1 rfl (daX4_lineOf_0 36 rfl) rfl ?_
    refine GM_getf (pc := 69) 4 3 3 3 kf_X4_41 (Nat.le_of_ble_eq_true rfl) (Nat.le_of_ble_eq_true rfl) rfl (daX4_lineOf_0 37 rfl) hc1 rfl ?_
    refine GM_aload_n (pc := 72) 1 rfl (daX4_lineOf_0 38 rfl) rfl ?_
    refine GM_getf (pc := 73) 4 0 3 0 kf_X4_37 (Nat.le_of_ble_eq_true rfl) (Nat.le_of_ble_eq_true rfl) rfl (daX4_lineOf_0 39 rfl) hc1 rfl ?_
    refine GM_aload_n (pc := 76) 0 rfl (daX4_lineOf_0 40 rfl) rfl ?_
    obtain ⟨hc7, h⟩ := chk_inv h
    obtain ⟨μ8, hf8, h⟩ := Option.bind_eq_some_iff.mp h
    refine GM_callV0 (pc := 77) [(3, μ6 v0 0), (3, μ (μ v0 5) v1)] (tX5_look l hf8) cwX5_look 5 (Nat.le_of_ble_eq_true rfl) rfl kv_X5_look ke_X5_look km_X4_55 hc7 ⟨Nat.le_of_ble_eq_true rfl, Nat.le_of_ble_eq_true rfl⟩ (Nat.le_of_ble_eq_true rfl) (Nat.le_of_ble_eq_true rfl) (daX4_lineOf_0 41 rfl) ?_
    refine GM_aload_n (pc := 80) 0 rfl (daX4_lineOf_0 42 rfl) rfl ?_
    refine GM_aload_n (pc := 81) 1 rfl (daX4_lineOf_0 43 rfl) rfl ?_
    refine GM_getf (pc := 82) 4 1 0 1 kf_X4_48 (Nat.le_of_ble_eq_true rfl) (Nat.le_of_ble_eq_true rfl) rfl (daX4_lineOf_0 44 rfl) hc1 rfl ?_
    obtain ⟨μ9, hμ9, h⟩ := lm_inv h
    refine GM_putf (pc := 85) 7 0 0 kf_X4_45 (Nat.le_of_ble_eq_true rfl) (Nat.le_of_ble_eq_true rfl) rfl rfl (daX4_lineOf_0 45 rfl) hc3 (fun q => absurd q (by decide)) ?_
    refine GM_mem hμ9 ?_
    refine GM_aload_n (pc := 88) 0 rfl (daX4_lineOf_0 46 rfl) rfl ?_
    cases h
    exact GM_aret (pc := 89) "HillSketch$Skyline" (daX4_lineOf_0 47 rfl) rfl hK
set_option maxRecDepth 20000 in
theorem gX4_lineOf_0 (l : Launch) {F : FI} {v0 v1 : Int} {μ : Mm} {t : (Int × Mm)} {c0 n0 k n : Nat} (h : fX4_lineOf v0 v1 μ = some (t, c0, n0)) (hK : F.1 = [(3, t.1)] ∧ F.2.1 = t.2) : GM l mX4_lineOf F (c0 + k) (n0 + n) 0 [(0, (3, v0)), (1, (0, v1))] [] μ := by
  unfold fX4_lineOf at h
  refine GM_iload_n (pc := 0) 1 rfl (daX4_lineOf_0 0 rfl) rfl ?_
  refine GM_if_lt (pc := 1) 11 (daX4_lineOf_0 1 rfl) rfl (fun c10 => ?_) (fun c10 => ?_)
  · skip
    rw [if_pos c10] at h
    refine GM_aload_n (pc := 11) 0 rfl (daX4_lineOf_0 5 rfl) rfl ?_
    obtain ⟨hc11, h⟩ := chk_inv h
    refine GM_getf (pc := 12) 4 4 3 4 kf_X4_18 (Nat.le_of_ble_eq_true rfl) (Nat.le_of_ble_eq_true rfl) rfl (daX4_lineOf_0 6 rfl) hc11 rfl ?_
    cases h
    exact GM_aret (pc := 15) "HillSketch$Skyline" (daX4_lineOf_0 7 rfl) rfl hK
  · skip
    rw [if_neg c10] at h
    refine GM_iload_n (pc := 4) 1 rfl (daX4_lineOf_0 2 rfl) rfl ?_
    refine GM_sipush (pc := 5) 144 (daX4_lineOf_0 3 rfl) rfl (R32_b rfl) ?_
    refine GM_icmp_lt (pc := 8) 16 (daX4_lineOf_0 4 rfl) rfl (fun c12 => ?_) (fun c12 => ?_)
    · skip
      rw [if_pos c12] at h
      refine GM_aload_n (pc := 16) 0 rfl (daX4_lineOf_0 8 rfl) rfl ?_
      obtain ⟨hc13, h⟩ := chk_inv h
      refine GM_getf (pc := 17) 4 5 3 5 kf_X4_22 (Nat.le_of_ble_eq_true rfl) (Nat.le_of_ble_eq_true rfl) rfl (daX4_lineOf_0 9 rfl) hc13 rfl ?_
      refine GM_iload_n (pc := 20) 1 rfl (daX4_lineOf_0 10 rfl) rfl ?_
      obtain ⟨hc14, h⟩ := chk_inv h
      refine GM_aald (pc := 21) 18 7 (by decide) (by decide) (fun _ => rfl) (daX4_lineOf_0 11 rfl) hc14.1 hc14.2.1 hc14.2.2 ?_
      refine GM_ifnonnull (pc := 22) 38 (daX4_lineOf_0 12 rfl) rfl (fun c15 => ?_) (fun c15 => ?_)
      · skip
        rw [if_neg c15] at h
        exact gX4_lineOf_38 l h hK
      · skip
        rw [if_pos c15] at h
        refine GM_aload_n (pc := 25) 0 rfl (daX4_lineOf_0 13 rfl) rfl ?_
        refine GM_getf (pc := 26) 4 5 3 5 kf_X4_22 (Nat.le_of_ble_eq_true rfl) (Nat.le_of_ble_eq_true rfl) rfl (daX4_lineOf_0 14 rfl) hc13 rfl ?_
        refine GM_iload_n (pc := 29) 1 rfl (daX4_lineOf_0 15 rfl) rfl ?_
        obtain ⟨hc16, h⟩ := chk_inv h
        obtain ⟨c17, n17, hp, e1, e2⟩ := pay_inv h
        subst e1 e2
        replace h := hp
        clear hp
        rw [Nat.add_assoc, Nat.add_assoc]
        obtain ⟨μ18, hμ18, h⟩ := lm_inv h
        refine GM_new (pc := 30) 7 (v0 + 100 + 10 * v1) (by decide) kc_X4_15 (daX4_lineOf_0 16 rfl) hc16.1 hc16.2 ?_
        refine GM_mem hμ18 ?_
        refine GM_dup (pc := 33) (daX4_lineOf_0 17 rfl) (Nat.ne_of_beq_eq_false rfl) ?_
        obtain ⟨hc19, h⟩ := chk_inv h
        obtain ⟨⟨μ20, c20, n20⟩, hf20, h⟩ := Option.bind_eq_some_iff.mp h
        dsimp only at h
        obtain ⟨c21, n21, hp, e1, e2⟩ := pay_inv h
        subst e1 e2
        replace h := hp
        clear hp
        rw [Nat.add_assoc, Nat.add_assoc]
        refine GM_callIN (pc := 34) [] (tX7_init l hf20) cwX7_init "HillSketch" rfl rfl kv_X7_init (by decide) hc19 ⟨Nat.le_of_ble_eq_true rfl, Nat.le_of_ble_eq_true rfl⟩ (Nat.le_of_ble_eq_true rfl) (Nat.le_of_ble_eq_true rfl) (daX4_lineOf_0 18 rfl) ?_
        obtain ⟨μ22, hμ22, h⟩ := lm_inv h
        refine GM_aast (pc := 37) 18 7 (by decide) (by decide) (by decide) (fun _ => rfl) (daX4_lineOf_0 19 rfl) hc14.1 hc14.2.1 hc14.2.2 hc16.1 ?_
        refine GM_mem hμ22 ?_
        exact gX4_lineOf_38 l h hK
    · skip
      rw [if_neg c12] at h
      refine GM_aload_n (pc := 11) 0 rfl (daX4_lineOf_0 5 rfl) rfl ?_
      obtain ⟨hc23, h⟩ := chk_inv h
      refine GM_getf (pc := 12) 4 4 3 4 kf_X4_18 (Nat.le_of_ble_eq_true rfl) (Nat.le_of_ble_eq_true rfl) rfl (daX4_lineOf_0 6 rfl) hc23 rfl ?_
      cases h
      exact GM_aret (pc := 15) "HillSketch$Skyline" (daX4_lineOf_0 7 rfl) rfl hK
theorem tX4_lineOf (l : Launch) {v0 v1 : Int} {μ : Mm} {t : (Int × Mm)} {c0 n0 : Nat} (h : fX4_lineOf v0 v1 μ = some (t, c0, n0)) : Ct l yX4_lineOf mX4_lineOf [(3, v0), (0, v1)] μ ([(3, t.1)], t.2, c0, n0) :=
  Ct_of (by decide +kernel) rfl rfl (Nat.le_of_ble_eq_true rfl) (fun _ _ _ => trivial) (gX4_lineOf_0 (k := 0) (n := 0) l h ⟨rfl, rfl⟩)
def mX4_watch : MI := (RX4, cX4_watch, 6, (some .int), "watch", 1, 21, fun _ _ _ => True)
theorem cwX4_watch : CWd yX4_watch mX4_watch 2 := ⟨ki_X4, kk_X4_watch, ⟨by decide, by decide⟩, rfl⟩
def dtX4_watch_0 : List (Nat × Instr × Nat) := [(0, .iload_n 1, 1), (1, .ifCond .lt 19, 3), (4, .iload_n 1, 1), (5, .iconst 3, 1), (6, .if_icmp .ge 14, 3), (9, .iload_n 2, 1), (10, .ifCond .lt 10, 3), (13, .iload_n 2, 1), (14, .sipush 144, 3), (17, .if_icmp .lt 5, 3), (20, .iconst 0, 1), (21, .ireturn, 1), (22, .iconst 0, 1), (23, .istore_n 3, 1), (24, .iconst 0, 1), (25, .istore 4, 2), (27, .iload 4, 2), (29, .iconst 3, 1), (30, .if_icmp .ge 64, 3), (33, .iload_n 1, 1), (34, .iconst 3, 1), (35, .imul, 1), (36, .iload 4, 2), (38, .iadd, 1), (39, .istore 5, 2), (41, .aload_n 0, 1), (42, .getfield 30, 3), (45, .iload 5, 2), (47, .iconst 3, 1), (48, .iadd, 1), (49, .aload_n 0, 1), (50, .getfield 30, 3), (53, .iload 5, 2), (55, .laload, 1), (56, .aload_n 0, 1), (57, .getfield 26, 3), (60, .iload_n 2, 1), (61, .iconst 3, 1), (62, .imul, 1), (63, .iload 4, 2), (65, .iadd, 1), (66, .laload, 1), (67, .ldc2_w 104, 3), (70, .lxor, 1), (71, .land, 1), (72, .lastore, 1), (73, .iload_n 3, 1), (74, .aload_n 0, 1), (75, .getfield 30, 3), (78, .iload 5, 2), (80, .iconst 3, 1), (81, .iadd, 1), (82, .laload, 1), (83, .invokestatic 106, 3), (86, .iadd, 1), (87, .istore_n 3, 1), (88, .iinc 4 1, 3), (91, .goto (-64), 3), (94, .iload_n 3, 1), (95, .ireturn, 1)]
theorem ddX4_watch_0 : (dtX4_watch_0.all fun e => decide (decode mX4_watch.2.1 e.1 = .ok (e.2.1, e.2.2))) = true := by decide +kernel
theorem daX4_watch_0 (j : Nat) {pc n : Nat} {i : Instr} (h : dtX4_watch_0[j]? = some (pc, i, n)) : decode mX4_watch.2.1 pc = .ok (i, n) := dec_of (c := mX4_watch.2.1) ddX4_watch_0 h
def zX4_watch_27 (l : Launch) (F : FI) (v0 v1 v2 : Int) (k n : Nat) : (Int × Int × Mm) ⊕ (Int × Mm) → Prop
  | .inl (v3, v4, μ) => GM l mX4_watch F k n 27 [(0, (3, v0)), (1, (0, v1)), (2, (0, v2)), (3, (0, v3)), (4, (0, v4))] [] μ
  | .inr (v3, μ) => GM l mX4_watch F k n 94 [(3, (0, v3))] [] μ
def sX4_watch_27 (v0 v1 v2 : Int) : (Int × Int × Mm) → Option ((Int × Int × Mm) ⊕ (Int × Mm)) := fun (v3, v4, μ) =>
  if 3 ≤ v4 then
    some (.inr (v3, μ))
  else
    lt (w32 ((w32 (v1 * 3)) + v4)) fun y2 =>
    chk (KD v0 = 4) (
    chk (KD (μ v0 7) = 13 ∧ 0 ≤ y2 ∧ y2 < LN (μ v0 7)) (
    chk (KD (μ v0 6) = 13 ∧ 0 ≤ w32 ((w32 (v2 * 3)) + v4) ∧ w32 ((w32 (v2 * 3)) + v4) < LN (μ v0 6)) (
    chk (0 ≤ w32 (y2 + 3) ∧ w32 (y2 + 3) < LN (μ v0 7)) (
    lm (mst μ (μ v0 7) (w32 (y2 + 3)) (land (μ (μ v0 7) y2) (lxor (μ (μ v0 6) (w32 ((w32 (v2 * 3)) + v4))) (-1)))) fun μ7 =>
    chk (KD (μ7 v0 7) = 13 ∧ w32 (y2 + 3) < LN (μ7 v0 7)) (
    lt (w32 (v3 + (lbits (μ7 (μ7 v0 7) (w32 (y2 + 3)))))) fun y9 =>
    some (.inl (y9, w32 (v4 + 1), μ7)))))))
def fX4_watch (v0 v1 v2 : Int) (μ : Mm) : Option (Int × Mm) :=
  if v1 < 0 then
    some (0, μ)
  else
    if 3 ≤ v1 then
      some (0, μ)
    else
      if v2 < 0 then
        some (0, μ)
      else
        if v2 < 144 then
          (lop (sX4_watch_27 v0 v1 v2) FU (0, 0, μ)).bind fun x14 =>
            match x14 with
            | (v3_15, μ_15) =>
              some (v3_15, μ_15)
        else
          some (0, μ)
set_option maxRecDepth 20000 in
theorem qX4_watch_27 (l : Launch) (F : FI) (v0 v1 v2 : Int) (k n : Nat) : ∀ (q : (Int × Int × Mm)) (t : ((Int × Int × Mm) ⊕ (Int × Mm))), sX4_watch_27 v0 v1 v2 q = some t → zX4_watch_27 l F v0 v1 v2 k n t → zX4_watch_27 l F v0 v1 v2 k n (.inl q) := by
  intro q t h hK
  obtain ⟨v3, v4, μ⟩ := q
  unfold sX4_watch_27 at h
  try dsimp only at h
  show GM l mX4_watch F k n 27 [(0, (3, v0)), (1, (0, v1)), (2, (0, v2)), (3, (0, v3)), (4, (0, v4))] [] μ
  refine GM_iload (pc := 27) 4 rfl (daX4_watch_0 16 rfl) ?_
  refine GM_iconst (pc := 29) 3 (daX4_watch_0 17 rfl) rfl (R32_b rfl) ?_
  refine GM_icmp_ge (pc := 30) 94 (daX4_watch_0 18 rfl) rfl (fun c1 => ?_) (fun c1 => ?_)
  · skip
    rw [if_pos c1] at h
    refine GM_pick [3] rfl ?_
    cases h
    exact hK
  · skip
    rw [if_neg c1] at h
    refine GM_iload_n (pc := 33) 1 rfl (daX4_watch_0 19 rfl) rfl ?_
    refine GM_iconst (pc := 34) 3 (daX4_watch_0 20 rfl) rfl (R32_b rfl) ?_
    refine GM_imul (pc := 35) (daX4_watch_0 21 rfl) ?_
    refine GM_iload (pc := 36) 4 rfl (daX4_watch_0 22 rfl) ?_
    refine GM_iadd (pc := 38) (daX4_watch_0 23 rfl) ?_
    obtain ⟨y2, hy2, h⟩ := lt_inv h
    refine GM_top hy2 ?_
    refine GM_istore (L' := [(5, (0, y2)), (0, (3, v0)), (1, (0, v1)), (2, (0, v2)), (3, (0, v3)), (4, (0, v4))]) (pc := 39) (daX4_watch_0 24 rfl) (Nat.le_of_ble_eq_true rfl) rfl ?_
    refine GM_aload_n (pc := 41) 1 rfl (daX4_watch_0 25 rfl) rfl ?_
    obtain ⟨hc3, h⟩ := chk_inv h
    refine GM_getf (pc := 42) 4 7 3 7 kf_X4_30 (Nat.le_of_ble_eq_true rfl) (Nat.le_of_ble_eq_true rfl) rfl (daX4_watch_0 26 rfl) hc3 rfl ?_
    refine GM_iload (pc := 45) 0 rfl (daX4_watch_0 27 rfl) ?_
    refine GM_iconst (pc := 47) 3 (daX4_watch_0 28 rfl) rfl (R32_b rfl) ?_
    refine GM_iadd (pc := 48) (daX4_watch_0 29 rfl) ?_
    refine GM_aload_n (pc := 49) 1 rfl (daX4_watch_0 30 rfl) rfl ?_
    refine GM_getf (pc := 50) 4 7 3 7 kf_X4_30 (Nat.le_of_ble_eq_true rfl) (Nat.le_of_ble_eq_true rfl) rfl (daX4_watch_0 31 rfl) hc3 rfl ?_
    refine GM_iload (pc := 53) 0 rfl (daX4_watch_0 32 rfl) ?_
    obtain ⟨hc4, h⟩ := chk_inv h
    refine GM_lald (pc := 55) (daX4_watch_0 33 rfl) hc4.1 hc4.2.1 hc4.2.2 ?_
    refine GM_aload_n (pc := 56) 1 rfl (daX4_watch_0 34 rfl) rfl ?_
    refine GM_getf (pc := 57) 4 6 3 6 kf_X4_26 (Nat.le_of_ble_eq_true rfl) (Nat.le_of_ble_eq_true rfl) rfl (daX4_watch_0 35 rfl) hc3 rfl ?_
    refine GM_iload_n (pc := 60) 3 rfl (daX4_watch_0 36 rfl) rfl ?_
    refine GM_iconst (pc := 61) 3 (daX4_watch_0 37 rfl) rfl (R32_b rfl) ?_
    refine GM_imul (pc := 62) (daX4_watch_0 38 rfl) ?_
    refine GM_iload (pc := 63) 5 rfl (daX4_watch_0 39 rfl) ?_
    refine GM_iadd (pc := 65) (daX4_watch_0 40 rfl) ?_
    obtain ⟨hc5, h⟩ := chk_inv h
    refine GM_lald (pc := 66) (daX4_watch_0 41 rfl) hc5.1 hc5.2.1 hc5.2.2 ?_
    refine GM_ldc2 (pc := 67) (-1) (by have q := kq_X4_104; rw [show (-1 : Int64) = Int64.ofInt (-1) by decide] at q; exact q) (daX4_watch_0 42 rfl) (R64_b rfl) ?_
    refine GM_lxor (pc := 70) (daX4_watch_0 43 rfl) ?_
    refine GM_land (pc := 71) (daX4_watch_0 44 rfl) ?_
    obtain ⟨hc6, h⟩ := chk_inv h
    obtain ⟨μ7, hμ7, h⟩ := lm_inv h
    refine GM_last (pc := 72) (daX4_watch_0 45 rfl) hc4.1 hc6.1 hc6.2 ?_
    refine GM_mem hμ7 ?_
    refine GM_iload_n (pc := 73) 4 rfl (daX4_watch_0 46 rfl) rfl ?_
    refine GM_aload_n (pc := 74) 1 rfl (daX4_watch_0 47 rfl) rfl ?_
    refine GM_getf (pc := 75) 4 7 3 7 kf_X4_30 (Nat.le_of_ble_eq_true rfl) (Nat.le_of_ble_eq_true rfl) rfl (daX4_watch_0 48 rfl) hc3 rfl ?_
    refine GM_iload (pc := 78) 0 rfl (daX4_watch_0 49 rfl) ?_
    refine GM_iconst (pc := 80) 3 (daX4_watch_0 50 rfl) rfl (R32_b rfl) ?_
    refine GM_iadd (pc := 81) (daX4_watch_0 51 rfl) ?_
    obtain ⟨hc8, h⟩ := chk_inv h
    refine GM_lald (pc := 82) (daX4_watch_0 52 rfl) hc8.1 hc6.1 hc8.2 ?_
    refine GM_callS0 (pc := 83) [(2, μ7 (μ7 v0 7) (w32 (y2 + 3)))] (tJ13_bitCount_95d88 l (fJ13_bits_eq (μ7 (μ7 v0 7) (w32 (y2 + 3))))) cwJ13_bitCount_95d88 ks_J13_bitCount_95d88 km_X4_106 ⟨Nat.le_of_ble_eq_true rfl, Nat.le_of_ble_eq_true rfl⟩ (Nat.le_of_ble_eq_true rfl) (Nat.le_of_ble_eq_true rfl) (daX4_watch_0 53 rfl) ?_
    refine GM_iadd (pc := 86) (daX4_watch_0 54 rfl) ?_
    obtain ⟨y9, hy9, h⟩ := lt_inv h
    refine GM_top hy9 ?_
    refine GM_istore_n (L' := [(3, (0, y9)), (5, (0, y2)), (0, (3, v0)), (1, (0, v1)), (2, (0, v2)), (4, (0, v4))]) (pc := 87) (daX4_watch_0 55 rfl) rfl (Nat.le_of_ble_eq_true rfl) rfl ?_
    refine GM_iinc (L' := [(4, (0, w32 (v4 + 1))), (3, (0, y9)), (5, (0, y2)), (0, (3, v0)), (1, (0, v1)), (2, (0, v2))]) (pc := 88) 5 rfl (daX4_watch_0 56 rfl) (Nat.le_of_ble_eq_true rfl) rfl ?_
    refine GM_goto (pc := 91) 27 (daX4_watch_0 57 rfl) rfl ?_
    refine GM_pick [3, 4, 5, 1, 0] rfl ?_
    cases h
    exact hK
set_option maxRecDepth 20000 in
theorem gX4_watch_0 (l : Launch) {F : FI} {v0 v1 v2 : Int} {μ : Mm} {t : (Int × Mm)} (h : fX4_watch v0 v1 v2 μ = some t) (hK : F.1 = [(0, t.1)] ∧ F.2.1 = t.2) : GM l mX4_watch F 0 0 0 [(0, (3, v0)), (1, (0, v1)), (2, (0, v2))] [] μ := by
  unfold fX4_watch at h
  refine GM_iload_n (pc := 0) 1 rfl (daX4_watch_0 0 rfl) rfl ?_
  refine GM_if_lt (pc := 1) 20 (daX4_watch_0 1 rfl) rfl (fun c10 => ?_) (fun c10 => ?_)
  · skip
    rw [if_pos c10] at h
    refine GM_iconst (pc := 20) 0 (daX4_watch_0 10 rfl) rfl (R32_b rfl) ?_
    cases h
    exact GM_iret (pc := 21) (daX4_watch_0 11 rfl) rfl hK
  · skip
    rw [if_neg c10] at h
    refine GM_iload_n (pc := 4) 1 rfl (daX4_watch_0 2 rfl) rfl ?_
    refine GM_iconst (pc := 5) 3 (daX4_watch_0 3 rfl) rfl (R32_b rfl) ?_
    refine GM_icmp_ge (pc := 6) 20 (daX4_watch_0 4 rfl) rfl (fun c11 => ?_) (fun c11 => ?_)
    · skip
      rw [if_pos c11] at h
      refine GM_iconst (pc := 20) 0 (daX4_watch_0 10 rfl) rfl (R32_b rfl) ?_
      cases h
      exact GM_iret (pc := 21) (daX4_watch_0 11 rfl) rfl hK
    · skip
      rw [if_neg c11] at h
      refine GM_iload_n (pc := 9) 2 rfl (daX4_watch_0 5 rfl) rfl ?_
      refine GM_if_lt (pc := 10) 20 (daX4_watch_0 6 rfl) rfl (fun c12 => ?_) (fun c12 => ?_)
      · skip
        rw [if_pos c12] at h
        refine GM_iconst (pc := 20) 0 (daX4_watch_0 10 rfl) rfl (R32_b rfl) ?_
        cases h
        exact GM_iret (pc := 21) (daX4_watch_0 11 rfl) rfl hK
      · skip
        rw [if_neg c12] at h
        refine GM_iload_n (pc := 13) 2 rfl (daX4_watch_0 7 rfl) rfl ?_
        refine GM_sipush (pc := 14) 144 (daX4_watch_0 8 rfl) rfl (R32_b rfl) ?_
        refine GM_icmp_lt (pc := 17) 22 (daX4_watch_0 9 rfl) rfl (fun c13 => ?_) (fun c13 => ?_)
        · skip
          rw [if_pos c13] at h
          refine GM_iconst (pc := 22) 0 (daX4_watch_0 12 rfl) rfl (R32_b rfl) ?_
          refine GM_istore_n (L' := [(3, (0, 0)), (0, (3, v0)), (1, (0, v1)), (2, (0, v2))]) (pc := 23) (daX4_watch_0 13 rfl) rfl (Nat.le_of_ble_eq_true rfl) rfl ?_
          refine GM_iconst (pc := 24) 0 (daX4_watch_0 14 rfl) rfl (R32_b rfl) ?_
          refine GM_istore (L' := [(4, (0, 0)), (3, (0, 0)), (0, (3, v0)), (1, (0, v1)), (2, (0, v2))]) (pc := 25) (daX4_watch_0 15 rfl) (Nat.le_of_ble_eq_true rfl) rfl ?_
          refine GM_pick [2, 3, 4, 1, 0] rfl ?_
          obtain ⟨x14, hqx14, h⟩ := Option.bind_eq_some_iff.mp h
          refine lop_ind (zX4_watch_27 l F v0 v1 v2 0 0) (qX4_watch_27 l F v0 v1 v2 0 0) FU _ x14 hqx14 ?_
          obtain ⟨v3_15, μ_15⟩ := x14
          dsimp only at h
          show GM l mX4_watch F 0 0 94 [(3, (0, v3_15))] [] μ_15
          refine GM_iload_n (pc := 94) 0 rfl (daX4_watch_0 58 rfl) rfl ?_
          cases h
          exact GM_iret (pc := 95) (daX4_watch_0 59 rfl) rfl hK
        · skip
          rw [if_neg c13] at h
          refine GM_iconst (pc := 20) 0 (daX4_watch_0 10 rfl) rfl (R32_b rfl) ?_
          cases h
          exact GM_iret (pc := 21) (daX4_watch_0 11 rfl) rfl hK
theorem tX4_watch (l : Launch) {v0 v1 v2 : Int} {μ : Mm} {t : (Int × Mm)} (h : fX4_watch v0 v1 v2 μ = some t) : Ct l yX4_watch mX4_watch [(3, v0), (0, v1), (0, v2)] μ ([(0, t.1)], t.2, 0, 0) :=
  Ct_of (by decide +kernel) rfl rfl (Nat.le_of_ble_eq_true rfl) (fun _ _ _ => trivial) (gX4_watch_0 l h ⟨rfl, rfl⟩)
def mX4_posts : MI := (RX4, cX4_posts, 6, (some .boolean), "posts", 2, 46, fun _ _ _ => True)
theorem cwX4_posts : CWd yX4_posts mX4_posts 1 := ⟨ki_X4, kk_X4_posts, ⟨by decide, by decide⟩, rfl⟩
def dtX4_posts_0 : List (Nat × Instr × Nat) := [(0, .iconst 0, 1), (1, .istore_n 2, 1), (2, .aload_n 0, 1), (3, .getfield 9, 3), (6, .iconst 0, 1), (7, .iconst (-1), 1), (8, .iastore, 1), (9, .iconst 0, 1), (10, .istore_n 3, 1), (11, .iload_n 3, 1), (12, .ldc 100, 2), (14, .if_icmp .ge 116, 3), (17, .iload_n 2, 1), (18, .ifCond .lt 112, 3), (21, .iload_n 2, 1), (22, .iconst 3, 1), (23, .if_icmp .ge 107, 3), (26, .aload_n 0, 1), (27, .getfield 9, 3), (30, .iload_n 2, 1), (31, .dup2, 1), (32, .iaload, 1), (33, .iconst 1, 1), (34, .iadd, 1), (35, .iastore, 1), (36, .aload_n 0, 1), (37, .getfield 9, 3), (40, .iload_n 2, 1), (41, .iaload, 1), (42, .aload_n 0, 1), (43, .getfield 37, 3), (46, .invokevirtual 75, 3), (49, .if_icmp .lt 9, 3), (52, .iinc 2 (-1), 3), (55, .goto 69, 3), (58, .aload_n 0, 1), (59, .iload_n 2, 1), (60, .aload_n 0, 1), (61, .getfield 9, 3), (64, .iload_n 2, 1), (65, .iaload, 1), (66, .invokevirtual 101, 3), (69, .istore 4, 2), (71, .iload_n 1, 1), (72, .iload_n 2, 1), (73, .isub, 1), (74, .iconst 1, 1), (75, .isub, 1), (76, .istore 5, 2), (78, .iload 4, 2), (80, .ifCond .ne 10, 3), (83, .iload 5, 2), (85, .ifCond .ne 5, 3), (88, .iconst 1, 1), (89, .ireturn, 1), (90, .iload 5, 2), (92, .ifCond .le 32, 3), (95, .iload 4, 2), (97, .iload 5, 2), (99, .aload_n 0, 1), (100, .getfield 72, 3), (103, .imul, 1), (104, .if_icmp .gt 20, 3), (107, .iinc 2 1, 3)]
theorem ddX4_posts_0 : (dtX4_posts_0.all fun e => decide (decode mX4_posts.2.1 e.1 = .ok (e.2.1, e.2.2))) = true := by decide +kernel
theorem daX4_posts_0 (j : Nat) {pc n : Nat} {i : Instr} (h : dtX4_posts_0[j]? = some (pc, i, n)) : decode mX4_posts.2.1 pc = .ok (i, n) := dec_of (c := mX4_posts.2.1) ddX4_posts_0 h
def dtX4_posts_1 : List (Nat × Instr × Nat) := [(110, .aload_n 0, 1), (111, .getfield 9, 3), (114, .iload_n 2, 1), (115, .aload_n 0, 1), (116, .getfield 9, 3), (119, .iload_n 2, 1), (120, .iconst 1, 1), (121, .isub, 1), (122, .iaload, 1), (123, .iastore, 1), (124, .iinc 3 1, 3), (127, .goto (-116), 3), (130, .iconst 0, 1), (131, .ireturn, 1)]
theorem ddX4_posts_1 : (dtX4_posts_1.all fun e => decide (decode mX4_posts.2.1 e.1 = .ok (e.2.1, e.2.2))) = true := by decide +kernel
theorem daX4_posts_1 (j : Nat) {pc n : Nat} {i : Instr} (h : dtX4_posts_1[j]? = some (pc, i, n)) : decode mX4_posts.2.1 pc = .ok (i, n) := dec_of (c := mX4_posts.2.1) ddX4_posts_1 h
def jX4_posts_90 (v0 v1 v2 v3 v4 v5 : Int) (μ : Mm) : Option ((Int × Int × Mm) ⊕ (Mm ⊕ Mm)) :=
  if v5 ≤ 0 then
    some (.inl (v2, w32 (v3 + 1), μ))
  else
    chk (KD v0 = 4) (
    if w32 (v5 * (μ v0 10)) < v4 then
      some (.inl (v2, w32 (v3 + 1), μ))
    else
      chk (KD (μ v0 2) = 12 ∧ 0 ≤ w32 ((w32 (v2 + 1)) - 1) ∧ w32 ((w32 (v2 + 1)) - 1) < LN (μ v0 2)) (
      chk (0 ≤ w32 (v2 + 1) ∧ w32 (v2 + 1) < LN (μ v0 2)) (
      lm (mst μ (μ v0 2) (w32 (v2 + 1)) (μ (μ v0 2) (w32 ((w32 (v2 + 1)) - 1)))) fun μ6 =>
      some (.inl (w32 (v2 + 1), w32 (v3 + 1), μ6)))))
def zX4_posts_11 (l : Launch) (F : FI) (v0 v1 : Int) (k n : Nat) : (Int × Int × Mm) ⊕ (Mm ⊕ Mm) → Prop
  | .inl (v2, v3, μ) => GM l mX4_posts F k n 11 [(0, (3, v0)), (1, (0, v1)), (2, (0, v2)), (3, (0, v3))] [] μ
  | .inr (.inl μ) => GM l mX4_posts F k n 130 [] [] μ
  | .inr (.inr μ) => GM l mX4_posts F k n 88 [] [] μ
def sX4_posts_11 (v0 v1 : Int) : (Int × Int × Mm) → Option ((Int × Int × Mm) ⊕ (Mm ⊕ Mm)) := fun (v2, v3, μ) =>
  if 1000000 ≤ v3 then
    some (.inr (.inl μ))
  else
    if v2 < 0 then
      some (.inr (.inl μ))
    else
      if 3 ≤ v2 then
        some (.inr (.inl μ))
      else
        chk (KD v0 = 4) (
        chk (KD (μ v0 2) = 12 ∧ 0 ≤ v2 ∧ v2 < LN (μ v0 2)) (
        lm (mst μ (μ v0 2) v2 (w32 ((μ (μ v0 2) v2) + 1))) fun μ12 =>
        chk (KD (μ12 v0 2) = 12 ∧ v2 < LN (μ12 v0 2)) (
        chk (KD (μ12 v0 0) = 2) (
        (fX2_places (μ12 v0 0) μ12).bind fun r15 =>
        if μ12 (μ12 v0 2) v2 < r15 then
          (fX4_watch v0 v2 (μ12 (μ12 v0 2) v2) μ12).bind fun (r17, μ17) =>
          lt (w32 ((w32 (v1 - v2)) - 1)) fun y18 =>
          if r17 = 0 then
            if y18 = 0 then
              some (.inr (.inr μ17))
            else
              jX4_posts_90 v0 v1 v2 v3 r17 y18 μ17
          else
            jX4_posts_90 v0 v1 v2 v3 r17 y18 μ17
        else
          some (.inl (w32 (v2 + (-1)), w32 (v3 + 1), μ12))))))
def fX4_posts (v0 v1 : Int) (μ : Mm) : Option (Int × Mm) :=
  chk (KD v0 = 4) (
  chk (KD (μ v0 2) = 12 ∧ 0 < LN (μ v0 2)) (
  lm (mst μ (μ v0 2) 0 (-1)) fun μ23 =>
  (lop (sX4_posts_11 v0 v1) FU (0, 0, μ23)).bind fun x24 =>
    match x24 with
    | (.inl μ_25) =>
        some (0, μ_25)
    | (.inr μ_26) =>
        some (1, μ_26)))
set_option maxRecDepth 20000 in
theorem gX4_posts_90 (l : Launch) {F : FI} {v0 v1 v2 v3 v4 v5 : Int} {μ : Mm} {t : ((Int × Int × Mm) ⊕ (Mm ⊕ Mm))} {k n : Nat} (h : jX4_posts_90 v0 v1 v2 v3 v4 v5 μ = some t) (hK : zX4_posts_11 l F v0 v1 k n t) : GM l mX4_posts F k n 90 [(0, (3, v0)), (1, (0, v1)), (2, (0, v2)), (3, (0, v3)), (4, (0, v4)), (5, (0, v5))] [] μ := by
  unfold jX4_posts_90 at h
  refine GM_iload (pc := 90) 5 rfl (daX4_posts_0 55 rfl) ?_
  refine GM_if_le (pc := 92) 124 (daX4_posts_0 56 rfl) rfl (fun c1 => ?_) (fun c1 => ?_)
  · skip
    rw [if_pos c1] at h
    refine GM_iinc (L' := [(3, (0, w32 (v3 + 1))), (0, (3, v0)), (1, (0, v1)), (2, (0, v2)), (4, (0, v4)), (5, (0, v5))]) (pc := 124) 3 rfl (daX4_posts_1 10 rfl) (Nat.le_of_ble_eq_true rfl) rfl ?_
    refine GM_goto (pc := 127) 11 (daX4_posts_1 11 rfl) rfl ?_
    refine GM_pick [1, 2, 3, 0] rfl ?_
    cases h
    exact hK
  · skip
    rw [if_neg c1] at h
    refine GM_iload (pc := 95) 4 rfl (daX4_posts_0 57 rfl) ?_
    refine GM_iload (pc := 97) 5 rfl (daX4_posts_0 58 rfl) ?_
    refine GM_aload_n (pc := 99) 0 rfl (daX4_posts_0 59 rfl) rfl ?_
    obtain ⟨hc2, h⟩ := chk_inv h
    refine GM_getf (pc := 100) 4 10 0 10 kf_X4_72 (Nat.le_of_ble_eq_true rfl) (Nat.le_of_ble_eq_true rfl) rfl (daX4_posts_0 60 rfl) hc2 rfl ?_
    refine GM_imul (pc := 103) (daX4_posts_0 61 rfl) ?_
    refine GM_icmp_gt (pc := 104) 124 (daX4_posts_0 62 rfl) rfl (fun c3 => ?_) (fun c3 => ?_)
    · skip
      rw [if_pos c3] at h
      refine GM_iinc (L' := [(3, (0, w32 (v3 + 1))), (0, (3, v0)), (1, (0, v1)), (2, (0, v2)), (4, (0, v4)), (5, (0, v5))]) (pc := 124) 3 rfl (daX4_posts_1 10 rfl) (Nat.le_of_ble_eq_true rfl) rfl ?_
      refine GM_goto (pc := 127) 11 (daX4_posts_1 11 rfl) rfl ?_
      refine GM_pick [1, 2, 3, 0] rfl ?_
      cases h
      exact hK
    · skip
      rw [if_neg c3] at h
      refine GM_iinc (L' := [(2, (0, w32 (v2 + 1))), (0, (3, v0)), (1, (0, v1)), (3, (0, v3)), (4, (0, v4)), (5, (0, v5))]) (pc := 107) 2 rfl (daX4_posts_0 63 rfl) (Nat.le_of_ble_eq_true rfl) rfl ?_
      refine GM_aload_n (pc := 110) 1 rfl (daX4_posts_1 0 rfl) rfl ?_
      refine GM_getf (pc := 111) 4 2 3 2 kf_X4_9 (Nat.le_of_ble_eq_true rfl) (Nat.le_of_ble_eq_true rfl) rfl (daX4_posts_1 1 rfl) hc2 rfl ?_
      refine GM_iload_n (pc := 114) 0 rfl (daX4_posts_1 2 rfl) rfl ?_
      refine GM_aload_n (pc := 115) 1 rfl (daX4_posts_1 3 rfl) rfl ?_
      refine GM_getf (pc := 116) 4 2 3 2 kf_X4_9 (Nat.le_of_ble_eq_true rfl) (Nat.le_of_ble_eq_true rfl) rfl (daX4_posts_1 4 rfl) hc2 rfl ?_
      refine GM_iload_n (pc := 119) 0 rfl (daX4_posts_1 5 rfl) rfl ?_
      refine GM_iconst (pc := 120) 1 (daX4_posts_1 6 rfl) rfl (R32_b rfl) ?_
      refine GM_isub (pc := 121) (daX4_posts_1 7 rfl) ?_
      obtain ⟨hc4, h⟩ := chk_inv h
      refine GM_iald (pc := 122) (daX4_posts_1 8 rfl) hc4.1 hc4.2.1 hc4.2.2 ?_
      obtain ⟨hc5, h⟩ := chk_inv h
      obtain ⟨μ6, hμ6, h⟩ := lm_inv h
      refine GM_iast (pc := 123) (daX4_posts_1 9 rfl) hc4.1 hc5.1 hc5.2 ?_
      refine GM_mem hμ6 ?_
      refine GM_iinc (L' := [(3, (0, w32 (v3 + 1))), (2, (0, w32 (v2 + 1))), (0, (3, v0)), (1, (0, v1)), (4, (0, v4)), (5, (0, v5))]) (pc := 124) 3 rfl (daX4_posts_1 10 rfl) (Nat.le_of_ble_eq_true rfl) rfl ?_
      refine GM_goto (pc := 127) 11 (daX4_posts_1 11 rfl) rfl ?_
      refine GM_pick [2, 3, 1, 0] rfl ?_
      cases h
      exact hK
set_option maxRecDepth 20000 in
theorem qX4_posts_11 (l : Launch) (F : FI) (v0 v1 : Int) (k n : Nat) : ∀ (q : (Int × Int × Mm)) (t : ((Int × Int × Mm) ⊕ (Mm ⊕ Mm))), sX4_posts_11 v0 v1 q = some t → zX4_posts_11 l F v0 v1 k n t → zX4_posts_11 l F v0 v1 k n (.inl q) := by
  intro q t h hK
  obtain ⟨v2, v3, μ⟩ := q
  unfold sX4_posts_11 at h
  try dsimp only at h
  show GM l mX4_posts F k n 11 [(0, (3, v0)), (1, (0, v1)), (2, (0, v2)), (3, (0, v3))] [] μ
  refine GM_iload_n (pc := 11) 3 rfl (daX4_posts_0 9 rfl) rfl ?_
  refine GM_ldc (pc := 12) 1000000 kq_X4_100 (daX4_posts_0 10 rfl) (R32_b rfl) ?_
  refine GM_icmp_ge (pc := 14) 130 (daX4_posts_0 11 rfl) rfl (fun c7 => ?_) (fun c7 => ?_)
  · skip
    rw [if_pos c7] at h
    refine GM_pick [] rfl ?_
    cases h
    exact hK
  · skip
    rw [if_neg c7] at h
    refine GM_iload_n (pc := 17) 2 rfl (daX4_posts_0 12 rfl) rfl ?_
    refine GM_if_lt (pc := 18) 130 (daX4_posts_0 13 rfl) rfl (fun c8 => ?_) (fun c8 => ?_)
    · skip
      rw [if_pos c8] at h
      refine GM_pick [] rfl ?_
      cases h
      exact hK
    · skip
      rw [if_neg c8] at h
      refine GM_iload_n (pc := 21) 2 rfl (daX4_posts_0 14 rfl) rfl ?_
      refine GM_iconst (pc := 22) 3 (daX4_posts_0 15 rfl) rfl (R32_b rfl) ?_
      refine GM_icmp_ge (pc := 23) 130 (daX4_posts_0 16 rfl) rfl (fun c9 => ?_) (fun c9 => ?_)
      · skip
        rw [if_pos c9] at h
        refine GM_pick [] rfl ?_
        cases h
        exact hK
      · skip
        rw [if_neg c9] at h
        refine GM_aload_n (pc := 26) 0 rfl (daX4_posts_0 17 rfl) rfl ?_
        obtain ⟨hc10, h⟩ := chk_inv h
        refine GM_getf (pc := 27) 4 2 3 2 kf_X4_9 (Nat.le_of_ble_eq_true rfl) (Nat.le_of_ble_eq_true rfl) rfl (daX4_posts_0 18 rfl) hc10 rfl ?_
        refine GM_iload_n (pc := 30) 2 rfl (daX4_posts_0 19 rfl) rfl ?_
        refine GM_dup2 (pc := 31) (daX4_posts_0 20 rfl) (Nat.ne_of_beq_eq_false rfl) (Nat.ne_of_beq_eq_false rfl) ?_
        obtain ⟨hc11, h⟩ := chk_inv h
        refine GM_iald (pc := 32) (daX4_posts_0 21 rfl) hc11.1 hc11.2.1 hc11.2.2 ?_
        refine GM_iconst (pc := 33) 1 (daX4_posts_0 22 rfl) rfl (R32_b rfl) ?_
        refine GM_iadd (pc := 34) (daX4_posts_0 23 rfl) ?_
        obtain ⟨μ12, hμ12, h⟩ := lm_inv h
        refine GM_iast (pc := 35) (daX4_posts_0 24 rfl) hc11.1 hc11.2.1 hc11.2.2 ?_
        refine GM_mem hμ12 ?_
        refine GM_aload_n (pc := 36) 0 rfl (daX4_posts_0 25 rfl) rfl ?_
        refine GM_getf (pc := 37) 4 2 3 2 kf_X4_9 (Nat.le_of_ble_eq_true rfl) (Nat.le_of_ble_eq_true rfl) rfl (daX4_posts_0 26 rfl) hc10 rfl ?_
        refine GM_iload_n (pc := 40) 2 rfl (daX4_posts_0 27 rfl) rfl ?_
        obtain ⟨hc13, h⟩ := chk_inv h
        refine GM_iald (pc := 41) (daX4_posts_0 28 rfl) hc13.1 hc11.2.1 hc13.2 ?_
        refine GM_aload_n (pc := 42) 0 rfl (daX4_posts_0 29 rfl) rfl ?_
        refine GM_getf (pc := 43) 4 0 3 0 kf_X4_37 (Nat.le_of_ble_eq_true rfl) (Nat.le_of_ble_eq_true rfl) rfl (daX4_posts_0 30 rfl) hc10 rfl ?_
        obtain ⟨hc14, h⟩ := chk_inv h
        obtain ⟨r15, hf15, h⟩ := Option.bind_eq_some_iff.mp h
        refine GM_callV0 (pc := 46) [] (tX2_places l hf15) cwX2_places 2 (Nat.le_of_ble_eq_true rfl) rfl kv_X2_places ke_X2_places km_X4_75 hc14 ⟨Nat.le_of_ble_eq_true rfl, Nat.le_of_ble_eq_true rfl⟩ (Nat.le_of_ble_eq_true rfl) (Nat.le_of_ble_eq_true rfl) (daX4_posts_0 31 rfl) ?_
        refine GM_icmp_lt (pc := 49) 58 (daX4_posts_0 32 rfl) rfl (fun c16 => ?_) (fun c16 => ?_)
        · skip
          rw [if_pos c16] at h
          refine GM_aload_n (pc := 58) 0 rfl (daX4_posts_0 35 rfl) rfl ?_
          refine GM_iload_n (pc := 59) 2 rfl (daX4_posts_0 36 rfl) rfl ?_
          refine GM_aload_n (pc := 60) 0 rfl (daX4_posts_0 37 rfl) rfl ?_
          refine GM_getf (pc := 61) 4 2 3 2 kf_X4_9 (Nat.le_of_ble_eq_true rfl) (Nat.le_of_ble_eq_true rfl) rfl (daX4_posts_0 38 rfl) hc10 rfl ?_
          refine GM_iload_n (pc := 64) 2 rfl (daX4_posts_0 39 rfl) rfl ?_
          refine GM_iald (pc := 65) (daX4_posts_0 40 rfl) hc13.1 hc11.2.1 hc13.2 ?_
          obtain ⟨⟨r17, μ17⟩, hf17, h⟩ := Option.bind_eq_some_iff.mp h
          dsimp only at h
          refine GM_callV0 (pc := 66) [(0, v2), (0, μ12 (μ12 v0 2) v2)] (tX4_watch l hf17) cwX4_watch 4 (Nat.le_of_ble_eq_true rfl) rfl kv_X4_watch ke_X4_watch km_X4_101 hc10 ⟨Nat.le_of_ble_eq_true rfl, Nat.le_of_ble_eq_true rfl⟩ (Nat.le_of_ble_eq_true rfl) (Nat.le_of_ble_eq_true rfl) (daX4_posts_0 41 rfl) ?_
          refine GM_istore (L' := [(4, (0, r17)), (0, (3, v0)), (1, (0, v1)), (2, (0, v2)), (3, (0, v3))]) (pc := 69) (daX4_posts_0 42 rfl) (Nat.le_of_ble_eq_true rfl) rfl ?_
          refine GM_iload_n (pc := 71) 2 rfl (daX4_posts_0 43 rfl) rfl ?_
          refine GM_iload_n (pc := 72) 3 rfl (daX4_posts_0 44 rfl) rfl ?_
          refine GM_isub (pc := 73) (daX4_posts_0 45 rfl) ?_
          refine GM_iconst (pc := 74) 1 (daX4_posts_0 46 rfl) rfl (R32_b rfl) ?_
          refine GM_isub (pc := 75) (daX4_posts_0 47 rfl) ?_
          obtain ⟨y18, hy18, h⟩ := lt_inv h
          refine GM_top hy18 ?_
          refine GM_istore (L' := [(5, (0, y18)), (4, (0, r17)), (0, (3, v0)), (1, (0, v1)), (2, (0, v2)), (3, (0, v3))]) (pc := 76) (daX4_posts_0 48 rfl) (Nat.le_of_ble_eq_true rfl) rfl ?_
          refine GM_iload (pc := 78) 1 rfl (daX4_posts_0 49 rfl) ?_
          refine GM_if_ne (pc := 80) 90 (daX4_posts_0 50 rfl) rfl (fun c19 => ?_) (fun c19 => ?_)
          · skip
            rw [if_neg c19] at h
            refine GM_pick [2, 3, 4, 5, 1, 0] rfl ?_
            exact gX4_posts_90 l h hK
          · skip
            rw [if_pos c19] at h
            refine GM_iload (pc := 83) 0 rfl (daX4_posts_0 51 rfl) ?_
            refine GM_if_ne (pc := 85) 90 (daX4_posts_0 52 rfl) rfl (fun c20 => ?_) (fun c20 => ?_)
            · skip
              rw [if_neg c20] at h
              refine GM_pick [2, 3, 4, 5, 1, 0] rfl ?_
              exact gX4_posts_90 l h hK
            · skip
              rw [if_pos c20] at h
              refine GM_pick [] rfl ?_
              cases h
              exact hK
        · skip
          rw [if_neg c16] at h
          refine GM_iinc (L' := [(2, (0, w32 (v2 + (-1)))), (0, (3, v0)), (1, (0, v1)), (3, (0, v3))]) (pc := 52) 2 rfl (daX4_posts_0 33 rfl) (Nat.le_of_ble_eq_true rfl) rfl ?_
          refine GM_goto (pc := 55) 124 (daX4_posts_0 34 rfl) rfl ?_
          refine GM_iinc (L' := [(3, (0, w32 (v3 + 1))), (2, (0, w32 (v2 + (-1)))), (0, (3, v0)), (1, (0, v1))]) (pc := 124) 3 rfl (daX4_posts_1 10 rfl) (Nat.le_of_ble_eq_true rfl) rfl ?_
          refine GM_goto (pc := 127) 11 (daX4_posts_1 11 rfl) rfl ?_
          refine GM_pick [2, 3, 1, 0] rfl ?_
          cases h
          exact hK
set_option maxRecDepth 20000 in
theorem gX4_posts_0 (l : Launch) {F : FI} {v0 v1 : Int} {μ : Mm} {t : (Int × Mm)} (h : fX4_posts v0 v1 μ = some t) (hK : F.1 = [(0, t.1)] ∧ F.2.1 = t.2) : GM l mX4_posts F 0 0 0 [(0, (3, v0)), (1, (0, v1))] [] μ := by
  unfold fX4_posts at h
  refine GM_iconst (pc := 0) 0 (daX4_posts_0 0 rfl) rfl (R32_b rfl) ?_
  refine GM_istore_n (L' := [(2, (0, 0)), (0, (3, v0)), (1, (0, v1))]) (pc := 1) (daX4_posts_0 1 rfl) rfl (Nat.le_of_ble_eq_true rfl) rfl ?_
  refine GM_aload_n (pc := 2) 1 rfl (daX4_posts_0 2 rfl) rfl ?_
  obtain ⟨hc21, h⟩ := chk_inv h
  refine GM_getf (pc := 3) 4 2 3 2 kf_X4_9 (Nat.le_of_ble_eq_true rfl) (Nat.le_of_ble_eq_true rfl) rfl (daX4_posts_0 3 rfl) hc21 rfl ?_
  refine GM_iconst (pc := 6) 0 (daX4_posts_0 4 rfl) rfl (R32_b rfl) ?_
  refine GM_iconst (pc := 7) (-1) (daX4_posts_0 5 rfl) rfl (R32_b rfl) ?_
  obtain ⟨hc22, h⟩ := chk_inv h
  obtain ⟨μ23, hμ23, h⟩ := lm_inv h
  refine GM_iast (pc := 8) (daX4_posts_0 6 rfl) hc22.1 (by decide) hc22.2 ?_
  refine GM_mem hμ23 ?_
  refine GM_iconst (pc := 9) 0 (daX4_posts_0 7 rfl) rfl (R32_b rfl) ?_
  refine GM_istore_n (L' := [(3, (0, 0)), (2, (0, 0)), (0, (3, v0)), (1, (0, v1))]) (pc := 10) (daX4_posts_0 8 rfl) rfl (Nat.le_of_ble_eq_true rfl) rfl ?_
  refine GM_pick [2, 3, 1, 0] rfl ?_
  obtain ⟨x24, hqx24, h⟩ := Option.bind_eq_some_iff.mp h
  refine lop_ind (zX4_posts_11 l F v0 v1 0 0) (qX4_posts_11 l F v0 v1 0 0) FU _ x24 hqx24 ?_
  rcases x24 with μ_25 | μ_26
  · dsimp only at h
    show GM l mX4_posts F 0 0 130 [] [] μ_25
    refine GM_iconst (pc := 130) 0 (daX4_posts_1 12 rfl) rfl (R32_b rfl) ?_
    cases h
    exact GM_zret (pc := 131) (daX4_posts_1 13 rfl) rfl (Or.inl rfl) hK
  · dsimp only at h
    show GM l mX4_posts F 0 0 88 [] [] μ_26
    refine GM_iconst (pc := 88) 1 (daX4_posts_0 53 rfl) rfl (R32_b rfl) ?_
    cases h
    exact GM_zret (pc := 89) (daX4_posts_0 54 rfl) rfl (Or.inr rfl) hK
theorem tX4_posts (l : Launch) {v0 v1 : Int} {μ : Mm} {t : (Int × Mm)} (h : fX4_posts v0 v1 μ = some t) : Ct l yX4_posts mX4_posts [(3, v0), (0, v1)] μ ([(0, t.1)], t.2, 0, 0) :=
  Ct_of (by decide +kernel) rfl rfl (Nat.le_of_ble_eq_true rfl) (fun _ _ _ => trivial) (gX4_posts_0 l h ⟨rfl, rfl⟩)
def mX4_findGuards : MI := (RX4, cX4_findGuards, 6, (some .int), "findGuards", 4, 99, fun _ _ _ => True)
theorem cwX4_findGuards : CWd yX4_findGuards mX4_findGuards 0 := ⟨ki_X4, kk_X4_findGuards, ⟨by decide, by decide⟩, rfl⟩
def dtX4_findGuards_0 : List (Nat × Instr × Nat) := [(0, .aload_n 0, 1), (1, .getfield 30, 3), (4, .lconst 0, 1), (5, .invokestatic 66, 3), (8, .aload_n 0, 1), (9, .iconst 0, 1), (10, .putfield 72, 3), (13, .iconst 0, 1), (14, .istore_n 1, 1), (15, .iload_n 1, 1), (16, .aload_n 0, 1), (17, .getfield 37, 3), (20, .invokevirtual 75, 3), (23, .if_icmp .ge 95, 3), (26, .aload_n 0, 1), (27, .iload_n 1, 1), (28, .invokevirtual 80, 3), (31, .astore_n 2, 1), (32, .aload_n 0, 1), (33, .aload_n 0, 1), (34, .getfield 72, 3), (37, .aload_n 2, 1), (38, .invokevirtual 84, 3), (41, .iconst 1, 1), (42, .iadd, 1), (43, .invokestatic 87, 3), (46, .putfield 72, 3), (49, .iconst 0, 1), (50, .istore_n 3, 1), (51, .iload_n 3, 1), (52, .iconst 3, 1), (53, .if_icmp .ge 59, 3), (56, .iload_n 1, 1), (57, .bipush 6, 2), (59, .ishr, 1), (60, .iload_n 3, 1), (61, .if_icmp .ne 12, 3), (64, .lconst 1, 1), (65, .iload_n 1, 1), (66, .bipush 63, 2), (68, .iand, 1), (69, .lshl, 1), (70, .goto 4, 3), (73, .lconst 0, 1), (74, .lstore 4, 2), (76, .aload_n 0, 1), (77, .getfield 30, 3), (80, .iload_n 3, 1), (81, .dup2, 1), (82, .laload, 1), (83, .lload 4, 2), (85, .lor, 1), (86, .lastore, 1), (87, .aload_n 0, 1), (88, .getfield 26, 3), (91, .iload_n 1, 1), (92, .iconst 3, 1), (93, .imul, 1), (94, .iload_n 3, 1), (95, .iadd, 1), (96, .aload_n 2, 1), (97, .getfield 93, 3), (100, .iload_n 3, 1), (101, .laload, 1)]
theorem ddX4_findGuards_0 : (dtX4_findGuards_0.all fun e => decide (decode mX4_findGuards.2.1 e.1 = .ok (e.2.1, e.2.2))) = true := by decide +kernel
theorem daX4_findGuards_0 (j : Nat) {pc n : Nat} {i : Instr} (h : dtX4_findGuards_0[j]? = some (pc, i, n)) : decode mX4_findGuards.2.1 pc = .ok (i, n) := dec_of (c := mX4_findGuards.2.1) ddX4_findGuards_0 h
def dtX4_findGuards_1 : List (Nat × Instr × Nat) := [(102, .lload 4, 2), (104, .lor, 1), (105, .lastore, 1), (106, .iinc 3 1, 3), (109, .goto (-58), 3), (112, .iinc 1 1, 3), (115, .goto (-100), 3), (118, .iconst 1, 1), (119, .istore_n 1, 1), (120, .iload_n 1, 1), (121, .iconst 3, 1), (122, .if_icmp .gt 19, 3), (125, .aload_n 0, 1), (126, .iload_n 1, 1), (127, .invokevirtual 96, 3), (130, .ifCond .eq 5, 3), (133, .iload_n 1, 1), (134, .ireturn, 1), (135, .iinc 1 1, 3), (138, .goto (-18), 3), (141, .iconst (-1), 1), (142, .ireturn, 1)]
theorem ddX4_findGuards_1 : (dtX4_findGuards_1.all fun e => decide (decode mX4_findGuards.2.1 e.1 = .ok (e.2.1, e.2.2))) = true := by decide +kernel
theorem daX4_findGuards_1 (j : Nat) {pc n : Nat} {i : Instr} (h : dtX4_findGuards_1[j]? = some (pc, i, n)) : decode mX4_findGuards.2.1 pc = .ok (i, n) := dec_of (c := mX4_findGuards.2.1) ddX4_findGuards_1 h
def jX4_findGuards_74 (v0 v1 v2 v3 s0 : Int) (μ : Mm) : Option ((Int × Mm) ⊕ Mm) :=
  chk (KD v0 = 4) (
  chk (KD (μ v0 7) = 13 ∧ 0 ≤ v3 ∧ v3 < LN (μ v0 7)) (
  lm (mst μ (μ v0 7) v3 (lor (μ (μ v0 7) v3) s0)) fun μ3 =>
  chk (KD v2 = 7) (
  chk (KD (μ3 v2 9) = 13 ∧ v3 < LN (μ3 v2 9)) (
  chk (KD (μ3 v0 6) = 13 ∧ 0 ≤ w32 ((w32 (v1 * 3)) + v3) ∧ w32 ((w32 (v1 * 3)) + v3) < LN (μ3 v0 6)) (
  lm (mst μ3 (μ3 v0 6) (w32 ((w32 (v1 * 3)) + v3)) (lor (μ3 (μ3 v2 9) v3) s0)) fun μ7 =>
  some (.inl (w32 (v3 + 1), μ7)))))))
def zX4_findGuards_51 (l : Launch) (F : FI) (v0 v1 v2 : Int) (k n : Nat) : (Int × Mm) ⊕ Mm → Prop
  | .inl (v3, μ) => GM l mX4_findGuards F k n 51 [(0, (3, v0)), (1, (0, v1)), (2, (3, v2)), (3, (0, v3))] [] μ
  | .inr μ => GM l mX4_findGuards F k n 112 [(0, (3, v0)), (1, (0, v1))] [] μ
def sX4_findGuards_51 (v0 v1 v2 : Int) : (Int × Mm) → Option ((Int × Mm) ⊕ Mm) := fun (v3, μ) =>
  if 3 ≤ v3 then
    some (.inr μ)
  else
    if ishr v1 6 = v3 then
      jX4_findGuards_74 v0 v1 v2 v3 (lshl 1 (iand v1 63)) μ
    else
      jX4_findGuards_74 v0 v1 v2 v3 0 μ
def zX4_findGuards_15 (l : Launch) (F : FI) (v0 : Int) (k n : Nat) : (Int × Mm) ⊕ Mm → Prop
  | .inl (v1, μ) => GM l mX4_findGuards F k n 15 [(0, (3, v0)), (1, (0, v1))] [] μ
  | .inr μ => GM l mX4_findGuards F k n 118 [(0, (3, v0))] [] μ
def sX4_findGuards_15 (v0 : Int) : (Int × Mm) → Option (((Int × Mm) ⊕ Mm) × Nat × Nat) := fun (v1, μ) =>
  chk (KD v0 = 4) (
  chk (KD (μ v0 0) = 2) (
  (fX2_places (μ v0 0) μ).bind fun r12 =>
  if r12 ≤ v1 then
    some (.inr μ, 0, 0)
  else
    (fX4_lineOf v0 v1 μ).bind fun ((r14, μ14), c14, n14) =>
    pay c14 n14 (
    chk (KD r14 = 7) (
    (fX7_countShown r14 μ14).bind fun r17 =>
    lm (mst μ14 v0 10 (imax (μ14 v0 10) (w32 (r17 + 1)))) fun μ18 =>
    (lop (sX4_findGuards_51 v0 v1 r14) FU (0, μ18)).bind fun μ_20 =>
      some (.inl (w32 (v1 + 1), μ_20), 0, 0)))))
def zX4_findGuards_120 (l : Launch) (F : FI) (v0 : Int) (k n : Nat) : (Int × Mm) ⊕ (Mm ⊕ (Int × Mm)) → Prop
  | .inl (v1, μ) => GM l mX4_findGuards F k n 120 [(0, (3, v0)), (1, (0, v1))] [] μ
  | .inr (.inl μ) => GM l mX4_findGuards F k n 141 [] [] μ
  | .inr (.inr (v1, μ)) => GM l mX4_findGuards F k n 133 [(1, (0, v1))] [] μ
def sX4_findGuards_120 (v0 : Int) : (Int × Mm) → Option ((Int × Mm) ⊕ (Mm ⊕ (Int × Mm))) := fun (v1, μ) =>
  if 3 < v1 then
    some (.inr (.inl μ))
  else
    chk (KD v0 = 4) (
    (fX4_posts v0 v1 μ).bind fun (r23, μ23) =>
    if r23 = 0 then
      some (.inl (w32 (v1 + 1), μ23))
    else
      some (.inr (.inr (v1, μ23))))
def fX4_findGuards (v0 : Int) (μ : Mm) : Option ((Int × Mm) × Nat × Nat) :=
  chk (KD v0 = 4) (
  (fJ7_fill_d0a16 (μ v0 7) 0 μ).bind fun μ26 =>
  lm (mst μ26 v0 10 0) fun μ27 =>
  (lopA (sX4_findGuards_15 v0) FU (0, μ27)).bind fun (μ_29, ccx28, nnx28) =>
    pay ccx28 nnx28 (
    (lop (sX4_findGuards_120 v0) FU (1, μ_29)).bind fun x31 =>
      match x31 with
      | (.inl μ_32) =>
          some (((-1), μ_32), 0, 0)
      | (.inr (v1_33, μ_33)) =>
          some ((v1_33, μ_33), 0, 0)))
set_option maxRecDepth 20000 in
theorem gX4_findGuards_74 (l : Launch) {F : FI} {v0 v1 v2 v3 s0 : Int} {μ : Mm} {t : ((Int × Mm) ⊕ Mm)} {k n : Nat} (h : jX4_findGuards_74 v0 v1 v2 v3 s0 μ = some t) (hK : zX4_findGuards_51 l F v0 v1 v2 k n t) : GM l mX4_findGuards F k n 74 [(0, (3, v0)), (1, (0, v1)), (2, (3, v2)), (3, (0, v3))] [(2, s0)] μ := by
  unfold jX4_findGuards_74 at h
  refine GM_lstore (L' := [(4, (2, s0)), (0, (3, v0)), (1, (0, v1)), (2, (3, v2)), (3, (0, v3))]) (pc := 74) (daX4_findGuards_0 44 rfl) (Nat.le_of_ble_eq_true rfl) rfl ?_
  refine GM_aload_n (pc := 76) 1 rfl (daX4_findGuards_0 45 rfl) rfl ?_
  obtain ⟨hc1, h⟩ := chk_inv h
  refine GM_getf (pc := 77) 4 7 3 7 kf_X4_30 (Nat.le_of_ble_eq_true rfl) (Nat.le_of_ble_eq_true rfl) rfl (daX4_findGuards_0 46 rfl) hc1 rfl ?_
  refine GM_iload_n (pc := 80) 4 rfl (daX4_findGuards_0 47 rfl) rfl ?_
  refine GM_dup2 (pc := 81) (daX4_findGuards_0 48 rfl) (Nat.ne_of_beq_eq_false rfl) (Nat.ne_of_beq_eq_false rfl) ?_
  obtain ⟨hc2, h⟩ := chk_inv h
  refine GM_lald (pc := 82) (daX4_findGuards_0 49 rfl) hc2.1 hc2.2.1 hc2.2.2 ?_
  refine GM_lload (pc := 83) 0 rfl (daX4_findGuards_0 50 rfl) ?_
  refine GM_lor (pc := 85) (daX4_findGuards_0 51 rfl) ?_
  obtain ⟨μ3, hμ3, h⟩ := lm_inv h
  refine GM_last (pc := 86) (daX4_findGuards_0 52 rfl) hc2.1 hc2.2.1 hc2.2.2 ?_
  refine GM_mem hμ3 ?_
  refine GM_aload_n (pc := 87) 1 rfl (daX4_findGuards_0 53 rfl) rfl ?_
  refine GM_getf (pc := 88) 4 6 3 6 kf_X4_26 (Nat.le_of_ble_eq_true rfl) (Nat.le_of_ble_eq_true rfl) rfl (daX4_findGuards_0 54 rfl) hc1 rfl ?_
  refine GM_iload_n (pc := 91) 2 rfl (daX4_findGuards_0 55 rfl) rfl ?_
  refine GM_iconst (pc := 92) 3 (daX4_findGuards_0 56 rfl) rfl (R32_b rfl) ?_
  refine GM_imul (pc := 93) (daX4_findGuards_0 57 rfl) ?_
  refine GM_iload_n (pc := 94) 4 rfl (daX4_findGuards_0 58 rfl) rfl ?_
  refine GM_iadd (pc := 95) (daX4_findGuards_0 59 rfl) ?_
  refine GM_aload_n (pc := 96) 3 rfl (daX4_findGuards_0 60 rfl) rfl ?_
  obtain ⟨hc4, h⟩ := chk_inv h
  refine GM_getf (pc := 97) 7 9 3 9 kf_X4_93 (Nat.le_of_ble_eq_true rfl) (Nat.le_of_ble_eq_true rfl) rfl (daX4_findGuards_0 61 rfl) hc4 rfl ?_
  refine GM_iload_n (pc := 100) 4 rfl (daX4_findGuards_0 62 rfl) rfl ?_
  obtain ⟨hc5, h⟩ := chk_inv h
  refine GM_lald (pc := 101) (daX4_findGuards_0 63 rfl) hc5.1 hc2.2.1 hc5.2 ?_
  refine GM_lload (pc := 102) 0 rfl (daX4_findGuards_1 0 rfl) ?_
  refine GM_lor (pc := 104) (daX4_findGuards_1 1 rfl) ?_
  obtain ⟨hc6, h⟩ := chk_inv h
  obtain ⟨μ7, hμ7, h⟩ := lm_inv h
  refine GM_last (pc := 105) (daX4_findGuards_1 2 rfl) hc6.1 hc6.2.1 hc6.2.2 ?_
  refine GM_mem hμ7 ?_
  refine GM_iinc (L' := [(3, (0, w32 (v3 + 1))), (4, (2, s0)), (0, (3, v0)), (1, (0, v1)), (2, (3, v2))]) (pc := 106) 4 rfl (daX4_findGuards_1 3 rfl) (Nat.le_of_ble_eq_true rfl) rfl ?_
  refine GM_goto (pc := 109) 51 (daX4_findGuards_1 4 rfl) rfl ?_
  refine GM_pick [2, 3, 4, 0] rfl ?_
  cases h
  exact hK
set_option maxRecDepth 20000 in
theorem qX4_findGuards_51 (l : Launch) (F : FI) (v0 v1 v2 : Int) (k n : Nat) : ∀ (q : (Int × Mm)) (t : ((Int × Mm) ⊕ Mm)), sX4_findGuards_51 v0 v1 v2 q = some t → zX4_findGuards_51 l F v0 v1 v2 k n t → zX4_findGuards_51 l F v0 v1 v2 k n (.inl q) := by
  intro q t h hK
  obtain ⟨v3, μ⟩ := q
  unfold sX4_findGuards_51 at h
  try dsimp only at h
  show GM l mX4_findGuards F k n 51 [(0, (3, v0)), (1, (0, v1)), (2, (3, v2)), (3, (0, v3))] [] μ
  refine GM_iload_n (pc := 51) 3 rfl (daX4_findGuards_0 29 rfl) rfl ?_
  refine GM_iconst (pc := 52) 3 (daX4_findGuards_0 30 rfl) rfl (R32_b rfl) ?_
  refine GM_icmp_ge (pc := 53) 112 (daX4_findGuards_0 31 rfl) rfl (fun c8 => ?_) (fun c8 => ?_)
  · skip
    rw [if_pos c8] at h
    refine GM_pick [0, 1] rfl ?_
    cases h
    exact hK
  · skip
    rw [if_neg c8] at h
    refine GM_iload_n (pc := 56) 1 rfl (daX4_findGuards_0 32 rfl) rfl ?_
    refine GM_bipush (pc := 57) 6 (daX4_findGuards_0 33 rfl) rfl (R32_b rfl) ?_
    refine GM_ishr (pc := 59) (daX4_findGuards_0 34 rfl) ?_
    refine GM_iload_n (pc := 60) 3 rfl (daX4_findGuards_0 35 rfl) rfl ?_
    refine GM_icmp_ne (pc := 61) 73 (daX4_findGuards_0 36 rfl) rfl (fun c9 => ?_) (fun c9 => ?_)
    · skip
      rw [if_neg c9] at h
      refine GM_lconst (pc := 73) 0 (daX4_findGuards_0 43 rfl) rfl (R64_b rfl) ?_
      exact gX4_findGuards_74 l h hK
    · skip
      rw [if_pos c9] at h
      refine GM_lconst (pc := 64) 1 (daX4_findGuards_0 37 rfl) rfl (R64_b rfl) ?_
      refine GM_iload_n (pc := 65) 1 rfl (daX4_findGuards_0 38 rfl) rfl ?_
      refine GM_bipush (pc := 66) 63 (daX4_findGuards_0 39 rfl) rfl (R32_b rfl) ?_
      refine GM_iand (pc := 68) (daX4_findGuards_0 40 rfl) ?_
      refine GM_lshl (pc := 69) (daX4_findGuards_0 41 rfl) ?_
      refine GM_goto (pc := 70) 74 (daX4_findGuards_0 42 rfl) rfl ?_
      exact gX4_findGuards_74 l h hK
set_option maxRecDepth 20000 in
theorem qX4_findGuards_15 (l : Launch) (F : FI) (v0 : Int) : ∀ (q : (Int × Mm)) (t : ((Int × Mm) ⊕ Mm)) (c0 n0 : Nat), sX4_findGuards_15 v0 q = some (t, c0, n0) → ∀ k n, zX4_findGuards_15 l F v0 k n t → zX4_findGuards_15 l F v0 (c0 + k) (n0 + n) (.inl q) := by
  intro q t c0 n0 h k n hK
  obtain ⟨v1, μ⟩ := q
  unfold sX4_findGuards_15 at h
  try dsimp only at h
  show GM l mX4_findGuards F (c0 + k) (n0 + n) 15 [(0, (3, v0)), (1, (0, v1))] [] μ
  refine GM_iload_n (pc := 15) 1 rfl (daX4_findGuards_0 9 rfl) rfl ?_
  refine GM_aload_n (pc := 16) 0 rfl (daX4_findGuards_0 10 rfl) rfl ?_
  obtain ⟨hc10, h⟩ := chk_inv h
  refine GM_getf (pc := 17) 4 0 3 0 kf_X4_37 (Nat.le_of_ble_eq_true rfl) (Nat.le_of_ble_eq_true rfl) rfl (daX4_findGuards_0 11 rfl) hc10 rfl ?_
  obtain ⟨hc11, h⟩ := chk_inv h
  obtain ⟨r12, hf12, h⟩ := Option.bind_eq_some_iff.mp h
  refine GM_callV0 (pc := 20) [] (tX2_places l hf12) cwX2_places 2 (Nat.le_of_ble_eq_true rfl) rfl kv_X2_places ke_X2_places km_X4_75 hc11 ⟨Nat.le_of_ble_eq_true rfl, Nat.le_of_ble_eq_true rfl⟩ (Nat.le_of_ble_eq_true rfl) (Nat.le_of_ble_eq_true rfl) (daX4_findGuards_0 12 rfl) ?_
  refine GM_icmp_ge (pc := 23) 118 (daX4_findGuards_0 13 rfl) rfl (fun c13 => ?_) (fun c13 => ?_)
  · skip
    rw [if_pos c13] at h
    refine GM_pick [0] rfl ?_
    cases h
    rw [Nat.zero_add, Nat.zero_add]
    exact hK
  · skip
    rw [if_neg c13] at h
    refine GM_aload_n (pc := 26) 0 rfl (daX4_findGuards_0 14 rfl) rfl ?_
    refine GM_iload_n (pc := 27) 1 rfl (daX4_findGuards_0 15 rfl) rfl ?_
    obtain ⟨⟨⟨r14, μ14⟩, c14, n14⟩, hf14, h⟩ := Option.bind_eq_some_iff.mp h
    dsimp only at h
    obtain ⟨c15, n15, hp, e1, e2⟩ := pay_inv h
    subst e1 e2
    replace h := hp
    clear hp
    rw [Nat.add_assoc, Nat.add_assoc]
    refine GM_callV (pc := 28) [(0, v1)] (tX4_lineOf l hf14) cwX4_lineOf 4 (Nat.le_of_ble_eq_true rfl) rfl kv_X4_lineOf ke_X4_lineOf km_X4_80 hc10 ⟨Nat.le_of_ble_eq_true rfl, Nat.le_of_ble_eq_true rfl⟩ (Nat.le_of_ble_eq_true rfl) (Nat.le_of_ble_eq_true rfl) (daX4_findGuards_0 16 rfl) ?_
    refine GM_astore_n (L' := [(2, (3, r14)), (0, (3, v0)), (1, (0, v1))]) (pc := 31) (daX4_findGuards_0 17 rfl) rfl (Nat.le_of_ble_eq_true rfl) rfl ?_
    refine GM_aload_n (pc := 32) 1 rfl (daX4_findGuards_0 18 rfl) rfl ?_
    refine GM_aload_n (pc := 33) 1 rfl (daX4_findGuards_0 19 rfl) rfl ?_
    refine GM_getf (pc := 34) 4 10 0 10 kf_X4_72 (Nat.le_of_ble_eq_true rfl) (Nat.le_of_ble_eq_true rfl) rfl (daX4_findGuards_0 20 rfl) hc10 rfl ?_
    refine GM_aload_n (pc := 37) 0 rfl (daX4_findGuards_0 21 rfl) rfl ?_
    obtain ⟨hc16, h⟩ := chk_inv h
    obtain ⟨r17, hf17, h⟩ := Option.bind_eq_some_iff.mp h
    refine GM_callV0 (pc := 38) [] (tX7_countShown l hf17) cwX7_countShown 7 (Nat.le_of_ble_eq_true rfl) rfl kv_X7_countShown ke_X7_countShown km_X4_84 hc16 ⟨Nat.le_of_ble_eq_true rfl, Nat.le_of_ble_eq_true rfl⟩ (Nat.le_of_ble_eq_true rfl) (Nat.le_of_ble_eq_true rfl) (daX4_findGuards_0 22 rfl) ?_
    refine GM_iconst (pc := 41) 1 (daX4_findGuards_0 23 rfl) rfl (R32_b rfl) ?_
    refine GM_iadd (pc := 42) (daX4_findGuards_0 24 rfl) ?_
    refine GM_callS0 (pc := 43) [(0, μ14 v0 10), (0, w32 (r17 + 1))] (tJ9_max_7cf53 l (fJ9_max_eq (μ14 v0 10) (w32 (r17 + 1)))) cwJ9_max_7cf53 ks_J9_max_7cf53 km_X4_87 ⟨Nat.le_of_ble_eq_true rfl, Nat.le_of_ble_eq_true rfl⟩ (Nat.le_of_ble_eq_true rfl) (Nat.le_of_ble_eq_true rfl) (daX4_findGuards_0 25 rfl) ?_
    obtain ⟨μ18, hμ18, h⟩ := lm_inv h
    refine GM_putf (pc := 46) 4 10 0 kf_X4_72 (Nat.le_of_ble_eq_true rfl) (Nat.le_of_ble_eq_true rfl) rfl rfl (daX4_findGuards_0 26 rfl) hc10 (fun q => absurd q (by decide)) ?_
    refine GM_mem hμ18 ?_
    refine GM_iconst (pc := 49) 0 (daX4_findGuards_0 27 rfl) rfl (R32_b rfl) ?_
    refine GM_istore_n (L' := [(3, (0, 0)), (2, (3, r14)), (0, (3, v0)), (1, (0, v1))]) (pc := 50) (daX4_findGuards_0 28 rfl) rfl (Nat.le_of_ble_eq_true rfl) rfl ?_
    refine GM_pick [2, 3, 1, 0] rfl ?_
    obtain ⟨x19, hqx19, h⟩ := Option.bind_eq_some_iff.mp h
    refine lop_ind (zX4_findGuards_51 l F v0 v1 r14 (c15 + k) (n15 + n)) (qX4_findGuards_51 l F v0 v1 r14 (c15 + k) (n15 + n)) FU _ x19 hqx19 ?_
    obtain ⟨μ_20, hqq⟩ : ∃ z, z = x19 := ⟨x19, rfl⟩
    subst hqq
    show GM l mX4_findGuards F (c15 + k) (n15 + n) 112 [(0, (3, v0)), (1, (0, v1))] [] μ_20
    refine GM_iinc (L' := [(1, (0, w32 (v1 + 1))), (0, (3, v0))]) (pc := 112) 1 rfl (daX4_findGuards_1 5 rfl) (Nat.le_of_ble_eq_true rfl) rfl ?_
    refine GM_goto (pc := 115) 15 (daX4_findGuards_1 6 rfl) rfl ?_
    refine GM_pick [1, 0] rfl ?_
    cases h
    rw [Nat.zero_add, Nat.zero_add]
    exact hK
set_option maxRecDepth 20000 in
theorem qX4_findGuards_120 (l : Launch) (F : FI) (v0 : Int) (k n : Nat) : ∀ (q : (Int × Mm)) (t : ((Int × Mm) ⊕ (Mm ⊕ (Int × Mm)))), sX4_findGuards_120 v0 q = some t → zX4_findGuards_120 l F v0 k n t → zX4_findGuards_120 l F v0 k n (.inl q) := by
  intro q t h hK
  obtain ⟨v1, μ⟩ := q
  unfold sX4_findGuards_120 at h
  try dsimp only at h
  show GM l mX4_findGuards F k n 120 [(0, (3, v0)), (1, (0, v1))] [] μ
  refine GM_iload_n (pc := 120) 1 rfl (daX4_findGuards_1 9 rfl) rfl ?_
  refine GM_iconst (pc := 121) 3 (daX4_findGuards_1 10 rfl) rfl (R32_b rfl) ?_
  refine GM_icmp_gt (pc := 122) 141 (daX4_findGuards_1 11 rfl) rfl (fun c21 => ?_) (fun c21 => ?_)
  · skip
    rw [if_pos c21] at h
    refine GM_pick [] rfl ?_
    cases h
    exact hK
  · skip
    rw [if_neg c21] at h
    refine GM_aload_n (pc := 125) 0 rfl (daX4_findGuards_1 12 rfl) rfl ?_
    refine GM_iload_n (pc := 126) 1 rfl (daX4_findGuards_1 13 rfl) rfl ?_
    obtain ⟨hc22, h⟩ := chk_inv h
    obtain ⟨⟨r23, μ23⟩, hf23, h⟩ := Option.bind_eq_some_iff.mp h
    dsimp only at h
    refine GM_callV0 (pc := 127) [(0, v1)] (tX4_posts l hf23) cwX4_posts 4 (Nat.le_of_ble_eq_true rfl) rfl kv_X4_posts ke_X4_posts km_X4_96 hc22 ⟨Nat.le_of_ble_eq_true rfl, Nat.le_of_ble_eq_true rfl⟩ (Nat.le_of_ble_eq_true rfl) (Nat.le_of_ble_eq_true rfl) (daX4_findGuards_1 14 rfl) ?_
    refine GM_if_eq (pc := 130) 135 (daX4_findGuards_1 15 rfl) rfl (fun c24 => ?_) (fun c24 => ?_)
    · skip
      rw [if_pos c24] at h
      refine GM_iinc (L' := [(1, (0, w32 (v1 + 1))), (0, (3, v0))]) (pc := 135) 1 rfl (daX4_findGuards_1 18 rfl) (Nat.le_of_ble_eq_true rfl) rfl ?_
      refine GM_goto (pc := 138) 120 (daX4_findGuards_1 19 rfl) rfl ?_
      refine GM_pick [1, 0] rfl ?_
      cases h
      exact hK
    · skip
      rw [if_neg c24] at h
      refine GM_pick [1] rfl ?_
      cases h
      exact hK
set_option maxRecDepth 20000 in
theorem gX4_findGuards_0 (l : Launch) {F : FI} {v0 : Int} {μ : Mm} {t : (Int × Mm)} {c0 n0 k n : Nat} (h : fX4_findGuards v0 μ = some (t, c0, n0)) (hK : F.1 = [(0, t.1)] ∧ F.2.1 = t.2) : GM l mX4_findGuards F (c0 + k) (n0 + n) 0 [(0, (3, v0))] [] μ := by
  unfold fX4_findGuards at h
  refine GM_aload_n (pc := 0) 0 rfl (daX4_findGuards_0 0 rfl) rfl ?_
  obtain ⟨hc25, h⟩ := chk_inv h
  refine GM_getf (pc := 1) 4 7 3 7 kf_X4_30 (Nat.le_of_ble_eq_true rfl) (Nat.le_of_ble_eq_true rfl) rfl (daX4_findGuards_0 1 rfl) hc25 rfl ?_
  refine GM_lconst (pc := 4) 0 (daX4_findGuards_0 2 rfl) rfl (R64_b rfl) ?_
  obtain ⟨μ26, hf26, h⟩ := Option.bind_eq_some_iff.mp h
  refine GM_callS0 (pc := 5) [(3, μ v0 7), (2, 0)] (tJ7_fill_d0a16 l hf26) cwJ7_fill_d0a16 ks_J7_fill_d0a16 km_X4_66 ⟨Nat.le_of_ble_eq_true rfl, Nat.le_of_ble_eq_true rfl⟩ (Nat.le_of_ble_eq_true rfl) (Nat.le_of_ble_eq_true rfl) (daX4_findGuards_0 3 rfl) ?_
  refine GM_aload_n (pc := 8) 0 rfl (daX4_findGuards_0 4 rfl) rfl ?_
  refine GM_iconst (pc := 9) 0 (daX4_findGuards_0 5 rfl) rfl (R32_b rfl) ?_
  obtain ⟨μ27, hμ27, h⟩ := lm_inv h
  refine GM_putf (pc := 10) 4 10 0 kf_X4_72 (Nat.le_of_ble_eq_true rfl) (Nat.le_of_ble_eq_true rfl) rfl rfl (daX4_findGuards_0 6 rfl) hc25 (fun q => absurd q (by decide)) ?_
  refine GM_mem hμ27 ?_
  refine GM_iconst (pc := 13) 0 (daX4_findGuards_0 7 rfl) rfl (R32_b rfl) ?_
  refine GM_istore_n (L' := [(1, (0, 0)), (0, (3, v0))]) (pc := 14) (daX4_findGuards_0 8 rfl) rfl (Nat.le_of_ble_eq_true rfl) rfl ?_
  refine GM_pick [1, 0] rfl ?_
  obtain ⟨x28, hqx28, h⟩ := Option.bind_eq_some_iff.mp h
  obtain ⟨x28, ccx28, nnx28⟩ := x28
  dsimp only at h
  obtain ⟨c30, n30, hp, e1, e2⟩ := pay_inv h
  subst e1 e2
  replace h := hp
  clear hp
  rw [Nat.add_assoc, Nat.add_assoc]
  refine lopA_ind (fun k n => zX4_findGuards_15 l F v0 k n) (qX4_findGuards_15 l F v0) FU _ x28 _ _ hqx28 _ _ ?_
  obtain ⟨μ_29, hqq⟩ : ∃ z, z = x28 := ⟨x28, rfl⟩
  subst hqq
  show GM l mX4_findGuards F (c30 + k) (n30 + n) 118 [(0, (3, v0))] [] μ_29
  refine GM_iconst (pc := 118) 1 (daX4_findGuards_1 7 rfl) rfl (R32_b rfl) ?_
  refine GM_istore_n (L' := [(1, (0, 1)), (0, (3, v0))]) (pc := 119) (daX4_findGuards_1 8 rfl) rfl (Nat.le_of_ble_eq_true rfl) rfl ?_
  refine GM_pick [1, 0] rfl ?_
  obtain ⟨x31, hqx31, h⟩ := Option.bind_eq_some_iff.mp h
  refine lop_ind (zX4_findGuards_120 l F v0 (c30 + k) (n30 + n)) (qX4_findGuards_120 l F v0 (c30 + k) (n30 + n)) FU _ x31 hqx31 ?_
  rcases x31 with μ_32 | ⟨v1_33, μ_33⟩
  · dsimp only at h
    show GM l mX4_findGuards F (c30 + k) (n30 + n) 141 [] [] μ_32
    refine GM_iconst (pc := 141) (-1) (daX4_findGuards_1 20 rfl) rfl (R32_b rfl) ?_
    cases h
    exact GM_iret (pc := 142) (daX4_findGuards_1 21 rfl) rfl hK
  · dsimp only at h
    show GM l mX4_findGuards F (c30 + k) (n30 + n) 133 [(1, (0, v1_33))] [] μ_33
    refine GM_iload_n (pc := 133) 0 rfl (daX4_findGuards_1 16 rfl) rfl ?_
    cases h
    exact GM_iret (pc := 134) (daX4_findGuards_1 17 rfl) rfl hK
theorem tX4_findGuards (l : Launch) {v0 : Int} {μ : Mm} {t : (Int × Mm)} {c0 n0 : Nat} (h : fX4_findGuards v0 μ = some (t, c0, n0)) : Ct l yX4_findGuards mX4_findGuards [(3, v0)] μ ([(0, t.1)], t.2, c0, n0) :=
  Ct_of (by decide +kernel) rfl rfl (Nat.le_of_ble_eq_true rfl) (fun _ _ _ => trivial) (gX4_findGuards_0 (k := 0) (n := 0) l h ⟨rfl, rfl⟩)
def mX4_guardCount : MI := (RX4, cX4_guardCount, 1, (some .int), "guardCount", 5, 124, fun _ _ _ => True)
theorem cwX4_guardCount : CWd yX4_guardCount mX4_guardCount 0 := ⟨ki_X4, kk_X4_guardCount, ⟨by decide, by decide⟩, rfl⟩
def dtX4_guardCount_0 : List (Nat × Instr × Nat) := [(0, .aload_n 0, 1), (1, .getfield 33, 3), (4, .aload_n 0, 1), (5, .getfield 48, 3), (8, .if_icmp .eq 19, 3), (11, .aload_n 0, 1), (12, .aload_n 0, 1), (13, .invokevirtual 59, 3), (16, .putfield 63, 3), (19, .aload_n 0, 1), (20, .aload_n 0, 1), (21, .getfield 48, 3), (24, .putfield 33, 3), (27, .aload_n 0, 1), (28, .getfield 63, 3), (31, .ireturn, 1)]
theorem ddX4_guardCount_0 : (dtX4_guardCount_0.all fun e => decide (decode mX4_guardCount.2.1 e.1 = .ok (e.2.1, e.2.2))) = true := by decide +kernel
theorem daX4_guardCount_0 (j : Nat) {pc n : Nat} {i : Instr} (h : dtX4_guardCount_0[j]? = some (pc, i, n)) : decode mX4_guardCount.2.1 pc = .ok (i, n) := dec_of (c := mX4_guardCount.2.1) ddX4_guardCount_0 h
def fX4_guardCount (v0 : Int) (μ : Mm) : Option ((Int × Mm) × Nat × Nat) :=
  chk (KD v0 = 4) (
  if μ v0 9 = μ v0 1 then
    some ((μ v0 8, μ), 0, 0)
  else
    (fX4_findGuards v0 μ).bind fun ((r3, μ3), c3, n3) =>
    pay c3 n3 (
    lm (mst μ3 v0 8 r3) fun μ5 =>
    lm (mst μ5 v0 9 (μ5 v0 1)) fun μ6 =>
    some ((μ6 v0 8, μ6), 0, 0)))
set_option maxRecDepth 20000 in
theorem gX4_guardCount_0 (l : Launch) {F : FI} {v0 : Int} {μ : Mm} {t : (Int × Mm)} {c0 n0 k n : Nat} (h : fX4_guardCount v0 μ = some (t, c0, n0)) (hK : F.1 = [(0, t.1)] ∧ F.2.1 = t.2) : GM l mX4_guardCount F (c0 + k) (n0 + n) 0 [(0, (3, v0))] [] μ := by
  unfold fX4_guardCount at h
  refine GM_aload_n (pc := 0) 0 rfl (daX4_guardCount_0 0 rfl) rfl ?_
  obtain ⟨hc1, h⟩ := chk_inv h
  refine GM_getf (pc := 1) 4 9 0 9 kf_X4_33 (Nat.le_of_ble_eq_true rfl) (Nat.le_of_ble_eq_true rfl) rfl (daX4_guardCount_0 1 rfl) hc1 rfl ?_
  refine GM_aload_n (pc := 4) 0 rfl (daX4_guardCount_0 2 rfl) rfl ?_
  refine GM_getf (pc := 5) 4 1 0 1 kf_X4_48 (Nat.le_of_ble_eq_true rfl) (Nat.le_of_ble_eq_true rfl) rfl (daX4_guardCount_0 3 rfl) hc1 rfl ?_
  refine GM_icmp_eq (pc := 8) 27 (daX4_guardCount_0 4 rfl) rfl (fun c2 => ?_) (fun c2 => ?_)
  · skip
    rw [if_pos c2] at h
    refine GM_aload_n (pc := 27) 0 rfl (daX4_guardCount_0 13 rfl) rfl ?_
    refine GM_getf (pc := 28) 4 8 0 8 kf_X4_63 (Nat.le_of_ble_eq_true rfl) (Nat.le_of_ble_eq_true rfl) rfl (daX4_guardCount_0 14 rfl) hc1 rfl ?_
    cases h
    exact GM_iret (pc := 31) (daX4_guardCount_0 15 rfl) rfl hK
  · skip
    rw [if_neg c2] at h
    refine GM_aload_n (pc := 11) 0 rfl (daX4_guardCount_0 5 rfl) rfl ?_
    refine GM_aload_n (pc := 12) 0 rfl (daX4_guardCount_0 6 rfl) rfl ?_
    obtain ⟨⟨⟨r3, μ3⟩, c3, n3⟩, hf3, h⟩ := Option.bind_eq_some_iff.mp h
    dsimp only at h
    obtain ⟨c4, n4, hp, e1, e2⟩ := pay_inv h
    subst e1 e2
    replace h := hp
    clear hp
    rw [Nat.add_assoc, Nat.add_assoc]
    refine GM_callV (pc := 13) [] (tX4_findGuards l hf3) cwX4_findGuards 4 (Nat.le_of_ble_eq_true rfl) rfl kv_X4_findGuards ke_X4_findGuards km_X4_59 hc1 ⟨Nat.le_of_ble_eq_true rfl, Nat.le_of_ble_eq_true rfl⟩ (Nat.le_of_ble_eq_true rfl) (Nat.le_of_ble_eq_true rfl) (daX4_guardCount_0 7 rfl) ?_
    obtain ⟨μ5, hμ5, h⟩ := lm_inv h
    refine GM_putf (pc := 16) 4 8 0 kf_X4_63 (Nat.le_of_ble_eq_true rfl) (Nat.le_of_ble_eq_true rfl) rfl rfl (daX4_guardCount_0 8 rfl) hc1 (fun q => absurd q (by decide)) ?_
    refine GM_mem hμ5 ?_
    refine GM_aload_n (pc := 19) 0 rfl (daX4_guardCount_0 9 rfl) rfl ?_
    refine GM_aload_n (pc := 20) 0 rfl (daX4_guardCount_0 10 rfl) rfl ?_
    refine GM_getf (pc := 21) 4 1 0 1 kf_X4_48 (Nat.le_of_ble_eq_true rfl) (Nat.le_of_ble_eq_true rfl) rfl (daX4_guardCount_0 11 rfl) hc1 rfl ?_
    obtain ⟨μ6, hμ6, h⟩ := lm_inv h
    refine GM_putf (pc := 24) 4 9 0 kf_X4_33 (Nat.le_of_ble_eq_true rfl) (Nat.le_of_ble_eq_true rfl) rfl rfl (daX4_guardCount_0 12 rfl) hc1 (fun q => absurd q (by decide)) ?_
    refine GM_mem hμ6 ?_
    refine GM_aload_n (pc := 27) 0 rfl (daX4_guardCount_0 13 rfl) rfl ?_
    refine GM_getf (pc := 28) 4 8 0 8 kf_X4_63 (Nat.le_of_ble_eq_true rfl) (Nat.le_of_ble_eq_true rfl) rfl (daX4_guardCount_0 14 rfl) hc1 rfl ?_
    cases h
    exact GM_iret (pc := 31) (daX4_guardCount_0 15 rfl) rfl hK
theorem tX4_guardCount (l : Launch) {v0 : Int} {μ : Mm} {t : (Int × Mm)} {c0 n0 : Nat} (h : fX4_guardCount v0 μ = some (t, c0, n0)) : Ct l yX4_guardCount mX4_guardCount [(3, v0)] μ ([(0, t.1)], t.2, c0, n0) :=
  Ct_of (by decide +kernel) rfl rfl (Nat.le_of_ble_eq_true rfl) (fun _ _ _ => trivial) (gX4_guardCount_0 (k := 0) (n := 0) l h ⟨rfl, rfl⟩)
def mX9_init : MI := (RX9, cX9_init, 1, none, "<init>", 2, 36, fun _ _ _ => True)
theorem cwX9_init : CWd yX9_init mX9_init 0 := ⟨ki_X9, kk_X9_init, ⟨by decide, by decide⟩, rfl⟩
def dtX9_init_0 : List (Nat × Instr × Nat) := [(0, .aload_n 0, 1), (1, .invokespecial 3, 3), (4, .aload_n 0, 1), (5, .new 9, 3), (8, .dup, 1), (9, .invokespecial 11, 3), (12, .putfield 12, 3), (15, .aload_n 0, 1), (16, .sipush 144, 3), (19, .newarray .boolean, 2), (21, .putfield 18, 3), (24, .aload_n 0, 1), (25, .sipush 144, 3), (28, .newarray .int, 2), (30, .putfield 22, 3), (33, .aload_n 0, 1), (34, .sipush 144, 3), (37, .newarray .int, 2), (39, .putfield 26, 3), (42, .aload_n 0, 1), (43, .sipush 144, 3), (46, .newarray .int, 2), (48, .putfield 29, 3), (51, .return_, 1)]
theorem ddX9_init_0 : (dtX9_init_0.all fun e => decide (decode mX9_init.2.1 e.1 = .ok (e.2.1, e.2.2))) = true := by decide +kernel
theorem daX9_init_0 (j : Nat) {pc n : Nat} {i : Instr} (h : dtX9_init_0[j]? = some (pc, i, n)) : decode mX9_init.2.1 pc = .ok (i, n) := dec_of (c := mX9_init.2.1) ddX9_init_0 h
def fX9_init (v0 : Int) (μ : Mm) : Option (Mm × Nat × Nat) :=
  chk (v0 ≠ 0) (
  chk (KD (v0 + 10) = 2 ∧ μ 0 (v0 + 10) = 0) (
  pay 1 11 (
  lm (mnw μ (v0 + 10)) fun μ4 =>
  chk (v0 + 10 ≠ 0) (
  (fX2_init (v0 + 10) μ4).bind fun (μ6, c6, n6) =>
  pay c6 n6 (
  chk (KD v0 = 9) (
  lm (mst μ6 v0 0 (v0 + 10)) fun μ9 =>
  chk (KD (v0 + 1) = 14 ∧ LN (v0 + 1) = 144 ∧ μ9 0 (v0 + 1) = 0) (
  pay 1 144 (
  lm (mnw μ9 (v0 + 1)) fun μ12 =>
  lm (mst μ12 v0 2 (v0 + 1)) fun μ13 =>
  chk (KD (v0 + 2) = 12 ∧ LN (v0 + 2) = 144 ∧ μ13 0 (v0 + 2) = 0) (
  pay 1 144 (
  lm (mnw μ13 (v0 + 2)) fun μ16 =>
  lm (mst μ16 v0 3 (v0 + 2)) fun μ17 =>
  chk (KD (v0 + 3) = 12 ∧ LN (v0 + 3) = 144 ∧ μ17 0 (v0 + 3) = 0) (
  pay 1 144 (
  lm (mnw μ17 (v0 + 3)) fun μ20 =>
  lm (mst μ20 v0 4 (v0 + 3)) fun μ21 =>
  chk (KD (v0 + 4) = 12 ∧ LN (v0 + 4) = 144 ∧ μ21 0 (v0 + 4) = 0) (
  pay 1 144 (
  lm (mnw μ21 (v0 + 4)) fun μ24 =>
  lm (mst μ24 v0 5 (v0 + 4)) fun μ25 =>
  some (μ25, 0, 0)))))))))))))))
set_option maxRecDepth 20000 in
theorem gX9_init_0 (l : Launch) {F : FI} {v0 : Int} {μ : Mm} {t : Mm} {c0 n0 k n : Nat} (h : fX9_init v0 μ = some (t, c0, n0)) (hK : F.1 = [] ∧ F.2.1 = t) : GM l mX9_init F (c0 + k) (n0 + n) 0 [(0, (3, v0))] [] μ := by
  unfold fX9_init at h
  refine GM_aload_n (pc := 0) 0 rfl (daX9_init_0 0 rfl) rfl ?_
  obtain ⟨hc1, h⟩ := chk_inv h
  refine GM_objInit (pc := 1) km_X9_3 kv__java_lang_Object__init____V_ kk_obj (daX9_init_0 1 rfl) hc1 ⟨Nat.le_of_ble_eq_true rfl, Nat.le_of_ble_eq_true rfl⟩ ?_
  refine GM_aload_n (pc := 4) 0 rfl (daX9_init_0 2 rfl) rfl ?_
  obtain ⟨hc2, h⟩ := chk_inv h
  obtain ⟨c3, n3, hp, e1, e2⟩ := pay_inv h
  subst e1 e2
  replace h := hp
  clear hp
  rw [Nat.add_assoc, Nat.add_assoc]
  obtain ⟨μ4, hμ4, h⟩ := lm_inv h
  refine GM_new (pc := 5) 2 (v0 + 10) (by decide) kc_X9_9 (daX9_init_0 3 rfl) hc2.1 hc2.2 ?_
  refine GM_mem hμ4 ?_
  refine GM_dup (pc := 8) (daX9_init_0 4 rfl) (Nat.ne_of_beq_eq_false rfl) ?_
  obtain ⟨hc5, h⟩ := chk_inv h
  obtain ⟨⟨μ6, c6, n6⟩, hf6, h⟩ := Option.bind_eq_some_iff.mp h
  dsimp only at h
  obtain ⟨c7, n7, hp, e1, e2⟩ := pay_inv h
  subst e1 e2
  replace h := hp
  clear hp
  rw [Nat.add_assoc, Nat.add_assoc]
  refine GM_callIN (pc := 9) [] (tX2_init l hf6) cwX2_init "HillSketch" rfl rfl kv_X2_init (by decide) hc5 ⟨Nat.le_of_ble_eq_true rfl, Nat.le_of_ble_eq_true rfl⟩ (Nat.le_of_ble_eq_true rfl) (Nat.le_of_ble_eq_true rfl) (daX9_init_0 5 rfl) ?_
  obtain ⟨hc8, h⟩ := chk_inv h
  obtain ⟨μ9, hμ9, h⟩ := lm_inv h
  refine GM_putf (pc := 12) 9 0 3 kf_X9_12 (Nat.le_of_ble_eq_true rfl) (Nat.le_of_ble_eq_true rfl) rfl rfl (daX9_init_0 6 rfl) hc8 (fun q => absurd q (by decide)) ?_
  refine GM_mem hμ9 ?_
  refine GM_aload_n (pc := 15) 0 rfl (daX9_init_0 7 rfl) rfl ?_
  refine GM_sipush (pc := 16) 144 (daX9_init_0 8 rfl) rfl (R32_b rfl) ?_
  obtain ⟨hc10, h⟩ := chk_inv h
  obtain ⟨c11, n11, hp, e1, e2⟩ := pay_inv h
  subst e1 e2
  replace h := hp
  clear hp
  rw [Nat.add_assoc, Nat.add_assoc]
  obtain ⟨μ12, hμ12, h⟩ := lm_inv h
  refine GM_newz (pc := 19) (N := 144) (v0 + 1) (daX9_init_0 9 rfl) hc10.1 hc10.2.1 (Nat.le_of_ble_eq_true rfl) hc10.2.2 ?_
  refine GM_mem hμ12 ?_
  obtain ⟨μ13, hμ13, h⟩ := lm_inv h
  refine GM_putF (pc := 21) 9 2 3 kf_X9_18 (Nat.le_of_ble_eq_true rfl) (Nat.le_of_ble_eq_true rfl) rfl rfl rfl rfl (daX9_init_0 10 rfl) hc8 (fun q => absurd q (by decide)) ?_
  refine GM_mem hμ13 ?_
  refine GM_aload_n (pc := 24) 0 rfl (daX9_init_0 11 rfl) rfl ?_
  refine GM_sipush (pc := 25) 144 (daX9_init_0 12 rfl) rfl (R32_b rfl) ?_
  obtain ⟨hc14, h⟩ := chk_inv h
  obtain ⟨c15, n15, hp, e1, e2⟩ := pay_inv h
  subst e1 e2
  replace h := hp
  clear hp
  rw [Nat.add_assoc, Nat.add_assoc]
  obtain ⟨μ16, hμ16, h⟩ := lm_inv h
  refine GM_newi (pc := 28) (N := 144) (v0 + 2) (daX9_init_0 13 rfl) hc14.1 hc14.2.1 (Nat.le_of_ble_eq_true rfl) hc14.2.2 ?_
  refine GM_mem hμ16 ?_
  obtain ⟨μ17, hμ17, h⟩ := lm_inv h
  refine GM_putF (pc := 30) 9 3 3 kf_X9_22 (Nat.le_of_ble_eq_true rfl) (Nat.le_of_ble_eq_true rfl) rfl rfl rfl rfl (daX9_init_0 14 rfl) hc8 (fun q => absurd q (by decide)) ?_
  refine GM_mem hμ17 ?_
  refine GM_aload_n (pc := 33) 0 rfl (daX9_init_0 15 rfl) rfl ?_
  refine GM_sipush (pc := 34) 144 (daX9_init_0 16 rfl) rfl (R32_b rfl) ?_
  obtain ⟨hc18, h⟩ := chk_inv h
  obtain ⟨c19, n19, hp, e1, e2⟩ := pay_inv h
  subst e1 e2
  replace h := hp
  clear hp
  rw [Nat.add_assoc, Nat.add_assoc]
  obtain ⟨μ20, hμ20, h⟩ := lm_inv h
  refine GM_newi (pc := 37) (N := 144) (v0 + 3) (daX9_init_0 17 rfl) hc18.1 hc18.2.1 (Nat.le_of_ble_eq_true rfl) hc18.2.2 ?_
  refine GM_mem hμ20 ?_
  obtain ⟨μ21, hμ21, h⟩ := lm_inv h
  refine GM_putF (pc := 39) 9 4 3 kf_X9_26 (Nat.le_of_ble_eq_true rfl) (Nat.le_of_ble_eq_true rfl) rfl rfl rfl rfl (daX9_init_0 18 rfl) hc8 (fun q => absurd q (by decide)) ?_
  refine GM_mem hμ21 ?_
  refine GM_aload_n (pc := 42) 0 rfl (daX9_init_0 19 rfl) rfl ?_
  refine GM_sipush (pc := 43) 144 (daX9_init_0 20 rfl) rfl (R32_b rfl) ?_
  obtain ⟨hc22, h⟩ := chk_inv h
  obtain ⟨c23, n23, hp, e1, e2⟩ := pay_inv h
  subst e1 e2
  replace h := hp
  clear hp
  rw [Nat.add_assoc, Nat.add_assoc]
  obtain ⟨μ24, hμ24, h⟩ := lm_inv h
  refine GM_newi (pc := 46) (N := 144) (v0 + 4) (daX9_init_0 21 rfl) hc22.1 hc22.2.1 (Nat.le_of_ble_eq_true rfl) hc22.2.2 ?_
  refine GM_mem hμ24 ?_
  obtain ⟨μ25, hμ25, h⟩ := lm_inv h
  refine GM_putF (pc := 48) 9 5 3 kf_X9_29 (Nat.le_of_ble_eq_true rfl) (Nat.le_of_ble_eq_true rfl) rfl rfl rfl rfl (daX9_init_0 22 rfl) hc8 (fun q => absurd q (by decide)) ?_
  refine GM_mem hμ25 ?_
  cases h
  exact GM_vret (pc := 51) (daX9_init_0 23 rfl) rfl hK
theorem tX9_init (l : Launch) {v0 : Int} {μ : Mm} {t : Mm} {c0 n0 : Nat} (h : fX9_init v0 μ = some (t, c0, n0)) : Ct l yX9_init mX9_init [(3, v0)] μ ([], t, c0, n0) :=
  Ct_of (by decide +kernel) rfl rfl (Nat.le_of_ble_eq_true rfl) (fun _ _ _ => trivial) (gX9_init_0 (k := 0) (n := 0) l h ⟨rfl, rfl⟩)
def mX10_wipe : MI := (RX10, cX10_wipe, 2, none, "wipe", 0, 0, fun _ _ _ => True)
theorem cwX10_wipe : CWd yX10_wipe mX10_wipe 1 := ⟨ki_X10, kk_X10_wipe, ⟨by decide, by decide⟩, rfl⟩
def dtX10_wipe_0 : List (Nat × Instr × Nat) := [(0, .iconst 0, 1), (1, .istore_n 1, 1), (2, .iload_n 1, 1), (3, .aload_n 0, 1), (4, .arraylength, 1), (5, .if_icmp .ge 13, 3), (8, .aload_n 0, 1), (9, .iload_n 1, 1), (10, .iconst 0, 1), (11, .bastore, 1), (12, .iinc 1 1, 3), (15, .goto (-13), 3), (18, .return_, 1)]
theorem ddX10_wipe_0 : (dtX10_wipe_0.all fun e => decide (decode mX10_wipe.2.1 e.1 = .ok (e.2.1, e.2.2))) = true := by decide +kernel
theorem daX10_wipe_0 (j : Nat) {pc n : Nat} {i : Instr} (h : dtX10_wipe_0[j]? = some (pc, i, n)) : decode mX10_wipe.2.1 pc = .ok (i, n) := dec_of (c := mX10_wipe.2.1) ddX10_wipe_0 h
def zX10_wipe_2 (l : Launch) (F : FI) (v0 : Int) (k n : Nat) : (Int × Mm) ⊕ Mm → Prop
  | .inl (v1, μ) => GM l mX10_wipe F k n 2 [(0, (3, v0)), (1, (0, v1))] [] μ
  | .inr μ => GM l mX10_wipe F k n 18 [] [] μ
def sX10_wipe_2 (v0 : Int) : (Int × Mm) → Option ((Int × Mm) ⊕ Mm) := fun (v1, μ) =>
  chk (KD v0 = 14 ∧ 0 ≤ LN v0 ∧ LN v0 < 2147483648) (
  if LN v0 ≤ v1 then
    some (.inr μ)
  else
    chk (0 ≤ v1 ∧ v1 < LN v0) (
    lm (mst μ v0 v1 0) fun μ4 =>
    some (.inl (w32 (v1 + 1), μ4))))
def fX10_wipe (v0 : Int) (μ : Mm) : Option Mm :=
  (lop (sX10_wipe_2 v0) FU (0, μ)).bind fun μ_6 =>
    some μ_6
set_option maxRecDepth 20000 in
theorem qX10_wipe_2 (l : Launch) (F : FI) (v0 : Int) (k n : Nat) : ∀ (q : (Int × Mm)) (t : ((Int × Mm) ⊕ Mm)), sX10_wipe_2 v0 q = some t → zX10_wipe_2 l F v0 k n t → zX10_wipe_2 l F v0 k n (.inl q) := by
  intro q t h hK
  obtain ⟨v1, μ⟩ := q
  unfold sX10_wipe_2 at h
  try dsimp only at h
  show GM l mX10_wipe F k n 2 [(0, (3, v0)), (1, (0, v1))] [] μ
  refine GM_iload_n (pc := 2) 1 rfl (daX10_wipe_0 2 rfl) rfl ?_
  refine GM_aload_n (pc := 3) 0 rfl (daX10_wipe_0 3 rfl) rfl ?_
  obtain ⟨hc1, h⟩ := chk_inv h
  refine GM_zlen (pc := 4) (daX10_wipe_0 4 rfl) hc1.1 hc1.2.1 hc1.2.2 ?_
  refine GM_icmp_ge (pc := 5) 18 (daX10_wipe_0 5 rfl) rfl (fun c2 => ?_) (fun c2 => ?_)
  · skip
    rw [if_pos c2] at h
    refine GM_pick [] rfl ?_
    cases h
    exact hK
  · skip
    rw [if_neg c2] at h
    refine GM_aload_n (pc := 8) 0 rfl (daX10_wipe_0 6 rfl) rfl ?_
    refine GM_iload_n (pc := 9) 1 rfl (daX10_wipe_0 7 rfl) rfl ?_
    refine GM_iconst (pc := 10) 0 (daX10_wipe_0 8 rfl) rfl (R32_b rfl) ?_
    obtain ⟨hc3, h⟩ := chk_inv h
    obtain ⟨μ4, hμ4, h⟩ := lm_inv h
    refine GM_zast (pc := 11) (daX10_wipe_0 9 rfl) hc1.1 hc3.1 hc3.2 (Or.inl rfl) ?_
    refine GM_mem hμ4 ?_
    refine GM_iinc (L' := [(1, (0, w32 (v1 + 1))), (0, (3, v0))]) (pc := 12) 1 rfl (daX10_wipe_0 10 rfl) (Nat.le_of_ble_eq_true rfl) rfl ?_
    refine GM_goto (pc := 15) 2 (daX10_wipe_0 11 rfl) rfl ?_
    refine GM_pick [1, 0] rfl ?_
    cases h
    exact hK
set_option maxRecDepth 20000 in
theorem gX10_wipe_0 (l : Launch) {F : FI} {v0 : Int} {μ : Mm} {t : Mm} (h : fX10_wipe v0 μ = some t) (hK : F.1 = [] ∧ F.2.1 = t) : GM l mX10_wipe F 0 0 0 [(0, (3, v0))] [] μ := by
  unfold fX10_wipe at h
  refine GM_iconst (pc := 0) 0 (daX10_wipe_0 0 rfl) rfl (R32_b rfl) ?_
  refine GM_istore_n (L' := [(1, (0, 0)), (0, (3, v0))]) (pc := 1) (daX10_wipe_0 1 rfl) rfl (Nat.le_of_ble_eq_true rfl) rfl ?_
  refine GM_pick [1, 0] rfl ?_
  obtain ⟨x5, hqx5, h⟩ := Option.bind_eq_some_iff.mp h
  refine lop_ind (zX10_wipe_2 l F v0 0 0) (qX10_wipe_2 l F v0 0 0) FU _ x5 hqx5 ?_
  obtain ⟨μ_6, hqq⟩ : ∃ z, z = x5 := ⟨x5, rfl⟩
  subst hqq
  show GM l mX10_wipe F 0 0 18 [] [] μ_6
  cases h
  exact GM_vret (pc := 18) (daX10_wipe_0 12 rfl) rfl hK
theorem tX10_wipe (l : Launch) {v0 : Int} {μ : Mm} {t : Mm} (h : fX10_wipe v0 μ = some t) : Ct l yX10_wipe mX10_wipe [(3, v0)] μ ([], t, 0, 0) :=
  Ct_of (by decide +kernel) rfl rfl (Nat.le_of_ble_eq_true rfl) (fun _ _ _ => trivial) (gX10_wipe_0 l h ⟨rfl, rfl⟩)
def mX9_ready : MI := (RX9, cX9_ready, 3, none, "ready", 1, 23, fun _ _ _ => True)
theorem cwX9_ready : CWd yX9_ready mX9_ready 2 := ⟨ki_X9, kk_X9_ready, ⟨by decide, by decide⟩, rfl⟩
def dtX9_ready_0 : List (Nat × Instr × Nat) := [(0, .aload_n 0, 1), (1, .aload_n 1, 1), (2, .putfield 12, 3), (5, .aload_n 0, 1), (6, .iload_n 2, 1), (7, .putfield 32, 3), (10, .aload_n 0, 1), (11, .iconst 0, 1), (12, .putfield 36, 3), (15, .aload_n 0, 1), (16, .getfield 18, 3), (19, .invokestatic 39, 3), (22, .aload_n 0, 1), (23, .getfield 22, 3), (26, .iconst (-1), 1), (27, .invokestatic 43, 3), (30, .return_, 1)]
theorem ddX9_ready_0 : (dtX9_ready_0.all fun e => decide (decode mX9_ready.2.1 e.1 = .ok (e.2.1, e.2.2))) = true := by decide +kernel
theorem daX9_ready_0 (j : Nat) {pc n : Nat} {i : Instr} (h : dtX9_ready_0[j]? = some (pc, i, n)) : decode mX9_ready.2.1 pc = .ok (i, n) := dec_of (c := mX9_ready.2.1) ddX9_ready_0 h
def fX9_ready (v0 v1 v2 : Int) (μ : Mm) : Option Mm :=
  chk (KD v0 = 9) (
  lm (mst μ v0 0 v1) fun μ2 =>
  lm (mst μ2 v0 1 v2) fun μ3 =>
  lm (mst μ3 v0 6 0) fun μ4 =>
  (fX10_wipe (μ4 v0 2) μ4).bind fun μ5 =>
  (fJ7_fill_53178 (μ5 v0 3) (-1) μ5).bind fun μ6 =>
  some μ6)
set_option maxRecDepth 20000 in
theorem gX9_ready_0 (l : Launch) {F : FI} {v0 v1 v2 : Int} {μ : Mm} {t : Mm} (h : fX9_ready v0 v1 v2 μ = some t) (hK : F.1 = [] ∧ F.2.1 = t) : GM l mX9_ready F 0 0 0 [(0, (3, v0)), (1, (3, v1)), (2, (0, v2))] [] μ := by
  unfold fX9_ready at h
  refine GM_aload_n (pc := 0) 0 rfl (daX9_ready_0 0 rfl) rfl ?_
  refine GM_aload_n (pc := 1) 1 rfl (daX9_ready_0 1 rfl) rfl ?_
  obtain ⟨hc1, h⟩ := chk_inv h
  obtain ⟨μ2, hμ2, h⟩ := lm_inv h
  refine GM_putf (pc := 2) 9 0 3 kf_X9_12 (Nat.le_of_ble_eq_true rfl) (Nat.le_of_ble_eq_true rfl) rfl rfl (daX9_ready_0 2 rfl) hc1 (fun q => absurd q (by decide)) ?_
  refine GM_mem hμ2 ?_
  refine GM_aload_n (pc := 5) 0 rfl (daX9_ready_0 3 rfl) rfl ?_
  refine GM_iload_n (pc := 6) 2 rfl (daX9_ready_0 4 rfl) rfl ?_
  obtain ⟨μ3, hμ3, h⟩ := lm_inv h
  refine GM_putf (pc := 7) 9 1 0 kf_X9_32 (Nat.le_of_ble_eq_true rfl) (Nat.le_of_ble_eq_true rfl) rfl rfl (daX9_ready_0 5 rfl) hc1 (fun q => absurd q (by decide)) ?_
  refine GM_mem hμ3 ?_
  refine GM_aload_n (pc := 10) 0 rfl (daX9_ready_0 6 rfl) rfl ?_
  refine GM_iconst (pc := 11) 0 (daX9_ready_0 7 rfl) rfl (R32_b rfl) ?_
  obtain ⟨μ4, hμ4, h⟩ := lm_inv h
  refine GM_putf (pc := 12) 9 6 0 kf_X9_36 (Nat.le_of_ble_eq_true rfl) (Nat.le_of_ble_eq_true rfl) rfl rfl (daX9_ready_0 8 rfl) hc1 (fun q => absurd q (by decide)) ?_
  refine GM_mem hμ4 ?_
  refine GM_aload_n (pc := 15) 0 rfl (daX9_ready_0 9 rfl) rfl ?_
  refine GM_getf (pc := 16) 9 2 3 2 kf_X9_18 (Nat.le_of_ble_eq_true rfl) (Nat.le_of_ble_eq_true rfl) rfl (daX9_ready_0 10 rfl) hc1 rfl ?_
  obtain ⟨μ5, hf5, h⟩ := Option.bind_eq_some_iff.mp h
  refine GM_callSN0 (pc := 19) [(3, μ4 v0 2)] (tX10_wipe l hf5) cwX10_wipe "HillSketch" ks_X10_wipe (by decide) ⟨Nat.le_of_ble_eq_true rfl, Nat.le_of_ble_eq_true rfl⟩ (Nat.le_of_ble_eq_true rfl) (Nat.le_of_ble_eq_true rfl) (daX9_ready_0 11 rfl) ?_
  refine GM_aload_n (pc := 22) 0 rfl (daX9_ready_0 12 rfl) rfl ?_
  refine GM_getf (pc := 23) 9 3 3 3 kf_X9_22 (Nat.le_of_ble_eq_true rfl) (Nat.le_of_ble_eq_true rfl) rfl (daX9_ready_0 13 rfl) hc1 rfl ?_
  refine GM_iconst (pc := 26) (-1) (daX9_ready_0 14 rfl) rfl (R32_b rfl) ?_
  obtain ⟨μ6, hf6, h⟩ := Option.bind_eq_some_iff.mp h
  refine GM_callS0 (pc := 27) [(3, μ5 v0 3), (0, (-1))] (tJ7_fill_53178 l hf6) cwJ7_fill_53178 ks_J7_fill_53178 km_X9_43 ⟨Nat.le_of_ble_eq_true rfl, Nat.le_of_ble_eq_true rfl⟩ (Nat.le_of_ble_eq_true rfl) (Nat.le_of_ble_eq_true rfl) (daX9_ready_0 15 rfl) ?_
  cases h
  exact GM_vret (pc := 30) (daX9_ready_0 16 rfl) rfl hK
theorem tX9_ready (l : Launch) {v0 v1 v2 : Int} {μ : Mm} {t : Mm} (h : fX9_ready v0 v1 v2 μ = some t) : Ct l yX9_ready mX9_ready [(3, v0), (3, v1), (0, v2)] μ ([], t, 0, 0) :=
  Ct_of (by decide +kernel) rfl rfl (Nat.le_of_ble_eq_true rfl) (fun _ _ _ => trivial) (gX9_ready_0 l h ⟨rfl, rfl⟩)
def mX9_shutSeen : MI := (RX9, cX9_shutSeen, 4, none, "shutSeen", 1, 22, fun _ _ _ => True)
theorem cwX9_shutSeen : CWd yX9_shutSeen mX9_shutSeen 2 := ⟨ki_X9, kk_X9_shutSeen, ⟨by decide, by decide⟩, rfl⟩
def dtX9_shutSeen_0 : List (Nat × Instr × Nat) := [(0, .iconst 0, 1), (1, .istore_n 3, 1), (2, .iload_n 3, 1), (3, .sipush 144, 3), (6, .if_icmp .ge 33, 3), (9, .aload_n 0, 1), (10, .getfield 18, 3), (13, .iload_n 3, 1), (14, .iload_n 3, 1), (15, .iload_n 2, 1), (16, .if_icmp .eq 11, 3), (19, .aload_n 1, 1), (20, .iload_n 3, 1), (21, .invokevirtual 49, 3), (24, .ifCond .eq 7, 3), (27, .iconst 1, 1), (28, .goto 4, 3), (31, .iconst 0, 1), (32, .bastore, 1), (33, .iinc 3 1, 3), (36, .goto (-34), 3), (39, .return_, 1)]
theorem ddX9_shutSeen_0 : (dtX9_shutSeen_0.all fun e => decide (decode mX9_shutSeen.2.1 e.1 = .ok (e.2.1, e.2.2))) = true := by decide +kernel
theorem daX9_shutSeen_0 (j : Nat) {pc n : Nat} {i : Instr} (h : dtX9_shutSeen_0[j]? = some (pc, i, n)) : decode mX9_shutSeen.2.1 pc = .ok (i, n) := dec_of (c := mX9_shutSeen.2.1) ddX9_shutSeen_0 h
def zX9_shutSeen_2 (l : Launch) (F : FI) (v0 v1 v2 : Int) (k n : Nat) : (Int × Mm) ⊕ Mm → Prop
  | .inl (v3, μ) => GM l mX9_shutSeen F k n 2 [(0, (3, v0)), (1, (3, v1)), (2, (0, v2)), (3, (0, v3))] [] μ
  | .inr μ => GM l mX9_shutSeen F k n 39 [] [] μ
def sX9_shutSeen_2 (v0 v1 v2 : Int) : (Int × Mm) → Option ((Int × Mm) ⊕ Mm) := fun (v3, μ) =>
  if 144 ≤ v3 then
    some (.inr μ)
  else
    chk (KD v0 = 9) (
    if v3 = v2 then
      chk (KD (μ v0 2) = 14 ∧ 0 ≤ v3 ∧ v3 < LN (μ v0 2)) (
      lm (mst μ (μ v0 2) v3 1) fun μ5 =>
      some (.inl (w32 (v3 + 1), μ5)))
    else
      chk (KD v1 = 7) (
      (fX7_shows v1 v3 μ).bind fun r7 =>
      if r7 = 0 then
        chk (KD (μ v0 2) = 14 ∧ 0 ≤ v3 ∧ v3 < LN (μ v0 2)) (
        lm (mst μ (μ v0 2) v3 0) fun μ10 =>
        some (.inl (w32 (v3 + 1), μ10)))
      else
        chk (KD (μ v0 2) = 14 ∧ 0 ≤ v3 ∧ v3 < LN (μ v0 2)) (
        lm (mst μ (μ v0 2) v3 1) fun μ12 =>
        some (.inl (w32 (v3 + 1), μ12)))))
def fX9_shutSeen (v0 v1 v2 : Int) (μ : Mm) : Option Mm :=
  (lop (sX9_shutSeen_2 v0 v1 v2) FU (0, μ)).bind fun μ_14 =>
    some μ_14
set_option maxRecDepth 20000 in
theorem qX9_shutSeen_2 (l : Launch) (F : FI) (v0 v1 v2 : Int) (k n : Nat) : ∀ (q : (Int × Mm)) (t : ((Int × Mm) ⊕ Mm)), sX9_shutSeen_2 v0 v1 v2 q = some t → zX9_shutSeen_2 l F v0 v1 v2 k n t → zX9_shutSeen_2 l F v0 v1 v2 k n (.inl q) := by
  intro q t h hK
  obtain ⟨v3, μ⟩ := q
  unfold sX9_shutSeen_2 at h
  try dsimp only at h
  show GM l mX9_shutSeen F k n 2 [(0, (3, v0)), (1, (3, v1)), (2, (0, v2)), (3, (0, v3))] [] μ
  refine GM_iload_n (pc := 2) 3 rfl (daX9_shutSeen_0 2 rfl) rfl ?_
  refine GM_sipush (pc := 3) 144 (daX9_shutSeen_0 3 rfl) rfl (R32_b rfl) ?_
  refine GM_icmp_ge (pc := 6) 39 (daX9_shutSeen_0 4 rfl) rfl (fun c1 => ?_) (fun c1 => ?_)
  · skip
    rw [if_pos c1] at h
    refine GM_pick [] rfl ?_
    cases h
    exact hK
  · skip
    rw [if_neg c1] at h
    refine GM_aload_n (pc := 9) 0 rfl (daX9_shutSeen_0 5 rfl) rfl ?_
    obtain ⟨hc2, h⟩ := chk_inv h
    refine GM_getf (pc := 10) 9 2 3 2 kf_X9_18 (Nat.le_of_ble_eq_true rfl) (Nat.le_of_ble_eq_true rfl) rfl (daX9_shutSeen_0 6 rfl) hc2 rfl ?_
    refine GM_iload_n (pc := 13) 3 rfl (daX9_shutSeen_0 7 rfl) rfl ?_
    refine GM_iload_n (pc := 14) 3 rfl (daX9_shutSeen_0 8 rfl) rfl ?_
    refine GM_iload_n (pc := 15) 2 rfl (daX9_shutSeen_0 9 rfl) rfl ?_
    refine GM_icmp_eq (pc := 16) 27 (daX9_shutSeen_0 10 rfl) rfl (fun c3 => ?_) (fun c3 => ?_)
    · skip
      rw [if_pos c3] at h
      refine GM_iconst (pc := 27) 1 (daX9_shutSeen_0 15 rfl) rfl (R32_b rfl) ?_
      refine GM_goto (pc := 28) 32 (daX9_shutSeen_0 16 rfl) rfl ?_
      obtain ⟨hc4, h⟩ := chk_inv h
      obtain ⟨μ5, hμ5, h⟩ := lm_inv h
      refine GM_zast (pc := 32) (daX9_shutSeen_0 18 rfl) hc4.1 hc4.2.1 hc4.2.2 (Or.inr rfl) ?_
      refine GM_mem hμ5 ?_
      refine GM_iinc (L' := [(3, (0, w32 (v3 + 1))), (0, (3, v0)), (1, (3, v1)), (2, (0, v2))]) (pc := 33) 3 rfl (daX9_shutSeen_0 19 rfl) (Nat.le_of_ble_eq_true rfl) rfl ?_
      refine GM_goto (pc := 36) 2 (daX9_shutSeen_0 20 rfl) rfl ?_
      refine GM_pick [1, 2, 3, 0] rfl ?_
      cases h
      exact hK
    · skip
      rw [if_neg c3] at h
      refine GM_aload_n (pc := 19) 1 rfl (daX9_shutSeen_0 11 rfl) rfl ?_
      refine GM_iload_n (pc := 20) 3 rfl (daX9_shutSeen_0 12 rfl) rfl ?_
      obtain ⟨hc6, h⟩ := chk_inv h
      obtain ⟨r7, hf7, h⟩ := Option.bind_eq_some_iff.mp h
      refine GM_callV0 (pc := 21) [(0, v3)] (tX7_shows l hf7) cwX7_shows 7 (Nat.le_of_ble_eq_true rfl) rfl kv_X7_shows ke_X7_shows km_X9_49 hc6 ⟨Nat.le_of_ble_eq_true rfl, Nat.le_of_ble_eq_true rfl⟩ (Nat.le_of_ble_eq_true rfl) (Nat.le_of_ble_eq_true rfl) (daX9_shutSeen_0 13 rfl) ?_
      refine GM_if_eq (pc := 24) 31 (daX9_shutSeen_0 14 rfl) rfl (fun c8 => ?_) (fun c8 => ?_)
      · skip
        rw [if_pos c8] at h
        refine GM_iconst (pc := 31) 0 (daX9_shutSeen_0 17 rfl) rfl (R32_b rfl) ?_
        obtain ⟨hc9, h⟩ := chk_inv h
        obtain ⟨μ10, hμ10, h⟩ := lm_inv h
        refine GM_zast (pc := 32) (daX9_shutSeen_0 18 rfl) hc9.1 hc9.2.1 hc9.2.2 (Or.inl rfl) ?_
        refine GM_mem hμ10 ?_
        refine GM_iinc (L' := [(3, (0, w32 (v3 + 1))), (0, (3, v0)), (1, (3, v1)), (2, (0, v2))]) (pc := 33) 3 rfl (daX9_shutSeen_0 19 rfl) (Nat.le_of_ble_eq_true rfl) rfl ?_
        refine GM_goto (pc := 36) 2 (daX9_shutSeen_0 20 rfl) rfl ?_
        refine GM_pick [1, 2, 3, 0] rfl ?_
        cases h
        exact hK
      · skip
        rw [if_neg c8] at h
        refine GM_iconst (pc := 27) 1 (daX9_shutSeen_0 15 rfl) rfl (R32_b rfl) ?_
        refine GM_goto (pc := 28) 32 (daX9_shutSeen_0 16 rfl) rfl ?_
        obtain ⟨hc11, h⟩ := chk_inv h
        obtain ⟨μ12, hμ12, h⟩ := lm_inv h
        refine GM_zast (pc := 32) (daX9_shutSeen_0 18 rfl) hc11.1 hc11.2.1 hc11.2.2 (Or.inr rfl) ?_
        refine GM_mem hμ12 ?_
        refine GM_iinc (L' := [(3, (0, w32 (v3 + 1))), (0, (3, v0)), (1, (3, v1)), (2, (0, v2))]) (pc := 33) 3 rfl (daX9_shutSeen_0 19 rfl) (Nat.le_of_ble_eq_true rfl) rfl ?_
        refine GM_goto (pc := 36) 2 (daX9_shutSeen_0 20 rfl) rfl ?_
        refine GM_pick [1, 2, 3, 0] rfl ?_
        cases h
        exact hK
set_option maxRecDepth 20000 in
theorem gX9_shutSeen_0 (l : Launch) {F : FI} {v0 v1 v2 : Int} {μ : Mm} {t : Mm} (h : fX9_shutSeen v0 v1 v2 μ = some t) (hK : F.1 = [] ∧ F.2.1 = t) : GM l mX9_shutSeen F 0 0 0 [(0, (3, v0)), (1, (3, v1)), (2, (0, v2))] [] μ := by
  unfold fX9_shutSeen at h
  refine GM_iconst (pc := 0) 0 (daX9_shutSeen_0 0 rfl) rfl (R32_b rfl) ?_
  refine GM_istore_n (L' := [(3, (0, 0)), (0, (3, v0)), (1, (3, v1)), (2, (0, v2))]) (pc := 1) (daX9_shutSeen_0 1 rfl) rfl (Nat.le_of_ble_eq_true rfl) rfl ?_
  refine GM_pick [1, 2, 3, 0] rfl ?_
  obtain ⟨x13, hqx13, h⟩ := Option.bind_eq_some_iff.mp h
  refine lop_ind (zX9_shutSeen_2 l F v0 v1 v2 0 0) (qX9_shutSeen_2 l F v0 v1 v2 0 0) FU _ x13 hqx13 ?_
  obtain ⟨μ_14, hqq⟩ : ∃ z, z = x13 := ⟨x13, rfl⟩
  subst hqq
  show GM l mX9_shutSeen F 0 0 39 [] [] μ_14
  cases h
  exact GM_vret (pc := 39) (daX9_shutSeen_0 21 rfl) rfl hK
theorem tX9_shutSeen (l : Launch) {v0 v1 v2 : Int} {μ : Mm} {t : Mm} (h : fX9_shutSeen v0 v1 v2 μ = some t) : Ct l yX9_shutSeen mX9_shutSeen [(3, v0), (3, v1), (0, v2)] μ ([], t, 0, 0) :=
  Ct_of (by decide +kernel) rfl rfl (Nat.le_of_ble_eq_true rfl) (fun _ _ _ => trivial) (gX9_shutSeen_0 l h ⟨rfl, rfl⟩)
def mX9_enqueue : MI := (RX9, cX9_enqueue, 3, none, "enqueue", 2, 42, fun _ _ _ => True)
theorem cwX9_enqueue : CWd yX9_enqueue mX9_enqueue 2 := ⟨ki_X9, kk_X9_enqueue, ⟨by decide, by decide⟩, rfl⟩
def dtX9_enqueue_0 : List (Nat × Instr × Nat) := [(0, .aload_n 0, 1), (1, .getfield 12, 3), (4, .iload_n 1, 1), (5, .invokevirtual 59, 3), (8, .ifCond .eq 59, 3), (11, .aload_n 0, 1), (12, .getfield 18, 3), (15, .iload_n 1, 1), (16, .baload, 1), (17, .ifCond .ne 50, 3), (20, .aload_n 0, 1), (21, .getfield 22, 3), (24, .iload_n 1, 1), (25, .iaload, 1), (26, .iconst (-1), 1), (27, .if_icmp .ne 40, 3), (30, .aload_n 0, 1), (31, .getfield 36, 3), (34, .sipush 144, 3), (37, .if_icmp .ge 30, 3), (40, .aload_n 0, 1), (41, .getfield 22, 3), (44, .iload_n 1, 1), (45, .iload_n 2, 1), (46, .iastore, 1), (47, .aload_n 0, 1), (48, .getfield 26, 3), (51, .aload_n 0, 1), (52, .getfield 36, 3), (55, .iload_n 1, 1), (56, .iastore, 1), (57, .aload_n 0, 1), (58, .dup, 1), (59, .getfield 36, 3), (62, .iconst 1, 1), (63, .iadd, 1), (64, .putfield 36, 3), (67, .return_, 1)]
theorem ddX9_enqueue_0 : (dtX9_enqueue_0.all fun e => decide (decode mX9_enqueue.2.1 e.1 = .ok (e.2.1, e.2.2))) = true := by decide +kernel
theorem daX9_enqueue_0 (j : Nat) {pc n : Nat} {i : Instr} (h : dtX9_enqueue_0[j]? = some (pc, i, n)) : decode mX9_enqueue.2.1 pc = .ok (i, n) := dec_of (c := mX9_enqueue.2.1) ddX9_enqueue_0 h
def fX9_enqueue (v0 v1 v2 : Int) (μ : Mm) : Option Mm :=
  chk (KD v0 = 9) (
  chk (KD (μ v0 0) = 2) (
  (fX2_has (μ v0 0) v1 μ).bind fun r3 =>
  if r3 = 0 then
    some μ
  else
    chk (KD (μ v0 2) = 14 ∧ 0 ≤ v1 ∧ v1 < LN (μ v0 2)) (
    if μ (μ v0 2) v1 = 0 then
      chk (KD (μ v0 3) = 12 ∧ v1 < LN (μ v0 3)) (
      if μ (μ v0 3) v1 = (-1) then
        if 144 ≤ μ v0 6 then
          some μ
        else
          lm (mst μ (μ v0 3) v1 v2) fun μ10 =>
          chk (KD (μ10 v0 4) = 12 ∧ 0 ≤ μ10 v0 6 ∧ μ10 v0 6 < LN (μ10 v0 4)) (
          lm (mst μ10 (μ10 v0 4) (μ10 v0 6) v1) fun μ12 =>
          lm (mst μ12 v0 6 (w32 ((μ12 v0 6) + 1))) fun μ13 =>
          some μ13)
      else
        some μ)
    else
      some μ)))
set_option maxRecDepth 20000 in
theorem gX9_enqueue_0 (l : Launch) {F : FI} {v0 v1 v2 : Int} {μ : Mm} {t : Mm} (h : fX9_enqueue v0 v1 v2 μ = some t) (hK : F.1 = [] ∧ F.2.1 = t) : GM l mX9_enqueue F 0 0 0 [(0, (3, v0)), (1, (0, v1)), (2, (0, v2))] [] μ := by
  unfold fX9_enqueue at h
  refine GM_aload_n (pc := 0) 0 rfl (daX9_enqueue_0 0 rfl) rfl ?_
  obtain ⟨hc1, h⟩ := chk_inv h
  refine GM_getf (pc := 1) 9 0 3 0 kf_X9_12 (Nat.le_of_ble_eq_true rfl) (Nat.le_of_ble_eq_true rfl) rfl (daX9_enqueue_0 1 rfl) hc1 rfl ?_
  refine GM_iload_n (pc := 4) 1 rfl (daX9_enqueue_0 2 rfl) rfl ?_
  obtain ⟨hc2, h⟩ := chk_inv h
  obtain ⟨r3, hf3, h⟩ := Option.bind_eq_some_iff.mp h
  refine GM_callV0 (pc := 5) [(0, v1)] (tX2_has l hf3) cwX2_has 2 (Nat.le_of_ble_eq_true rfl) rfl kv_X2_has ke_X2_has km_X9_59 hc2 ⟨Nat.le_of_ble_eq_true rfl, Nat.le_of_ble_eq_true rfl⟩ (Nat.le_of_ble_eq_true rfl) (Nat.le_of_ble_eq_true rfl) (daX9_enqueue_0 3 rfl) ?_
  refine GM_if_eq (pc := 8) 67 (daX9_enqueue_0 4 rfl) rfl (fun c4 => ?_) (fun c4 => ?_)
  · skip
    rw [if_pos c4] at h
    cases h
    exact GM_vret (pc := 67) (daX9_enqueue_0 37 rfl) rfl hK
  · skip
    rw [if_neg c4] at h
    refine GM_aload_n (pc := 11) 0 rfl (daX9_enqueue_0 5 rfl) rfl ?_
    refine GM_getf (pc := 12) 9 2 3 2 kf_X9_18 (Nat.le_of_ble_eq_true rfl) (Nat.le_of_ble_eq_true rfl) rfl (daX9_enqueue_0 6 rfl) hc1 rfl ?_
    refine GM_iload_n (pc := 15) 1 rfl (daX9_enqueue_0 7 rfl) rfl ?_
    obtain ⟨hc5, h⟩ := chk_inv h
    refine GM_zald (pc := 16) (daX9_enqueue_0 8 rfl) hc5.1 hc5.2.1 hc5.2.2 ?_
    refine GM_if_ne (pc := 17) 67 (daX9_enqueue_0 9 rfl) rfl (fun c6 => ?_) (fun c6 => ?_)
    · skip
      rw [if_neg c6] at h
      cases h
      exact GM_vret (pc := 67) (daX9_enqueue_0 37 rfl) rfl hK
    · skip
      rw [if_pos c6] at h
      refine GM_aload_n (pc := 20) 0 rfl (daX9_enqueue_0 10 rfl) rfl ?_
      refine GM_getf (pc := 21) 9 3 3 3 kf_X9_22 (Nat.le_of_ble_eq_true rfl) (Nat.le_of_ble_eq_true rfl) rfl (daX9_enqueue_0 11 rfl) hc1 rfl ?_
      refine GM_iload_n (pc := 24) 1 rfl (daX9_enqueue_0 12 rfl) rfl ?_
      obtain ⟨hc7, h⟩ := chk_inv h
      refine GM_iald (pc := 25) (daX9_enqueue_0 13 rfl) hc7.1 hc5.2.1 hc7.2 ?_
      refine GM_iconst (pc := 26) (-1) (daX9_enqueue_0 14 rfl) rfl (R32_b rfl) ?_
      refine GM_icmp_ne (pc := 27) 67 (daX9_enqueue_0 15 rfl) rfl (fun c8 => ?_) (fun c8 => ?_)
      · skip
        rw [if_neg c8] at h
        cases h
        exact GM_vret (pc := 67) (daX9_enqueue_0 37 rfl) rfl hK
      · skip
        rw [if_pos c8] at h
        refine GM_aload_n (pc := 30) 0 rfl (daX9_enqueue_0 16 rfl) rfl ?_
        refine GM_getf (pc := 31) 9 6 0 6 kf_X9_36 (Nat.le_of_ble_eq_true rfl) (Nat.le_of_ble_eq_true rfl) rfl (daX9_enqueue_0 17 rfl) hc1 rfl ?_
        refine GM_sipush (pc := 34) 144 (daX9_enqueue_0 18 rfl) rfl (R32_b rfl) ?_
        refine GM_icmp_ge (pc := 37) 67 (daX9_enqueue_0 19 rfl) rfl (fun c9 => ?_) (fun c9 => ?_)
        · skip
          rw [if_pos c9] at h
          cases h
          exact GM_vret (pc := 67) (daX9_enqueue_0 37 rfl) rfl hK
        · skip
          rw [if_neg c9] at h
          refine GM_aload_n (pc := 40) 0 rfl (daX9_enqueue_0 20 rfl) rfl ?_
          refine GM_getf (pc := 41) 9 3 3 3 kf_X9_22 (Nat.le_of_ble_eq_true rfl) (Nat.le_of_ble_eq_true rfl) rfl (daX9_enqueue_0 21 rfl) hc1 rfl ?_
          refine GM_iload_n (pc := 44) 1 rfl (daX9_enqueue_0 22 rfl) rfl ?_
          refine GM_iload_n (pc := 45) 2 rfl (daX9_enqueue_0 23 rfl) rfl ?_
          obtain ⟨μ10, hμ10, h⟩ := lm_inv h
          refine GM_iast (pc := 46) (daX9_enqueue_0 24 rfl) hc7.1 hc5.2.1 hc7.2 ?_
          refine GM_mem hμ10 ?_
          refine GM_aload_n (pc := 47) 0 rfl (daX9_enqueue_0 25 rfl) rfl ?_
          refine GM_getf (pc := 48) 9 4 3 4 kf_X9_26 (Nat.le_of_ble_eq_true rfl) (Nat.le_of_ble_eq_true rfl) rfl (daX9_enqueue_0 26 rfl) hc1 rfl ?_
          refine GM_aload_n (pc := 51) 0 rfl (daX9_enqueue_0 27 rfl) rfl ?_
          refine GM_getf (pc := 52) 9 6 0 6 kf_X9_36 (Nat.le_of_ble_eq_true rfl) (Nat.le_of_ble_eq_true rfl) rfl (daX9_enqueue_0 28 rfl) hc1 rfl ?_
          refine GM_iload_n (pc := 55) 1 rfl (daX9_enqueue_0 29 rfl) rfl ?_
          obtain ⟨hc11, h⟩ := chk_inv h
          obtain ⟨μ12, hμ12, h⟩ := lm_inv h
          refine GM_iast (pc := 56) (daX9_enqueue_0 30 rfl) hc11.1 hc11.2.1 hc11.2.2 ?_
          refine GM_mem hμ12 ?_
          refine GM_aload_n (pc := 57) 0 rfl (daX9_enqueue_0 31 rfl) rfl ?_
          refine GM_dup (pc := 58) (daX9_enqueue_0 32 rfl) (Nat.ne_of_beq_eq_false rfl) ?_
          refine GM_getf (pc := 59) 9 6 0 6 kf_X9_36 (Nat.le_of_ble_eq_true rfl) (Nat.le_of_ble_eq_true rfl) rfl (daX9_enqueue_0 33 rfl) hc1 rfl ?_
          refine GM_iconst (pc := 62) 1 (daX9_enqueue_0 34 rfl) rfl (R32_b rfl) ?_
          refine GM_iadd (pc := 63) (daX9_enqueue_0 35 rfl) ?_
          obtain ⟨μ13, hμ13, h⟩ := lm_inv h
          refine GM_putf (pc := 64) 9 6 0 kf_X9_36 (Nat.le_of_ble_eq_true rfl) (Nat.le_of_ble_eq_true rfl) rfl rfl (daX9_enqueue_0 36 rfl) hc1 (fun q => absurd q (by decide)) ?_
          refine GM_mem hμ13 ?_
          cases h
          exact GM_vret (pc := 67) (daX9_enqueue_0 37 rfl) rfl hK
theorem tX9_enqueue (l : Launch) {v0 v1 v2 : Int} {μ : Mm} {t : Mm} (h : fX9_enqueue v0 v1 v2 μ = some t) : Ct l yX9_enqueue mX9_enqueue [(3, v0), (0, v1), (0, v2)] μ ([], t, 0, 0) :=
  Ct_of (by decide +kernel) rfl rfl (Nat.le_of_ble_eq_true rfl) (fun _ _ _ => trivial) (gX9_enqueue_0 l h ⟨rfl, rfl⟩)
def mX9_begin : MI := (RX9, cX9_begin, 2, none, "begin", 3, 64, fun _ _ _ => True)
theorem cwX9_begin : CWd yX9_begin mX9_begin 1 := ⟨ki_X9, kk_X9_begin, ⟨by decide, by decide⟩, rfl⟩
def dtX9_begin_0 : List (Nat × Instr × Nat) := [(0, .aload_n 0, 1), (1, .iload_n 1, 1), (2, .iconst 0, 1), (3, .invokevirtual 55, 3), (6, .return_, 1)]
theorem ddX9_begin_0 : (dtX9_begin_0.all fun e => decide (decode mX9_begin.2.1 e.1 = .ok (e.2.1, e.2.2))) = true := by decide +kernel
theorem daX9_begin_0 (j : Nat) {pc n : Nat} {i : Instr} (h : dtX9_begin_0[j]? = some (pc, i, n)) : decode mX9_begin.2.1 pc = .ok (i, n) := dec_of (c := mX9_begin.2.1) ddX9_begin_0 h
def fX9_begin (v0 v1 : Int) (μ : Mm) : Option Mm :=
  chk (KD v0 = 9) (
  (fX9_enqueue v0 v1 0 μ).bind fun μ2 =>
  some μ2)
set_option maxRecDepth 20000 in
theorem gX9_begin_0 (l : Launch) {F : FI} {v0 v1 : Int} {μ : Mm} {t : Mm} (h : fX9_begin v0 v1 μ = some t) (hK : F.1 = [] ∧ F.2.1 = t) : GM l mX9_begin F 0 0 0 [(0, (3, v0)), (1, (0, v1))] [] μ := by
  unfold fX9_begin at h
  refine GM_aload_n (pc := 0) 0 rfl (daX9_begin_0 0 rfl) rfl ?_
  refine GM_iload_n (pc := 1) 1 rfl (daX9_begin_0 1 rfl) rfl ?_
  refine GM_iconst (pc := 2) 0 (daX9_begin_0 2 rfl) rfl (R32_b rfl) ?_
  obtain ⟨hc1, h⟩ := chk_inv h
  obtain ⟨μ2, hf2, h⟩ := Option.bind_eq_some_iff.mp h
  refine GM_callV0 (pc := 3) [(0, v1), (0, 0)] (tX9_enqueue l hf2) cwX9_enqueue 9 (Nat.le_of_ble_eq_true rfl) rfl kv_X9_enqueue ke_X9_enqueue km_X9_55 hc1 ⟨Nat.le_of_ble_eq_true rfl, Nat.le_of_ble_eq_true rfl⟩ (Nat.le_of_ble_eq_true rfl) (Nat.le_of_ble_eq_true rfl) (daX9_begin_0 3 rfl) ?_
  cases h
  exact GM_vret (pc := 6) (daX9_begin_0 4 rfl) rfl hK
theorem tX9_begin (l : Launch) {v0 v1 : Int} {μ : Mm} {t : Mm} (h : fX9_begin v0 v1 μ = some t) : Ct l yX9_begin mX9_begin [(3, v0), (0, v1)] μ ([], t, 0, 0) :=
  Ct_of (by decide +kernel) rfl rfl (Nat.le_of_ble_eq_true rfl) (fun _ _ _ => trivial) (gX9_begin_0 l h ⟨rfl, rfl⟩)
def mX9_walkTo : MI := (RX9, cX9_walkTo, 6, (some .int), "walkTo", 3, 64, fun _ _ _ => True)
theorem cwX9_walkTo : CWd yX9_walkTo mX9_walkTo 1 := ⟨ki_X9, kk_X9_walkTo, ⟨by decide, by decide⟩, rfl⟩
def dtX9_walkTo_0 : List (Nat × Instr × Nat) := [(0, .iconst 0, 1), (1, .istore_n 2, 1), (2, .iload_n 2, 1), (3, .aload_n 0, 1), (4, .getfield 36, 3), (7, .if_icmp .ge 140, 3), (10, .iload_n 2, 1), (11, .sipush 144, 3), (14, .if_icmp .ge 133, 3), (17, .aload_n 0, 1), (18, .getfield 26, 3), (21, .iload_n 2, 1), (22, .iaload, 1), (23, .istore_n 3, 1), (24, .iload_n 3, 1), (25, .ifCond .lt 22, 3), (28, .iload_n 3, 1), (29, .aload_n 1, 1), (30, .arraylength, 1), (31, .if_icmp .ge 16, 3), (34, .aload_n 1, 1), (35, .iload_n 3, 1), (36, .baload, 1), (37, .ifCond .eq 10, 3), (40, .aload_n 0, 1), (41, .getfield 22, 3), (44, .iload_n 3, 1), (45, .iaload, 1), (46, .ireturn, 1), (47, .iconst 0, 1), (48, .istore 4, 2), (50, .iload 4, 2), (52, .iconst 4, 1), (53, .if_icmp .ge 88, 3), (56, .aload_n 0, 1), (57, .getfield 12, 3), (60, .iload_n 3, 1), (61, .iload 4, 2), (63, .invokevirtual 62, 3), (66, .istore 5, 2), (68, .aload_n 0, 1), (69, .getfield 12, 3), (72, .iload_n 3, 1), (73, .invokevirtual 59, 3), (76, .ifCond .eq 59, 3), (79, .aload_n 0, 1), (80, .getfield 12, 3), (83, .iload 5, 2), (85, .invokevirtual 59, 3), (88, .ifCond .eq 47, 3), (91, .aload_n 0, 1), (92, .getfield 12, 3), (95, .getfield 66, 3), (98, .iload 5, 2), (100, .iaload, 1), (101, .aload_n 0, 1), (102, .getfield 12, 3), (105, .getfield 66, 3), (108, .iload_n 3, 1), (109, .iaload, 1), (110, .isub, 1), (111, .invokestatic 69, 3), (114, .aload_n 0, 1), (115, .getfield 32, 3)]
theorem ddX9_walkTo_0 : (dtX9_walkTo_0.all fun e => decide (decode mX9_walkTo.2.1 e.1 = .ok (e.2.1, e.2.2))) = true := by decide +kernel
theorem daX9_walkTo_0 (j : Nat) {pc n : Nat} {i : Instr} (h : dtX9_walkTo_0[j]? = some (pc, i, n)) : decode mX9_walkTo.2.1 pc = .ok (i, n) := dec_of (c := mX9_walkTo.2.1) ddX9_walkTo_0 h
def dtX9_walkTo_1 : List (Nat × Instr × Nat) := [(118, .if_icmp .gt 17, 3), (121, .aload_n 0, 1), (122, .iload 5, 2), (124, .aload_n 0, 1), (125, .getfield 22, 3), (128, .iload_n 3, 1), (129, .iaload, 1), (130, .iconst 1, 1), (131, .iadd, 1), (132, .invokevirtual 55, 3), (135, .iinc 4 1, 3), (138, .goto (-88), 3), (141, .iinc 2 1, 3), (144, .goto (-142), 3), (147, .iconst (-1), 1), (148, .ireturn, 1)]
theorem ddX9_walkTo_1 : (dtX9_walkTo_1.all fun e => decide (decode mX9_walkTo.2.1 e.1 = .ok (e.2.1, e.2.2))) = true := by decide +kernel
theorem daX9_walkTo_1 (j : Nat) {pc n : Nat} {i : Instr} (h : dtX9_walkTo_1[j]? = some (pc, i, n)) : decode mX9_walkTo.2.1 pc = .ok (i, n) := dec_of (c := mX9_walkTo.2.1) ddX9_walkTo_1 h
def zX9_walkTo_50 (l : Launch) (F : FI) (v0 v1 v2 v3 : Int) (k n : Nat) : (Int × Mm) ⊕ Mm → Prop
  | .inl (v4, μ) => GM l mX9_walkTo F k n 50 [(0, (3, v0)), (1, (3, v1)), (2, (0, v2)), (3, (0, v3)), (4, (0, v4))] [] μ
  | .inr μ => GM l mX9_walkTo F k n 141 [(0, (3, v0)), (1, (3, v1)), (2, (0, v2))] [] μ
def sX9_walkTo_50 (v0 v1 v2 v3 : Int) : (Int × Mm) → Option ((Int × Mm) ⊕ Mm) := fun (v4, μ) =>
  if 4 ≤ v4 then
    some (.inr μ)
  else
    chk (KD v0 = 9) (
    chk (KD (μ v0 0) = 2) (
    (fX2_neighbour (μ v0 0) v3 v4 μ).bind fun r4 =>
    (fX2_has (μ v0 0) v3 μ).bind fun r5 =>
    if r5 = 0 then
      some (.inl (w32 (v4 + 1), μ))
    else
      (fX2_has (μ v0 0) r4 μ).bind fun r7 =>
      if r7 = 0 then
        some (.inl (w32 (v4 + 1), μ))
      else
        chk (KD (μ (μ v0 0) 6) = 12 ∧ 0 ≤ r4 ∧ r4 < LN (μ (μ v0 0) 6)) (
        chk (0 ≤ v3 ∧ v3 < LN (μ (μ v0 0) 6)) (
        if μ v0 1 < iabs (w32 ((μ (μ (μ v0 0) 6) r4) - (μ (μ (μ v0 0) 6) v3))) then
          some (.inl (w32 (v4 + 1), μ))
        else
          chk (KD (μ v0 3) = 12 ∧ v3 < LN (μ v0 3)) (
          (fX9_enqueue v0 r4 (w32 ((μ (μ v0 3) v3) + 1)) μ).bind fun μ13 =>
          some (.inl (w32 (v4 + 1), μ13)))))))
def jX9_walkTo_47 (v0 v1 v2 v3 : Int) (μ : Mm) : Option ((Int × Mm) ⊕ (Mm ⊕ (Int × Mm))) :=
  (lop (sX9_walkTo_50 v0 v1 v2 v3) FU (0, μ)).bind fun μ_15 =>
    some (.inl (w32 (v2 + 1), μ_15))
def zX9_walkTo_2 (l : Launch) (F : FI) (v0 v1 : Int) (k n : Nat) : (Int × Mm) ⊕ (Mm ⊕ (Int × Mm)) → Prop
  | .inl (v2, μ) => GM l mX9_walkTo F k n 2 [(0, (3, v0)), (1, (3, v1)), (2, (0, v2))] [] μ
  | .inr (.inl μ) => GM l mX9_walkTo F k n 147 [] [] μ
  | .inr (.inr (v3, μ)) => GM l mX9_walkTo F k n 40 [(0, (3, v0)), (3, (0, v3))] [] μ
def sX9_walkTo_2 (v0 v1 : Int) : (Int × Mm) → Option ((Int × Mm) ⊕ (Mm ⊕ (Int × Mm))) := fun (v2, μ) =>
  chk (KD v0 = 9) (
  if μ v0 6 ≤ v2 then
    some (.inr (.inl μ))
  else
    if 144 ≤ v2 then
      some (.inr (.inl μ))
    else
      chk (KD (μ v0 4) = 12 ∧ 0 ≤ v2 ∧ v2 < LN (μ v0 4)) (
      if μ (μ v0 4) v2 < 0 then
        jX9_walkTo_47 v0 v1 v2 (μ (μ v0 4) v2) μ
      else
        chk (KD v1 = 14 ∧ 0 ≤ LN v1 ∧ LN v1 < 2147483648) (
        if LN v1 ≤ μ (μ v0 4) v2 then
          jX9_walkTo_47 v0 v1 v2 (μ (μ v0 4) v2) μ
        else
          chk (0 ≤ μ (μ v0 4) v2 ∧ μ (μ v0 4) v2 < LN v1) (
          if μ v1 (μ (μ v0 4) v2) = 0 then
            jX9_walkTo_47 v0 v1 v2 (μ (μ v0 4) v2) μ
          else
            some (.inr (.inr (μ (μ v0 4) v2, μ)))))))
def fX9_walkTo (v0 v1 : Int) (μ : Mm) : Option (Int × Mm) :=
  (lop (sX9_walkTo_2 v0 v1) FU (0, μ)).bind fun x25 =>
    match x25 with
    | (.inl μ_26) =>
        some ((-1), μ_26)
    | (.inr (v3_27, μ_27)) =>
        chk (KD v0 = 9) (
        chk (KD (μ_27 v0 3) = 12 ∧ 0 ≤ v3_27 ∧ v3_27 < LN (μ_27 v0 3)) (
        some (μ_27 (μ_27 v0 3) v3_27, μ_27)))
set_option maxRecDepth 20000 in
theorem qX9_walkTo_50 (l : Launch) (F : FI) (v0 v1 v2 v3 : Int) (k n : Nat) : ∀ (q : (Int × Mm)) (t : ((Int × Mm) ⊕ Mm)), sX9_walkTo_50 v0 v1 v2 v3 q = some t → zX9_walkTo_50 l F v0 v1 v2 v3 k n t → zX9_walkTo_50 l F v0 v1 v2 v3 k n (.inl q) := by
  intro q t h hK
  obtain ⟨v4, μ⟩ := q
  unfold sX9_walkTo_50 at h
  try dsimp only at h
  show GM l mX9_walkTo F k n 50 [(0, (3, v0)), (1, (3, v1)), (2, (0, v2)), (3, (0, v3)), (4, (0, v4))] [] μ
  refine GM_iload (pc := 50) 4 rfl (daX9_walkTo_0 31 rfl) ?_
  refine GM_iconst (pc := 52) 4 (daX9_walkTo_0 32 rfl) rfl (R32_b rfl) ?_
  refine GM_icmp_ge (pc := 53) 141 (daX9_walkTo_0 33 rfl) rfl (fun c1 => ?_) (fun c1 => ?_)
  · skip
    rw [if_pos c1] at h
    refine GM_pick [0, 1, 2] rfl ?_
    cases h
    exact hK
  · skip
    rw [if_neg c1] at h
    refine GM_aload_n (pc := 56) 0 rfl (daX9_walkTo_0 34 rfl) rfl ?_
    obtain ⟨hc2, h⟩ := chk_inv h
    refine GM_getf (pc := 57) 9 0 3 0 kf_X9_12 (Nat.le_of_ble_eq_true rfl) (Nat.le_of_ble_eq_true rfl) rfl (daX9_walkTo_0 35 rfl) hc2 rfl ?_
    refine GM_iload_n (pc := 60) 3 rfl (daX9_walkTo_0 36 rfl) rfl ?_
    refine GM_iload (pc := 61) 4 rfl (daX9_walkTo_0 37 rfl) ?_
    obtain ⟨hc3, h⟩ := chk_inv h
    obtain ⟨r4, hf4, h⟩ := Option.bind_eq_some_iff.mp h
    refine GM_callV0 (pc := 63) [(0, v3), (0, v4)] (tX2_neighbour l hf4) cwX2_neighbour 2 (Nat.le_of_ble_eq_true rfl) rfl kv_X2_neighbour ke_X2_neighbour km_X9_62 hc3 ⟨Nat.le_of_ble_eq_true rfl, Nat.le_of_ble_eq_true rfl⟩ (Nat.le_of_ble_eq_true rfl) (Nat.le_of_ble_eq_true rfl) (daX9_walkTo_0 38 rfl) ?_
    refine GM_istore (L' := [(5, (0, r4)), (0, (3, v0)), (1, (3, v1)), (2, (0, v2)), (3, (0, v3)), (4, (0, v4))]) (pc := 66) (daX9_walkTo_0 39 rfl) (Nat.le_of_ble_eq_true rfl) rfl ?_
    refine GM_aload_n (pc := 68) 1 rfl (daX9_walkTo_0 40 rfl) rfl ?_
    refine GM_getf (pc := 69) 9 0 3 0 kf_X9_12 (Nat.le_of_ble_eq_true rfl) (Nat.le_of_ble_eq_true rfl) rfl (daX9_walkTo_0 41 rfl) hc2 rfl ?_
    refine GM_iload_n (pc := 72) 4 rfl (daX9_walkTo_0 42 rfl) rfl ?_
    obtain ⟨r5, hf5, h⟩ := Option.bind_eq_some_iff.mp h
    refine GM_callV0 (pc := 73) [(0, v3)] (tX2_has l hf5) cwX2_has 2 (Nat.le_of_ble_eq_true rfl) rfl kv_X2_has ke_X2_has km_X9_59 hc3 ⟨Nat.le_of_ble_eq_true rfl, Nat.le_of_ble_eq_true rfl⟩ (Nat.le_of_ble_eq_true rfl) (Nat.le_of_ble_eq_true rfl) (daX9_walkTo_0 43 rfl) ?_
    refine GM_if_eq (pc := 76) 135 (daX9_walkTo_0 44 rfl) rfl (fun c6 => ?_) (fun c6 => ?_)
    · skip
      rw [if_pos c6] at h
      refine GM_iinc (L' := [(4, (0, w32 (v4 + 1))), (5, (0, r4)), (0, (3, v0)), (1, (3, v1)), (2, (0, v2)), (3, (0, v3))]) (pc := 135) 5 rfl (daX9_walkTo_1 10 rfl) (Nat.le_of_ble_eq_true rfl) rfl ?_
      refine GM_goto (pc := 138) 50 (daX9_walkTo_1 11 rfl) rfl ?_
      refine GM_pick [2, 3, 4, 5, 0] rfl ?_
      cases h
      exact hK
    · skip
      rw [if_neg c6] at h
      refine GM_aload_n (pc := 79) 1 rfl (daX9_walkTo_0 45 rfl) rfl ?_
      refine GM_getf (pc := 80) 9 0 3 0 kf_X9_12 (Nat.le_of_ble_eq_true rfl) (Nat.le_of_ble_eq_true rfl) rfl (daX9_walkTo_0 46 rfl) hc2 rfl ?_
      refine GM_iload (pc := 83) 0 rfl (daX9_walkTo_0 47 rfl) ?_
      obtain ⟨r7, hf7, h⟩ := Option.bind_eq_some_iff.mp h
      refine GM_callV0 (pc := 85) [(0, r4)] (tX2_has l hf7) cwX2_has 2 (Nat.le_of_ble_eq_true rfl) rfl kv_X2_has ke_X2_has km_X9_59 hc3 ⟨Nat.le_of_ble_eq_true rfl, Nat.le_of_ble_eq_true rfl⟩ (Nat.le_of_ble_eq_true rfl) (Nat.le_of_ble_eq_true rfl) (daX9_walkTo_0 48 rfl) ?_
      refine GM_if_eq (pc := 88) 135 (daX9_walkTo_0 49 rfl) rfl (fun c8 => ?_) (fun c8 => ?_)
      · skip
        rw [if_pos c8] at h
        refine GM_iinc (L' := [(4, (0, w32 (v4 + 1))), (5, (0, r4)), (0, (3, v0)), (1, (3, v1)), (2, (0, v2)), (3, (0, v3))]) (pc := 135) 5 rfl (daX9_walkTo_1 10 rfl) (Nat.le_of_ble_eq_true rfl) rfl ?_
        refine GM_goto (pc := 138) 50 (daX9_walkTo_1 11 rfl) rfl ?_
        refine GM_pick [2, 3, 4, 5, 0] rfl ?_
        cases h
        exact hK
      · skip
        rw [if_neg c8] at h
        refine GM_aload_n (pc := 91) 1 rfl (daX9_walkTo_0 50 rfl) rfl ?_
        refine GM_getf (pc := 92) 9 0 3 0 kf_X9_12 (Nat.le_of_ble_eq_true rfl) (Nat.le_of_ble_eq_true rfl) rfl (daX9_walkTo_0 51 rfl) hc2 rfl ?_
        refine GM_getf (pc := 95) 2 6 3 6 kf_X9_66 (Nat.le_of_ble_eq_true rfl) (Nat.le_of_ble_eq_true rfl) rfl (daX9_walkTo_0 52 rfl) hc3 rfl ?_
        refine GM_iload (pc := 98) 0 rfl (daX9_walkTo_0 53 rfl) ?_
        obtain ⟨hc9, h⟩ := chk_inv h
        refine GM_iald (pc := 100) (daX9_walkTo_0 54 rfl) hc9.1 hc9.2.1 hc9.2.2 ?_
        refine GM_aload_n (pc := 101) 1 rfl (daX9_walkTo_0 55 rfl) rfl ?_
        refine GM_getf (pc := 102) 9 0 3 0 kf_X9_12 (Nat.le_of_ble_eq_true rfl) (Nat.le_of_ble_eq_true rfl) rfl (daX9_walkTo_0 56 rfl) hc2 rfl ?_
        refine GM_getf (pc := 105) 2 6 3 6 kf_X9_66 (Nat.le_of_ble_eq_true rfl) (Nat.le_of_ble_eq_true rfl) rfl (daX9_walkTo_0 57 rfl) hc3 rfl ?_
        refine GM_iload_n (pc := 108) 4 rfl (daX9_walkTo_0 58 rfl) rfl ?_
        obtain ⟨hc10, h⟩ := chk_inv h
        refine GM_iald (pc := 109) (daX9_walkTo_0 59 rfl) hc9.1 hc10.1 hc10.2 ?_
        refine GM_isub (pc := 110) (daX9_walkTo_0 60 rfl) ?_
        refine GM_callS0 (pc := 111) [(0, w32 ((μ (μ (μ v0 0) 6) r4) - (μ (μ (μ v0 0) 6) v3)))] (tJ9_abs_0f7a4 l (fJ9_absI_eq (w32 ((μ (μ (μ v0 0) 6) r4) - (μ (μ (μ v0 0) 6) v3))))) cwJ9_abs_0f7a4 ks_J9_abs_0f7a4 km_X9_69 ⟨Nat.le_of_ble_eq_true rfl, Nat.le_of_ble_eq_true rfl⟩ (Nat.le_of_ble_eq_true rfl) (Nat.le_of_ble_eq_true rfl) (daX9_walkTo_0 61 rfl) ?_
        refine GM_aload_n (pc := 114) 1 rfl (daX9_walkTo_0 62 rfl) rfl ?_
        refine GM_getf (pc := 115) 9 1 0 1 kf_X9_32 (Nat.le_of_ble_eq_true rfl) (Nat.le_of_ble_eq_true rfl) rfl (daX9_walkTo_0 63 rfl) hc2 rfl ?_
        refine GM_icmp_gt (pc := 118) 135 (daX9_walkTo_1 0 rfl) rfl (fun c11 => ?_) (fun c11 => ?_)
        · skip
          rw [if_pos c11] at h
          refine GM_iinc (L' := [(4, (0, w32 (v4 + 1))), (5, (0, r4)), (0, (3, v0)), (1, (3, v1)), (2, (0, v2)), (3, (0, v3))]) (pc := 135) 5 rfl (daX9_walkTo_1 10 rfl) (Nat.le_of_ble_eq_true rfl) rfl ?_
          refine GM_goto (pc := 138) 50 (daX9_walkTo_1 11 rfl) rfl ?_
          refine GM_pick [2, 3, 4, 5, 0] rfl ?_
          cases h
          exact hK
        · skip
          rw [if_neg c11] at h
          refine GM_aload_n (pc := 121) 1 rfl (daX9_walkTo_1 1 rfl) rfl ?_
          refine GM_iload (pc := 122) 0 rfl (daX9_walkTo_1 2 rfl) ?_
          refine GM_aload_n (pc := 124) 1 rfl (daX9_walkTo_1 3 rfl) rfl ?_
          refine GM_getf (pc := 125) 9 3 3 3 kf_X9_22 (Nat.le_of_ble_eq_true rfl) (Nat.le_of_ble_eq_true rfl) rfl (daX9_walkTo_1 4 rfl) hc2 rfl ?_
          refine GM_iload_n (pc := 128) 4 rfl (daX9_walkTo_1 5 rfl) rfl ?_
          obtain ⟨hc12, h⟩ := chk_inv h
          refine GM_iald (pc := 129) (daX9_walkTo_1 6 rfl) hc12.1 hc10.1 hc12.2 ?_
          refine GM_iconst (pc := 130) 1 (daX9_walkTo_1 7 rfl) rfl (R32_b rfl) ?_
          refine GM_iadd (pc := 131) (daX9_walkTo_1 8 rfl) ?_
          obtain ⟨μ13, hf13, h⟩ := Option.bind_eq_some_iff.mp h
          refine GM_callV0 (pc := 132) [(0, r4), (0, w32 ((μ (μ v0 3) v3) + 1))] (tX9_enqueue l hf13) cwX9_enqueue 9 (Nat.le_of_ble_eq_true rfl) rfl kv_X9_enqueue ke_X9_enqueue km_X9_55 hc2 ⟨Nat.le_of_ble_eq_true rfl, Nat.le_of_ble_eq_true rfl⟩ (Nat.le_of_ble_eq_true rfl) (Nat.le_of_ble_eq_true rfl) (daX9_walkTo_1 9 rfl) ?_
          refine GM_iinc (L' := [(4, (0, w32 (v4 + 1))), (5, (0, r4)), (0, (3, v0)), (1, (3, v1)), (2, (0, v2)), (3, (0, v3))]) (pc := 135) 5 rfl (daX9_walkTo_1 10 rfl) (Nat.le_of_ble_eq_true rfl) rfl ?_
          refine GM_goto (pc := 138) 50 (daX9_walkTo_1 11 rfl) rfl ?_
          refine GM_pick [2, 3, 4, 5, 0] rfl ?_
          cases h
          exact hK
set_option maxRecDepth 20000 in
theorem gX9_walkTo_47 (l : Launch) {F : FI} {v0 v1 v2 v3 : Int} {μ : Mm} {t : ((Int × Mm) ⊕ (Mm ⊕ (Int × Mm)))} {k n : Nat} (h : jX9_walkTo_47 v0 v1 v2 v3 μ = some t) (hK : zX9_walkTo_2 l F v0 v1 k n t) : GM l mX9_walkTo F k n 47 [(0, (3, v0)), (1, (3, v1)), (2, (0, v2)), (3, (0, v3))] [] μ := by
  unfold jX9_walkTo_47 at h
  refine GM_iconst (pc := 47) 0 (daX9_walkTo_0 29 rfl) rfl (R32_b rfl) ?_
  refine GM_istore (L' := [(4, (0, 0)), (0, (3, v0)), (1, (3, v1)), (2, (0, v2)), (3, (0, v3))]) (pc := 48) (daX9_walkTo_0 30 rfl) (Nat.le_of_ble_eq_true rfl) rfl ?_
  refine GM_pick [1, 2, 3, 4, 0] rfl ?_
  obtain ⟨x14, hqx14, h⟩ := Option.bind_eq_some_iff.mp h
  refine lop_ind (zX9_walkTo_50 l F v0 v1 v2 v3 k n) (qX9_walkTo_50 l F v0 v1 v2 v3 k n) FU _ x14 hqx14 ?_
  obtain ⟨μ_15, hqq⟩ : ∃ z, z = x14 := ⟨x14, rfl⟩
  subst hqq
  show GM l mX9_walkTo F k n 141 [(0, (3, v0)), (1, (3, v1)), (2, (0, v2))] [] μ_15
  refine GM_iinc (L' := [(2, (0, w32 (v2 + 1))), (0, (3, v0)), (1, (3, v1))]) (pc := 141) 2 rfl (daX9_walkTo_1 12 rfl) (Nat.le_of_ble_eq_true rfl) rfl ?_
  refine GM_goto (pc := 144) 2 (daX9_walkTo_1 13 rfl) rfl ?_
  refine GM_pick [1, 2, 0] rfl ?_
  cases h
  exact hK
set_option maxRecDepth 20000 in
theorem qX9_walkTo_2 (l : Launch) (F : FI) (v0 v1 : Int) (k n : Nat) : ∀ (q : (Int × Mm)) (t : ((Int × Mm) ⊕ (Mm ⊕ (Int × Mm)))), sX9_walkTo_2 v0 v1 q = some t → zX9_walkTo_2 l F v0 v1 k n t → zX9_walkTo_2 l F v0 v1 k n (.inl q) := by
  intro q t h hK
  obtain ⟨v2, μ⟩ := q
  unfold sX9_walkTo_2 at h
  try dsimp only at h
  show GM l mX9_walkTo F k n 2 [(0, (3, v0)), (1, (3, v1)), (2, (0, v2))] [] μ
  refine GM_iload_n (pc := 2) 2 rfl (daX9_walkTo_0 2 rfl) rfl ?_
  refine GM_aload_n (pc := 3) 0 rfl (daX9_walkTo_0 3 rfl) rfl ?_
  obtain ⟨hc16, h⟩ := chk_inv h
  refine GM_getf (pc := 4) 9 6 0 6 kf_X9_36 (Nat.le_of_ble_eq_true rfl) (Nat.le_of_ble_eq_true rfl) rfl (daX9_walkTo_0 4 rfl) hc16 rfl ?_
  refine GM_icmp_ge (pc := 7) 147 (daX9_walkTo_0 5 rfl) rfl (fun c17 => ?_) (fun c17 => ?_)
  · skip
    rw [if_pos c17] at h
    refine GM_pick [] rfl ?_
    cases h
    exact hK
  · skip
    rw [if_neg c17] at h
    refine GM_iload_n (pc := 10) 2 rfl (daX9_walkTo_0 6 rfl) rfl ?_
    refine GM_sipush (pc := 11) 144 (daX9_walkTo_0 7 rfl) rfl (R32_b rfl) ?_
    refine GM_icmp_ge (pc := 14) 147 (daX9_walkTo_0 8 rfl) rfl (fun c18 => ?_) (fun c18 => ?_)
    · skip
      rw [if_pos c18] at h
      refine GM_pick [] rfl ?_
      cases h
      exact hK
    · skip
      rw [if_neg c18] at h
      refine GM_aload_n (pc := 17) 0 rfl (daX9_walkTo_0 9 rfl) rfl ?_
      refine GM_getf (pc := 18) 9 4 3 4 kf_X9_26 (Nat.le_of_ble_eq_true rfl) (Nat.le_of_ble_eq_true rfl) rfl (daX9_walkTo_0 10 rfl) hc16 rfl ?_
      refine GM_iload_n (pc := 21) 2 rfl (daX9_walkTo_0 11 rfl) rfl ?_
      obtain ⟨hc19, h⟩ := chk_inv h
      refine GM_iald (pc := 22) (daX9_walkTo_0 12 rfl) hc19.1 hc19.2.1 hc19.2.2 ?_
      refine GM_istore_n (L' := [(3, (0, μ (μ v0 4) v2)), (0, (3, v0)), (1, (3, v1)), (2, (0, v2))]) (pc := 23) (daX9_walkTo_0 13 rfl) rfl (Nat.le_of_ble_eq_true rfl) rfl ?_
      refine GM_iload_n (pc := 24) 0 rfl (daX9_walkTo_0 14 rfl) rfl ?_
      refine GM_if_lt (pc := 25) 47 (daX9_walkTo_0 15 rfl) rfl (fun c20 => ?_) (fun c20 => ?_)
      · skip
        rw [if_pos c20] at h
        refine GM_pick [1, 2, 3, 0] rfl ?_
        exact gX9_walkTo_47 l h hK
      · skip
        rw [if_neg c20] at h
        refine GM_iload_n (pc := 28) 0 rfl (daX9_walkTo_0 16 rfl) rfl ?_
        refine GM_aload_n (pc := 29) 2 rfl (daX9_walkTo_0 17 rfl) rfl ?_
        obtain ⟨hc21, h⟩ := chk_inv h
        refine GM_zlen (pc := 30) (daX9_walkTo_0 18 rfl) hc21.1 hc21.2.1 hc21.2.2 ?_
        refine GM_icmp_ge (pc := 31) 47 (daX9_walkTo_0 19 rfl) rfl (fun c22 => ?_) (fun c22 => ?_)
        · skip
          rw [if_pos c22] at h
          refine GM_pick [1, 2, 3, 0] rfl ?_
          exact gX9_walkTo_47 l h hK
        · skip
          rw [if_neg c22] at h
          refine GM_aload_n (pc := 34) 2 rfl (daX9_walkTo_0 20 rfl) rfl ?_
          refine GM_iload_n (pc := 35) 0 rfl (daX9_walkTo_0 21 rfl) rfl ?_
          obtain ⟨hc23, h⟩ := chk_inv h
          refine GM_zald (pc := 36) (daX9_walkTo_0 22 rfl) hc21.1 hc23.1 hc23.2 ?_
          refine GM_if_eq (pc := 37) 47 (daX9_walkTo_0 23 rfl) rfl (fun c24 => ?_) (fun c24 => ?_)
          · skip
            rw [if_pos c24] at h
            refine GM_pick [1, 2, 3, 0] rfl ?_
            exact gX9_walkTo_47 l h hK
          · skip
            rw [if_neg c24] at h
            refine GM_pick [1, 0] rfl ?_
            cases h
            exact hK
set_option maxRecDepth 20000 in
theorem gX9_walkTo_0 (l : Launch) {F : FI} {v0 v1 : Int} {μ : Mm} {t : (Int × Mm)} (h : fX9_walkTo v0 v1 μ = some t) (hK : F.1 = [(0, t.1)] ∧ F.2.1 = t.2) : GM l mX9_walkTo F 0 0 0 [(0, (3, v0)), (1, (3, v1))] [] μ := by
  unfold fX9_walkTo at h
  refine GM_iconst (pc := 0) 0 (daX9_walkTo_0 0 rfl) rfl (R32_b rfl) ?_
  refine GM_istore_n (L' := [(2, (0, 0)), (0, (3, v0)), (1, (3, v1))]) (pc := 1) (daX9_walkTo_0 1 rfl) rfl (Nat.le_of_ble_eq_true rfl) rfl ?_
  refine GM_pick [1, 2, 0] rfl ?_
  obtain ⟨x25, hqx25, h⟩ := Option.bind_eq_some_iff.mp h
  refine lop_ind (zX9_walkTo_2 l F v0 v1 0 0) (qX9_walkTo_2 l F v0 v1 0 0) FU _ x25 hqx25 ?_
  rcases x25 with μ_26 | ⟨v3_27, μ_27⟩
  · dsimp only at h
    show GM l mX9_walkTo F 0 0 147 [] [] μ_26
    refine GM_iconst (pc := 147) (-1) (daX9_walkTo_1 14 rfl) rfl (R32_b rfl) ?_
    cases h
    exact GM_iret (pc := 148) (daX9_walkTo_1 15 rfl) rfl hK
  · dsimp only at h
    show GM l mX9_walkTo F 0 0 40 [(0, (3, v0)), (3, (0, v3_27))] [] μ_27
    refine GM_aload_n (pc := 40) 0 rfl (daX9_walkTo_0 24 rfl) rfl ?_
    obtain ⟨hc28, h⟩ := chk_inv h
    refine GM_getf (pc := 41) 9 3 3 3 kf_X9_22 (Nat.le_of_ble_eq_true rfl) (Nat.le_of_ble_eq_true rfl) rfl (daX9_walkTo_0 25 rfl) hc28 rfl ?_
    refine GM_iload_n (pc := 44) 1 rfl (daX9_walkTo_0 26 rfl) rfl ?_
    obtain ⟨hc29, h⟩ := chk_inv h
    refine GM_iald (pc := 45) (daX9_walkTo_0 27 rfl) hc29.1 hc29.2.1 hc29.2.2 ?_
    cases h
    exact GM_iret (pc := 46) (daX9_walkTo_0 28 rfl) rfl hK
theorem tX9_walkTo (l : Launch) {v0 v1 : Int} {μ : Mm} {t : (Int × Mm)} (h : fX9_walkTo v0 v1 μ = some t) : Ct l yX9_walkTo mX9_walkTo [(3, v0), (3, v1)] μ ([(0, t.1)], t.2, 0, 0) :=
  Ct_of (by decide +kernel) rfl rfl (Nat.le_of_ble_eq_true rfl) (fun _ _ _ => trivial) (gX9_walkTo_0 l h ⟨rfl, rfl⟩)
def mX9_highestOpen : MI := (RX9, cX9_highestOpen, 3, (some .int), "highestOpen", 1, 21, fun _ _ _ => True)
theorem cwX9_highestOpen : CWd yX9_highestOpen mX9_highestOpen 0 := ⟨ki_X9, kk_X9_highestOpen, ⟨by decide, by decide⟩, rfl⟩
def dtX9_highestOpen_0 : List (Nat × Instr × Nat) := [(0, .iconst (-1), 1), (1, .istore_n 1, 1), (2, .iconst 0, 1), (3, .istore_n 2, 1), (4, .iload_n 2, 1), (5, .aload_n 0, 1), (6, .getfield 12, 3), (9, .invokevirtual 87, 3), (12, .if_icmp .ge 44, 3), (15, .aload_n 0, 1), (16, .getfield 18, 3), (19, .iload_n 2, 1), (20, .baload, 1), (21, .ifCond .ne 29, 3), (24, .aload_n 0, 1), (25, .getfield 29, 3), (28, .iload_n 2, 1), (29, .iaload, 1), (30, .iload_n 1, 1), (31, .iconst (-1), 1), (32, .if_icmp .ne 7, 3), (35, .iconst (-1), 1), (36, .goto 9, 3), (39, .aload_n 0, 1), (40, .getfield 29, 3), (43, .iload_n 1, 1), (44, .iaload, 1), (45, .if_icmp .le 5, 3), (48, .iload_n 2, 1), (49, .istore_n 1, 1), (50, .iinc 2 1, 3), (53, .goto (-49), 3), (56, .iload_n 1, 1), (57, .ireturn, 1)]
theorem ddX9_highestOpen_0 : (dtX9_highestOpen_0.all fun e => decide (decode mX9_highestOpen.2.1 e.1 = .ok (e.2.1, e.2.2))) = true := by decide +kernel
theorem daX9_highestOpen_0 (j : Nat) {pc n : Nat} {i : Instr} (h : dtX9_highestOpen_0[j]? = some (pc, i, n)) : decode mX9_highestOpen.2.1 pc = .ok (i, n) := dec_of (c := mX9_highestOpen.2.1) ddX9_highestOpen_0 h
def jX9_highestOpen_45 (v0 v1 v2 s0 s1 : Int) (μ : Mm) : Option ((Int × Int) ⊕ Int) :=
  if s1 ≤ s0 then
    some (.inl (v1, w32 (v2 + 1)))
  else
    some (.inl (v2, w32 (v2 + 1)))
def zX9_highestOpen_4 (l : Launch) (F : FI) (v0 : Int) (μ : Mm) (k n : Nat) : (Int × Int) ⊕ Int → Prop
  | .inl (v1, v2) => GM l mX9_highestOpen F k n 4 [(0, (3, v0)), (1, (0, v1)), (2, (0, v2))] [] μ
  | .inr v1 => GM l mX9_highestOpen F k n 56 [(1, (0, v1))] [] μ
def sX9_highestOpen_4 (v0 : Int) (μ : Mm) : (Int × Int) → Option ((Int × Int) ⊕ Int) := fun (v1, v2) =>
  chk (KD v0 = 9) (
  chk (KD (μ v0 0) = 2) (
  (fX2_places (μ v0 0) μ).bind fun r4 =>
  if r4 ≤ v2 then
    some (.inr v1)
  else
    chk (KD (μ v0 2) = 14 ∧ 0 ≤ v2 ∧ v2 < LN (μ v0 2)) (
    if μ (μ v0 2) v2 = 0 then
      chk (KD (μ v0 5) = 12 ∧ v2 < LN (μ v0 5)) (
      if v1 = (-1) then
        jX9_highestOpen_45 v0 v1 v2 (-1) (μ (μ v0 5) v2) μ
      else
        chk (0 ≤ v1 ∧ v1 < LN (μ v0 5)) (
        jX9_highestOpen_45 v0 v1 v2 (μ (μ v0 5) v1) (μ (μ v0 5) v2) μ))
    else
      some (.inl (v1, w32 (v2 + 1))))))
def fX9_highestOpen (v0 : Int) (μ : Mm) : Option Int :=
  (lop (sX9_highestOpen_4 v0 μ) FU ((-1), 0)).bind fun v1_12 =>
    some v1_12
set_option maxRecDepth 20000 in
theorem gX9_highestOpen_45 (l : Launch) {F : FI} {v0 v1 v2 s0 s1 : Int} {μ : Mm} {t : ((Int × Int) ⊕ Int)} {k n : Nat} (h : jX9_highestOpen_45 v0 v1 v2 s0 s1 μ = some t) (hK : zX9_highestOpen_4 l F v0 μ k n t) : GM l mX9_highestOpen F k n 45 [(0, (3, v0)), (1, (0, v1)), (2, (0, v2))] [(0, s0), (0, s1)] μ := by
  unfold jX9_highestOpen_45 at h
  refine GM_icmp_le (pc := 45) 50 (daX9_highestOpen_0 27 rfl) rfl (fun c1 => ?_) (fun c1 => ?_)
  · skip
    rw [if_pos c1] at h
    refine GM_iinc (L' := [(2, (0, w32 (v2 + 1))), (0, (3, v0)), (1, (0, v1))]) (pc := 50) 2 rfl (daX9_highestOpen_0 30 rfl) (Nat.le_of_ble_eq_true rfl) rfl ?_
    refine GM_goto (pc := 53) 4 (daX9_highestOpen_0 31 rfl) rfl ?_
    refine GM_pick [1, 2, 0] rfl ?_
    cases h
    exact hK
  · skip
    rw [if_neg c1] at h
    refine GM_iload_n (pc := 48) 2 rfl (daX9_highestOpen_0 28 rfl) rfl ?_
    refine GM_istore_n (L' := [(1, (0, v2)), (0, (3, v0)), (2, (0, v2))]) (pc := 49) (daX9_highestOpen_0 29 rfl) rfl (Nat.le_of_ble_eq_true rfl) rfl ?_
    refine GM_iinc (L' := [(2, (0, w32 (v2 + 1))), (1, (0, v2)), (0, (3, v0))]) (pc := 50) 2 rfl (daX9_highestOpen_0 30 rfl) (Nat.le_of_ble_eq_true rfl) rfl ?_
    refine GM_goto (pc := 53) 4 (daX9_highestOpen_0 31 rfl) rfl ?_
    refine GM_pick [2, 1, 0] rfl ?_
    cases h
    exact hK
set_option maxRecDepth 20000 in
theorem qX9_highestOpen_4 (l : Launch) (F : FI) (v0 : Int) (μ : Mm) (k n : Nat) : ∀ (q : (Int × Int)) (t : ((Int × Int) ⊕ Int)), sX9_highestOpen_4 v0 μ q = some t → zX9_highestOpen_4 l F v0 μ k n t → zX9_highestOpen_4 l F v0 μ k n (.inl q) := by
  intro q t h hK
  obtain ⟨v1, v2⟩ := q
  unfold sX9_highestOpen_4 at h
  try dsimp only at h
  show GM l mX9_highestOpen F k n 4 [(0, (3, v0)), (1, (0, v1)), (2, (0, v2))] [] μ
  refine GM_iload_n (pc := 4) 2 rfl (daX9_highestOpen_0 4 rfl) rfl ?_
  refine GM_aload_n (pc := 5) 0 rfl (daX9_highestOpen_0 5 rfl) rfl ?_
  obtain ⟨hc2, h⟩ := chk_inv h
  refine GM_getf (pc := 6) 9 0 3 0 kf_X9_12 (Nat.le_of_ble_eq_true rfl) (Nat.le_of_ble_eq_true rfl) rfl (daX9_highestOpen_0 6 rfl) hc2 rfl ?_
  obtain ⟨hc3, h⟩ := chk_inv h
  obtain ⟨r4, hf4, h⟩ := Option.bind_eq_some_iff.mp h
  refine GM_callV0 (pc := 9) [] (tX2_places l hf4) cwX2_places 2 (Nat.le_of_ble_eq_true rfl) rfl kv_X2_places ke_X2_places km_X9_87 hc3 ⟨Nat.le_of_ble_eq_true rfl, Nat.le_of_ble_eq_true rfl⟩ (Nat.le_of_ble_eq_true rfl) (Nat.le_of_ble_eq_true rfl) (daX9_highestOpen_0 7 rfl) ?_
  refine GM_icmp_ge (pc := 12) 56 (daX9_highestOpen_0 8 rfl) rfl (fun c5 => ?_) (fun c5 => ?_)
  · skip
    rw [if_pos c5] at h
    refine GM_pick [1] rfl ?_
    cases h
    exact hK
  · skip
    rw [if_neg c5] at h
    refine GM_aload_n (pc := 15) 0 rfl (daX9_highestOpen_0 9 rfl) rfl ?_
    refine GM_getf (pc := 16) 9 2 3 2 kf_X9_18 (Nat.le_of_ble_eq_true rfl) (Nat.le_of_ble_eq_true rfl) rfl (daX9_highestOpen_0 10 rfl) hc2 rfl ?_
    refine GM_iload_n (pc := 19) 2 rfl (daX9_highestOpen_0 11 rfl) rfl ?_
    obtain ⟨hc6, h⟩ := chk_inv h
    refine GM_zald (pc := 20) (daX9_highestOpen_0 12 rfl) hc6.1 hc6.2.1 hc6.2.2 ?_
    refine GM_if_ne (pc := 21) 50 (daX9_highestOpen_0 13 rfl) rfl (fun c7 => ?_) (fun c7 => ?_)
    · skip
      rw [if_neg c7] at h
      refine GM_iinc (L' := [(2, (0, w32 (v2 + 1))), (0, (3, v0)), (1, (0, v1))]) (pc := 50) 2 rfl (daX9_highestOpen_0 30 rfl) (Nat.le_of_ble_eq_true rfl) rfl ?_
      refine GM_goto (pc := 53) 4 (daX9_highestOpen_0 31 rfl) rfl ?_
      refine GM_pick [1, 2, 0] rfl ?_
      cases h
      exact hK
    · skip
      rw [if_pos c7] at h
      refine GM_aload_n (pc := 24) 0 rfl (daX9_highestOpen_0 14 rfl) rfl ?_
      refine GM_getf (pc := 25) 9 5 3 5 kf_X9_29 (Nat.le_of_ble_eq_true rfl) (Nat.le_of_ble_eq_true rfl) rfl (daX9_highestOpen_0 15 rfl) hc2 rfl ?_
      refine GM_iload_n (pc := 28) 2 rfl (daX9_highestOpen_0 16 rfl) rfl ?_
      obtain ⟨hc8, h⟩ := chk_inv h
      refine GM_iald (pc := 29) (daX9_highestOpen_0 17 rfl) hc8.1 hc6.2.1 hc8.2 ?_
      refine GM_iload_n (pc := 30) 1 rfl (daX9_highestOpen_0 18 rfl) rfl ?_
      refine GM_iconst (pc := 31) (-1) (daX9_highestOpen_0 19 rfl) rfl (R32_b rfl) ?_
      refine GM_icmp_ne (pc := 32) 39 (daX9_highestOpen_0 20 rfl) rfl (fun c9 => ?_) (fun c9 => ?_)
      · skip
        rw [if_neg c9] at h
        refine GM_aload_n (pc := 39) 0 rfl (daX9_highestOpen_0 23 rfl) rfl ?_
        refine GM_getf (pc := 40) 9 5 3 5 kf_X9_29 (Nat.le_of_ble_eq_true rfl) (Nat.le_of_ble_eq_true rfl) rfl (daX9_highestOpen_0 24 rfl) hc2 rfl ?_
        refine GM_iload_n (pc := 43) 1 rfl (daX9_highestOpen_0 25 rfl) rfl ?_
        obtain ⟨hc10, h⟩ := chk_inv h
        refine GM_iald (pc := 44) (daX9_highestOpen_0 26 rfl) hc8.1 hc10.1 hc10.2 ?_
        exact gX9_highestOpen_45 l h hK
      · skip
        rw [if_pos c9] at h
        refine GM_iconst (pc := 35) (-1) (daX9_highestOpen_0 21 rfl) rfl (R32_b rfl) ?_
        refine GM_goto (pc := 36) 45 (daX9_highestOpen_0 22 rfl) rfl ?_
        exact gX9_highestOpen_45 l h hK
set_option maxRecDepth 20000 in
theorem gX9_highestOpen_0 (l : Launch) {F : FI} {v0 : Int} {μ : Mm} {t : Int} (h : fX9_highestOpen v0 μ = some t) (hK : F.1 = [(0, t)] ∧ F.2.1 = μ) : GM l mX9_highestOpen F 0 0 0 [(0, (3, v0))] [] μ := by
  unfold fX9_highestOpen at h
  refine GM_iconst (pc := 0) (-1) (daX9_highestOpen_0 0 rfl) rfl (R32_b rfl) ?_
  refine GM_istore_n (L' := [(1, (0, (-1))), (0, (3, v0))]) (pc := 1) (daX9_highestOpen_0 1 rfl) rfl (Nat.le_of_ble_eq_true rfl) rfl ?_
  refine GM_iconst (pc := 2) 0 (daX9_highestOpen_0 2 rfl) rfl (R32_b rfl) ?_
  refine GM_istore_n (L' := [(2, (0, 0)), (1, (0, (-1))), (0, (3, v0))]) (pc := 3) (daX9_highestOpen_0 3 rfl) rfl (Nat.le_of_ble_eq_true rfl) rfl ?_
  refine GM_pick [2, 1, 0] rfl ?_
  obtain ⟨x11, hqx11, h⟩ := Option.bind_eq_some_iff.mp h
  refine lop_ind (zX9_highestOpen_4 l F v0 μ 0 0) (qX9_highestOpen_4 l F v0 μ 0 0) FU _ x11 hqx11 ?_
  obtain ⟨v1_12, hqq⟩ : ∃ z, z = x11 := ⟨x11, rfl⟩
  subst hqq
  show GM l mX9_highestOpen F 0 0 56 [(1, (0, v1_12))] [] μ
  refine GM_iload_n (pc := 56) 0 rfl (daX9_highestOpen_0 32 rfl) rfl ?_
  cases h
  exact GM_iret (pc := 57) (daX9_highestOpen_0 33 rfl) rfl hK
theorem tX9_highestOpen (l : Launch) {v0 : Int} {μ : Mm} {t : Int} (h : fX9_highestOpen v0 μ = some t) : Ct l yX9_highestOpen mX9_highestOpen [(3, v0)] μ ([(0, t)], μ, 0, 0) :=
  Ct_of (by decide +kernel) rfl rfl (Nat.le_of_ble_eq_true rfl) (fun _ _ _ => trivial) (gX9_highestOpen_0 l h ⟨rfl, rfl⟩)
def mX9_raiseNeighbours : MI := (RX9, cX9_raiseNeighbours, 4, none, "raiseNeighbours", 2, 43, fun _ _ _ => True)
theorem cwX9_raiseNeighbours : CWd yX9_raiseNeighbours mX9_raiseNeighbours 1 := ⟨ki_X9, kk_X9_raiseNeighbours, ⟨by decide, by decide⟩, rfl⟩
def dtX9_raiseNeighbours_0 : List (Nat × Instr × Nat) := [(0, .iconst 0, 1), (1, .istore_n 2, 1), (2, .iload_n 2, 1), (3, .iconst 4, 1), (4, .if_icmp .ge 74, 3), (7, .aload_n 0, 1), (8, .getfield 12, 3), (11, .iload_n 1, 1), (12, .iload_n 2, 1), (13, .invokevirtual 62, 3), (16, .istore_n 3, 1), (17, .aload_n 0, 1), (18, .getfield 12, 3), (21, .iload_n 1, 1), (22, .invokevirtual 59, 3), (25, .ifCond .eq 47, 3), (28, .aload_n 0, 1), (29, .getfield 12, 3), (32, .iload_n 3, 1), (33, .invokevirtual 59, 3), (36, .ifCond .eq 36, 3), (39, .aload_n 0, 1), (40, .getfield 29, 3), (43, .iload_n 3, 1), (44, .aload_n 0, 1), (45, .getfield 29, 3), (48, .iload_n 3, 1), (49, .iaload, 1), (50, .aload_n 0, 1), (51, .getfield 29, 3), (54, .iload_n 1, 1), (55, .iaload, 1), (56, .aload_n 0, 1), (57, .getfield 12, 3), (60, .getfield 66, 3), (63, .iload_n 3, 1), (64, .iaload, 1), (65, .invokestatic 90, 3), (68, .invokestatic 93, 3), (71, .iastore, 1), (72, .iinc 2 1, 3), (75, .goto (-73), 3), (78, .return_, 1)]
theorem ddX9_raiseNeighbours_0 : (dtX9_raiseNeighbours_0.all fun e => decide (decode mX9_raiseNeighbours.2.1 e.1 = .ok (e.2.1, e.2.2))) = true := by decide +kernel
theorem daX9_raiseNeighbours_0 (j : Nat) {pc n : Nat} {i : Instr} (h : dtX9_raiseNeighbours_0[j]? = some (pc, i, n)) : decode mX9_raiseNeighbours.2.1 pc = .ok (i, n) := dec_of (c := mX9_raiseNeighbours.2.1) ddX9_raiseNeighbours_0 h
def zX9_raiseNeighbours_2 (l : Launch) (F : FI) (v0 v1 : Int) (k n : Nat) : (Int × Mm) ⊕ Mm → Prop
  | .inl (v2, μ) => GM l mX9_raiseNeighbours F k n 2 [(0, (3, v0)), (1, (0, v1)), (2, (0, v2))] [] μ
  | .inr μ => GM l mX9_raiseNeighbours F k n 78 [] [] μ
def sX9_raiseNeighbours_2 (v0 v1 : Int) : (Int × Mm) → Option ((Int × Mm) ⊕ Mm) := fun (v2, μ) =>
  if 4 ≤ v2 then
    some (.inr μ)
  else
    chk (KD v0 = 9) (
    chk (KD (μ v0 0) = 2) (
    (fX2_neighbour (μ v0 0) v1 v2 μ).bind fun r4 =>
    (fX2_has (μ v0 0) v1 μ).bind fun r5 =>
    if r5 = 0 then
      some (.inl (w32 (v2 + 1), μ))
    else
      (fX2_has (μ v0 0) r4 μ).bind fun r7 =>
      if r7 = 0 then
        some (.inl (w32 (v2 + 1), μ))
      else
        chk (KD (μ v0 5) = 12 ∧ 0 ≤ r4 ∧ r4 < LN (μ v0 5)) (
        chk (0 ≤ v1 ∧ v1 < LN (μ v0 5)) (
        chk (KD (μ (μ v0 0) 6) = 12 ∧ r4 < LN (μ (μ v0 0) 6)) (
        lm (mst μ (μ v0 5) r4 (imax (μ (μ v0 5) r4) (imin (μ (μ v0 5) v1) (μ (μ (μ v0 0) 6) r4)))) fun μ12 =>
        some (.inl (w32 (v2 + 1), μ12)))))))
def fX9_raiseNeighbours (v0 v1 : Int) (μ : Mm) : Option Mm :=
  (lop (sX9_raiseNeighbours_2 v0 v1) FU (0, μ)).bind fun μ_14 =>
    some μ_14
set_option maxRecDepth 20000 in
theorem qX9_raiseNeighbours_2 (l : Launch) (F : FI) (v0 v1 : Int) (k n : Nat) : ∀ (q : (Int × Mm)) (t : ((Int × Mm) ⊕ Mm)), sX9_raiseNeighbours_2 v0 v1 q = some t → zX9_raiseNeighbours_2 l F v0 v1 k n t → zX9_raiseNeighbours_2 l F v0 v1 k n (.inl q) := by
  intro q t h hK
  obtain ⟨v2, μ⟩ := q
  unfold sX9_raiseNeighbours_2 at h
  try dsimp only at h
  show GM l mX9_raiseNeighbours F k n 2 [(0, (3, v0)), (1, (0, v1)), (2, (0, v2))] [] μ
  refine GM_iload_n (pc := 2) 2 rfl (daX9_raiseNeighbours_0 2 rfl) rfl ?_
  refine GM_iconst (pc := 3) 4 (daX9_raiseNeighbours_0 3 rfl) rfl (R32_b rfl) ?_
  refine GM_icmp_ge (pc := 4) 78 (daX9_raiseNeighbours_0 4 rfl) rfl (fun c1 => ?_) (fun c1 => ?_)
  · skip
    rw [if_pos c1] at h
    refine GM_pick [] rfl ?_
    cases h
    exact hK
  · skip
    rw [if_neg c1] at h
    refine GM_aload_n (pc := 7) 0 rfl (daX9_raiseNeighbours_0 5 rfl) rfl ?_
    obtain ⟨hc2, h⟩ := chk_inv h
    refine GM_getf (pc := 8) 9 0 3 0 kf_X9_12 (Nat.le_of_ble_eq_true rfl) (Nat.le_of_ble_eq_true rfl) rfl (daX9_raiseNeighbours_0 6 rfl) hc2 rfl ?_
    refine GM_iload_n (pc := 11) 1 rfl (daX9_raiseNeighbours_0 7 rfl) rfl ?_
    refine GM_iload_n (pc := 12) 2 rfl (daX9_raiseNeighbours_0 8 rfl) rfl ?_
    obtain ⟨hc3, h⟩ := chk_inv h
    obtain ⟨r4, hf4, h⟩ := Option.bind_eq_some_iff.mp h
    refine GM_callV0 (pc := 13) [(0, v1), (0, v2)] (tX2_neighbour l hf4) cwX2_neighbour 2 (Nat.le_of_ble_eq_true rfl) rfl kv_X2_neighbour ke_X2_neighbour km_X9_62 hc3 ⟨Nat.le_of_ble_eq_true rfl, Nat.le_of_ble_eq_true rfl⟩ (Nat.le_of_ble_eq_true rfl) (Nat.le_of_ble_eq_true rfl) (daX9_raiseNeighbours_0 9 rfl) ?_
    refine GM_istore_n (L' := [(3, (0, r4)), (0, (3, v0)), (1, (0, v1)), (2, (0, v2))]) (pc := 16) (daX9_raiseNeighbours_0 10 rfl) rfl (Nat.le_of_ble_eq_true rfl) rfl ?_
    refine GM_aload_n (pc := 17) 1 rfl (daX9_raiseNeighbours_0 11 rfl) rfl ?_
    refine GM_getf (pc := 18) 9 0 3 0 kf_X9_12 (Nat.le_of_ble_eq_true rfl) (Nat.le_of_ble_eq_true rfl) rfl (daX9_raiseNeighbours_0 12 rfl) hc2 rfl ?_
    refine GM_iload_n (pc := 21) 2 rfl (daX9_raiseNeighbours_0 13 rfl) rfl ?_
    obtain ⟨r5, hf5, h⟩ := Option.bind_eq_some_iff.mp h
    refine GM_callV0 (pc := 22) [(0, v1)] (tX2_has l hf5) cwX2_has 2 (Nat.le_of_ble_eq_true rfl) rfl kv_X2_has ke_X2_has km_X9_59 hc3 ⟨Nat.le_of_ble_eq_true rfl, Nat.le_of_ble_eq_true rfl⟩ (Nat.le_of_ble_eq_true rfl) (Nat.le_of_ble_eq_true rfl) (daX9_raiseNeighbours_0 14 rfl) ?_
    refine GM_if_eq (pc := 25) 72 (daX9_raiseNeighbours_0 15 rfl) rfl (fun c6 => ?_) (fun c6 => ?_)
    · skip
      rw [if_pos c6] at h
      refine GM_iinc (L' := [(2, (0, w32 (v2 + 1))), (3, (0, r4)), (0, (3, v0)), (1, (0, v1))]) (pc := 72) 3 rfl (daX9_raiseNeighbours_0 40 rfl) (Nat.le_of_ble_eq_true rfl) rfl ?_
      refine GM_goto (pc := 75) 2 (daX9_raiseNeighbours_0 41 rfl) rfl ?_
      refine GM_pick [2, 3, 0] rfl ?_
      cases h
      exact hK
    · skip
      rw [if_neg c6] at h
      refine GM_aload_n (pc := 28) 1 rfl (daX9_raiseNeighbours_0 16 rfl) rfl ?_
      refine GM_getf (pc := 29) 9 0 3 0 kf_X9_12 (Nat.le_of_ble_eq_true rfl) (Nat.le_of_ble_eq_true rfl) rfl (daX9_raiseNeighbours_0 17 rfl) hc2 rfl ?_
      refine GM_iload_n (pc := 32) 0 rfl (daX9_raiseNeighbours_0 18 rfl) rfl ?_
      obtain ⟨r7, hf7, h⟩ := Option.bind_eq_some_iff.mp h
      refine GM_callV0 (pc := 33) [(0, r4)] (tX2_has l hf7) cwX2_has 2 (Nat.le_of_ble_eq_true rfl) rfl kv_X2_has ke_X2_has km_X9_59 hc3 ⟨Nat.le_of_ble_eq_true rfl, Nat.le_of_ble_eq_true rfl⟩ (Nat.le_of_ble_eq_true rfl) (Nat.le_of_ble_eq_true rfl) (daX9_raiseNeighbours_0 19 rfl) ?_
      refine GM_if_eq (pc := 36) 72 (daX9_raiseNeighbours_0 20 rfl) rfl (fun c8 => ?_) (fun c8 => ?_)
      · skip
        rw [if_pos c8] at h
        refine GM_iinc (L' := [(2, (0, w32 (v2 + 1))), (3, (0, r4)), (0, (3, v0)), (1, (0, v1))]) (pc := 72) 3 rfl (daX9_raiseNeighbours_0 40 rfl) (Nat.le_of_ble_eq_true rfl) rfl ?_
        refine GM_goto (pc := 75) 2 (daX9_raiseNeighbours_0 41 rfl) rfl ?_
        refine GM_pick [2, 3, 0] rfl ?_
        cases h
        exact hK
      · skip
        rw [if_neg c8] at h
        refine GM_aload_n (pc := 39) 1 rfl (daX9_raiseNeighbours_0 21 rfl) rfl ?_
        refine GM_getf (pc := 40) 9 5 3 5 kf_X9_29 (Nat.le_of_ble_eq_true rfl) (Nat.le_of_ble_eq_true rfl) rfl (daX9_raiseNeighbours_0 22 rfl) hc2 rfl ?_
        refine GM_iload_n (pc := 43) 0 rfl (daX9_raiseNeighbours_0 23 rfl) rfl ?_
        refine GM_aload_n (pc := 44) 1 rfl (daX9_raiseNeighbours_0 24 rfl) rfl ?_
        refine GM_getf (pc := 45) 9 5 3 5 kf_X9_29 (Nat.le_of_ble_eq_true rfl) (Nat.le_of_ble_eq_true rfl) rfl (daX9_raiseNeighbours_0 25 rfl) hc2 rfl ?_
        refine GM_iload_n (pc := 48) 0 rfl (daX9_raiseNeighbours_0 26 rfl) rfl ?_
        obtain ⟨hc9, h⟩ := chk_inv h
        refine GM_iald (pc := 49) (daX9_raiseNeighbours_0 27 rfl) hc9.1 hc9.2.1 hc9.2.2 ?_
        refine GM_aload_n (pc := 50) 1 rfl (daX9_raiseNeighbours_0 28 rfl) rfl ?_
        refine GM_getf (pc := 51) 9 5 3 5 kf_X9_29 (Nat.le_of_ble_eq_true rfl) (Nat.le_of_ble_eq_true rfl) rfl (daX9_raiseNeighbours_0 29 rfl) hc2 rfl ?_
        refine GM_iload_n (pc := 54) 2 rfl (daX9_raiseNeighbours_0 30 rfl) rfl ?_
        obtain ⟨hc10, h⟩ := chk_inv h
        refine GM_iald (pc := 55) (daX9_raiseNeighbours_0 31 rfl) hc9.1 hc10.1 hc10.2 ?_
        refine GM_aload_n (pc := 56) 1 rfl (daX9_raiseNeighbours_0 32 rfl) rfl ?_
        refine GM_getf (pc := 57) 9 0 3 0 kf_X9_12 (Nat.le_of_ble_eq_true rfl) (Nat.le_of_ble_eq_true rfl) rfl (daX9_raiseNeighbours_0 33 rfl) hc2 rfl ?_
        refine GM_getf (pc := 60) 2 6 3 6 kf_X9_66 (Nat.le_of_ble_eq_true rfl) (Nat.le_of_ble_eq_true rfl) rfl (daX9_raiseNeighbours_0 34 rfl) hc3 rfl ?_
        refine GM_iload_n (pc := 63) 0 rfl (daX9_raiseNeighbours_0 35 rfl) rfl ?_
        obtain ⟨hc11, h⟩ := chk_inv h
        refine GM_iald (pc := 64) (daX9_raiseNeighbours_0 36 rfl) hc11.1 hc9.2.1 hc11.2 ?_
        refine GM_callS0 (pc := 65) [(0, μ (μ v0 5) v1), (0, μ (μ (μ v0 0) 6) r4)] (tJ9_min_7cf53 l (fJ9_min_eq (μ (μ v0 5) v1) (μ (μ (μ v0 0) 6) r4))) cwJ9_min_7cf53 ks_J9_min_7cf53 km_X9_90 ⟨Nat.le_of_ble_eq_true rfl, Nat.le_of_ble_eq_true rfl⟩ (Nat.le_of_ble_eq_true rfl) (Nat.le_of_ble_eq_true rfl) (daX9_raiseNeighbours_0 37 rfl) ?_
        refine GM_callS0 (pc := 68) [(0, μ (μ v0 5) r4), (0, imin (μ (μ v0 5) v1) (μ (μ (μ v0 0) 6) r4))] (tJ9_max_7cf53 l (fJ9_max_eq (μ (μ v0 5) r4) (imin (μ (μ v0 5) v1) (μ (μ (μ v0 0) 6) r4)))) cwJ9_max_7cf53 ks_J9_max_7cf53 km_X9_93 ⟨Nat.le_of_ble_eq_true rfl, Nat.le_of_ble_eq_true rfl⟩ (Nat.le_of_ble_eq_true rfl) (Nat.le_of_ble_eq_true rfl) (daX9_raiseNeighbours_0 38 rfl) ?_
        obtain ⟨μ12, hμ12, h⟩ := lm_inv h
        refine GM_iast (pc := 71) (daX9_raiseNeighbours_0 39 rfl) hc9.1 hc9.2.1 hc9.2.2 ?_
        refine GM_mem hμ12 ?_
        refine GM_iinc (L' := [(2, (0, w32 (v2 + 1))), (3, (0, r4)), (0, (3, v0)), (1, (0, v1))]) (pc := 72) 3 rfl (daX9_raiseNeighbours_0 40 rfl) (Nat.le_of_ble_eq_true rfl) rfl ?_
        refine GM_goto (pc := 75) 2 (daX9_raiseNeighbours_0 41 rfl) rfl ?_
        refine GM_pick [2, 3, 0] rfl ?_
        cases h
        exact hK
set_option maxRecDepth 20000 in
theorem gX9_raiseNeighbours_0 (l : Launch) {F : FI} {v0 v1 : Int} {μ : Mm} {t : Mm} (h : fX9_raiseNeighbours v0 v1 μ = some t) (hK : F.1 = [] ∧ F.2.1 = t) : GM l mX9_raiseNeighbours F 0 0 0 [(0, (3, v0)), (1, (0, v1))] [] μ := by
  unfold fX9_raiseNeighbours at h
  refine GM_iconst (pc := 0) 0 (daX9_raiseNeighbours_0 0 rfl) rfl (R32_b rfl) ?_
  refine GM_istore_n (L' := [(2, (0, 0)), (0, (3, v0)), (1, (0, v1))]) (pc := 1) (daX9_raiseNeighbours_0 1 rfl) rfl (Nat.le_of_ble_eq_true rfl) rfl ?_
  refine GM_pick [1, 2, 0] rfl ?_
  obtain ⟨x13, hqx13, h⟩ := Option.bind_eq_some_iff.mp h
  refine lop_ind (zX9_raiseNeighbours_2 l F v0 v1 0 0) (qX9_raiseNeighbours_2 l F v0 v1 0 0) FU _ x13 hqx13 ?_
  obtain ⟨μ_14, hqq⟩ : ∃ z, z = x13 := ⟨x13, rfl⟩
  subst hqq
  show GM l mX9_raiseNeighbours F 0 0 78 [] [] μ_14
  cases h
  exact GM_vret (pc := 78) (daX9_raiseNeighbours_0 42 rfl) rfl hK
theorem tX9_raiseNeighbours (l : Launch) {v0 v1 : Int} {μ : Mm} {t : Mm} (h : fX9_raiseNeighbours v0 v1 μ = some t) : Ct l yX9_raiseNeighbours mX9_raiseNeighbours [(3, v0), (0, v1)] μ ([], t, 0, 0) :=
  Ct_of (by decide +kernel) rfl rfl (Nat.le_of_ble_eq_true rfl) (fun _ _ _ => trivial) (gX9_raiseNeighbours_0 l h ⟨rfl, rfl⟩)
def mX9_saddle : MI := (RX9, cX9_saddle, 5, (some .int), "saddle", 3, 66, fun _ _ _ => True)
theorem cwX9_saddle : CWd yX9_saddle mX9_saddle 2 := ⟨ki_X9, kk_X9_saddle, ⟨by decide, by decide⟩, rfl⟩
def dtX9_saddle_0 : List (Nat × Instr × Nat) := [(0, .aload_n 1, 1), (1, .iload_n 2, 1), (2, .invokevirtual 59, 3), (5, .ifCond .ne 5, 3), (8, .iconst 0, 1), (9, .ireturn, 1), (10, .aload_n 0, 1), (11, .aload_n 1, 1), (12, .sipush 999, 3), (15, .invokevirtual 75, 3), (18, .aload_n 0, 1), (19, .getfield 29, 3), (22, .iconst (-1), 1), (23, .invokestatic 43, 3), (26, .aload_n 0, 1), (27, .getfield 29, 3), (30, .iload_n 2, 1), (31, .aload_n 1, 1), (32, .getfield 66, 3), (35, .iload_n 2, 1), (36, .iaload, 1), (37, .iastore, 1), (38, .iconst 0, 1), (39, .istore_n 3, 1), (40, .iload_n 3, 1), (41, .sipush 144, 3), (44, .if_icmp .ge 62, 3), (47, .aload_n 0, 1), (48, .invokevirtual 79, 3), (51, .istore 4, 2), (53, .iload 4, 2), (55, .iconst (-1), 1), (56, .if_icmp .ne 6, 3), (59, .goto 47, 3), (62, .aload_n 1, 1), (63, .getfield 66, 3), (66, .iload 4, 2), (68, .iaload, 1), (69, .aload_n 1, 1), (70, .getfield 66, 3), (73, .iload_n 2, 1), (74, .iaload, 1), (75, .if_icmp .le 11, 3), (78, .aload_n 0, 1), (79, .getfield 29, 3), (82, .iload 4, 2), (84, .iaload, 1), (85, .ireturn, 1), (86, .aload_n 0, 1), (87, .getfield 18, 3), (90, .iload 4, 2), (92, .iconst 1, 1), (93, .bastore, 1), (94, .aload_n 0, 1), (95, .iload 4, 2), (97, .invokevirtual 83, 3), (100, .iinc 3 1, 3), (103, .goto (-63), 3), (106, .iconst 0, 1), (107, .ireturn, 1)]
theorem ddX9_saddle_0 : (dtX9_saddle_0.all fun e => decide (decode mX9_saddle.2.1 e.1 = .ok (e.2.1, e.2.2))) = true := by decide +kernel
theorem daX9_saddle_0 (j : Nat) {pc n : Nat} {i : Instr} (h : dtX9_saddle_0[j]? = some (pc, i, n)) : decode mX9_saddle.2.1 pc = .ok (i, n) := dec_of (c := mX9_saddle.2.1) ddX9_saddle_0 h
def zX9_saddle_40 (l : Launch) (F : FI) (v0 v1 v2 : Int) (k n : Nat) : (Int × Mm) ⊕ (Mm ⊕ Mm ⊕ (Int × Mm)) → Prop
  | .inl (v3, μ) => GM l mX9_saddle F k n 40 [(0, (3, v0)), (1, (3, v1)), (2, (0, v2)), (3, (0, v3))] [] μ
  | .inr (.inl μ) => GM l mX9_saddle F k n 106 [] [] μ
  | .inr (.inr (.inl μ)) => GM l mX9_saddle F k n 59 [] [] μ
  | .inr (.inr (.inr (v4, μ))) => GM l mX9_saddle F k n 78 [(0, (3, v0)), (4, (0, v4))] [] μ
def sX9_saddle_40 (v0 v1 v2 : Int) : (Int × Mm) → Option ((Int × Mm) ⊕ (Mm ⊕ Mm ⊕ (Int × Mm))) := fun (v3, μ) =>
  if 144 ≤ v3 then
    some (.inr (.inl μ))
  else
    chk (KD v0 = 9) (
    (fX9_highestOpen v0 μ).bind fun r3 =>
    if r3 = (-1) then
      some (.inr (.inr (.inl μ)))
    else
      chk (KD v1 = 2) (
      chk (KD (μ v1 6) = 12 ∧ 0 ≤ r3 ∧ r3 < LN (μ v1 6)) (
      chk (0 ≤ v2 ∧ v2 < LN (μ v1 6)) (
      if μ (μ v1 6) r3 ≤ μ (μ v1 6) v2 then
        chk (KD (μ v0 2) = 14 ∧ r3 < LN (μ v0 2)) (
        lm (mst μ (μ v0 2) r3 1) fun μ10 =>
        (fX9_raiseNeighbours v0 r3 μ10).bind fun μ11 =>
        some (.inl (w32 (v3 + 1), μ11)))
      else
        some (.inr (.inr (.inr (r3, μ))))))))
def fX9_saddle (v0 v1 v2 : Int) (μ : Mm) : Option (Int × Mm) :=
  chk (KD v1 = 2) (
  (fX2_has v1 v2 μ).bind fun r13 =>
  if r13 = 0 then
    some (0, μ)
  else
    chk (KD v0 = 9) (
    (fX9_ready v0 v1 999 μ).bind fun μ16 =>
    (fJ7_fill_53178 (μ16 v0 5) (-1) μ16).bind fun μ17 =>
    chk (KD (μ17 v1 6) = 12 ∧ 0 ≤ v2 ∧ v2 < LN (μ17 v1 6)) (
    chk (KD (μ17 v0 5) = 12 ∧ v2 < LN (μ17 v0 5)) (
    lm (mst μ17 (μ17 v0 5) v2 (μ17 (μ17 v1 6) v2)) fun μ20 =>
    (lop (sX9_saddle_40 v0 v1 v2) FU (0, μ20)).bind fun x21 =>
      match x21 with
      | (.inl μ_22) =>
          some (0, μ_22)
      | (.inr (.inl μ_23)) =>
          some (0, μ_23)
      | (.inr (.inr (v4_24, μ_24))) =>
          chk (KD (μ_24 v0 5) = 12 ∧ 0 ≤ v4_24 ∧ v4_24 < LN (μ_24 v0 5)) (
          some (μ_24 (μ_24 v0 5) v4_24, μ_24))))))
set_option maxRecDepth 20000 in
theorem qX9_saddle_40 (l : Launch) (F : FI) (v0 v1 v2 : Int) (k n : Nat) : ∀ (q : (Int × Mm)) (t : ((Int × Mm) ⊕ (Mm ⊕ Mm ⊕ (Int × Mm)))), sX9_saddle_40 v0 v1 v2 q = some t → zX9_saddle_40 l F v0 v1 v2 k n t → zX9_saddle_40 l F v0 v1 v2 k n (.inl q) := by
  intro q t h hK
  obtain ⟨v3, μ⟩ := q
  unfold sX9_saddle_40 at h
  try dsimp only at h
  show GM l mX9_saddle F k n 40 [(0, (3, v0)), (1, (3, v1)), (2, (0, v2)), (3, (0, v3))] [] μ
  refine GM_iload_n (pc := 40) 3 rfl (daX9_saddle_0 24 rfl) rfl ?_
  refine GM_sipush (pc := 41) 144 (daX9_saddle_0 25 rfl) rfl (R32_b rfl) ?_
  refine GM_icmp_ge (pc := 44) 106 (daX9_saddle_0 26 rfl) rfl (fun c1 => ?_) (fun c1 => ?_)
  · skip
    rw [if_pos c1] at h
    refine GM_pick [] rfl ?_
    cases h
    exact hK
  · skip
    rw [if_neg c1] at h
    refine GM_aload_n (pc := 47) 0 rfl (daX9_saddle_0 27 rfl) rfl ?_
    obtain ⟨hc2, h⟩ := chk_inv h
    obtain ⟨r3, hf3, h⟩ := Option.bind_eq_some_iff.mp h
    refine GM_callV0 (pc := 48) [] (tX9_highestOpen l hf3) cwX9_highestOpen 9 (Nat.le_of_ble_eq_true rfl) rfl kv_X9_highestOpen ke_X9_highestOpen km_X9_79 hc2 ⟨Nat.le_of_ble_eq_true rfl, Nat.le_of_ble_eq_true rfl⟩ (Nat.le_of_ble_eq_true rfl) (Nat.le_of_ble_eq_true rfl) (daX9_saddle_0 28 rfl) ?_
    refine GM_istore (L' := [(4, (0, r3)), (0, (3, v0)), (1, (3, v1)), (2, (0, v2)), (3, (0, v3))]) (pc := 51) (daX9_saddle_0 29 rfl) (Nat.le_of_ble_eq_true rfl) rfl ?_
    refine GM_iload (pc := 53) 0 rfl (daX9_saddle_0 30 rfl) ?_
    refine GM_iconst (pc := 55) (-1) (daX9_saddle_0 31 rfl) rfl (R32_b rfl) ?_
    refine GM_icmp_ne (pc := 56) 62 (daX9_saddle_0 32 rfl) rfl (fun c4 => ?_) (fun c4 => ?_)
    · skip
      rw [if_neg c4] at h
      refine GM_aload_n (pc := 62) 2 rfl (daX9_saddle_0 34 rfl) rfl ?_
      obtain ⟨hc5, h⟩ := chk_inv h
      refine GM_getf (pc := 63) 2 6 3 6 kf_X9_66 (Nat.le_of_ble_eq_true rfl) (Nat.le_of_ble_eq_true rfl) rfl (daX9_saddle_0 35 rfl) hc5 rfl ?_
      refine GM_iload (pc := 66) 0 rfl (daX9_saddle_0 36 rfl) ?_
      obtain ⟨hc6, h⟩ := chk_inv h
      refine GM_iald (pc := 68) (daX9_saddle_0 37 rfl) hc6.1 hc6.2.1 hc6.2.2 ?_
      refine GM_aload_n (pc := 69) 2 rfl (daX9_saddle_0 38 rfl) rfl ?_
      refine GM_getf (pc := 70) 2 6 3 6 kf_X9_66 (Nat.le_of_ble_eq_true rfl) (Nat.le_of_ble_eq_true rfl) rfl (daX9_saddle_0 39 rfl) hc5 rfl ?_
      refine GM_iload_n (pc := 73) 3 rfl (daX9_saddle_0 40 rfl) rfl ?_
      obtain ⟨hc7, h⟩ := chk_inv h
      refine GM_iald (pc := 74) (daX9_saddle_0 41 rfl) hc6.1 hc7.1 hc7.2 ?_
      refine GM_icmp_le (pc := 75) 86 (daX9_saddle_0 42 rfl) rfl (fun c8 => ?_) (fun c8 => ?_)
      · skip
        rw [if_pos c8] at h
        refine GM_aload_n (pc := 86) 1 rfl (daX9_saddle_0 48 rfl) rfl ?_
        refine GM_getf (pc := 87) 9 2 3 2 kf_X9_18 (Nat.le_of_ble_eq_true rfl) (Nat.le_of_ble_eq_true rfl) rfl (daX9_saddle_0 49 rfl) hc2 rfl ?_
        refine GM_iload (pc := 90) 0 rfl (daX9_saddle_0 50 rfl) ?_
        refine GM_iconst (pc := 92) 1 (daX9_saddle_0 51 rfl) rfl (R32_b rfl) ?_
        obtain ⟨hc9, h⟩ := chk_inv h
        obtain ⟨μ10, hμ10, h⟩ := lm_inv h
        refine GM_zast (pc := 93) (daX9_saddle_0 52 rfl) hc9.1 hc6.2.1 hc9.2 (Or.inr rfl) ?_
        refine GM_mem hμ10 ?_
        refine GM_aload_n (pc := 94) 1 rfl (daX9_saddle_0 53 rfl) rfl ?_
        refine GM_iload (pc := 95) 0 rfl (daX9_saddle_0 54 rfl) ?_
        obtain ⟨μ11, hf11, h⟩ := Option.bind_eq_some_iff.mp h
        refine GM_callV0 (pc := 97) [(0, r3)] (tX9_raiseNeighbours l hf11) cwX9_raiseNeighbours 9 (Nat.le_of_ble_eq_true rfl) rfl kv_X9_raiseNeighbours ke_X9_raiseNeighbours km_X9_83 hc2 ⟨Nat.le_of_ble_eq_true rfl, Nat.le_of_ble_eq_true rfl⟩ (Nat.le_of_ble_eq_true rfl) (Nat.le_of_ble_eq_true rfl) (daX9_saddle_0 55 rfl) ?_
        refine GM_iinc (L' := [(3, (0, w32 (v3 + 1))), (4, (0, r3)), (0, (3, v0)), (1, (3, v1)), (2, (0, v2))]) (pc := 100) 4 rfl (daX9_saddle_0 56 rfl) (Nat.le_of_ble_eq_true rfl) rfl ?_
        refine GM_goto (pc := 103) 40 (daX9_saddle_0 57 rfl) rfl ?_
        refine GM_pick [2, 3, 4, 0] rfl ?_
        cases h
        exact hK
      · skip
        rw [if_neg c8] at h
        refine GM_pick [1, 0] rfl ?_
        cases h
        exact hK
    · skip
      rw [if_pos c4] at h
      refine GM_pick [] rfl ?_
      cases h
      exact hK
set_option maxRecDepth 20000 in
theorem gX9_saddle_0 (l : Launch) {F : FI} {v0 v1 v2 : Int} {μ : Mm} {t : (Int × Mm)} (h : fX9_saddle v0 v1 v2 μ = some t) (hK : F.1 = [(0, t.1)] ∧ F.2.1 = t.2) : GM l mX9_saddle F 0 0 0 [(0, (3, v0)), (1, (3, v1)), (2, (0, v2))] [] μ := by
  unfold fX9_saddle at h
  refine GM_aload_n (pc := 0) 1 rfl (daX9_saddle_0 0 rfl) rfl ?_
  refine GM_iload_n (pc := 1) 2 rfl (daX9_saddle_0 1 rfl) rfl ?_
  obtain ⟨hc12, h⟩ := chk_inv h
  obtain ⟨r13, hf13, h⟩ := Option.bind_eq_some_iff.mp h
  refine GM_callV0 (pc := 2) [(0, v2)] (tX2_has l hf13) cwX2_has 2 (Nat.le_of_ble_eq_true rfl) rfl kv_X2_has ke_X2_has km_X9_59 hc12 ⟨Nat.le_of_ble_eq_true rfl, Nat.le_of_ble_eq_true rfl⟩ (Nat.le_of_ble_eq_true rfl) (Nat.le_of_ble_eq_true rfl) (daX9_saddle_0 2 rfl) ?_
  refine GM_if_ne (pc := 5) 10 (daX9_saddle_0 3 rfl) rfl (fun c14 => ?_) (fun c14 => ?_)
  · skip
    rw [if_neg c14] at h
    refine GM_aload_n (pc := 10) 0 rfl (daX9_saddle_0 6 rfl) rfl ?_
    refine GM_aload_n (pc := 11) 1 rfl (daX9_saddle_0 7 rfl) rfl ?_
    refine GM_sipush (pc := 12) 999 (daX9_saddle_0 8 rfl) rfl (R32_b rfl) ?_
    obtain ⟨hc15, h⟩ := chk_inv h
    obtain ⟨μ16, hf16, h⟩ := Option.bind_eq_some_iff.mp h
    refine GM_callV0 (pc := 15) [(3, v1), (0, 999)] (tX9_ready l hf16) cwX9_ready 9 (Nat.le_of_ble_eq_true rfl) rfl kv_X9_ready ke_X9_ready km_X9_75 hc15 ⟨Nat.le_of_ble_eq_true rfl, Nat.le_of_ble_eq_true rfl⟩ (Nat.le_of_ble_eq_true rfl) (Nat.le_of_ble_eq_true rfl) (daX9_saddle_0 9 rfl) ?_
    refine GM_aload_n (pc := 18) 0 rfl (daX9_saddle_0 10 rfl) rfl ?_
    refine GM_getf (pc := 19) 9 5 3 5 kf_X9_29 (Nat.le_of_ble_eq_true rfl) (Nat.le_of_ble_eq_true rfl) rfl (daX9_saddle_0 11 rfl) hc15 rfl ?_
    refine GM_iconst (pc := 22) (-1) (daX9_saddle_0 12 rfl) rfl (R32_b rfl) ?_
    obtain ⟨μ17, hf17, h⟩ := Option.bind_eq_some_iff.mp h
    refine GM_callS0 (pc := 23) [(3, μ16 v0 5), (0, (-1))] (tJ7_fill_53178 l hf17) cwJ7_fill_53178 ks_J7_fill_53178 km_X9_43 ⟨Nat.le_of_ble_eq_true rfl, Nat.le_of_ble_eq_true rfl⟩ (Nat.le_of_ble_eq_true rfl) (Nat.le_of_ble_eq_true rfl) (daX9_saddle_0 13 rfl) ?_
    refine GM_aload_n (pc := 26) 0 rfl (daX9_saddle_0 14 rfl) rfl ?_
    refine GM_getf (pc := 27) 9 5 3 5 kf_X9_29 (Nat.le_of_ble_eq_true rfl) (Nat.le_of_ble_eq_true rfl) rfl (daX9_saddle_0 15 rfl) hc15 rfl ?_
    refine GM_iload_n (pc := 30) 2 rfl (daX9_saddle_0 16 rfl) rfl ?_
    refine GM_aload_n (pc := 31) 1 rfl (daX9_saddle_0 17 rfl) rfl ?_
    refine GM_getf (pc := 32) 2 6 3 6 kf_X9_66 (Nat.le_of_ble_eq_true rfl) (Nat.le_of_ble_eq_true rfl) rfl (daX9_saddle_0 18 rfl) hc12 rfl ?_
    refine GM_iload_n (pc := 35) 2 rfl (daX9_saddle_0 19 rfl) rfl ?_
    obtain ⟨hc18, h⟩ := chk_inv h
    refine GM_iald (pc := 36) (daX9_saddle_0 20 rfl) hc18.1 hc18.2.1 hc18.2.2 ?_
    obtain ⟨hc19, h⟩ := chk_inv h
    obtain ⟨μ20, hμ20, h⟩ := lm_inv h
    refine GM_iast (pc := 37) (daX9_saddle_0 21 rfl) hc19.1 hc18.2.1 hc19.2 ?_
    refine GM_mem hμ20 ?_
    refine GM_iconst (pc := 38) 0 (daX9_saddle_0 22 rfl) rfl (R32_b rfl) ?_
    refine GM_istore_n (L' := [(3, (0, 0)), (0, (3, v0)), (1, (3, v1)), (2, (0, v2))]) (pc := 39) (daX9_saddle_0 23 rfl) rfl (Nat.le_of_ble_eq_true rfl) rfl ?_
    refine GM_pick [1, 2, 3, 0] rfl ?_
    obtain ⟨x21, hqx21, h⟩ := Option.bind_eq_some_iff.mp h
    refine lop_ind (zX9_saddle_40 l F v0 v1 v2 0 0) (qX9_saddle_40 l F v0 v1 v2 0 0) FU _ x21 hqx21 ?_
    rcases x21 with μ_22 | μ_23 | ⟨v4_24, μ_24⟩
    · dsimp only at h
      show GM l mX9_saddle F 0 0 106 [] [] μ_22
      refine GM_iconst (pc := 106) 0 (daX9_saddle_0 58 rfl) rfl (R32_b rfl) ?_
      cases h
      exact GM_iret (pc := 107) (daX9_saddle_0 59 rfl) rfl hK
    · dsimp only at h
      show GM l mX9_saddle F 0 0 59 [] [] μ_23
      refine GM_goto (pc := 59) 106 (daX9_saddle_0 33 rfl) rfl ?_
      refine GM_iconst (pc := 106) 0 (daX9_saddle_0 58 rfl) rfl (R32_b rfl) ?_
      cases h
      exact GM_iret (pc := 107) (daX9_saddle_0 59 rfl) rfl hK
    · dsimp only at h
      show GM l mX9_saddle F 0 0 78 [(0, (3, v0)), (4, (0, v4_24))] [] μ_24
      refine GM_aload_n (pc := 78) 0 rfl (daX9_saddle_0 43 rfl) rfl ?_
      refine GM_getf (pc := 79) 9 5 3 5 kf_X9_29 (Nat.le_of_ble_eq_true rfl) (Nat.le_of_ble_eq_true rfl) rfl (daX9_saddle_0 44 rfl) hc15 rfl ?_
      refine GM_iload (pc := 82) 1 rfl (daX9_saddle_0 45 rfl) ?_
      obtain ⟨hc25, h⟩ := chk_inv h
      refine GM_iald (pc := 84) (daX9_saddle_0 46 rfl) hc25.1 hc25.2.1 hc25.2.2 ?_
      cases h
      exact GM_iret (pc := 85) (daX9_saddle_0 47 rfl) rfl hK
  · skip
    rw [if_pos c14] at h
    refine GM_iconst (pc := 8) 0 (daX9_saddle_0 4 rfl) rfl (R32_b rfl) ?_
    cases h
    exact GM_iret (pc := 9) (daX9_saddle_0 5 rfl) rfl hK
theorem tX9_saddle (l : Launch) {v0 v1 v2 : Int} {μ : Mm} {t : (Int × Mm)} (h : fX9_saddle v0 v1 v2 μ = some t) : Ct l yX9_saddle mX9_saddle [(3, v0), (3, v1), (0, v2)] μ ([(0, t.1)], t.2, 0, 0) :=
  Ct_of (by decide +kernel) rfl rfl (Nat.le_of_ble_eq_true rfl) (fun _ _ _ => trivial) (gX9_saddle_0 l h ⟨rfl, rfl⟩)
