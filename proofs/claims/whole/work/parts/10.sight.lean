def mX5_init : MI := (RX5, cX5_init, 1, none, "<init>", 2, 44, fun _ _ _ => True)
theorem cwX5_init : CWd yX5_init mX5_init 0 := ⟨ki_X5, kk_X5_init, ⟨by decide, by decide⟩, rfl⟩
def dtX5_init_0 : List (Nat × Instr × Nat) := [(0, .aload_n 0, 1), (1, .invokespecial 3, 3), (4, .aload_n 0, 1), (5, .new 9, 3), (8, .dup, 1), (9, .invokespecial 11, 3), (12, .putfield 12, 3), (15, .aload_n 0, 1), (16, .sipush 144, 3), (19, .newarray .int, 2), (21, .putfield 18, 3), (24, .aload_n 0, 1), (25, .sipush 144, 3), (28, .newarray .int, 2), (30, .putfield 22, 3), (33, .aload_n 0, 1), (34, .sipush 144, 3), (37, .newarray .int, 2), (39, .putfield 25, 3), (42, .aload_n 0, 1), (43, .bipush 91, 2), (45, .newarray .int, 2), (47, .putfield 28, 3), (50, .return_, 1)]
theorem ddX5_init_0 : (dtX5_init_0.all fun e => decide (decode mX5_init.2.1 e.1 = .ok (e.2.1, e.2.2))) = true := by decide +kernel
theorem daX5_init_0 (j : Nat) {pc n : Nat} {i : Instr} (h : dtX5_init_0[j]? = some (pc, i, n)) : decode mX5_init.2.1 pc = .ok (i, n) := dec_of (c := mX5_init.2.1) ddX5_init_0 h
def fX5_init (v0 : Int) (μ : Mm) : Option (Mm × Nat × Nat) :=
  chk (v0 ≠ 0) (
  chk (KD (v0 + 1) = 0 ∧ μ 0 (v0 + 1) = 0) (
  pay 1 2 (
  lm (mnw μ (v0 + 1)) fun μ4 =>
  chk (v0 + 1 ≠ 0) (
  (fX0_init (v0 + 1) μ4).bind fun (μ6, c6, n6) =>
  pay c6 n6 (
  chk (KD v0 = 5) (
  lm (mst μ6 v0 0 (v0 + 1)) fun μ9 =>
  chk (KD (v0 + 4) = 12 ∧ LN (v0 + 4) = 144 ∧ μ9 0 (v0 + 4) = 0) (
  pay 1 144 (
  lm (mnw μ9 (v0 + 4)) fun μ12 =>
  lm (mst μ12 v0 1 (v0 + 4)) fun μ13 =>
  chk (KD (v0 + 5) = 12 ∧ LN (v0 + 5) = 144 ∧ μ13 0 (v0 + 5) = 0) (
  pay 1 144 (
  lm (mnw μ13 (v0 + 5)) fun μ16 =>
  lm (mst μ16 v0 2 (v0 + 5)) fun μ17 =>
  chk (KD (v0 + 6) = 12 ∧ LN (v0 + 6) = 144 ∧ μ17 0 (v0 + 6) = 0) (
  pay 1 144 (
  lm (mnw μ17 (v0 + 6)) fun μ20 =>
  lm (mst μ20 v0 3 (v0 + 6)) fun μ21 =>
  chk (KD (v0 + 7) = 12 ∧ LN (v0 + 7) = 91 ∧ μ21 0 (v0 + 7) = 0) (
  pay 1 91 (
  lm (mnw μ21 (v0 + 7)) fun μ24 =>
  lm (mst μ24 v0 4 (v0 + 7)) fun μ25 =>
  some (μ25, 0, 0)))))))))))))))
set_option maxRecDepth 20000 in
theorem gX5_init_0 (l : Launch) {F : FI} {v0 : Int} {μ : Mm} {t : Mm} {c0 n0 k n : Nat} (h : fX5_init v0 μ = some (t, c0, n0)) (hK : F.1 = [] ∧ F.2.1 = t) : GM l mX5_init F (c0 + k) (n0 + n) 0 [(0, (3, v0))] [] μ := by
  unfold fX5_init at h
  refine GM_aload_n (pc := 0) 0 rfl (daX5_init_0 0 rfl) rfl ?_
  obtain ⟨hc1, h⟩ := chk_inv h
  refine GM_objInit (pc := 1) km_X5_3 kv__java_lang_Object__init____V_ kk_obj (daX5_init_0 1 rfl) hc1 ⟨Nat.le_of_ble_eq_true rfl, Nat.le_of_ble_eq_true rfl⟩ ?_
  refine GM_aload_n (pc := 4) 0 rfl (daX5_init_0 2 rfl) rfl ?_
  obtain ⟨hc2, h⟩ := chk_inv h
  obtain ⟨c3, n3, hp, e1, e2⟩ := pay_inv h
  subst e1 e2
  replace h := hp
  clear hp
  rw [Nat.add_assoc, Nat.add_assoc]
  obtain ⟨μ4, hμ4, h⟩ := lm_inv h
  refine GM_new (pc := 5) 0 (v0 + 1) (by decide) kc_X5_9 (daX5_init_0 3 rfl) hc2.1 hc2.2 ?_
  refine GM_mem hμ4 ?_
  refine GM_dup (pc := 8) (daX5_init_0 4 rfl) (Nat.ne_of_beq_eq_false rfl) ?_
  obtain ⟨hc5, h⟩ := chk_inv h
  obtain ⟨⟨μ6, c6, n6⟩, hf6, h⟩ := Option.bind_eq_some_iff.mp h
  dsimp only at h
  obtain ⟨c7, n7, hp, e1, e2⟩ := pay_inv h
  subst e1 e2
  replace h := hp
  clear hp
  rw [Nat.add_assoc, Nat.add_assoc]
  refine GM_callI (pc := 9) [] (tX0_init l hf6) cwX0_init rfl rfl kv_X0_init km_X5_11 hc5 ⟨Nat.le_of_ble_eq_true rfl, Nat.le_of_ble_eq_true rfl⟩ (Nat.le_of_ble_eq_true rfl) (Nat.le_of_ble_eq_true rfl) (daX5_init_0 5 rfl) ?_
  obtain ⟨hc8, h⟩ := chk_inv h
  obtain ⟨μ9, hμ9, h⟩ := lm_inv h
  refine GM_putF (pc := 12) 5 0 3 kf_X5_12 (Nat.le_of_ble_eq_true rfl) (Nat.le_of_ble_eq_true rfl) rfl rfl rfl rfl (daX5_init_0 6 rfl) hc8 (fun q => absurd q (by decide)) ?_
  refine GM_mem hμ9 ?_
  refine GM_aload_n (pc := 15) 0 rfl (daX5_init_0 7 rfl) rfl ?_
  refine GM_sipush (pc := 16) 144 (daX5_init_0 8 rfl) rfl (R32_b rfl) ?_
  obtain ⟨hc10, h⟩ := chk_inv h
  obtain ⟨c11, n11, hp, e1, e2⟩ := pay_inv h
  subst e1 e2
  replace h := hp
  clear hp
  rw [Nat.add_assoc, Nat.add_assoc]
  obtain ⟨μ12, hμ12, h⟩ := lm_inv h
  refine GM_newi (pc := 19) (N := 144) (v0 + 4) (daX5_init_0 9 rfl) hc10.1 hc10.2.1 (Nat.le_of_ble_eq_true rfl) hc10.2.2 ?_
  refine GM_mem hμ12 ?_
  obtain ⟨μ13, hμ13, h⟩ := lm_inv h
  refine GM_putF (pc := 21) 5 1 3 kf_X5_18 (Nat.le_of_ble_eq_true rfl) (Nat.le_of_ble_eq_true rfl) rfl rfl rfl rfl (daX5_init_0 10 rfl) hc8 (fun q => absurd q (by decide)) ?_
  refine GM_mem hμ13 ?_
  refine GM_aload_n (pc := 24) 0 rfl (daX5_init_0 11 rfl) rfl ?_
  refine GM_sipush (pc := 25) 144 (daX5_init_0 12 rfl) rfl (R32_b rfl) ?_
  obtain ⟨hc14, h⟩ := chk_inv h
  obtain ⟨c15, n15, hp, e1, e2⟩ := pay_inv h
  subst e1 e2
  replace h := hp
  clear hp
  rw [Nat.add_assoc, Nat.add_assoc]
  obtain ⟨μ16, hμ16, h⟩ := lm_inv h
  refine GM_newi (pc := 28) (N := 144) (v0 + 5) (daX5_init_0 13 rfl) hc14.1 hc14.2.1 (Nat.le_of_ble_eq_true rfl) hc14.2.2 ?_
  refine GM_mem hμ16 ?_
  obtain ⟨μ17, hμ17, h⟩ := lm_inv h
  refine GM_putF (pc := 30) 5 2 3 kf_X5_22 (Nat.le_of_ble_eq_true rfl) (Nat.le_of_ble_eq_true rfl) rfl rfl rfl rfl (daX5_init_0 14 rfl) hc8 (fun q => absurd q (by decide)) ?_
  refine GM_mem hμ17 ?_
  refine GM_aload_n (pc := 33) 0 rfl (daX5_init_0 15 rfl) rfl ?_
  refine GM_sipush (pc := 34) 144 (daX5_init_0 16 rfl) rfl (R32_b rfl) ?_
  obtain ⟨hc18, h⟩ := chk_inv h
  obtain ⟨c19, n19, hp, e1, e2⟩ := pay_inv h
  subst e1 e2
  replace h := hp
  clear hp
  rw [Nat.add_assoc, Nat.add_assoc]
  obtain ⟨μ20, hμ20, h⟩ := lm_inv h
  refine GM_newi (pc := 37) (N := 144) (v0 + 6) (daX5_init_0 17 rfl) hc18.1 hc18.2.1 (Nat.le_of_ble_eq_true rfl) hc18.2.2 ?_
  refine GM_mem hμ20 ?_
  obtain ⟨μ21, hμ21, h⟩ := lm_inv h
  refine GM_putF (pc := 39) 5 3 3 kf_X5_25 (Nat.le_of_ble_eq_true rfl) (Nat.le_of_ble_eq_true rfl) rfl rfl rfl rfl (daX5_init_0 18 rfl) hc8 (fun q => absurd q (by decide)) ?_
  refine GM_mem hμ21 ?_
  refine GM_aload_n (pc := 42) 0 rfl (daX5_init_0 19 rfl) rfl ?_
  refine GM_bipush (pc := 43) 91 (daX5_init_0 20 rfl) rfl (R32_b rfl) ?_
  obtain ⟨hc22, h⟩ := chk_inv h
  obtain ⟨c23, n23, hp, e1, e2⟩ := pay_inv h
  subst e1 e2
  replace h := hp
  clear hp
  rw [Nat.add_assoc, Nat.add_assoc]
  obtain ⟨μ24, hμ24, h⟩ := lm_inv h
  refine GM_newi (pc := 45) (N := 91) (v0 + 7) (daX5_init_0 21 rfl) hc22.1 hc22.2.1 (Nat.le_of_ble_eq_true rfl) hc22.2.2 ?_
  refine GM_mem hμ24 ?_
  obtain ⟨μ25, hμ25, h⟩ := lm_inv h
  refine GM_putF (pc := 47) 5 4 3 kf_X5_28 (Nat.le_of_ble_eq_true rfl) (Nat.le_of_ble_eq_true rfl) rfl rfl rfl rfl (daX5_init_0 22 rfl) hc8 (fun q => absurd q (by decide)) ?_
  refine GM_mem hμ25 ?_
  cases h
  exact GM_vret (pc := 50) (daX5_init_0 23 rfl) rfl hK
theorem tX5_init (l : Launch) {v0 : Int} {μ : Mm} {t : Mm} {c0 n0 : Nat} (h : fX5_init v0 μ = some (t, c0, n0)) : Ct l yX5_init mX5_init [(3, v0)] μ ([], t, c0, n0) :=
  Ct_of (by decide +kernel) rfl rfl (Nat.le_of_ble_eq_true rfl) (fun _ _ _ => trivial) (gX5_init_0 (k := 0) (n := 0) l h ⟨rfl, rfl⟩)
def mX5_addPlace : MI := (RX5, cX5_addPlace, 3, none, "addPlace", 0, 0, fun _ _ _ => True)
theorem cwX5_addPlace : CWd yX5_addPlace mX5_addPlace 2 := ⟨ki_X5, kk_X5_addPlace, ⟨by decide, by decide⟩, rfl⟩
def dtX5_addPlace_0 : List (Nat × Instr × Nat) := [(0, .aload_n 0, 1), (1, .getfield 38, 3), (4, .sipush 144, 3), (7, .if_icmp .ge 54, 3), (10, .iload_n 1, 1), (11, .ifCond .lt 50, 3), (14, .iload_n 1, 1), (15, .sipush 144, 3), (18, .if_icmp .ge 43, 3), (21, .aload_n 0, 1), (22, .getfield 22, 3), (25, .aload_n 0, 1), (26, .getfield 38, 3), (29, .iload_n 1, 1), (30, .iastore, 1), (31, .aload_n 0, 1), (32, .getfield 25, 3), (35, .aload_n 0, 1), (36, .getfield 38, 3), (39, .iload_n 2, 1), (40, .iastore, 1), (41, .aload_n 0, 1), (42, .getfield 18, 3), (45, .iload_n 1, 1), (46, .aload_n 0, 1), (47, .getfield 35, 3), (50, .iastore, 1), (51, .aload_n 0, 1), (52, .dup, 1), (53, .getfield 38, 3), (56, .iconst 1, 1), (57, .iadd, 1), (58, .putfield 38, 3), (61, .return_, 1)]
theorem ddX5_addPlace_0 : (dtX5_addPlace_0.all fun e => decide (decode mX5_addPlace.2.1 e.1 = .ok (e.2.1, e.2.2))) = true := by decide +kernel
theorem daX5_addPlace_0 (j : Nat) {pc n : Nat} {i : Instr} (h : dtX5_addPlace_0[j]? = some (pc, i, n)) : decode mX5_addPlace.2.1 pc = .ok (i, n) := dec_of (c := mX5_addPlace.2.1) ddX5_addPlace_0 h
def fX5_addPlace (v0 v1 v2 : Int) (μ : Mm) : Option Mm :=
  chk (KD v0 = 5) (
  if 144 ≤ μ v0 7 then
    some μ
  else
    if v1 < 0 then
      some μ
    else
      if 144 ≤ v1 then
        some μ
      else
        chk (KD (μ v0 2) = 12 ∧ 0 ≤ μ v0 7 ∧ μ v0 7 < LN (μ v0 2)) (
        lm (mst μ (μ v0 2) (μ v0 7) v1) fun μ6 =>
        chk (KD (μ6 v0 3) = 12 ∧ 0 ≤ μ6 v0 7 ∧ μ6 v0 7 < LN (μ6 v0 3)) (
        lm (mst μ6 (μ6 v0 3) (μ6 v0 7) v2) fun μ8 =>
        chk (KD (μ8 v0 1) = 12 ∧ 0 ≤ v1 ∧ v1 < LN (μ8 v0 1)) (
        lm (mst μ8 (μ8 v0 1) v1 (μ8 v0 6)) fun μ10 =>
        lm (mst μ10 v0 7 (w32 ((μ10 v0 7) + 1))) fun μ11 =>
        some μ11))))
set_option maxRecDepth 20000 in
theorem gX5_addPlace_0 (l : Launch) {F : FI} {v0 v1 v2 : Int} {μ : Mm} {t : Mm} (h : fX5_addPlace v0 v1 v2 μ = some t) (hK : F.1 = [] ∧ F.2.1 = t) : GM l mX5_addPlace F 0 0 0 [(0, (3, v0)), (1, (0, v1)), (2, (0, v2))] [] μ := by
  unfold fX5_addPlace at h
  refine GM_aload_n (pc := 0) 0 rfl (daX5_addPlace_0 0 rfl) rfl ?_
  obtain ⟨hc1, h⟩ := chk_inv h
  refine GM_getf (pc := 1) 5 7 0 7 kf_X5_38 (Nat.le_of_ble_eq_true rfl) (Nat.le_of_ble_eq_true rfl) rfl (daX5_addPlace_0 1 rfl) hc1 rfl ?_
  refine GM_sipush (pc := 4) 144 (daX5_addPlace_0 2 rfl) rfl (R32_b rfl) ?_
  refine GM_icmp_ge (pc := 7) 61 (daX5_addPlace_0 3 rfl) rfl (fun c2 => ?_) (fun c2 => ?_)
  · skip
    rw [if_pos c2] at h
    cases h
    exact GM_vret (pc := 61) (daX5_addPlace_0 33 rfl) rfl hK
  · skip
    rw [if_neg c2] at h
    refine GM_iload_n (pc := 10) 1 rfl (daX5_addPlace_0 4 rfl) rfl ?_
    refine GM_if_lt (pc := 11) 61 (daX5_addPlace_0 5 rfl) rfl (fun c3 => ?_) (fun c3 => ?_)
    · skip
      rw [if_pos c3] at h
      cases h
      exact GM_vret (pc := 61) (daX5_addPlace_0 33 rfl) rfl hK
    · skip
      rw [if_neg c3] at h
      refine GM_iload_n (pc := 14) 1 rfl (daX5_addPlace_0 6 rfl) rfl ?_
      refine GM_sipush (pc := 15) 144 (daX5_addPlace_0 7 rfl) rfl (R32_b rfl) ?_
      refine GM_icmp_ge (pc := 18) 61 (daX5_addPlace_0 8 rfl) rfl (fun c4 => ?_) (fun c4 => ?_)
      · skip
        rw [if_pos c4] at h
        cases h
        exact GM_vret (pc := 61) (daX5_addPlace_0 33 rfl) rfl hK
      · skip
        rw [if_neg c4] at h
        refine GM_aload_n (pc := 21) 0 rfl (daX5_addPlace_0 9 rfl) rfl ?_
        refine GM_getf (pc := 22) 5 2 3 2 kf_X5_22 (Nat.le_of_ble_eq_true rfl) (Nat.le_of_ble_eq_true rfl) rfl (daX5_addPlace_0 10 rfl) hc1 rfl ?_
        refine GM_aload_n (pc := 25) 0 rfl (daX5_addPlace_0 11 rfl) rfl ?_
        refine GM_getf (pc := 26) 5 7 0 7 kf_X5_38 (Nat.le_of_ble_eq_true rfl) (Nat.le_of_ble_eq_true rfl) rfl (daX5_addPlace_0 12 rfl) hc1 rfl ?_
        refine GM_iload_n (pc := 29) 1 rfl (daX5_addPlace_0 13 rfl) rfl ?_
        obtain ⟨hc5, h⟩ := chk_inv h
        obtain ⟨μ6, hμ6, h⟩ := lm_inv h
        refine GM_iast (pc := 30) (daX5_addPlace_0 14 rfl) hc5.1 hc5.2.1 hc5.2.2 ?_
        refine GM_mem hμ6 ?_
        refine GM_aload_n (pc := 31) 0 rfl (daX5_addPlace_0 15 rfl) rfl ?_
        refine GM_getf (pc := 32) 5 3 3 3 kf_X5_25 (Nat.le_of_ble_eq_true rfl) (Nat.le_of_ble_eq_true rfl) rfl (daX5_addPlace_0 16 rfl) hc1 rfl ?_
        refine GM_aload_n (pc := 35) 0 rfl (daX5_addPlace_0 17 rfl) rfl ?_
        refine GM_getf (pc := 36) 5 7 0 7 kf_X5_38 (Nat.le_of_ble_eq_true rfl) (Nat.le_of_ble_eq_true rfl) rfl (daX5_addPlace_0 18 rfl) hc1 rfl ?_
        refine GM_iload_n (pc := 39) 2 rfl (daX5_addPlace_0 19 rfl) rfl ?_
        obtain ⟨hc7, h⟩ := chk_inv h
        obtain ⟨μ8, hμ8, h⟩ := lm_inv h
        refine GM_iast (pc := 40) (daX5_addPlace_0 20 rfl) hc7.1 hc7.2.1 hc7.2.2 ?_
        refine GM_mem hμ8 ?_
        refine GM_aload_n (pc := 41) 0 rfl (daX5_addPlace_0 21 rfl) rfl ?_
        refine GM_getf (pc := 42) 5 1 3 1 kf_X5_18 (Nat.le_of_ble_eq_true rfl) (Nat.le_of_ble_eq_true rfl) rfl (daX5_addPlace_0 22 rfl) hc1 rfl ?_
        refine GM_iload_n (pc := 45) 1 rfl (daX5_addPlace_0 23 rfl) rfl ?_
        refine GM_aload_n (pc := 46) 0 rfl (daX5_addPlace_0 24 rfl) rfl ?_
        refine GM_getf (pc := 47) 5 6 0 6 kf_X5_35 (Nat.le_of_ble_eq_true rfl) (Nat.le_of_ble_eq_true rfl) rfl (daX5_addPlace_0 25 rfl) hc1 rfl ?_
        obtain ⟨hc9, h⟩ := chk_inv h
        obtain ⟨μ10, hμ10, h⟩ := lm_inv h
        refine GM_iast (pc := 50) (daX5_addPlace_0 26 rfl) hc9.1 hc9.2.1 hc9.2.2 ?_
        refine GM_mem hμ10 ?_
        refine GM_aload_n (pc := 51) 0 rfl (daX5_addPlace_0 27 rfl) rfl ?_
        refine GM_dup (pc := 52) (daX5_addPlace_0 28 rfl) (Nat.ne_of_beq_eq_false rfl) ?_
        refine GM_getf (pc := 53) 5 7 0 7 kf_X5_38 (Nat.le_of_ble_eq_true rfl) (Nat.le_of_ble_eq_true rfl) rfl (daX5_addPlace_0 29 rfl) hc1 rfl ?_
        refine GM_iconst (pc := 56) 1 (daX5_addPlace_0 30 rfl) rfl (R32_b rfl) ?_
        refine GM_iadd (pc := 57) (daX5_addPlace_0 31 rfl) ?_
        obtain ⟨μ11, hμ11, h⟩ := lm_inv h
        refine GM_putf (pc := 58) 5 7 0 kf_X5_38 (Nat.le_of_ble_eq_true rfl) (Nat.le_of_ble_eq_true rfl) rfl rfl (daX5_addPlace_0 32 rfl) hc1 (fun q => absurd q (by decide)) ?_
        refine GM_mem hμ11 ?_
        cases h
        exact GM_vret (pc := 61) (daX5_addPlace_0 33 rfl) rfl hK
theorem tX5_addPlace (l : Launch) {v0 v1 v2 : Int} {μ : Mm} {t : Mm} (h : fX5_addPlace v0 v1 v2 μ = some t) : Ct l yX5_addPlace mX5_addPlace [(3, v0), (0, v1), (0, v2)] μ ([], t, 0, 0) :=
  Ct_of (by decide +kernel) rfl rfl (Nat.le_of_ble_eq_true rfl) (fun _ _ _ => trivial) (gX5_addPlace_0 l h ⟨rfl, rfl⟩)
def mX5_followRay : MI := (RX5, cX5_followRay, 11, none, "followRay", 1, 22, fun _ _ _ => True)
theorem cwX5_followRay : CWd yX5_followRay mX5_followRay 5 := ⟨ki_X5, kk_X5_followRay, ⟨by decide, by decide⟩, rfl⟩
def dtX5_followRay_0 : List (Nat × Instr × Nat) := [(0, .iload 4, 2), (2, .iload 4, 2), (4, .imul, 1), (5, .iload 5, 2), (7, .iload 5, 2), (9, .imul, 1), (10, .iadd, 1), (11, .istore 6, 2), (13, .iconst 1, 1), (14, .istore 7, 2), (16, .iload 7, 2), (18, .bipush 12, 2), (20, .if_icmp .ge 93, 3), (23, .iload_n 2, 1), (24, .iload 7, 2), (26, .iload 4, 2), (28, .imul, 1), (29, .iadd, 1), (30, .istore 8, 2), (32, .iload_n 3, 1), (33, .iload 7, 2), (35, .iload 5, 2), (37, .imul, 1), (38, .iadd, 1), (39, .istore 9, 2), (41, .iload 7, 2), (43, .iload 7, 2), (45, .imul, 1), (46, .iload 6, 2), (48, .imul, 1), (49, .istore 10, 2), (51, .iload 8, 2), (53, .ifCond .lt 60, 3), (56, .iload 8, 2), (58, .aload_n 1, 1), (59, .getfield 66, 3), (62, .if_icmp .ge 51, 3), (65, .iload 9, 2), (67, .ifCond .lt 46, 3), (70, .iload 9, 2), (72, .aload_n 1, 1), (73, .getfield 69, 3), (76, .if_icmp .ge 37, 3), (79, .iload 10, 2), (81, .aload_n 1, 1), (82, .getfield 72, 3), (85, .if_icmp .le 6, 3), (88, .goto 25, 3), (91, .aload_n 0, 1), (92, .iload 9, 2), (94, .aload_n 1, 1), (95, .getfield 66, 3), (98, .imul, 1), (99, .iload 8, 2), (101, .iadd, 1), (102, .iload 10, 2), (104, .invokevirtual 75, 3), (107, .iinc 7 1, 3), (110, .goto (-94), 3), (113, .aload_n 0, 1), (114, .getfield 38, 3), (117, .aload_n 0, 1), (118, .getfield 28, 3), (121, .aload_n 0, 1)]
theorem ddX5_followRay_0 : (dtX5_followRay_0.all fun e => decide (decode mX5_followRay.2.1 e.1 = .ok (e.2.1, e.2.2))) = true := by decide +kernel
theorem daX5_followRay_0 (j : Nat) {pc n : Nat} {i : Instr} (h : dtX5_followRay_0[j]? = some (pc, i, n)) : decode mX5_followRay.2.1 pc = .ok (i, n) := dec_of (c := mX5_followRay.2.1) ddX5_followRay_0 h
def dtX5_followRay_1 : List (Nat × Instr × Nat) := [(122, .getfield 35, 3), (125, .iaload, 1), (126, .if_icmp .le 35, 3), (129, .aload_n 0, 1), (130, .getfield 35, 3), (133, .bipush 90, 2), (135, .if_icmp .ge 26, 3), (138, .aload_n 0, 1), (139, .dup, 1), (140, .getfield 35, 3), (143, .iconst 1, 1), (144, .iadd, 1), (145, .putfield 35, 3), (148, .aload_n 0, 1), (149, .getfield 28, 3), (152, .aload_n 0, 1), (153, .getfield 35, 3), (156, .aload_n 0, 1), (157, .getfield 38, 3), (160, .iastore, 1), (161, .return_, 1)]
theorem ddX5_followRay_1 : (dtX5_followRay_1.all fun e => decide (decode mX5_followRay.2.1 e.1 = .ok (e.2.1, e.2.2))) = true := by decide +kernel
theorem daX5_followRay_1 (j : Nat) {pc n : Nat} {i : Instr} (h : dtX5_followRay_1[j]? = some (pc, i, n)) : decode mX5_followRay.2.1 pc = .ok (i, n) := dec_of (c := mX5_followRay.2.1) ddX5_followRay_1 h
def zX5_followRay_16 (l : Launch) (F : FI) (v0 v1 v2 v3 v4 v5 v6 : Int) (k n : Nat) : (Int × Mm) ⊕ (Mm ⊕ Mm) → Prop
  | .inl (v7, μ) => GM l mX5_followRay F k n 16 [(0, (3, v0)), (1, (3, v1)), (2, (0, v2)), (3, (0, v3)), (4, (0, v4)), (5, (0, v5)), (6, (0, v6)), (7, (0, v7))] [] μ
  | .inr (.inl μ) => GM l mX5_followRay F k n 113 [(0, (3, v0))] [] μ
  | .inr (.inr μ) => GM l mX5_followRay F k n 88 [(0, (3, v0))] [] μ
def sX5_followRay_16 (v0 v1 v2 v3 v4 v5 v6 : Int) : (Int × Mm) → Option ((Int × Mm) ⊕ (Mm ⊕ Mm)) := fun (v7, μ) =>
  if 12 ≤ v7 then
    some (.inr (.inl μ))
  else
    lt (w32 (v2 + (w32 (v7 * v4)))) fun y2 =>
    lt (w32 (v3 + (w32 (v7 * v5)))) fun y3 =>
    lt (w32 ((w32 (v7 * v7)) * v6)) fun y4 =>
    if y2 < 0 then
      some (.inr (.inl μ))
    else
      chk (KD v1 = 2) (
      if μ v1 0 ≤ y2 then
        some (.inr (.inl μ))
      else
        if y3 < 0 then
          some (.inr (.inl μ))
        else
          if μ v1 1 ≤ y3 then
            some (.inr (.inl μ))
          else
            if y4 ≤ μ v1 4 then
              chk (KD v0 = 5) (
              (fX5_addPlace v0 (w32 ((w32 (y3 * (μ v1 0))) + y2)) y4 μ).bind fun μ12 =>
              some (.inl (w32 (v7 + 1), μ12)))
            else
              some (.inr (.inr μ)))
def jX5_followRay_113 (v0 : Int) (μ : Mm) : Option Mm :=
  chk (KD v0 = 5) (
  chk (KD (μ v0 4) = 12 ∧ 0 ≤ μ v0 6 ∧ μ v0 6 < LN (μ v0 4)) (
  if μ v0 7 ≤ μ (μ v0 4) (μ v0 6) then
    some μ
  else
    if 90 ≤ μ v0 6 then
      some μ
    else
      lm (mst μ v0 6 (w32 ((μ v0 6) + 1))) fun μ17 =>
      chk (KD (μ17 v0 4) = 12 ∧ 0 ≤ μ17 v0 6 ∧ μ17 v0 6 < LN (μ17 v0 4)) (
      lm (mst μ17 (μ17 v0 4) (μ17 v0 6) (μ17 v0 7)) fun μ19 =>
      some μ19)))
def fX5_followRay (v0 v1 v2 v3 v4 v5 : Int) (μ : Mm) : Option Mm :=
  lt (w32 ((w32 (v4 * v4)) + (w32 (v5 * v5)))) fun y20 =>
  (lop (sX5_followRay_16 v0 v1 v2 v3 v4 v5 y20) FU (1, μ)).bind fun x21 =>
    match x21 with
    | (.inl μ_22) =>
        jX5_followRay_113 v0 μ_22
    | (.inr μ_23) =>
        jX5_followRay_113 v0 μ_23
set_option maxRecDepth 20000 in
theorem qX5_followRay_16 (l : Launch) (F : FI) (v0 v1 v2 v3 v4 v5 v6 : Int) (k n : Nat) : ∀ (q : (Int × Mm)) (t : ((Int × Mm) ⊕ (Mm ⊕ Mm))), sX5_followRay_16 v0 v1 v2 v3 v4 v5 v6 q = some t → zX5_followRay_16 l F v0 v1 v2 v3 v4 v5 v6 k n t → zX5_followRay_16 l F v0 v1 v2 v3 v4 v5 v6 k n (.inl q) := by
  intro q t h hK
  obtain ⟨v7, μ⟩ := q
  unfold sX5_followRay_16 at h
  try dsimp only at h
  show GM l mX5_followRay F k n 16 [(0, (3, v0)), (1, (3, v1)), (2, (0, v2)), (3, (0, v3)), (4, (0, v4)), (5, (0, v5)), (6, (0, v6)), (7, (0, v7))] [] μ
  refine GM_iload (pc := 16) 7 rfl (daX5_followRay_0 10 rfl) ?_
  refine GM_bipush (pc := 18) 12 (daX5_followRay_0 11 rfl) rfl (R32_b rfl) ?_
  refine GM_icmp_ge (pc := 20) 113 (daX5_followRay_0 12 rfl) rfl (fun c1 => ?_) (fun c1 => ?_)
  · skip
    rw [if_pos c1] at h
    refine GM_pick [0] rfl ?_
    cases h
    exact hK
  · skip
    rw [if_neg c1] at h
    refine GM_iload_n (pc := 23) 2 rfl (daX5_followRay_0 13 rfl) rfl ?_
    refine GM_iload (pc := 24) 7 rfl (daX5_followRay_0 14 rfl) ?_
    refine GM_iload (pc := 26) 4 rfl (daX5_followRay_0 15 rfl) ?_
    refine GM_imul (pc := 28) (daX5_followRay_0 16 rfl) ?_
    refine GM_iadd (pc := 29) (daX5_followRay_0 17 rfl) ?_
    obtain ⟨y2, hy2, h⟩ := lt_inv h
    refine GM_top hy2 ?_
    refine GM_istore (L' := [(8, (0, y2)), (0, (3, v0)), (1, (3, v1)), (2, (0, v2)), (3, (0, v3)), (4, (0, v4)), (5, (0, v5)), (6, (0, v6)), (7, (0, v7))]) (pc := 30) (daX5_followRay_0 18 rfl) (Nat.le_of_ble_eq_true rfl) rfl ?_
    refine GM_iload_n (pc := 32) 4 rfl (daX5_followRay_0 19 rfl) rfl ?_
    refine GM_iload (pc := 33) 8 rfl (daX5_followRay_0 20 rfl) ?_
    refine GM_iload (pc := 35) 6 rfl (daX5_followRay_0 21 rfl) ?_
    refine GM_imul (pc := 37) (daX5_followRay_0 22 rfl) ?_
    refine GM_iadd (pc := 38) (daX5_followRay_0 23 rfl) ?_
    obtain ⟨y3, hy3, h⟩ := lt_inv h
    refine GM_top hy3 ?_
    refine GM_istore (L' := [(9, (0, y3)), (8, (0, y2)), (0, (3, v0)), (1, (3, v1)), (2, (0, v2)), (3, (0, v3)), (4, (0, v4)), (5, (0, v5)), (6, (0, v6)), (7, (0, v7))]) (pc := 39) (daX5_followRay_0 24 rfl) (Nat.le_of_ble_eq_true rfl) rfl ?_
    refine GM_iload (pc := 41) 9 rfl (daX5_followRay_0 25 rfl) ?_
    refine GM_iload (pc := 43) 9 rfl (daX5_followRay_0 26 rfl) ?_
    refine GM_imul (pc := 45) (daX5_followRay_0 27 rfl) ?_
    refine GM_iload (pc := 46) 8 rfl (daX5_followRay_0 28 rfl) ?_
    refine GM_imul (pc := 48) (daX5_followRay_0 29 rfl) ?_
    obtain ⟨y4, hy4, h⟩ := lt_inv h
    refine GM_top hy4 ?_
    refine GM_istore (L' := [(10, (0, y4)), (9, (0, y3)), (8, (0, y2)), (0, (3, v0)), (1, (3, v1)), (2, (0, v2)), (3, (0, v3)), (4, (0, v4)), (5, (0, v5)), (6, (0, v6)), (7, (0, v7))]) (pc := 49) (daX5_followRay_0 30 rfl) (Nat.le_of_ble_eq_true rfl) rfl ?_
    refine GM_iload (pc := 51) 2 rfl (daX5_followRay_0 31 rfl) ?_
    refine GM_if_lt (pc := 53) 113 (daX5_followRay_0 32 rfl) rfl (fun c5 => ?_) (fun c5 => ?_)
    · skip
      rw [if_pos c5] at h
      refine GM_pick [3] rfl ?_
      cases h
      exact hK
    · skip
      rw [if_neg c5] at h
      refine GM_iload (pc := 56) 2 rfl (daX5_followRay_0 33 rfl) ?_
      refine GM_aload_n (pc := 58) 4 rfl (daX5_followRay_0 34 rfl) rfl ?_
      obtain ⟨hc6, h⟩ := chk_inv h
      refine GM_getf (pc := 59) 2 0 0 0 kf_X5_66 (Nat.le_of_ble_eq_true rfl) (Nat.le_of_ble_eq_true rfl) rfl (daX5_followRay_0 35 rfl) hc6 rfl ?_
      refine GM_icmp_ge (pc := 62) 113 (daX5_followRay_0 36 rfl) rfl (fun c7 => ?_) (fun c7 => ?_)
      · skip
        rw [if_pos c7] at h
        refine GM_pick [3] rfl ?_
        cases h
        exact hK
      · skip
        rw [if_neg c7] at h
        refine GM_iload (pc := 65) 1 rfl (daX5_followRay_0 37 rfl) ?_
        refine GM_if_lt (pc := 67) 113 (daX5_followRay_0 38 rfl) rfl (fun c8 => ?_) (fun c8 => ?_)
        · skip
          rw [if_pos c8] at h
          refine GM_pick [3] rfl ?_
          cases h
          exact hK
        · skip
          rw [if_neg c8] at h
          refine GM_iload (pc := 70) 1 rfl (daX5_followRay_0 39 rfl) ?_
          refine GM_aload_n (pc := 72) 4 rfl (daX5_followRay_0 40 rfl) rfl ?_
          refine GM_getf (pc := 73) 2 1 0 1 kf_X5_69 (Nat.le_of_ble_eq_true rfl) (Nat.le_of_ble_eq_true rfl) rfl (daX5_followRay_0 41 rfl) hc6 rfl ?_
          refine GM_icmp_ge (pc := 76) 113 (daX5_followRay_0 42 rfl) rfl (fun c9 => ?_) (fun c9 => ?_)
          · skip
            rw [if_pos c9] at h
            refine GM_pick [3] rfl ?_
            cases h
            exact hK
          · skip
            rw [if_neg c9] at h
            refine GM_iload (pc := 79) 0 rfl (daX5_followRay_0 43 rfl) ?_
            refine GM_aload_n (pc := 81) 4 rfl (daX5_followRay_0 44 rfl) rfl ?_
            refine GM_getf (pc := 82) 2 4 0 4 kf_X5_72 (Nat.le_of_ble_eq_true rfl) (Nat.le_of_ble_eq_true rfl) rfl (daX5_followRay_0 45 rfl) hc6 rfl ?_
            refine GM_icmp_le (pc := 85) 91 (daX5_followRay_0 46 rfl) rfl (fun c10 => ?_) (fun c10 => ?_)
            · skip
              rw [if_pos c10] at h
              refine GM_aload_n (pc := 91) 3 rfl (daX5_followRay_0 48 rfl) rfl ?_
              refine GM_iload (pc := 92) 1 rfl (daX5_followRay_0 49 rfl) ?_
              refine GM_aload_n (pc := 94) 4 rfl (daX5_followRay_0 50 rfl) rfl ?_
              refine GM_getf (pc := 95) 2 0 0 0 kf_X5_66 (Nat.le_of_ble_eq_true rfl) (Nat.le_of_ble_eq_true rfl) rfl (daX5_followRay_0 51 rfl) hc6 rfl ?_
              refine GM_imul (pc := 98) (daX5_followRay_0 52 rfl) ?_
              refine GM_iload (pc := 99) 2 rfl (daX5_followRay_0 53 rfl) ?_
              refine GM_iadd (pc := 101) (daX5_followRay_0 54 rfl) ?_
              refine GM_iload (pc := 102) 0 rfl (daX5_followRay_0 55 rfl) ?_
              obtain ⟨hc11, h⟩ := chk_inv h
              obtain ⟨μ12, hf12, h⟩ := Option.bind_eq_some_iff.mp h
              refine GM_callV0 (pc := 104) [(0, w32 ((w32 (y3 * (μ v1 0))) + y2)), (0, y4)] (tX5_addPlace l hf12) cwX5_addPlace 5 (Nat.le_of_ble_eq_true rfl) rfl kv_X5_addPlace ke_X5_addPlace km_X5_75 hc11 ⟨Nat.le_of_ble_eq_true rfl, Nat.le_of_ble_eq_true rfl⟩ (Nat.le_of_ble_eq_true rfl) (Nat.le_of_ble_eq_true rfl) (daX5_followRay_0 56 rfl) ?_
              refine GM_iinc (L' := [(7, (0, w32 (v7 + 1))), (10, (0, y4)), (9, (0, y3)), (8, (0, y2)), (0, (3, v0)), (1, (3, v1)), (2, (0, v2)), (3, (0, v3)), (4, (0, v4)), (5, (0, v5)), (6, (0, v6))]) (pc := 107) 10 rfl (daX5_followRay_0 57 rfl) (Nat.le_of_ble_eq_true rfl) rfl ?_
              refine GM_goto (pc := 110) 16 (daX5_followRay_0 58 rfl) rfl ?_
              refine GM_pick [4, 5, 6, 7, 8, 9, 10, 0] rfl ?_
              cases h
              exact hK
            · skip
              rw [if_neg c10] at h
              refine GM_pick [3] rfl ?_
              cases h
              exact hK
set_option maxRecDepth 20000 in
theorem gX5_followRay_113 (l : Launch) {F : FI} {v0 : Int} {μ : Mm} {t : Mm} (h : jX5_followRay_113 v0 μ = some t) (hK : F.1 = [] ∧ F.2.1 = t) : GM l mX5_followRay F 0 0 113 [(0, (3, v0))] [] μ := by
  unfold jX5_followRay_113 at h
  refine GM_aload_n (pc := 113) 0 rfl (daX5_followRay_0 59 rfl) rfl ?_
  obtain ⟨hc13, h⟩ := chk_inv h
  refine GM_getf (pc := 114) 5 7 0 7 kf_X5_38 (Nat.le_of_ble_eq_true rfl) (Nat.le_of_ble_eq_true rfl) rfl (daX5_followRay_0 60 rfl) hc13 rfl ?_
  refine GM_aload_n (pc := 117) 0 rfl (daX5_followRay_0 61 rfl) rfl ?_
  refine GM_getf (pc := 118) 5 4 3 4 kf_X5_28 (Nat.le_of_ble_eq_true rfl) (Nat.le_of_ble_eq_true rfl) rfl (daX5_followRay_0 62 rfl) hc13 rfl ?_
  refine GM_aload_n (pc := 121) 0 rfl (daX5_followRay_0 63 rfl) rfl ?_
  refine GM_getf (pc := 122) 5 6 0 6 kf_X5_35 (Nat.le_of_ble_eq_true rfl) (Nat.le_of_ble_eq_true rfl) rfl (daX5_followRay_1 0 rfl) hc13 rfl ?_
  obtain ⟨hc14, h⟩ := chk_inv h
  refine GM_iald (pc := 125) (daX5_followRay_1 1 rfl) hc14.1 hc14.2.1 hc14.2.2 ?_
  refine GM_icmp_le (pc := 126) 161 (daX5_followRay_1 2 rfl) rfl (fun c15 => ?_) (fun c15 => ?_)
  · skip
    rw [if_pos c15] at h
    cases h
    exact GM_vret (pc := 161) (daX5_followRay_1 20 rfl) rfl hK
  · skip
    rw [if_neg c15] at h
    refine GM_aload_n (pc := 129) 0 rfl (daX5_followRay_1 3 rfl) rfl ?_
    refine GM_getf (pc := 130) 5 6 0 6 kf_X5_35 (Nat.le_of_ble_eq_true rfl) (Nat.le_of_ble_eq_true rfl) rfl (daX5_followRay_1 4 rfl) hc13 rfl ?_
    refine GM_bipush (pc := 133) 90 (daX5_followRay_1 5 rfl) rfl (R32_b rfl) ?_
    refine GM_icmp_ge (pc := 135) 161 (daX5_followRay_1 6 rfl) rfl (fun c16 => ?_) (fun c16 => ?_)
    · skip
      rw [if_pos c16] at h
      cases h
      exact GM_vret (pc := 161) (daX5_followRay_1 20 rfl) rfl hK
    · skip
      rw [if_neg c16] at h
      refine GM_aload_n (pc := 138) 0 rfl (daX5_followRay_1 7 rfl) rfl ?_
      refine GM_dup (pc := 139) (daX5_followRay_1 8 rfl) (Nat.ne_of_beq_eq_false rfl) ?_
      refine GM_getf (pc := 140) 5 6 0 6 kf_X5_35 (Nat.le_of_ble_eq_true rfl) (Nat.le_of_ble_eq_true rfl) rfl (daX5_followRay_1 9 rfl) hc13 rfl ?_
      refine GM_iconst (pc := 143) 1 (daX5_followRay_1 10 rfl) rfl (R32_b rfl) ?_
      refine GM_iadd (pc := 144) (daX5_followRay_1 11 rfl) ?_
      obtain ⟨μ17, hμ17, h⟩ := lm_inv h
      refine GM_putf (pc := 145) 5 6 0 kf_X5_35 (Nat.le_of_ble_eq_true rfl) (Nat.le_of_ble_eq_true rfl) rfl rfl (daX5_followRay_1 12 rfl) hc13 (fun q => absurd q (by decide)) ?_
      refine GM_mem hμ17 ?_
      refine GM_aload_n (pc := 148) 0 rfl (daX5_followRay_1 13 rfl) rfl ?_
      refine GM_getf (pc := 149) 5 4 3 4 kf_X5_28 (Nat.le_of_ble_eq_true rfl) (Nat.le_of_ble_eq_true rfl) rfl (daX5_followRay_1 14 rfl) hc13 rfl ?_
      refine GM_aload_n (pc := 152) 0 rfl (daX5_followRay_1 15 rfl) rfl ?_
      refine GM_getf (pc := 153) 5 6 0 6 kf_X5_35 (Nat.le_of_ble_eq_true rfl) (Nat.le_of_ble_eq_true rfl) rfl (daX5_followRay_1 16 rfl) hc13 rfl ?_
      refine GM_aload_n (pc := 156) 0 rfl (daX5_followRay_1 17 rfl) rfl ?_
      refine GM_getf (pc := 157) 5 7 0 7 kf_X5_38 (Nat.le_of_ble_eq_true rfl) (Nat.le_of_ble_eq_true rfl) rfl (daX5_followRay_1 18 rfl) hc13 rfl ?_
      obtain ⟨hc18, h⟩ := chk_inv h
      obtain ⟨μ19, hμ19, h⟩ := lm_inv h
      refine GM_iast (pc := 160) (daX5_followRay_1 19 rfl) hc18.1 hc18.2.1 hc18.2.2 ?_
      refine GM_mem hμ19 ?_
      cases h
      exact GM_vret (pc := 161) (daX5_followRay_1 20 rfl) rfl hK
set_option maxRecDepth 20000 in
theorem gX5_followRay_0 (l : Launch) {F : FI} {v0 v1 v2 v3 v4 v5 : Int} {μ : Mm} {t : Mm} (h : fX5_followRay v0 v1 v2 v3 v4 v5 μ = some t) (hK : F.1 = [] ∧ F.2.1 = t) : GM l mX5_followRay F 0 0 0 [(0, (3, v0)), (1, (3, v1)), (2, (0, v2)), (3, (0, v3)), (4, (0, v4)), (5, (0, v5))] [] μ := by
  unfold fX5_followRay at h
  refine GM_iload (pc := 0) 4 rfl (daX5_followRay_0 0 rfl) ?_
  refine GM_iload (pc := 2) 4 rfl (daX5_followRay_0 1 rfl) ?_
  refine GM_imul (pc := 4) (daX5_followRay_0 2 rfl) ?_
  refine GM_iload (pc := 5) 5 rfl (daX5_followRay_0 3 rfl) ?_
  refine GM_iload (pc := 7) 5 rfl (daX5_followRay_0 4 rfl) ?_
  refine GM_imul (pc := 9) (daX5_followRay_0 5 rfl) ?_
  refine GM_iadd (pc := 10) (daX5_followRay_0 6 rfl) ?_
  obtain ⟨y20, hy20, h⟩ := lt_inv h
  refine GM_top hy20 ?_
  refine GM_istore (L' := [(6, (0, y20)), (0, (3, v0)), (1, (3, v1)), (2, (0, v2)), (3, (0, v3)), (4, (0, v4)), (5, (0, v5))]) (pc := 11) (daX5_followRay_0 7 rfl) (Nat.le_of_ble_eq_true rfl) rfl ?_
  refine GM_iconst (pc := 13) 1 (daX5_followRay_0 8 rfl) rfl (R32_b rfl) ?_
  refine GM_istore (L' := [(7, (0, 1)), (6, (0, y20)), (0, (3, v0)), (1, (3, v1)), (2, (0, v2)), (3, (0, v3)), (4, (0, v4)), (5, (0, v5))]) (pc := 14) (daX5_followRay_0 9 rfl) (Nat.le_of_ble_eq_true rfl) rfl ?_
  refine GM_pick [2, 3, 4, 5, 6, 7, 1, 0] rfl ?_
  obtain ⟨x21, hqx21, h⟩ := Option.bind_eq_some_iff.mp h
  refine lop_ind (zX5_followRay_16 l F v0 v1 v2 v3 v4 v5 y20 0 0) (qX5_followRay_16 l F v0 v1 v2 v3 v4 v5 y20 0 0) FU _ x21 hqx21 ?_
  rcases x21 with μ_22 | μ_23
  · dsimp only at h
    show GM l mX5_followRay F 0 0 113 [(0, (3, v0))] [] μ_22
    exact gX5_followRay_113 l h hK
  · dsimp only at h
    show GM l mX5_followRay F 0 0 88 [(0, (3, v0))] [] μ_23
    refine GM_goto (pc := 88) 113 (daX5_followRay_0 47 rfl) rfl ?_
    exact gX5_followRay_113 l h hK
theorem tX5_followRay (l : Launch) {v0 v1 v2 v3 v4 v5 : Int} {μ : Mm} {t : Mm} (h : fX5_followRay v0 v1 v2 v3 v4 v5 μ = some t) : Ct l yX5_followRay mX5_followRay [(3, v0), (3, v1), (0, v2), (0, v3), (0, v4), (0, v5)] μ ([], t, 0, 0) :=
  Ct_of (by decide +kernel) rfl rfl (Nat.le_of_ble_eq_true rfl) (fun _ _ _ => trivial) (gX5_followRay_0 l h ⟨rfl, rfl⟩)
def mX5_aim : MI := (RX5, cX5_aim, 6, none, "aim", 2, 52, fun _ _ _ => True)
theorem cwX5_aim : CWd yX5_aim mX5_aim 2 := ⟨ki_X5, kk_X5_aim, ⟨by decide, by decide⟩, rfl⟩
def dtX5_aim_0 : List (Nat × Instr × Nat) := [(0, .aload_n 0, 1), (1, .iload_n 2, 1), (2, .putfield 31, 3), (5, .aload_n 0, 1), (6, .iconst 0, 1), (7, .putfield 35, 3), (10, .aload_n 0, 1), (11, .iconst 0, 1), (12, .putfield 38, 3), (15, .aload_n 0, 1), (16, .getfield 28, 3), (19, .iconst 0, 1), (20, .iconst 0, 1), (21, .iastore, 1), (22, .aload_n 0, 1), (23, .getfield 18, 3), (26, .iconst (-1), 1), (27, .invokestatic 41, 3), (30, .aload_n 1, 1), (31, .iload_n 2, 1), (32, .invokevirtual 47, 3), (35, .istore_n 3, 1), (36, .aload_n 1, 1), (37, .iload_n 2, 1), (38, .invokevirtual 53, 3), (41, .istore 4, 2), (43, .iconst 0, 1), (44, .istore 5, 2), (46, .iload 5, 2), (48, .sipush 336, 3), (51, .if_icmp .ge 46, 3), (54, .aload_n 0, 1), (55, .getfield 35, 3), (58, .bipush 90, 2), (60, .if_icmp .ge 37, 3), (63, .aload_n 0, 1), (64, .aload_n 1, 1), (65, .iload_n 3, 1), (66, .iload 4, 2), (68, .aload_n 0, 1), (69, .getfield 12, 3), (72, .getfield 56, 3), (75, .iload 5, 2), (77, .iaload, 1), (78, .aload_n 0, 1), (79, .getfield 12, 3), (82, .getfield 59, 3), (85, .iload 5, 2), (87, .iaload, 1), (88, .invokevirtual 62, 3), (91, .iinc 5 1, 3), (94, .goto (-48), 3), (97, .return_, 1)]
theorem ddX5_aim_0 : (dtX5_aim_0.all fun e => decide (decode mX5_aim.2.1 e.1 = .ok (e.2.1, e.2.2))) = true := by decide +kernel
theorem daX5_aim_0 (j : Nat) {pc n : Nat} {i : Instr} (h : dtX5_aim_0[j]? = some (pc, i, n)) : decode mX5_aim.2.1 pc = .ok (i, n) := dec_of (c := mX5_aim.2.1) ddX5_aim_0 h
def zX5_aim_46 (l : Launch) (F : FI) (v0 v1 v3 v4 : Int) (k n : Nat) : (Int × Mm) ⊕ Mm → Prop
  | .inl (v5, μ) => GM l mX5_aim F k n 46 [(0, (3, v0)), (1, (3, v1)), (3, (0, v3)), (4, (0, v4)), (5, (0, v5))] [] μ
  | .inr μ => GM l mX5_aim F k n 97 [] [] μ
def sX5_aim_46 (v0 v1 v3 v4 : Int) : (Int × Mm) → Option ((Int × Mm) ⊕ Mm) := fun (v5, μ) =>
  if 336 ≤ v5 then
    some (.inr μ)
  else
    chk (KD v0 = 5) (
    if 90 ≤ μ v0 6 then
      some (.inr μ)
    else
      chk (KD (μ v0 0) = 0) (
      chk (KD (μ (μ v0 0) 0) = 12 ∧ 0 ≤ v5 ∧ v5 < LN (μ (μ v0 0) 0)) (
      chk (KD (μ (μ v0 0) 1) = 12 ∧ v5 < LN (μ (μ v0 0) 1)) (
      (fX5_followRay v0 v1 v3 v4 (μ (μ (μ v0 0) 0) v5) (μ (μ (μ v0 0) 1) v5) μ).bind fun μ7 =>
      some (.inl (w32 (v5 + 1), μ7))))))
def fX5_aim (v0 v1 v2 : Int) (μ : Mm) : Option Mm :=
  chk (KD v0 = 5) (
  lm (mst μ v0 5 v2) fun μ9 =>
  lm (mst μ9 v0 6 0) fun μ10 =>
  lm (mst μ10 v0 7 0) fun μ11 =>
  chk (KD (μ11 v0 4) = 12 ∧ 0 < LN (μ11 v0 4)) (
  lm (mst μ11 (μ11 v0 4) 0 0) fun μ13 =>
  (fJ7_fill_53178 (μ13 v0 1) (-1) μ13).bind fun μ14 =>
  chk (KD v1 = 2) (
  (fX2_column v1 v2 μ14).bind fun r16 =>
  (fX2_row v1 v2 μ14).bind fun r17 =>
  (lop (sX5_aim_46 v0 v1 r16 r17) FU (0, μ14)).bind fun μ_19 =>
    some μ_19)))
set_option maxRecDepth 20000 in
theorem qX5_aim_46 (l : Launch) (F : FI) (v0 v1 v3 v4 : Int) (k n : Nat) : ∀ (q : (Int × Mm)) (t : ((Int × Mm) ⊕ Mm)), sX5_aim_46 v0 v1 v3 v4 q = some t → zX5_aim_46 l F v0 v1 v3 v4 k n t → zX5_aim_46 l F v0 v1 v3 v4 k n (.inl q) := by
  intro q t h hK
  obtain ⟨v5, μ⟩ := q
  unfold sX5_aim_46 at h
  try dsimp only at h
  show GM l mX5_aim F k n 46 [(0, (3, v0)), (1, (3, v1)), (3, (0, v3)), (4, (0, v4)), (5, (0, v5))] [] μ
  refine GM_iload (pc := 46) 4 rfl (daX5_aim_0 28 rfl) ?_
  refine GM_sipush (pc := 48) 336 (daX5_aim_0 29 rfl) rfl (R32_b rfl) ?_
  refine GM_icmp_ge (pc := 51) 97 (daX5_aim_0 30 rfl) rfl (fun c1 => ?_) (fun c1 => ?_)
  · skip
    rw [if_pos c1] at h
    refine GM_pick [] rfl ?_
    cases h
    exact hK
  · skip
    rw [if_neg c1] at h
    refine GM_aload_n (pc := 54) 0 rfl (daX5_aim_0 31 rfl) rfl ?_
    obtain ⟨hc2, h⟩ := chk_inv h
    refine GM_getf (pc := 55) 5 6 0 6 kf_X5_35 (Nat.le_of_ble_eq_true rfl) (Nat.le_of_ble_eq_true rfl) rfl (daX5_aim_0 32 rfl) hc2 rfl ?_
    refine GM_bipush (pc := 58) 90 (daX5_aim_0 33 rfl) rfl (R32_b rfl) ?_
    refine GM_icmp_ge (pc := 60) 97 (daX5_aim_0 34 rfl) rfl (fun c3 => ?_) (fun c3 => ?_)
    · skip
      rw [if_pos c3] at h
      refine GM_pick [] rfl ?_
      cases h
      exact hK
    · skip
      rw [if_neg c3] at h
      refine GM_aload_n (pc := 63) 0 rfl (daX5_aim_0 35 rfl) rfl ?_
      refine GM_aload_n (pc := 64) 1 rfl (daX5_aim_0 36 rfl) rfl ?_
      refine GM_iload_n (pc := 65) 2 rfl (daX5_aim_0 37 rfl) rfl ?_
      refine GM_iload (pc := 66) 3 rfl (daX5_aim_0 38 rfl) ?_
      refine GM_aload_n (pc := 68) 0 rfl (daX5_aim_0 39 rfl) rfl ?_
      refine GM_getf (pc := 69) 5 0 3 0 kf_X5_12 (Nat.le_of_ble_eq_true rfl) (Nat.le_of_ble_eq_true rfl) rfl (daX5_aim_0 40 rfl) hc2 rfl ?_
      obtain ⟨hc4, h⟩ := chk_inv h
      refine GM_getf (pc := 72) 0 0 3 0 kf_X5_56 (Nat.le_of_ble_eq_true rfl) (Nat.le_of_ble_eq_true rfl) rfl (daX5_aim_0 41 rfl) hc4 rfl ?_
      refine GM_iload (pc := 75) 4 rfl (daX5_aim_0 42 rfl) ?_
      obtain ⟨hc5, h⟩ := chk_inv h
      refine GM_iald (pc := 77) (daX5_aim_0 43 rfl) hc5.1 hc5.2.1 hc5.2.2 ?_
      refine GM_aload_n (pc := 78) 0 rfl (daX5_aim_0 44 rfl) rfl ?_
      refine GM_getf (pc := 79) 5 0 3 0 kf_X5_12 (Nat.le_of_ble_eq_true rfl) (Nat.le_of_ble_eq_true rfl) rfl (daX5_aim_0 45 rfl) hc2 rfl ?_
      refine GM_getf (pc := 82) 0 1 3 1 kf_X5_59 (Nat.le_of_ble_eq_true rfl) (Nat.le_of_ble_eq_true rfl) rfl (daX5_aim_0 46 rfl) hc4 rfl ?_
      refine GM_iload (pc := 85) 4 rfl (daX5_aim_0 47 rfl) ?_
      obtain ⟨hc6, h⟩ := chk_inv h
      refine GM_iald (pc := 87) (daX5_aim_0 48 rfl) hc6.1 hc5.2.1 hc6.2 ?_
      obtain ⟨μ7, hf7, h⟩ := Option.bind_eq_some_iff.mp h
      refine GM_callV0 (pc := 88) [(3, v1), (0, v3), (0, v4), (0, μ (μ (μ v0 0) 0) v5), (0, μ (μ (μ v0 0) 1) v5)] (tX5_followRay l hf7) cwX5_followRay 5 (Nat.le_of_ble_eq_true rfl) rfl kv_X5_followRay ke_X5_followRay km_X5_62 hc2 ⟨Nat.le_of_ble_eq_true rfl, Nat.le_of_ble_eq_true rfl⟩ (Nat.le_of_ble_eq_true rfl) (Nat.le_of_ble_eq_true rfl) (daX5_aim_0 49 rfl) ?_
      refine GM_iinc (L' := [(5, (0, w32 (v5 + 1))), (0, (3, v0)), (1, (3, v1)), (3, (0, v3)), (4, (0, v4))]) (pc := 91) 4 rfl (daX5_aim_0 50 rfl) (Nat.le_of_ble_eq_true rfl) rfl ?_
      refine GM_goto (pc := 94) 46 (daX5_aim_0 51 rfl) rfl ?_
      refine GM_pick [1, 2, 3, 4, 0] rfl ?_
      cases h
      exact hK
set_option maxRecDepth 20000 in
theorem gX5_aim_0 (l : Launch) {F : FI} {v0 v1 v2 : Int} {μ : Mm} {t : Mm} (h : fX5_aim v0 v1 v2 μ = some t) (hK : F.1 = [] ∧ F.2.1 = t) : GM l mX5_aim F 0 0 0 [(0, (3, v0)), (1, (3, v1)), (2, (0, v2))] [] μ := by
  unfold fX5_aim at h
  refine GM_aload_n (pc := 0) 0 rfl (daX5_aim_0 0 rfl) rfl ?_
  refine GM_iload_n (pc := 1) 2 rfl (daX5_aim_0 1 rfl) rfl ?_
  obtain ⟨hc8, h⟩ := chk_inv h
  obtain ⟨μ9, hμ9, h⟩ := lm_inv h
  refine GM_putf (pc := 2) 5 5 0 kf_X5_31 (Nat.le_of_ble_eq_true rfl) (Nat.le_of_ble_eq_true rfl) rfl rfl (daX5_aim_0 2 rfl) hc8 (fun q => absurd q (by decide)) ?_
  refine GM_mem hμ9 ?_
  refine GM_aload_n (pc := 5) 0 rfl (daX5_aim_0 3 rfl) rfl ?_
  refine GM_iconst (pc := 6) 0 (daX5_aim_0 4 rfl) rfl (R32_b rfl) ?_
  obtain ⟨μ10, hμ10, h⟩ := lm_inv h
  refine GM_putf (pc := 7) 5 6 0 kf_X5_35 (Nat.le_of_ble_eq_true rfl) (Nat.le_of_ble_eq_true rfl) rfl rfl (daX5_aim_0 5 rfl) hc8 (fun q => absurd q (by decide)) ?_
  refine GM_mem hμ10 ?_
  refine GM_aload_n (pc := 10) 0 rfl (daX5_aim_0 6 rfl) rfl ?_
  refine GM_iconst (pc := 11) 0 (daX5_aim_0 7 rfl) rfl (R32_b rfl) ?_
  obtain ⟨μ11, hμ11, h⟩ := lm_inv h
  refine GM_putf (pc := 12) 5 7 0 kf_X5_38 (Nat.le_of_ble_eq_true rfl) (Nat.le_of_ble_eq_true rfl) rfl rfl (daX5_aim_0 8 rfl) hc8 (fun q => absurd q (by decide)) ?_
  refine GM_mem hμ11 ?_
  refine GM_aload_n (pc := 15) 0 rfl (daX5_aim_0 9 rfl) rfl ?_
  refine GM_getf (pc := 16) 5 4 3 4 kf_X5_28 (Nat.le_of_ble_eq_true rfl) (Nat.le_of_ble_eq_true rfl) rfl (daX5_aim_0 10 rfl) hc8 rfl ?_
  refine GM_iconst (pc := 19) 0 (daX5_aim_0 11 rfl) rfl (R32_b rfl) ?_
  refine GM_iconst (pc := 20) 0 (daX5_aim_0 12 rfl) rfl (R32_b rfl) ?_
  obtain ⟨hc12, h⟩ := chk_inv h
  obtain ⟨μ13, hμ13, h⟩ := lm_inv h
  refine GM_iast (pc := 21) (daX5_aim_0 13 rfl) hc12.1 (by decide) hc12.2 ?_
  refine GM_mem hμ13 ?_
  refine GM_aload_n (pc := 22) 0 rfl (daX5_aim_0 14 rfl) rfl ?_
  refine GM_getf (pc := 23) 5 1 3 1 kf_X5_18 (Nat.le_of_ble_eq_true rfl) (Nat.le_of_ble_eq_true rfl) rfl (daX5_aim_0 15 rfl) hc8 rfl ?_
  refine GM_iconst (pc := 26) (-1) (daX5_aim_0 16 rfl) rfl (R32_b rfl) ?_
  obtain ⟨μ14, hf14, h⟩ := Option.bind_eq_some_iff.mp h
  refine GM_callS0 (pc := 27) [(3, μ13 v0 1), (0, (-1))] (tJ7_fill_53178 l hf14) cwJ7_fill_53178 ks_J7_fill_53178 km_X5_41 ⟨Nat.le_of_ble_eq_true rfl, Nat.le_of_ble_eq_true rfl⟩ (Nat.le_of_ble_eq_true rfl) (Nat.le_of_ble_eq_true rfl) (daX5_aim_0 17 rfl) ?_
  refine GM_aload_n (pc := 30) 1 rfl (daX5_aim_0 18 rfl) rfl ?_
  refine GM_iload_n (pc := 31) 2 rfl (daX5_aim_0 19 rfl) rfl ?_
  obtain ⟨hc15, h⟩ := chk_inv h
  obtain ⟨r16, hf16, h⟩ := Option.bind_eq_some_iff.mp h
  refine GM_callV0 (pc := 32) [(0, v2)] (tX2_column l hf16) cwX2_column 2 (Nat.le_of_ble_eq_true rfl) rfl kv_X2_column ke_X2_column km_X5_47 hc15 ⟨Nat.le_of_ble_eq_true rfl, Nat.le_of_ble_eq_true rfl⟩ (Nat.le_of_ble_eq_true rfl) (Nat.le_of_ble_eq_true rfl) (daX5_aim_0 20 rfl) ?_
  refine GM_istore_n (L' := [(3, (0, r16)), (0, (3, v0)), (1, (3, v1)), (2, (0, v2))]) (pc := 35) (daX5_aim_0 21 rfl) rfl (Nat.le_of_ble_eq_true rfl) rfl ?_
  refine GM_aload_n (pc := 36) 2 rfl (daX5_aim_0 22 rfl) rfl ?_
  refine GM_iload_n (pc := 37) 3 rfl (daX5_aim_0 23 rfl) rfl ?_
  obtain ⟨r17, hf17, h⟩ := Option.bind_eq_some_iff.mp h
  refine GM_callV0 (pc := 38) [(0, v2)] (tX2_row l hf17) cwX2_row 2 (Nat.le_of_ble_eq_true rfl) rfl kv_X2_row ke_X2_row km_X5_53 hc15 ⟨Nat.le_of_ble_eq_true rfl, Nat.le_of_ble_eq_true rfl⟩ (Nat.le_of_ble_eq_true rfl) (Nat.le_of_ble_eq_true rfl) (daX5_aim_0 24 rfl) ?_
  refine GM_istore (L' := [(4, (0, r17)), (3, (0, r16)), (0, (3, v0)), (1, (3, v1)), (2, (0, v2))]) (pc := 41) (daX5_aim_0 25 rfl) (Nat.le_of_ble_eq_true rfl) rfl ?_
  refine GM_iconst (pc := 43) 0 (daX5_aim_0 26 rfl) rfl (R32_b rfl) ?_
  refine GM_istore (L' := [(5, (0, 0)), (4, (0, r17)), (3, (0, r16)), (0, (3, v0)), (1, (3, v1)), (2, (0, v2))]) (pc := 44) (daX5_aim_0 27 rfl) (Nat.le_of_ble_eq_true rfl) rfl ?_
  refine GM_pick [3, 4, 2, 1, 0] rfl ?_
  obtain ⟨x18, hqx18, h⟩ := Option.bind_eq_some_iff.mp h
  refine lop_ind (zX5_aim_46 l F v0 v1 r16 r17 0 0) (qX5_aim_46 l F v0 v1 r16 r17 0 0) FU _ x18 hqx18 ?_
  obtain ⟨μ_19, hqq⟩ : ∃ z, z = x18 := ⟨x18, rfl⟩
  subst hqq
  show GM l mX5_aim F 0 0 97 [] [] μ_19
  cases h
  exact GM_vret (pc := 97) (daX5_aim_0 52 rfl) rfl hK
theorem tX5_aim (l : Launch) {v0 v1 v2 : Int} {μ : Mm} {t : Mm} (h : fX5_aim v0 v1 v2 μ = some t) : Ct l yX5_aim mX5_aim [(3, v0), (3, v1), (0, v2)] μ ([], t, 0, 0) :=
  Ct_of (by decide +kernel) rfl rfl (Nat.le_of_ble_eq_true rfl) (fun _ _ _ => trivial) (gX5_aim_0 l h ⟨rfl, rfl⟩)
def mX5_lookAlong : MI := (RX5, cX5_lookAlong, 8, none, "lookAlong", 1, 25, fun _ _ _ => True)
theorem cwX5_lookAlong : CWd yX5_lookAlong mX5_lookAlong 3 := ⟨ki_X5, kk_X5_lookAlong, ⟨by decide, by decide⟩, rfl⟩
def dtX5_lookAlong_0 : List (Nat × Instr × Nat) := [(0, .iload_n 3, 1), (1, .ifCond .lt 9, 3), (4, .iload_n 3, 1), (5, .bipush 90, 2), (7, .if_icmp .lt 4, 3), (10, .return_, 1), (11, .aload_n 0, 1), (12, .getfield 28, 3), (15, .iload_n 3, 1), (16, .iaload, 1), (17, .istore 4, 2), (19, .iload 4, 2), (21, .aload_n 0, 1), (22, .getfield 28, 3), (25, .iload_n 3, 1), (26, .iconst 1, 1), (27, .iadd, 1), (28, .iaload, 1), (29, .if_icmp .ge 152, 3), (32, .iload 4, 2), (34, .ifCond .lt 147, 3), (37, .iload 4, 2), (39, .sipush 144, 3), (42, .if_icmp .ge 139, 3), (45, .aload_n 1, 1), (46, .aload_n 0, 1), (47, .getfield 31, 3), (50, .aload_n 0, 1), (51, .getfield 22, 3), (54, .iload 4, 2), (56, .iaload, 1), (57, .aload_n 0, 1), (58, .getfield 25, 3), (61, .iload 4, 2), (63, .iaload, 1), (64, .invokevirtual 107, 3), (67, .istore 5, 2), (69, .iload 5, 2), (71, .iload 5, 2), (73, .invokestatic 111, 3), (76, .imul, 1), (77, .istore 6, 2), (79, .iload 4, 2), (81, .aload_n 0, 1), (82, .getfield 28, 3), (85, .iload_n 3, 1), (86, .iaload, 1), (87, .if_icmp .eq 29, 3), (90, .iload 6, 2), (92, .aload_n 2, 1), (93, .getfield 116, 3), (96, .iload_n 3, 1), (97, .iaload, 1), (98, .imul, 1), (99, .aload_n 2, 1), (100, .getfield 104, 3), (103, .iload_n 3, 1), (104, .iaload, 1), (105, .aload_n 0, 1), (106, .getfield 25, 3), (109, .iload 4, 2), (111, .iaload, 1), (112, .imul, 1), (113, .if_icmp .le 7, 3)]
theorem ddX5_lookAlong_0 : (dtX5_lookAlong_0.all fun e => decide (decode mX5_lookAlong.2.1 e.1 = .ok (e.2.1, e.2.2))) = true := by decide +kernel
theorem daX5_lookAlong_0 (j : Nat) {pc n : Nat} {i : Instr} (h : dtX5_lookAlong_0[j]? = some (pc, i, n)) : decode mX5_lookAlong.2.1 pc = .ok (i, n) := dec_of (c := mX5_lookAlong.2.1) ddX5_lookAlong_0 h
def dtX5_lookAlong_1 : List (Nat × Instr × Nat) := [(116, .iconst 1, 1), (117, .goto 4, 3), (120, .iconst 0, 1), (121, .istore 7, 2), (123, .iload 7, 2), (125, .ifCond .eq 37, 3), (128, .aload_n 2, 1), (129, .getfield 101, 3), (132, .iload_n 3, 1), (133, .aload_n 0, 1), (134, .getfield 22, 3), (137, .iload 4, 2), (139, .iaload, 1), (140, .iastore, 1), (141, .aload_n 2, 1), (142, .getfield 104, 3), (145, .iload_n 3, 1), (146, .iload 6, 2), (148, .iastore, 1), (149, .aload_n 2, 1), (150, .getfield 116, 3), (153, .iload_n 3, 1), (154, .aload_n 0, 1), (155, .getfield 25, 3), (158, .iload 4, 2), (160, .iaload, 1), (161, .iastore, 1), (162, .aload_n 2, 1), (163, .aload_n 0, 1), (164, .getfield 22, 3), (167, .iload 4, 2), (169, .iaload, 1), (170, .iload 7, 2), (172, .invokevirtual 117, 3), (175, .iinc 4 1, 3), (178, .goto (-159), 3), (181, .return_, 1)]
theorem ddX5_lookAlong_1 : (dtX5_lookAlong_1.all fun e => decide (decode mX5_lookAlong.2.1 e.1 = .ok (e.2.1, e.2.2))) = true := by decide +kernel
theorem daX5_lookAlong_1 (j : Nat) {pc n : Nat} {i : Instr} (h : dtX5_lookAlong_1[j]? = some (pc, i, n)) : decode mX5_lookAlong.2.1 pc = .ok (i, n) := dec_of (c := mX5_lookAlong.2.1) ddX5_lookAlong_1 h
def jX5_lookAlong_162 (v0 v1 v2 v3 v4 v7 : Int) (μ : Mm) : Option ((Int × Mm) ⊕ Mm) :=
  chk (KD v0 = 5) (
  chk (KD (μ v0 2) = 12 ∧ 0 ≤ v4 ∧ v4 < LN (μ v0 2)) (
  chk (KD v2 = 7) (
  (fX7_show v2 (μ (μ v0 2) v4) v7 μ).bind fun μ4 =>
  some (.inl (w32 (v4 + 1), μ4)))))
def jX5_lookAlong_121 (v0 v1 v2 v3 v4 v6 s0 : Int) (μ : Mm) : Option ((Int × Mm) ⊕ Mm) :=
  if s0 = 0 then
    jX5_lookAlong_162 v0 v1 v2 v3 v4 s0 μ
  else
    chk (KD v2 = 7) (
    chk (KD v0 = 5) (
    chk (KD (μ v0 2) = 12 ∧ 0 ≤ v4 ∧ v4 < LN (μ v0 2)) (
    chk (KD (μ v2 4) = 12 ∧ 0 ≤ v3 ∧ v3 < LN (μ v2 4)) (
    lm (mst μ (μ v2 4) v3 (μ (μ v0 2) v4)) fun μ10 =>
    chk (KD (μ10 v2 5) = 12 ∧ v3 < LN (μ10 v2 5)) (
    lm (mst μ10 (μ10 v2 5) v3 v6) fun μ12 =>
    chk (KD (μ12 v0 3) = 12 ∧ v4 < LN (μ12 v0 3)) (
    chk (KD (μ12 v2 6) = 12 ∧ v3 < LN (μ12 v2 6)) (
    lm (mst μ12 (μ12 v2 6) v3 (μ12 (μ12 v0 3) v4)) fun μ15 =>
    jX5_lookAlong_162 v0 v1 v2 v3 v4 s0 μ15)))))))
def jX5_lookAlong_116 (v0 v1 v2 v3 v4 v6 : Int) (μ : Mm) : Option ((Int × Mm) ⊕ Mm) :=
  jX5_lookAlong_121 v0 v1 v2 v3 v4 v6 1 μ
def zX5_lookAlong_19 (l : Launch) (F : FI) (v0 v1 v2 v3 : Int) (k n : Nat) : (Int × Mm) ⊕ Mm → Prop
  | .inl (v4, μ) => GM l mX5_lookAlong F k n 19 [(0, (3, v0)), (1, (3, v1)), (2, (3, v2)), (3, (0, v3)), (4, (0, v4))] [] μ
  | .inr μ => GM l mX5_lookAlong F k n 181 [] [] μ
def sX5_lookAlong_19 (v0 v1 v2 v3 : Int) : (Int × Mm) → Option ((Int × Mm) ⊕ Mm) := fun (v4, μ) =>
  chk (KD v0 = 5) (
  chk (KD (μ v0 4) = 12 ∧ 0 ≤ w32 (v3 + 1) ∧ w32 (v3 + 1) < LN (μ v0 4)) (
  if μ (μ v0 4) (w32 (v3 + 1)) ≤ v4 then
    some (.inr μ)
  else
    if v4 < 0 then
      some (.inr μ)
    else
      if 144 ≤ v4 then
        some (.inr μ)
      else
        chk (KD (μ v0 2) = 12 ∧ 0 ≤ v4 ∧ v4 < LN (μ v0 2)) (
        chk (KD (μ v0 3) = 12 ∧ v4 < LN (μ v0 3)) (
        chk (KD v1 = 2) (
        (fX2_lift v1 (μ v0 5) (μ (μ v0 2) v4) (μ (μ v0 3) v4) μ).bind fun r24 =>
        chk (0 ≤ v3 ∧ v3 < LN (μ v0 4)) (
        if v4 = μ (μ v0 4) v3 then
          jX5_lookAlong_116 v0 v1 v2 v3 v4 (w32 (r24 * (iabs r24))) μ
        else
          chk (KD v2 = 7) (
          chk (KD (μ v2 6) = 12 ∧ v3 < LN (μ v2 6)) (
          chk (KD (μ v2 5) = 12 ∧ v3 < LN (μ v2 5)) (
          if w32 ((w32 (r24 * (iabs r24))) * (μ (μ v2 6) v3)) ≤ w32 ((μ (μ v2 5) v3) * (μ (μ v0 3) v4)) then
            jX5_lookAlong_121 v0 v1 v2 v3 v4 (w32 (r24 * (iabs r24))) 0 μ
          else
            jX5_lookAlong_116 v0 v1 v2 v3 v4 (w32 (r24 * (iabs r24))) μ)))))))))
def fX5_lookAlong (v0 v1 v2 v3 : Int) (μ : Mm) : Option Mm :=
  if v3 < 0 then
    some μ
  else
    if v3 < 90 then
      chk (KD v0 = 5) (
      chk (KD (μ v0 4) = 12 ∧ 0 ≤ v3 ∧ v3 < LN (μ v0 4)) (
      (lop (sX5_lookAlong_19 v0 v1 v2 v3) FU (μ (μ v0 4) v3, μ)).bind fun μ_36 =>
        some μ_36))
    else
      some μ
set_option maxRecDepth 20000 in
theorem gX5_lookAlong_162 (l : Launch) {F : FI} {v0 v1 v2 v3 v4 v7 : Int} {μ : Mm} {t : ((Int × Mm) ⊕ Mm)} {k n : Nat} (h : jX5_lookAlong_162 v0 v1 v2 v3 v4 v7 μ = some t) (hK : zX5_lookAlong_19 l F v0 v1 v2 v3 k n t) : GM l mX5_lookAlong F k n 162 [(0, (3, v0)), (1, (3, v1)), (2, (3, v2)), (3, (0, v3)), (4, (0, v4)), (7, (0, v7))] [] μ := by
  unfold jX5_lookAlong_162 at h
  refine GM_aload_n (pc := 162) 2 rfl (daX5_lookAlong_1 27 rfl) rfl ?_
  refine GM_aload_n (pc := 163) 0 rfl (daX5_lookAlong_1 28 rfl) rfl ?_
  obtain ⟨hc1, h⟩ := chk_inv h
  refine GM_getf (pc := 164) 5 2 3 2 kf_X5_22 (Nat.le_of_ble_eq_true rfl) (Nat.le_of_ble_eq_true rfl) rfl (daX5_lookAlong_1 29 rfl) hc1 rfl ?_
  refine GM_iload (pc := 167) 4 rfl (daX5_lookAlong_1 30 rfl) ?_
  obtain ⟨hc2, h⟩ := chk_inv h
  refine GM_iald (pc := 169) (daX5_lookAlong_1 31 rfl) hc2.1 hc2.2.1 hc2.2.2 ?_
  refine GM_iload (pc := 170) 5 rfl (daX5_lookAlong_1 32 rfl) ?_
  obtain ⟨hc3, h⟩ := chk_inv h
  obtain ⟨μ4, hf4, h⟩ := Option.bind_eq_some_iff.mp h
  refine GM_callV0 (pc := 172) [(0, μ (μ v0 2) v4), (0, v7)] (tX7_show l hf4) cwX7_show 7 (Nat.le_of_ble_eq_true rfl) rfl kv_X7_show ke_X7_show km_X5_117 hc3 ⟨Nat.le_of_ble_eq_true rfl, Nat.le_of_ble_eq_true rfl⟩ (Nat.le_of_ble_eq_true rfl) (Nat.le_of_ble_eq_true rfl) (daX5_lookAlong_1 33 rfl) ?_
  refine GM_iinc (L' := [(4, (0, w32 (v4 + 1))), (0, (3, v0)), (1, (3, v1)), (2, (3, v2)), (3, (0, v3)), (7, (0, v7))]) (pc := 175) 4 rfl (daX5_lookAlong_1 34 rfl) (Nat.le_of_ble_eq_true rfl) rfl ?_
  refine GM_goto (pc := 178) 19 (daX5_lookAlong_1 35 rfl) rfl ?_
  refine GM_pick [1, 2, 3, 4, 0] rfl ?_
  cases h
  exact hK
set_option maxRecDepth 20000 in
theorem gX5_lookAlong_121 (l : Launch) {F : FI} {v0 v1 v2 v3 v4 v6 s0 : Int} {μ : Mm} {t : ((Int × Mm) ⊕ Mm)} {k n : Nat} (h : jX5_lookAlong_121 v0 v1 v2 v3 v4 v6 s0 μ = some t) (hK : zX5_lookAlong_19 l F v0 v1 v2 v3 k n t) : GM l mX5_lookAlong F k n 121 [(0, (3, v0)), (1, (3, v1)), (2, (3, v2)), (3, (0, v3)), (4, (0, v4)), (6, (0, v6))] [(0, s0)] μ := by
  unfold jX5_lookAlong_121 at h
  refine GM_istore (L' := [(7, (0, s0)), (0, (3, v0)), (1, (3, v1)), (2, (3, v2)), (3, (0, v3)), (4, (0, v4)), (6, (0, v6))]) (pc := 121) (daX5_lookAlong_1 3 rfl) (Nat.le_of_ble_eq_true rfl) rfl ?_
  refine GM_iload (pc := 123) 0 rfl (daX5_lookAlong_1 4 rfl) ?_
  refine GM_if_eq (pc := 125) 162 (daX5_lookAlong_1 5 rfl) rfl (fun c5 => ?_) (fun c5 => ?_)
  · skip
    rw [if_pos c5] at h
    refine GM_pick [1, 2, 3, 4, 5, 0] rfl ?_
    exact gX5_lookAlong_162 l h hK
  · skip
    rw [if_neg c5] at h
    refine GM_aload_n (pc := 128) 3 rfl (daX5_lookAlong_1 6 rfl) rfl ?_
    obtain ⟨hc6, h⟩ := chk_inv h
    refine GM_getf (pc := 129) 7 4 3 4 kf_X5_101 (Nat.le_of_ble_eq_true rfl) (Nat.le_of_ble_eq_true rfl) rfl (daX5_lookAlong_1 7 rfl) hc6 rfl ?_
    refine GM_iload_n (pc := 132) 4 rfl (daX5_lookAlong_1 8 rfl) rfl ?_
    refine GM_aload_n (pc := 133) 1 rfl (daX5_lookAlong_1 9 rfl) rfl ?_
    obtain ⟨hc7, h⟩ := chk_inv h
    refine GM_getf (pc := 134) 5 2 3 2 kf_X5_22 (Nat.le_of_ble_eq_true rfl) (Nat.le_of_ble_eq_true rfl) rfl (daX5_lookAlong_1 10 rfl) hc7 rfl ?_
    refine GM_iload (pc := 137) 5 rfl (daX5_lookAlong_1 11 rfl) ?_
    obtain ⟨hc8, h⟩ := chk_inv h
    refine GM_iald (pc := 139) (daX5_lookAlong_1 12 rfl) hc8.1 hc8.2.1 hc8.2.2 ?_
    obtain ⟨hc9, h⟩ := chk_inv h
    obtain ⟨μ10, hμ10, h⟩ := lm_inv h
    refine GM_iast (pc := 140) (daX5_lookAlong_1 13 rfl) hc9.1 hc9.2.1 hc9.2.2 ?_
    refine GM_mem hμ10 ?_
    refine GM_aload_n (pc := 141) 3 rfl (daX5_lookAlong_1 14 rfl) rfl ?_
    refine GM_getf (pc := 142) 7 5 3 5 kf_X5_104 (Nat.le_of_ble_eq_true rfl) (Nat.le_of_ble_eq_true rfl) rfl (daX5_lookAlong_1 15 rfl) hc6 rfl ?_
    refine GM_iload_n (pc := 145) 4 rfl (daX5_lookAlong_1 16 rfl) rfl ?_
    refine GM_iload (pc := 146) 6 rfl (daX5_lookAlong_1 17 rfl) ?_
    obtain ⟨hc11, h⟩ := chk_inv h
    obtain ⟨μ12, hμ12, h⟩ := lm_inv h
    refine GM_iast (pc := 148) (daX5_lookAlong_1 18 rfl) hc11.1 hc9.2.1 hc11.2 ?_
    refine GM_mem hμ12 ?_
    refine GM_aload_n (pc := 149) 3 rfl (daX5_lookAlong_1 19 rfl) rfl ?_
    refine GM_getf (pc := 150) 7 6 3 6 kf_X5_116 (Nat.le_of_ble_eq_true rfl) (Nat.le_of_ble_eq_true rfl) rfl (daX5_lookAlong_1 20 rfl) hc6 rfl ?_
    refine GM_iload_n (pc := 153) 4 rfl (daX5_lookAlong_1 21 rfl) rfl ?_
    refine GM_aload_n (pc := 154) 1 rfl (daX5_lookAlong_1 22 rfl) rfl ?_
    refine GM_getf (pc := 155) 5 3 3 3 kf_X5_25 (Nat.le_of_ble_eq_true rfl) (Nat.le_of_ble_eq_true rfl) rfl (daX5_lookAlong_1 23 rfl) hc7 rfl ?_
    refine GM_iload (pc := 158) 5 rfl (daX5_lookAlong_1 24 rfl) ?_
    obtain ⟨hc13, h⟩ := chk_inv h
    refine GM_iald (pc := 160) (daX5_lookAlong_1 25 rfl) hc13.1 hc8.2.1 hc13.2 ?_
    obtain ⟨hc14, h⟩ := chk_inv h
    obtain ⟨μ15, hμ15, h⟩ := lm_inv h
    refine GM_iast (pc := 161) (daX5_lookAlong_1 26 rfl) hc14.1 hc9.2.1 hc14.2 ?_
    refine GM_mem hμ15 ?_
    refine GM_pick [1, 2, 3, 4, 5, 0] rfl ?_
    exact gX5_lookAlong_162 l h hK
set_option maxRecDepth 20000 in
theorem gX5_lookAlong_116 (l : Launch) {F : FI} {v0 v1 v2 v3 v4 v6 : Int} {μ : Mm} {t : ((Int × Mm) ⊕ Mm)} {k n : Nat} (h : jX5_lookAlong_116 v0 v1 v2 v3 v4 v6 μ = some t) (hK : zX5_lookAlong_19 l F v0 v1 v2 v3 k n t) : GM l mX5_lookAlong F k n 116 [(0, (3, v0)), (1, (3, v1)), (2, (3, v2)), (3, (0, v3)), (4, (0, v4)), (6, (0, v6))] [] μ := by
  unfold jX5_lookAlong_116 at h
  refine GM_iconst (pc := 116) 1 (daX5_lookAlong_1 0 rfl) rfl (R32_b rfl) ?_
  refine GM_goto (pc := 117) 121 (daX5_lookAlong_1 1 rfl) rfl ?_
  exact gX5_lookAlong_121 l h hK
set_option maxRecDepth 20000 in
theorem qX5_lookAlong_19 (l : Launch) (F : FI) (v0 v1 v2 v3 : Int) (k n : Nat) : ∀ (q : (Int × Mm)) (t : ((Int × Mm) ⊕ Mm)), sX5_lookAlong_19 v0 v1 v2 v3 q = some t → zX5_lookAlong_19 l F v0 v1 v2 v3 k n t → zX5_lookAlong_19 l F v0 v1 v2 v3 k n (.inl q) := by
  intro q t h hK
  obtain ⟨v4, μ⟩ := q
  unfold sX5_lookAlong_19 at h
  try dsimp only at h
  show GM l mX5_lookAlong F k n 19 [(0, (3, v0)), (1, (3, v1)), (2, (3, v2)), (3, (0, v3)), (4, (0, v4))] [] μ
  refine GM_iload (pc := 19) 4 rfl (daX5_lookAlong_0 11 rfl) ?_
  refine GM_aload_n (pc := 21) 0 rfl (daX5_lookAlong_0 12 rfl) rfl ?_
  obtain ⟨hc16, h⟩ := chk_inv h
  refine GM_getf (pc := 22) 5 4 3 4 kf_X5_28 (Nat.le_of_ble_eq_true rfl) (Nat.le_of_ble_eq_true rfl) rfl (daX5_lookAlong_0 13 rfl) hc16 rfl ?_
  refine GM_iload_n (pc := 25) 3 rfl (daX5_lookAlong_0 14 rfl) rfl ?_
  refine GM_iconst (pc := 26) 1 (daX5_lookAlong_0 15 rfl) rfl (R32_b rfl) ?_
  refine GM_iadd (pc := 27) (daX5_lookAlong_0 16 rfl) ?_
  obtain ⟨hc17, h⟩ := chk_inv h
  refine GM_iald (pc := 28) (daX5_lookAlong_0 17 rfl) hc17.1 hc17.2.1 hc17.2.2 ?_
  refine GM_icmp_ge (pc := 29) 181 (daX5_lookAlong_0 18 rfl) rfl (fun c18 => ?_) (fun c18 => ?_)
  · skip
    rw [if_pos c18] at h
    refine GM_pick [] rfl ?_
    cases h
    exact hK
  · skip
    rw [if_neg c18] at h
    refine GM_iload (pc := 32) 4 rfl (daX5_lookAlong_0 19 rfl) ?_
    refine GM_if_lt (pc := 34) 181 (daX5_lookAlong_0 20 rfl) rfl (fun c19 => ?_) (fun c19 => ?_)
    · skip
      rw [if_pos c19] at h
      refine GM_pick [] rfl ?_
      cases h
      exact hK
    · skip
      rw [if_neg c19] at h
      refine GM_iload (pc := 37) 4 rfl (daX5_lookAlong_0 21 rfl) ?_
      refine GM_sipush (pc := 39) 144 (daX5_lookAlong_0 22 rfl) rfl (R32_b rfl) ?_
      refine GM_icmp_ge (pc := 42) 181 (daX5_lookAlong_0 23 rfl) rfl (fun c20 => ?_) (fun c20 => ?_)
      · skip
        rw [if_pos c20] at h
        refine GM_pick [] rfl ?_
        cases h
        exact hK
      · skip
        rw [if_neg c20] at h
        refine GM_aload_n (pc := 45) 1 rfl (daX5_lookAlong_0 24 rfl) rfl ?_
        refine GM_aload_n (pc := 46) 0 rfl (daX5_lookAlong_0 25 rfl) rfl ?_
        refine GM_getf (pc := 47) 5 5 0 5 kf_X5_31 (Nat.le_of_ble_eq_true rfl) (Nat.le_of_ble_eq_true rfl) rfl (daX5_lookAlong_0 26 rfl) hc16 rfl ?_
        refine GM_aload_n (pc := 50) 0 rfl (daX5_lookAlong_0 27 rfl) rfl ?_
        refine GM_getf (pc := 51) 5 2 3 2 kf_X5_22 (Nat.le_of_ble_eq_true rfl) (Nat.le_of_ble_eq_true rfl) rfl (daX5_lookAlong_0 28 rfl) hc16 rfl ?_
        refine GM_iload (pc := 54) 4 rfl (daX5_lookAlong_0 29 rfl) ?_
        obtain ⟨hc21, h⟩ := chk_inv h
        refine GM_iald (pc := 56) (daX5_lookAlong_0 30 rfl) hc21.1 hc21.2.1 hc21.2.2 ?_
        refine GM_aload_n (pc := 57) 0 rfl (daX5_lookAlong_0 31 rfl) rfl ?_
        refine GM_getf (pc := 58) 5 3 3 3 kf_X5_25 (Nat.le_of_ble_eq_true rfl) (Nat.le_of_ble_eq_true rfl) rfl (daX5_lookAlong_0 32 rfl) hc16 rfl ?_
        refine GM_iload (pc := 61) 4 rfl (daX5_lookAlong_0 33 rfl) ?_
        obtain ⟨hc22, h⟩ := chk_inv h
        refine GM_iald (pc := 63) (daX5_lookAlong_0 34 rfl) hc22.1 hc21.2.1 hc22.2 ?_
        obtain ⟨hc23, h⟩ := chk_inv h
        obtain ⟨r24, hf24, h⟩ := Option.bind_eq_some_iff.mp h
        refine GM_callV0 (pc := 64) [(0, μ v0 5), (0, μ (μ v0 2) v4), (0, μ (μ v0 3) v4)] (tX2_lift l hf24) cwX2_lift 2 (Nat.le_of_ble_eq_true rfl) rfl kv_X2_lift ke_X2_lift km_X5_107 hc23 ⟨Nat.le_of_ble_eq_true rfl, Nat.le_of_ble_eq_true rfl⟩ (Nat.le_of_ble_eq_true rfl) (Nat.le_of_ble_eq_true rfl) (daX5_lookAlong_0 35 rfl) ?_
        refine GM_istore (L' := [(5, (0, r24)), (0, (3, v0)), (1, (3, v1)), (2, (3, v2)), (3, (0, v3)), (4, (0, v4))]) (pc := 67) (daX5_lookAlong_0 36 rfl) (Nat.le_of_ble_eq_true rfl) rfl ?_
        refine GM_iload (pc := 69) 0 rfl (daX5_lookAlong_0 37 rfl) ?_
        refine GM_iload (pc := 71) 0 rfl (daX5_lookAlong_0 38 rfl) ?_
        refine GM_callS0 (pc := 73) [(0, r24)] (tJ9_abs_0f7a4 l (fJ9_absI_eq r24)) cwJ9_abs_0f7a4 ks_J9_abs_0f7a4 km_X5_111 ⟨Nat.le_of_ble_eq_true rfl, Nat.le_of_ble_eq_true rfl⟩ (Nat.le_of_ble_eq_true rfl) (Nat.le_of_ble_eq_true rfl) (daX5_lookAlong_0 39 rfl) ?_
        refine GM_imul (pc := 76) (daX5_lookAlong_0 40 rfl) ?_
        refine GM_istore (L' := [(6, (0, w32 (r24 * (iabs r24)))), (5, (0, r24)), (0, (3, v0)), (1, (3, v1)), (2, (3, v2)), (3, (0, v3)), (4, (0, v4))]) (pc := 77) (daX5_lookAlong_0 41 rfl) (Nat.le_of_ble_eq_true rfl) rfl ?_
        refine GM_iload (pc := 79) 6 rfl (daX5_lookAlong_0 42 rfl) ?_
        refine GM_aload_n (pc := 81) 2 rfl (daX5_lookAlong_0 43 rfl) rfl ?_
        refine GM_getf (pc := 82) 5 4 3 4 kf_X5_28 (Nat.le_of_ble_eq_true rfl) (Nat.le_of_ble_eq_true rfl) rfl (daX5_lookAlong_0 44 rfl) hc16 rfl ?_
        refine GM_iload_n (pc := 85) 5 rfl (daX5_lookAlong_0 45 rfl) rfl ?_
        obtain ⟨hc25, h⟩ := chk_inv h
        refine GM_iald (pc := 86) (daX5_lookAlong_0 46 rfl) hc17.1 hc25.1 hc25.2 ?_
        refine GM_icmp_eq (pc := 87) 116 (daX5_lookAlong_0 47 rfl) rfl (fun c26 => ?_) (fun c26 => ?_)
        · skip
          rw [if_pos c26] at h
          refine GM_pick [2, 3, 4, 5, 6, 0] rfl ?_
          exact gX5_lookAlong_116 l h hK
        · skip
          rw [if_neg c26] at h
          refine GM_iload (pc := 90) 0 rfl (daX5_lookAlong_0 48 rfl) ?_
          refine GM_aload_n (pc := 92) 4 rfl (daX5_lookAlong_0 49 rfl) rfl ?_
          obtain ⟨hc27, h⟩ := chk_inv h
          refine GM_getf (pc := 93) 7 6 3 6 kf_X5_116 (Nat.le_of_ble_eq_true rfl) (Nat.le_of_ble_eq_true rfl) rfl (daX5_lookAlong_0 50 rfl) hc27 rfl ?_
          refine GM_iload_n (pc := 96) 5 rfl (daX5_lookAlong_0 51 rfl) rfl ?_
          obtain ⟨hc28, h⟩ := chk_inv h
          refine GM_iald (pc := 97) (daX5_lookAlong_0 52 rfl) hc28.1 hc25.1 hc28.2 ?_
          refine GM_imul (pc := 98) (daX5_lookAlong_0 53 rfl) ?_
          refine GM_aload_n (pc := 99) 4 rfl (daX5_lookAlong_0 54 rfl) rfl ?_
          refine GM_getf (pc := 100) 7 5 3 5 kf_X5_104 (Nat.le_of_ble_eq_true rfl) (Nat.le_of_ble_eq_true rfl) rfl (daX5_lookAlong_0 55 rfl) hc27 rfl ?_
          refine GM_iload_n (pc := 103) 5 rfl (daX5_lookAlong_0 56 rfl) rfl ?_
          obtain ⟨hc29, h⟩ := chk_inv h
          refine GM_iald (pc := 104) (daX5_lookAlong_0 57 rfl) hc29.1 hc25.1 hc29.2 ?_
          refine GM_aload_n (pc := 105) 2 rfl (daX5_lookAlong_0 58 rfl) rfl ?_
          refine GM_getf (pc := 106) 5 3 3 3 kf_X5_25 (Nat.le_of_ble_eq_true rfl) (Nat.le_of_ble_eq_true rfl) rfl (daX5_lookAlong_0 59 rfl) hc16 rfl ?_
          refine GM_iload (pc := 109) 6 rfl (daX5_lookAlong_0 60 rfl) ?_
          refine GM_iald (pc := 111) (daX5_lookAlong_0 61 rfl) hc22.1 hc21.2.1 hc22.2 ?_
          refine GM_imul (pc := 112) (daX5_lookAlong_0 62 rfl) ?_
          refine GM_icmp_le (pc := 113) 120 (daX5_lookAlong_0 63 rfl) rfl (fun c30 => ?_) (fun c30 => ?_)
          · skip
            rw [if_pos c30] at h
            refine GM_iconst (pc := 120) 0 (daX5_lookAlong_1 2 rfl) rfl (R32_b rfl) ?_
            refine GM_pick [2, 3, 4, 5, 6, 0] rfl ?_
            exact gX5_lookAlong_121 l h hK
          · skip
            rw [if_neg c30] at h
            refine GM_pick [2, 3, 4, 5, 6, 0] rfl ?_
            exact gX5_lookAlong_116 l h hK
set_option maxRecDepth 20000 in
theorem gX5_lookAlong_0 (l : Launch) {F : FI} {v0 v1 v2 v3 : Int} {μ : Mm} {t : Mm} (h : fX5_lookAlong v0 v1 v2 v3 μ = some t) (hK : F.1 = [] ∧ F.2.1 = t) : GM l mX5_lookAlong F 0 0 0 [(0, (3, v0)), (1, (3, v1)), (2, (3, v2)), (3, (0, v3))] [] μ := by
  unfold fX5_lookAlong at h
  refine GM_iload_n (pc := 0) 3 rfl (daX5_lookAlong_0 0 rfl) rfl ?_
  refine GM_if_lt (pc := 1) 10 (daX5_lookAlong_0 1 rfl) rfl (fun c31 => ?_) (fun c31 => ?_)
  · skip
    rw [if_pos c31] at h
    cases h
    exact GM_vret (pc := 10) (daX5_lookAlong_0 5 rfl) rfl hK
  · skip
    rw [if_neg c31] at h
    refine GM_iload_n (pc := 4) 3 rfl (daX5_lookAlong_0 2 rfl) rfl ?_
    refine GM_bipush (pc := 5) 90 (daX5_lookAlong_0 3 rfl) rfl (R32_b rfl) ?_
    refine GM_icmp_lt (pc := 7) 11 (daX5_lookAlong_0 4 rfl) rfl (fun c32 => ?_) (fun c32 => ?_)
    · skip
      rw [if_pos c32] at h
      refine GM_aload_n (pc := 11) 0 rfl (daX5_lookAlong_0 6 rfl) rfl ?_
      obtain ⟨hc33, h⟩ := chk_inv h
      refine GM_getf (pc := 12) 5 4 3 4 kf_X5_28 (Nat.le_of_ble_eq_true rfl) (Nat.le_of_ble_eq_true rfl) rfl (daX5_lookAlong_0 7 rfl) hc33 rfl ?_
      refine GM_iload_n (pc := 15) 3 rfl (daX5_lookAlong_0 8 rfl) rfl ?_
      obtain ⟨hc34, h⟩ := chk_inv h
      refine GM_iald (pc := 16) (daX5_lookAlong_0 9 rfl) hc34.1 hc34.2.1 hc34.2.2 ?_
      refine GM_istore (L' := [(4, (0, μ (μ v0 4) v3)), (0, (3, v0)), (1, (3, v1)), (2, (3, v2)), (3, (0, v3))]) (pc := 17) (daX5_lookAlong_0 10 rfl) (Nat.le_of_ble_eq_true rfl) rfl ?_
      refine GM_pick [1, 2, 3, 4, 0] rfl ?_
      obtain ⟨x35, hqx35, h⟩ := Option.bind_eq_some_iff.mp h
      refine lop_ind (zX5_lookAlong_19 l F v0 v1 v2 v3 0 0) (qX5_lookAlong_19 l F v0 v1 v2 v3 0 0) FU _ x35 hqx35 ?_
      obtain ⟨μ_36, hqq⟩ : ∃ z, z = x35 := ⟨x35, rfl⟩
      subst hqq
      show GM l mX5_lookAlong F 0 0 181 [] [] μ_36
      cases h
      exact GM_vret (pc := 181) (daX5_lookAlong_1 36 rfl) rfl hK
    · skip
      rw [if_neg c32] at h
      cases h
      exact GM_vret (pc := 10) (daX5_lookAlong_0 5 rfl) rfl hK
theorem tX5_lookAlong (l : Launch) {v0 v1 v2 v3 : Int} {μ : Mm} {t : Mm} (h : fX5_lookAlong v0 v1 v2 v3 μ = some t) : Ct l yX5_lookAlong mX5_lookAlong [(3, v0), (3, v1), (3, v2), (0, v3)] μ ([], t, 0, 0) :=
  Ct_of (by decide +kernel) rfl rfl (Nat.le_of_ble_eq_true rfl) (fun _ _ _ => trivial) (gX5_lookAlong_0 l h ⟨rfl, rfl⟩)
def mX5_pickHumps : MI := (RX5, cX5_pickHumps, 5, none, "pickHumps", 1, 23, fun _ _ _ => True)
theorem cwX5_pickHumps : CWd yX5_pickHumps mX5_pickHumps 1 := ⟨ki_X5, kk_X5_pickHumps, ⟨by decide, by decide⟩, rfl⟩
def dtX5_pickHumps_0 : List (Nat × Instr × Nat) := [(0, .aload_n 1, 1), (1, .iconst 0, 1), (2, .putfield 121, 3), (5, .aload_n 1, 1), (6, .getfield 79, 3), (9, .iconst 3, 1), (10, .if_icmp .ge 4, 3), (13, .return_, 1), (14, .aload_n 1, 1), (15, .getfield 79, 3), (18, .iconst 1, 1), (19, .isub, 1), (20, .istore_n 2, 1), (21, .iconst 0, 1), (22, .istore_n 3, 1), (23, .iload_n 3, 1), (24, .aload_n 1, 1), (25, .getfield 79, 3), (28, .if_icmp .ge 60, 3), (31, .iload_n 3, 1), (32, .bipush 90, 2), (34, .if_icmp .ge 54, 3), (37, .iload_n 3, 1), (38, .iconst 1, 1), (39, .iadd, 1), (40, .aload_n 1, 1), (41, .getfield 79, 3), (44, .if_icmp .ge 9, 3), (47, .iload_n 3, 1), (48, .iconst 1, 1), (49, .iadd, 1), (50, .goto 4, 3), (53, .iconst 0, 1), (54, .istore 4, 2), (56, .aload_n 1, 1), (57, .iload_n 3, 1), (58, .iload_n 2, 1), (59, .invokevirtual 124, 3), (62, .ifCond .le 18, 3), (65, .aload_n 1, 1), (66, .iload_n 3, 1), (67, .iload 4, 2), (69, .invokevirtual 124, 3), (72, .ifCond .lt 8, 3), (75, .aload_n 1, 1), (76, .iload_n 3, 1), (77, .invokevirtual 128, 3), (80, .iload_n 3, 1), (81, .istore_n 2, 1), (82, .iinc 3 1, 3), (85, .goto (-62), 3), (88, .return_, 1)]
theorem ddX5_pickHumps_0 : (dtX5_pickHumps_0.all fun e => decide (decode mX5_pickHumps.2.1 e.1 = .ok (e.2.1, e.2.2))) = true := by decide +kernel
theorem daX5_pickHumps_0 (j : Nat) {pc n : Nat} {i : Instr} (h : dtX5_pickHumps_0[j]? = some (pc, i, n)) : decode mX5_pickHumps.2.1 pc = .ok (i, n) := dec_of (c := mX5_pickHumps.2.1) ddX5_pickHumps_0 h
def jX5_pickHumps_54 (v1 v2 v3 s0 : Int) (μ : Mm) : Option ((Int × Int × Mm) ⊕ Mm) :=
  chk (KD v1 = 7) (
  (fX7_weigh v1 v3 v2 μ).bind fun r2 =>
  if r2 ≤ 0 then
    some (.inl (v3, w32 (v3 + 1), μ))
  else
    (fX7_weigh v1 v3 s0 μ).bind fun r4 =>
    if r4 < 0 then
      some (.inl (v3, w32 (v3 + 1), μ))
    else
      (fX7_addHump v1 v3 μ).bind fun μ6 =>
      some (.inl (v3, w32 (v3 + 1), μ6)))
def zX5_pickHumps_23 (l : Launch) (F : FI) (v1 : Int) (k n : Nat) : (Int × Int × Mm) ⊕ Mm → Prop
  | .inl (v2, v3, μ) => GM l mX5_pickHumps F k n 23 [(1, (3, v1)), (2, (0, v2)), (3, (0, v3))] [] μ
  | .inr μ => GM l mX5_pickHumps F k n 88 [] [] μ
def sX5_pickHumps_23 (v1 : Int) : (Int × Int × Mm) → Option ((Int × Int × Mm) ⊕ Mm) := fun (v2, v3, μ) =>
  chk (KD v1 = 7) (
  if μ v1 1 ≤ v3 then
    some (.inr μ)
  else
    if 90 ≤ v3 then
      some (.inr μ)
    else
      if μ v1 1 ≤ w32 (v3 + 1) then
        jX5_pickHumps_54 v1 v2 v3 0 μ
      else
        jX5_pickHumps_54 v1 v2 v3 (w32 (v3 + 1)) μ)
def fX5_pickHumps (v0 v1 : Int) (μ : Mm) : Option Mm :=
  chk (KD v1 = 7) (
  lm (mst μ v1 2 0) fun μ12 =>
  if 3 ≤ μ12 v1 1 then
    (lop (sX5_pickHumps_23 v1) FU (w32 ((μ12 v1 1) - 1), 0, μ12)).bind fun μ_15 =>
      some μ_15
  else
    some μ12)
set_option maxRecDepth 20000 in
theorem gX5_pickHumps_54 (l : Launch) {F : FI} {v1 v2 v3 s0 : Int} {μ : Mm} {t : ((Int × Int × Mm) ⊕ Mm)} {k n : Nat} (h : jX5_pickHumps_54 v1 v2 v3 s0 μ = some t) (hK : zX5_pickHumps_23 l F v1 k n t) : GM l mX5_pickHumps F k n 54 [(1, (3, v1)), (2, (0, v2)), (3, (0, v3))] [(0, s0)] μ := by
  unfold jX5_pickHumps_54 at h
  refine GM_istore (L' := [(4, (0, s0)), (1, (3, v1)), (2, (0, v2)), (3, (0, v3))]) (pc := 54) (daX5_pickHumps_0 33 rfl) (Nat.le_of_ble_eq_true rfl) rfl ?_
  refine GM_aload_n (pc := 56) 1 rfl (daX5_pickHumps_0 34 rfl) rfl ?_
  refine GM_iload_n (pc := 57) 3 rfl (daX5_pickHumps_0 35 rfl) rfl ?_
  refine GM_iload_n (pc := 58) 2 rfl (daX5_pickHumps_0 36 rfl) rfl ?_
  obtain ⟨hc1, h⟩ := chk_inv h
  obtain ⟨r2, hf2, h⟩ := Option.bind_eq_some_iff.mp h
  refine GM_callV0 (pc := 59) [(0, v3), (0, v2)] (tX7_weigh l hf2) cwX7_weigh 7 (Nat.le_of_ble_eq_true rfl) rfl kv_X7_weigh ke_X7_weigh km_X5_124 hc1 ⟨Nat.le_of_ble_eq_true rfl, Nat.le_of_ble_eq_true rfl⟩ (Nat.le_of_ble_eq_true rfl) (Nat.le_of_ble_eq_true rfl) (daX5_pickHumps_0 37 rfl) ?_
  refine GM_if_le (pc := 62) 80 (daX5_pickHumps_0 38 rfl) rfl (fun c3 => ?_) (fun c3 => ?_)
  · skip
    rw [if_pos c3] at h
    refine GM_iload_n (pc := 80) 3 rfl (daX5_pickHumps_0 47 rfl) rfl ?_
    refine GM_istore_n (L' := [(2, (0, v3)), (4, (0, s0)), (1, (3, v1)), (3, (0, v3))]) (pc := 81) (daX5_pickHumps_0 48 rfl) rfl (Nat.le_of_ble_eq_true rfl) rfl ?_
    refine GM_iinc (L' := [(3, (0, w32 (v3 + 1))), (2, (0, v3)), (4, (0, s0)), (1, (3, v1))]) (pc := 82) 3 rfl (daX5_pickHumps_0 49 rfl) (Nat.le_of_ble_eq_true rfl) rfl ?_
    refine GM_goto (pc := 85) 23 (daX5_pickHumps_0 50 rfl) rfl ?_
    refine GM_pick [3, 1, 0] rfl ?_
    cases h
    exact hK
  · skip
    rw [if_neg c3] at h
    refine GM_aload_n (pc := 65) 1 rfl (daX5_pickHumps_0 39 rfl) rfl ?_
    refine GM_iload_n (pc := 66) 3 rfl (daX5_pickHumps_0 40 rfl) rfl ?_
    refine GM_iload (pc := 67) 0 rfl (daX5_pickHumps_0 41 rfl) ?_
    obtain ⟨r4, hf4, h⟩ := Option.bind_eq_some_iff.mp h
    refine GM_callV0 (pc := 69) [(0, v3), (0, s0)] (tX7_weigh l hf4) cwX7_weigh 7 (Nat.le_of_ble_eq_true rfl) rfl kv_X7_weigh ke_X7_weigh km_X5_124 hc1 ⟨Nat.le_of_ble_eq_true rfl, Nat.le_of_ble_eq_true rfl⟩ (Nat.le_of_ble_eq_true rfl) (Nat.le_of_ble_eq_true rfl) (daX5_pickHumps_0 42 rfl) ?_
    refine GM_if_lt (pc := 72) 80 (daX5_pickHumps_0 43 rfl) rfl (fun c5 => ?_) (fun c5 => ?_)
    · skip
      rw [if_pos c5] at h
      refine GM_iload_n (pc := 80) 3 rfl (daX5_pickHumps_0 47 rfl) rfl ?_
      refine GM_istore_n (L' := [(2, (0, v3)), (4, (0, s0)), (1, (3, v1)), (3, (0, v3))]) (pc := 81) (daX5_pickHumps_0 48 rfl) rfl (Nat.le_of_ble_eq_true rfl) rfl ?_
      refine GM_iinc (L' := [(3, (0, w32 (v3 + 1))), (2, (0, v3)), (4, (0, s0)), (1, (3, v1))]) (pc := 82) 3 rfl (daX5_pickHumps_0 49 rfl) (Nat.le_of_ble_eq_true rfl) rfl ?_
      refine GM_goto (pc := 85) 23 (daX5_pickHumps_0 50 rfl) rfl ?_
      refine GM_pick [3, 1, 0] rfl ?_
      cases h
      exact hK
    · skip
      rw [if_neg c5] at h
      refine GM_aload_n (pc := 75) 1 rfl (daX5_pickHumps_0 44 rfl) rfl ?_
      refine GM_iload_n (pc := 76) 3 rfl (daX5_pickHumps_0 45 rfl) rfl ?_
      obtain ⟨μ6, hf6, h⟩ := Option.bind_eq_some_iff.mp h
      refine GM_callV0 (pc := 77) [(0, v3)] (tX7_addHump l hf6) cwX7_addHump 7 (Nat.le_of_ble_eq_true rfl) rfl kv_X7_addHump ke_X7_addHump km_X5_128 hc1 ⟨Nat.le_of_ble_eq_true rfl, Nat.le_of_ble_eq_true rfl⟩ (Nat.le_of_ble_eq_true rfl) (Nat.le_of_ble_eq_true rfl) (daX5_pickHumps_0 46 rfl) ?_
      refine GM_iload_n (pc := 80) 3 rfl (daX5_pickHumps_0 47 rfl) rfl ?_
      refine GM_istore_n (L' := [(2, (0, v3)), (4, (0, s0)), (1, (3, v1)), (3, (0, v3))]) (pc := 81) (daX5_pickHumps_0 48 rfl) rfl (Nat.le_of_ble_eq_true rfl) rfl ?_
      refine GM_iinc (L' := [(3, (0, w32 (v3 + 1))), (2, (0, v3)), (4, (0, s0)), (1, (3, v1))]) (pc := 82) 3 rfl (daX5_pickHumps_0 49 rfl) (Nat.le_of_ble_eq_true rfl) rfl ?_
      refine GM_goto (pc := 85) 23 (daX5_pickHumps_0 50 rfl) rfl ?_
      refine GM_pick [3, 1, 0] rfl ?_
      cases h
      exact hK
set_option maxRecDepth 20000 in
theorem qX5_pickHumps_23 (l : Launch) (F : FI) (v1 : Int) (k n : Nat) : ∀ (q : (Int × Int × Mm)) (t : ((Int × Int × Mm) ⊕ Mm)), sX5_pickHumps_23 v1 q = some t → zX5_pickHumps_23 l F v1 k n t → zX5_pickHumps_23 l F v1 k n (.inl q) := by
  intro q t h hK
  obtain ⟨v2, v3, μ⟩ := q
  unfold sX5_pickHumps_23 at h
  try dsimp only at h
  show GM l mX5_pickHumps F k n 23 [(1, (3, v1)), (2, (0, v2)), (3, (0, v3))] [] μ
  refine GM_iload_n (pc := 23) 2 rfl (daX5_pickHumps_0 15 rfl) rfl ?_
  refine GM_aload_n (pc := 24) 0 rfl (daX5_pickHumps_0 16 rfl) rfl ?_
  obtain ⟨hc7, h⟩ := chk_inv h
  refine GM_getf (pc := 25) 7 1 0 1 kf_X5_79 (Nat.le_of_ble_eq_true rfl) (Nat.le_of_ble_eq_true rfl) rfl (daX5_pickHumps_0 17 rfl) hc7 rfl ?_
  refine GM_icmp_ge (pc := 28) 88 (daX5_pickHumps_0 18 rfl) rfl (fun c8 => ?_) (fun c8 => ?_)
  · skip
    rw [if_pos c8] at h
    refine GM_pick [] rfl ?_
    cases h
    exact hK
  · skip
    rw [if_neg c8] at h
    refine GM_iload_n (pc := 31) 2 rfl (daX5_pickHumps_0 19 rfl) rfl ?_
    refine GM_bipush (pc := 32) 90 (daX5_pickHumps_0 20 rfl) rfl (R32_b rfl) ?_
    refine GM_icmp_ge (pc := 34) 88 (daX5_pickHumps_0 21 rfl) rfl (fun c9 => ?_) (fun c9 => ?_)
    · skip
      rw [if_pos c9] at h
      refine GM_pick [] rfl ?_
      cases h
      exact hK
    · skip
      rw [if_neg c9] at h
      refine GM_iload_n (pc := 37) 2 rfl (daX5_pickHumps_0 22 rfl) rfl ?_
      refine GM_iconst (pc := 38) 1 (daX5_pickHumps_0 23 rfl) rfl (R32_b rfl) ?_
      refine GM_iadd (pc := 39) (daX5_pickHumps_0 24 rfl) ?_
      refine GM_aload_n (pc := 40) 0 rfl (daX5_pickHumps_0 25 rfl) rfl ?_
      refine GM_getf (pc := 41) 7 1 0 1 kf_X5_79 (Nat.le_of_ble_eq_true rfl) (Nat.le_of_ble_eq_true rfl) rfl (daX5_pickHumps_0 26 rfl) hc7 rfl ?_
      refine GM_icmp_ge (pc := 44) 53 (daX5_pickHumps_0 27 rfl) rfl (fun c10 => ?_) (fun c10 => ?_)
      · skip
        rw [if_pos c10] at h
        refine GM_iconst (pc := 53) 0 (daX5_pickHumps_0 32 rfl) rfl (R32_b rfl) ?_
        exact gX5_pickHumps_54 l h hK
      · skip
        rw [if_neg c10] at h
        refine GM_iload_n (pc := 47) 2 rfl (daX5_pickHumps_0 28 rfl) rfl ?_
        refine GM_iconst (pc := 48) 1 (daX5_pickHumps_0 29 rfl) rfl (R32_b rfl) ?_
        refine GM_iadd (pc := 49) (daX5_pickHumps_0 30 rfl) ?_
        refine GM_goto (pc := 50) 54 (daX5_pickHumps_0 31 rfl) rfl ?_
        exact gX5_pickHumps_54 l h hK
set_option maxRecDepth 20000 in
theorem gX5_pickHumps_0 (l : Launch) {F : FI} {v0 v1 : Int} {μ : Mm} {t : Mm} (h : fX5_pickHumps v0 v1 μ = some t) (hK : F.1 = [] ∧ F.2.1 = t) : GM l mX5_pickHumps F 0 0 0 [(0, (3, v0)), (1, (3, v1))] [] μ := by
  unfold fX5_pickHumps at h
  refine GM_aload_n (pc := 0) 1 rfl (daX5_pickHumps_0 0 rfl) rfl ?_
  refine GM_iconst (pc := 1) 0 (daX5_pickHumps_0 1 rfl) rfl (R32_b rfl) ?_
  obtain ⟨hc11, h⟩ := chk_inv h
  obtain ⟨μ12, hμ12, h⟩ := lm_inv h
  refine GM_putf (pc := 2) 7 2 0 kf_X5_121 (Nat.le_of_ble_eq_true rfl) (Nat.le_of_ble_eq_true rfl) rfl rfl (daX5_pickHumps_0 2 rfl) hc11 (fun q => absurd q (by decide)) ?_
  refine GM_mem hμ12 ?_
  refine GM_aload_n (pc := 5) 1 rfl (daX5_pickHumps_0 3 rfl) rfl ?_
  refine GM_getf (pc := 6) 7 1 0 1 kf_X5_79 (Nat.le_of_ble_eq_true rfl) (Nat.le_of_ble_eq_true rfl) rfl (daX5_pickHumps_0 4 rfl) hc11 rfl ?_
  refine GM_iconst (pc := 9) 3 (daX5_pickHumps_0 5 rfl) rfl (R32_b rfl) ?_
  refine GM_icmp_ge (pc := 10) 14 (daX5_pickHumps_0 6 rfl) rfl (fun c13 => ?_) (fun c13 => ?_)
  · skip
    rw [if_pos c13] at h
    refine GM_aload_n (pc := 14) 1 rfl (daX5_pickHumps_0 8 rfl) rfl ?_
    refine GM_getf (pc := 15) 7 1 0 1 kf_X5_79 (Nat.le_of_ble_eq_true rfl) (Nat.le_of_ble_eq_true rfl) rfl (daX5_pickHumps_0 9 rfl) hc11 rfl ?_
    refine GM_iconst (pc := 18) 1 (daX5_pickHumps_0 10 rfl) rfl (R32_b rfl) ?_
    refine GM_isub (pc := 19) (daX5_pickHumps_0 11 rfl) ?_
    refine GM_istore_n (L' := [(2, (0, w32 ((μ12 v1 1) - 1))), (0, (3, v0)), (1, (3, v1))]) (pc := 20) (daX5_pickHumps_0 12 rfl) rfl (Nat.le_of_ble_eq_true rfl) rfl ?_
    refine GM_iconst (pc := 21) 0 (daX5_pickHumps_0 13 rfl) rfl (R32_b rfl) ?_
    refine GM_istore_n (L' := [(3, (0, 0)), (2, (0, w32 ((μ12 v1 1) - 1))), (0, (3, v0)), (1, (3, v1))]) (pc := 22) (daX5_pickHumps_0 14 rfl) rfl (Nat.le_of_ble_eq_true rfl) rfl ?_
    refine GM_pick [3, 1, 0] rfl ?_
    obtain ⟨x14, hqx14, h⟩ := Option.bind_eq_some_iff.mp h
    refine lop_ind (zX5_pickHumps_23 l F v1 0 0) (qX5_pickHumps_23 l F v1 0 0) FU _ x14 hqx14 ?_
    obtain ⟨μ_15, hqq⟩ : ∃ z, z = x14 := ⟨x14, rfl⟩
    subst hqq
    show GM l mX5_pickHumps F 0 0 88 [] [] μ_15
    cases h
    exact GM_vret (pc := 88) (daX5_pickHumps_0 51 rfl) rfl hK
  · skip
    rw [if_neg c13] at h
    cases h
    exact GM_vret (pc := 13) (daX5_pickHumps_0 7 rfl) rfl hK
theorem tX5_pickHumps (l : Launch) {v0 v1 : Int} {μ : Mm} {t : Mm} (h : fX5_pickHumps v0 v1 μ = some t) : Ct l yX5_pickHumps mX5_pickHumps [(3, v0), (3, v1)] μ ([], t, 0, 0) :=
  Ct_of (by decide +kernel) rfl rfl (Nat.le_of_ble_eq_true rfl) (fun _ _ _ => trivial) (gX5_pickHumps_0 l h ⟨rfl, rfl⟩)
def mX5_pickLakes : MI := (RX5, cX5_pickLakes, 5, none, "pickLakes", 1, 22, fun _ _ _ => True)
theorem cwX5_pickLakes : CWd yX5_pickLakes mX5_pickLakes 2 := ⟨ki_X5, kk_X5_pickLakes, ⟨by decide, by decide⟩, rfl⟩
def dtX5_pickLakes_0 : List (Nat × Instr × Nat) := [(0, .aload_n 2, 1), (1, .iconst 0, 1), (2, .putfield 132, 3), (5, .iconst 0, 1), (6, .istore_n 3, 1), (7, .iload_n 3, 1), (8, .aload_n 1, 1), (9, .getfield 135, 3), (12, .if_icmp .ge 65, 3), (15, .iload_n 3, 1), (16, .bipush 12, 2), (18, .if_icmp .ge 59, 3), (21, .aload_n 1, 1), (22, .getfield 138, 3), (25, .iload_n 3, 1), (26, .iaload, 1), (27, .istore 4, 2), (29, .aload_n 1, 1), (30, .getfield 141, 3), (33, .iload_n 3, 1), (34, .baload, 1), (35, .ifCond .ne 36, 3), (38, .iload 4, 2), (40, .ifCond .lt 31, 3), (43, .iload 4, 2), (45, .sipush 144, 3), (48, .if_icmp .ge 23, 3), (51, .aload_n 2, 1), (52, .iload 4, 2), (54, .invokevirtual 145, 3), (57, .ifCond .eq 14, 3), (60, .aload_n 2, 1), (61, .aload_n 0, 1), (62, .getfield 18, 3), (65, .iload 4, 2), (67, .iaload, 1), (68, .invokevirtual 149, 3), (71, .iinc 3 1, 3), (74, .goto (-67), 3), (77, .return_, 1)]
theorem ddX5_pickLakes_0 : (dtX5_pickLakes_0.all fun e => decide (decode mX5_pickLakes.2.1 e.1 = .ok (e.2.1, e.2.2))) = true := by decide +kernel
theorem daX5_pickLakes_0 (j : Nat) {pc n : Nat} {i : Instr} (h : dtX5_pickLakes_0[j]? = some (pc, i, n)) : decode mX5_pickLakes.2.1 pc = .ok (i, n) := dec_of (c := mX5_pickLakes.2.1) ddX5_pickLakes_0 h
def zX5_pickLakes_7 (l : Launch) (F : FI) (v0 v1 v2 : Int) (k n : Nat) : (Int × Mm) ⊕ Mm → Prop
  | .inl (v3, μ) => GM l mX5_pickLakes F k n 7 [(0, (3, v0)), (1, (3, v1)), (2, (3, v2)), (3, (0, v3))] [] μ
  | .inr μ => GM l mX5_pickLakes F k n 77 [] [] μ
def sX5_pickLakes_7 (v0 v1 v2 : Int) : (Int × Mm) → Option ((Int × Mm) ⊕ Mm) := fun (v3, μ) =>
  chk (KD v1 = 2) (
  if μ v1 5 ≤ v3 then
    some (.inr μ)
  else
    if 12 ≤ v3 then
      some (.inr μ)
    else
      chk (KD (μ v1 7) = 12 ∧ 0 ≤ v3 ∧ v3 < LN (μ v1 7)) (
      chk (KD (μ v1 8) = 14 ∧ v3 < LN (μ v1 8)) (
      if μ (μ v1 8) v3 = 0 then
        if μ (μ v1 7) v3 < 0 then
          some (.inl (w32 (v3 + 1), μ))
        else
          if 144 ≤ μ (μ v1 7) v3 then
            some (.inl (w32 (v3 + 1), μ))
          else
            chk (KD v2 = 7) (
            (fX7_shows v2 (μ (μ v1 7) v3) μ).bind fun r10 =>
            if r10 = 0 then
              some (.inl (w32 (v3 + 1), μ))
            else
              chk (KD v0 = 5) (
              chk (KD (μ v0 1) = 12 ∧ 0 ≤ μ (μ v1 7) v3 ∧ μ (μ v1 7) v3 < LN (μ v0 1)) (
              (fX7_addLake v2 (μ (μ v0 1) (μ (μ v1 7) v3)) μ).bind fun μ14 =>
              some (.inl (w32 (v3 + 1), μ14)))))
      else
        some (.inl (w32 (v3 + 1), μ)))))
def fX5_pickLakes (v0 v1 v2 : Int) (μ : Mm) : Option Mm :=
  chk (KD v2 = 7) (
  lm (mst μ v2 3 0) fun μ16 =>
  (lop (sX5_pickLakes_7 v0 v1 v2) FU (0, μ16)).bind fun μ_18 =>
    some μ_18)
set_option maxRecDepth 20000 in
theorem qX5_pickLakes_7 (l : Launch) (F : FI) (v0 v1 v2 : Int) (k n : Nat) : ∀ (q : (Int × Mm)) (t : ((Int × Mm) ⊕ Mm)), sX5_pickLakes_7 v0 v1 v2 q = some t → zX5_pickLakes_7 l F v0 v1 v2 k n t → zX5_pickLakes_7 l F v0 v1 v2 k n (.inl q) := by
  intro q t h hK
  obtain ⟨v3, μ⟩ := q
  unfold sX5_pickLakes_7 at h
  try dsimp only at h
  show GM l mX5_pickLakes F k n 7 [(0, (3, v0)), (1, (3, v1)), (2, (3, v2)), (3, (0, v3))] [] μ
  refine GM_iload_n (pc := 7) 3 rfl (daX5_pickLakes_0 5 rfl) rfl ?_
  refine GM_aload_n (pc := 8) 1 rfl (daX5_pickLakes_0 6 rfl) rfl ?_
  obtain ⟨hc1, h⟩ := chk_inv h
  refine GM_getf (pc := 9) 2 5 0 5 kf_X5_135 (Nat.le_of_ble_eq_true rfl) (Nat.le_of_ble_eq_true rfl) rfl (daX5_pickLakes_0 7 rfl) hc1 rfl ?_
  refine GM_icmp_ge (pc := 12) 77 (daX5_pickLakes_0 8 rfl) rfl (fun c2 => ?_) (fun c2 => ?_)
  · skip
    rw [if_pos c2] at h
    refine GM_pick [] rfl ?_
    cases h
    exact hK
  · skip
    rw [if_neg c2] at h
    refine GM_iload_n (pc := 15) 3 rfl (daX5_pickLakes_0 9 rfl) rfl ?_
    refine GM_bipush (pc := 16) 12 (daX5_pickLakes_0 10 rfl) rfl (R32_b rfl) ?_
    refine GM_icmp_ge (pc := 18) 77 (daX5_pickLakes_0 11 rfl) rfl (fun c3 => ?_) (fun c3 => ?_)
    · skip
      rw [if_pos c3] at h
      refine GM_pick [] rfl ?_
      cases h
      exact hK
    · skip
      rw [if_neg c3] at h
      refine GM_aload_n (pc := 21) 1 rfl (daX5_pickLakes_0 12 rfl) rfl ?_
      refine GM_getf (pc := 22) 2 7 3 7 kf_X5_138 (Nat.le_of_ble_eq_true rfl) (Nat.le_of_ble_eq_true rfl) rfl (daX5_pickLakes_0 13 rfl) hc1 rfl ?_
      refine GM_iload_n (pc := 25) 3 rfl (daX5_pickLakes_0 14 rfl) rfl ?_
      obtain ⟨hc4, h⟩ := chk_inv h
      refine GM_iald (pc := 26) (daX5_pickLakes_0 15 rfl) hc4.1 hc4.2.1 hc4.2.2 ?_
      refine GM_istore (L' := [(4, (0, μ (μ v1 7) v3)), (0, (3, v0)), (1, (3, v1)), (2, (3, v2)), (3, (0, v3))]) (pc := 27) (daX5_pickLakes_0 16 rfl) (Nat.le_of_ble_eq_true rfl) rfl ?_
      refine GM_aload_n (pc := 29) 2 rfl (daX5_pickLakes_0 17 rfl) rfl ?_
      refine GM_getf (pc := 30) 2 8 3 8 kf_X5_141 (Nat.le_of_ble_eq_true rfl) (Nat.le_of_ble_eq_true rfl) rfl (daX5_pickLakes_0 18 rfl) hc1 rfl ?_
      refine GM_iload_n (pc := 33) 4 rfl (daX5_pickLakes_0 19 rfl) rfl ?_
      obtain ⟨hc5, h⟩ := chk_inv h
      refine GM_zald (pc := 34) (daX5_pickLakes_0 20 rfl) hc5.1 hc4.2.1 hc5.2 ?_
      refine GM_if_ne (pc := 35) 71 (daX5_pickLakes_0 21 rfl) rfl (fun c6 => ?_) (fun c6 => ?_)
      · skip
        rw [if_neg c6] at h
        refine GM_iinc (L' := [(3, (0, w32 (v3 + 1))), (4, (0, μ (μ v1 7) v3)), (0, (3, v0)), (1, (3, v1)), (2, (3, v2))]) (pc := 71) 4 rfl (daX5_pickLakes_0 37 rfl) (Nat.le_of_ble_eq_true rfl) rfl ?_
        refine GM_goto (pc := 74) 7 (daX5_pickLakes_0 38 rfl) rfl ?_
        refine GM_pick [2, 3, 4, 0] rfl ?_
        cases h
        exact hK
      · skip
        rw [if_pos c6] at h
        refine GM_iload (pc := 38) 0 rfl (daX5_pickLakes_0 22 rfl) ?_
        refine GM_if_lt (pc := 40) 71 (daX5_pickLakes_0 23 rfl) rfl (fun c7 => ?_) (fun c7 => ?_)
        · skip
          rw [if_pos c7] at h
          refine GM_iinc (L' := [(3, (0, w32 (v3 + 1))), (4, (0, μ (μ v1 7) v3)), (0, (3, v0)), (1, (3, v1)), (2, (3, v2))]) (pc := 71) 4 rfl (daX5_pickLakes_0 37 rfl) (Nat.le_of_ble_eq_true rfl) rfl ?_
          refine GM_goto (pc := 74) 7 (daX5_pickLakes_0 38 rfl) rfl ?_
          refine GM_pick [2, 3, 4, 0] rfl ?_
          cases h
          exact hK
        · skip
          rw [if_neg c7] at h
          refine GM_iload (pc := 43) 0 rfl (daX5_pickLakes_0 24 rfl) ?_
          refine GM_sipush (pc := 45) 144 (daX5_pickLakes_0 25 rfl) rfl (R32_b rfl) ?_
          refine GM_icmp_ge (pc := 48) 71 (daX5_pickLakes_0 26 rfl) rfl (fun c8 => ?_) (fun c8 => ?_)
          · skip
            rw [if_pos c8] at h
            refine GM_iinc (L' := [(3, (0, w32 (v3 + 1))), (4, (0, μ (μ v1 7) v3)), (0, (3, v0)), (1, (3, v1)), (2, (3, v2))]) (pc := 71) 4 rfl (daX5_pickLakes_0 37 rfl) (Nat.le_of_ble_eq_true rfl) rfl ?_
            refine GM_goto (pc := 74) 7 (daX5_pickLakes_0 38 rfl) rfl ?_
            refine GM_pick [2, 3, 4, 0] rfl ?_
            cases h
            exact hK
          · skip
            rw [if_neg c8] at h
            refine GM_aload_n (pc := 51) 3 rfl (daX5_pickLakes_0 27 rfl) rfl ?_
            refine GM_iload (pc := 52) 0 rfl (daX5_pickLakes_0 28 rfl) ?_
            obtain ⟨hc9, h⟩ := chk_inv h
            obtain ⟨r10, hf10, h⟩ := Option.bind_eq_some_iff.mp h
            refine GM_callV0 (pc := 54) [(0, μ (μ v1 7) v3)] (tX7_shows l hf10) cwX7_shows 7 (Nat.le_of_ble_eq_true rfl) rfl kv_X7_shows ke_X7_shows km_X5_145 hc9 ⟨Nat.le_of_ble_eq_true rfl, Nat.le_of_ble_eq_true rfl⟩ (Nat.le_of_ble_eq_true rfl) (Nat.le_of_ble_eq_true rfl) (daX5_pickLakes_0 29 rfl) ?_
            refine GM_if_eq (pc := 57) 71 (daX5_pickLakes_0 30 rfl) rfl (fun c11 => ?_) (fun c11 => ?_)
            · skip
              rw [if_pos c11] at h
              refine GM_iinc (L' := [(3, (0, w32 (v3 + 1))), (4, (0, μ (μ v1 7) v3)), (0, (3, v0)), (1, (3, v1)), (2, (3, v2))]) (pc := 71) 4 rfl (daX5_pickLakes_0 37 rfl) (Nat.le_of_ble_eq_true rfl) rfl ?_
              refine GM_goto (pc := 74) 7 (daX5_pickLakes_0 38 rfl) rfl ?_
              refine GM_pick [2, 3, 4, 0] rfl ?_
              cases h
              exact hK
            · skip
              rw [if_neg c11] at h
              refine GM_aload_n (pc := 60) 3 rfl (daX5_pickLakes_0 31 rfl) rfl ?_
              refine GM_aload_n (pc := 61) 1 rfl (daX5_pickLakes_0 32 rfl) rfl ?_
              obtain ⟨hc12, h⟩ := chk_inv h
              refine GM_getf (pc := 62) 5 1 3 1 kf_X5_18 (Nat.le_of_ble_eq_true rfl) (Nat.le_of_ble_eq_true rfl) rfl (daX5_pickLakes_0 33 rfl) hc12 rfl ?_
              refine GM_iload (pc := 65) 0 rfl (daX5_pickLakes_0 34 rfl) ?_
              obtain ⟨hc13, h⟩ := chk_inv h
              refine GM_iald (pc := 67) (daX5_pickLakes_0 35 rfl) hc13.1 hc13.2.1 hc13.2.2 ?_
              obtain ⟨μ14, hf14, h⟩ := Option.bind_eq_some_iff.mp h
              refine GM_callV0 (pc := 68) [(0, μ (μ v0 1) (μ (μ v1 7) v3))] (tX7_addLake l hf14) cwX7_addLake 7 (Nat.le_of_ble_eq_true rfl) rfl kv_X7_addLake ke_X7_addLake km_X5_149 hc9 ⟨Nat.le_of_ble_eq_true rfl, Nat.le_of_ble_eq_true rfl⟩ (Nat.le_of_ble_eq_true rfl) (Nat.le_of_ble_eq_true rfl) (daX5_pickLakes_0 36 rfl) ?_
              refine GM_iinc (L' := [(3, (0, w32 (v3 + 1))), (4, (0, μ (μ v1 7) v3)), (0, (3, v0)), (1, (3, v1)), (2, (3, v2))]) (pc := 71) 4 rfl (daX5_pickLakes_0 37 rfl) (Nat.le_of_ble_eq_true rfl) rfl ?_
              refine GM_goto (pc := 74) 7 (daX5_pickLakes_0 38 rfl) rfl ?_
              refine GM_pick [2, 3, 4, 0] rfl ?_
              cases h
              exact hK
set_option maxRecDepth 20000 in
theorem gX5_pickLakes_0 (l : Launch) {F : FI} {v0 v1 v2 : Int} {μ : Mm} {t : Mm} (h : fX5_pickLakes v0 v1 v2 μ = some t) (hK : F.1 = [] ∧ F.2.1 = t) : GM l mX5_pickLakes F 0 0 0 [(0, (3, v0)), (1, (3, v1)), (2, (3, v2))] [] μ := by
  unfold fX5_pickLakes at h
  refine GM_aload_n (pc := 0) 2 rfl (daX5_pickLakes_0 0 rfl) rfl ?_
  refine GM_iconst (pc := 1) 0 (daX5_pickLakes_0 1 rfl) rfl (R32_b rfl) ?_
  obtain ⟨hc15, h⟩ := chk_inv h
  obtain ⟨μ16, hμ16, h⟩ := lm_inv h
  refine GM_putf (pc := 2) 7 3 0 kf_X5_132 (Nat.le_of_ble_eq_true rfl) (Nat.le_of_ble_eq_true rfl) rfl rfl (daX5_pickLakes_0 2 rfl) hc15 (fun q => absurd q (by decide)) ?_
  refine GM_mem hμ16 ?_
  refine GM_iconst (pc := 5) 0 (daX5_pickLakes_0 3 rfl) rfl (R32_b rfl) ?_
  refine GM_istore_n (L' := [(3, (0, 0)), (0, (3, v0)), (1, (3, v1)), (2, (3, v2))]) (pc := 6) (daX5_pickLakes_0 4 rfl) rfl (Nat.le_of_ble_eq_true rfl) rfl ?_
  refine GM_pick [1, 2, 3, 0] rfl ?_
  obtain ⟨x17, hqx17, h⟩ := Option.bind_eq_some_iff.mp h
  refine lop_ind (zX5_pickLakes_7 l F v0 v1 v2 0 0) (qX5_pickLakes_7 l F v0 v1 v2 0 0) FU _ x17 hqx17 ?_
  obtain ⟨μ_18, hqq⟩ : ∃ z, z = x17 := ⟨x17, rfl⟩
  subst hqq
  show GM l mX5_pickLakes F 0 0 77 [] [] μ_18
  cases h
  exact GM_vret (pc := 77) (daX5_pickLakes_0 39 rfl) rfl hK
theorem tX5_pickLakes (l : Launch) {v0 v1 v2 : Int} {μ : Mm} {t : Mm} (h : fX5_pickLakes v0 v1 v2 μ = some t) : Ct l yX5_pickLakes mX5_pickLakes [(3, v0), (3, v1), (3, v2)] μ ([], t, 0, 0) :=
  Ct_of (by decide +kernel) rfl rfl (Nat.le_of_ble_eq_true rfl) (fun _ _ _ => trivial) (gX5_pickLakes_0 l h ⟨rfl, rfl⟩)
def mX5_look : MI := (RX5, cX5_look, 4, none, "look", 2, 52, fun _ _ _ => True)
theorem cwX5_look : CWd yX5_look mX5_look 2 := ⟨ki_X5, kk_X5_look, ⟨by decide, by decide⟩, rfl⟩
def dtX5_look_0 : List (Nat × Instr × Nat) := [(0, .aload_n 2, 1), (1, .aload_n 0, 1), (2, .getfield 35, 3), (5, .putfield 79, 3), (8, .aload_n 2, 1), (9, .getfield 82, 3), (12, .lconst 0, 1), (13, .invokestatic 86, 3), (16, .iconst 0, 1), (17, .istore_n 3, 1), (18, .iload_n 3, 1), (19, .aload_n 0, 1), (20, .getfield 35, 3), (23, .if_icmp .ge 16, 3), (26, .aload_n 0, 1), (27, .aload_n 1, 1), (28, .aload_n 2, 1), (29, .iload_n 3, 1), (30, .invokevirtual 89, 3), (33, .iinc 3 1, 3), (36, .goto (-18), 3), (39, .aload_n 0, 1), (40, .aload_n 2, 1), (41, .invokevirtual 93, 3), (44, .aload_n 0, 1), (45, .aload_n 1, 1), (46, .aload_n 2, 1), (47, .invokevirtual 97, 3), (50, .return_, 1)]
theorem ddX5_look_0 : (dtX5_look_0.all fun e => decide (decode mX5_look.2.1 e.1 = .ok (e.2.1, e.2.2))) = true := by decide +kernel
theorem daX5_look_0 (j : Nat) {pc n : Nat} {i : Instr} (h : dtX5_look_0[j]? = some (pc, i, n)) : decode mX5_look.2.1 pc = .ok (i, n) := dec_of (c := mX5_look.2.1) ddX5_look_0 h
def zX5_look_18 (l : Launch) (F : FI) (v0 v1 v2 : Int) (k n : Nat) : (Int × Mm) ⊕ Mm → Prop
  | .inl (v3, μ) => GM l mX5_look F k n 18 [(0, (3, v0)), (1, (3, v1)), (2, (3, v2)), (3, (0, v3))] [] μ
  | .inr μ => GM l mX5_look F k n 39 [(0, (3, v0)), (1, (3, v1)), (2, (3, v2))] [] μ
def sX5_look_18 (v0 v1 v2 : Int) : (Int × Mm) → Option ((Int × Mm) ⊕ Mm) := fun (v3, μ) =>
  chk (KD v0 = 5) (
  if μ v0 6 ≤ v3 then
    some (.inr μ)
  else
    (fX5_lookAlong v0 v1 v2 v3 μ).bind fun μ3 =>
    some (.inl (w32 (v3 + 1), μ3)))
def fX5_look (v0 v1 v2 : Int) (μ : Mm) : Option Mm :=
  chk (KD v0 = 5) (
  chk (KD v2 = 7) (
  lm (mst μ v2 1 (μ v0 6)) fun μ6 =>
  (fJ7_fill_d0a16 (μ6 v2 9) 0 μ6).bind fun μ7 =>
  (lop (sX5_look_18 v0 v1 v2) FU (0, μ7)).bind fun μ_9 =>
    (fX5_pickHumps v0 v2 μ_9).bind fun μ10 =>
    (fX5_pickLakes v0 v1 v2 μ10).bind fun μ11 =>
    some μ11))
set_option maxRecDepth 20000 in
theorem qX5_look_18 (l : Launch) (F : FI) (v0 v1 v2 : Int) (k n : Nat) : ∀ (q : (Int × Mm)) (t : ((Int × Mm) ⊕ Mm)), sX5_look_18 v0 v1 v2 q = some t → zX5_look_18 l F v0 v1 v2 k n t → zX5_look_18 l F v0 v1 v2 k n (.inl q) := by
  intro q t h hK
  obtain ⟨v3, μ⟩ := q
  unfold sX5_look_18 at h
  try dsimp only at h
  show GM l mX5_look F k n 18 [(0, (3, v0)), (1, (3, v1)), (2, (3, v2)), (3, (0, v3))] [] μ
  refine GM_iload_n (pc := 18) 3 rfl (daX5_look_0 10 rfl) rfl ?_
  refine GM_aload_n (pc := 19) 0 rfl (daX5_look_0 11 rfl) rfl ?_
  obtain ⟨hc1, h⟩ := chk_inv h
  refine GM_getf (pc := 20) 5 6 0 6 kf_X5_35 (Nat.le_of_ble_eq_true rfl) (Nat.le_of_ble_eq_true rfl) rfl (daX5_look_0 12 rfl) hc1 rfl ?_
  refine GM_icmp_ge (pc := 23) 39 (daX5_look_0 13 rfl) rfl (fun c2 => ?_) (fun c2 => ?_)
  · skip
    rw [if_pos c2] at h
    refine GM_pick [0, 1, 2] rfl ?_
    cases h
    exact hK
  · skip
    rw [if_neg c2] at h
    refine GM_aload_n (pc := 26) 0 rfl (daX5_look_0 14 rfl) rfl ?_
    refine GM_aload_n (pc := 27) 1 rfl (daX5_look_0 15 rfl) rfl ?_
    refine GM_aload_n (pc := 28) 2 rfl (daX5_look_0 16 rfl) rfl ?_
    refine GM_iload_n (pc := 29) 3 rfl (daX5_look_0 17 rfl) rfl ?_
    obtain ⟨μ3, hf3, h⟩ := Option.bind_eq_some_iff.mp h
    refine GM_callV0 (pc := 30) [(3, v1), (3, v2), (0, v3)] (tX5_lookAlong l hf3) cwX5_lookAlong 5 (Nat.le_of_ble_eq_true rfl) rfl kv_X5_lookAlong ke_X5_lookAlong km_X5_89 hc1 ⟨Nat.le_of_ble_eq_true rfl, Nat.le_of_ble_eq_true rfl⟩ (Nat.le_of_ble_eq_true rfl) (Nat.le_of_ble_eq_true rfl) (daX5_look_0 18 rfl) ?_
    refine GM_iinc (L' := [(3, (0, w32 (v3 + 1))), (0, (3, v0)), (1, (3, v1)), (2, (3, v2))]) (pc := 33) 3 rfl (daX5_look_0 19 rfl) (Nat.le_of_ble_eq_true rfl) rfl ?_
    refine GM_goto (pc := 36) 18 (daX5_look_0 20 rfl) rfl ?_
    refine GM_pick [1, 2, 3, 0] rfl ?_
    cases h
    exact hK
set_option maxRecDepth 20000 in
theorem gX5_look_0 (l : Launch) {F : FI} {v0 v1 v2 : Int} {μ : Mm} {t : Mm} (h : fX5_look v0 v1 v2 μ = some t) (hK : F.1 = [] ∧ F.2.1 = t) : GM l mX5_look F 0 0 0 [(0, (3, v0)), (1, (3, v1)), (2, (3, v2))] [] μ := by
  unfold fX5_look at h
  refine GM_aload_n (pc := 0) 2 rfl (daX5_look_0 0 rfl) rfl ?_
  refine GM_aload_n (pc := 1) 0 rfl (daX5_look_0 1 rfl) rfl ?_
  obtain ⟨hc4, h⟩ := chk_inv h
  refine GM_getf (pc := 2) 5 6 0 6 kf_X5_35 (Nat.le_of_ble_eq_true rfl) (Nat.le_of_ble_eq_true rfl) rfl (daX5_look_0 2 rfl) hc4 rfl ?_
  obtain ⟨hc5, h⟩ := chk_inv h
  obtain ⟨μ6, hμ6, h⟩ := lm_inv h
  refine GM_putf (pc := 5) 7 1 0 kf_X5_79 (Nat.le_of_ble_eq_true rfl) (Nat.le_of_ble_eq_true rfl) rfl rfl (daX5_look_0 3 rfl) hc5 (fun q => absurd q (by decide)) ?_
  refine GM_mem hμ6 ?_
  refine GM_aload_n (pc := 8) 2 rfl (daX5_look_0 4 rfl) rfl ?_
  refine GM_getf (pc := 9) 7 9 3 9 kf_X5_82 (Nat.le_of_ble_eq_true rfl) (Nat.le_of_ble_eq_true rfl) rfl (daX5_look_0 5 rfl) hc5 rfl ?_
  refine GM_lconst (pc := 12) 0 (daX5_look_0 6 rfl) rfl (R64_b rfl) ?_
  obtain ⟨μ7, hf7, h⟩ := Option.bind_eq_some_iff.mp h
  refine GM_callS0 (pc := 13) [(3, μ6 v2 9), (2, 0)] (tJ7_fill_d0a16 l hf7) cwJ7_fill_d0a16 ks_J7_fill_d0a16 km_X5_86 ⟨Nat.le_of_ble_eq_true rfl, Nat.le_of_ble_eq_true rfl⟩ (Nat.le_of_ble_eq_true rfl) (Nat.le_of_ble_eq_true rfl) (daX5_look_0 7 rfl) ?_
  refine GM_iconst (pc := 16) 0 (daX5_look_0 8 rfl) rfl (R32_b rfl) ?_
  refine GM_istore_n (L' := [(3, (0, 0)), (0, (3, v0)), (1, (3, v1)), (2, (3, v2))]) (pc := 17) (daX5_look_0 9 rfl) rfl (Nat.le_of_ble_eq_true rfl) rfl ?_
  refine GM_pick [1, 2, 3, 0] rfl ?_
  obtain ⟨x8, hqx8, h⟩ := Option.bind_eq_some_iff.mp h
  refine lop_ind (zX5_look_18 l F v0 v1 v2 0 0) (qX5_look_18 l F v0 v1 v2 0 0) FU _ x8 hqx8 ?_
  obtain ⟨μ_9, hqq⟩ : ∃ z, z = x8 := ⟨x8, rfl⟩
  subst hqq
  show GM l mX5_look F 0 0 39 [(0, (3, v0)), (1, (3, v1)), (2, (3, v2))] [] μ_9
  refine GM_aload_n (pc := 39) 0 rfl (daX5_look_0 21 rfl) rfl ?_
  refine GM_aload_n (pc := 40) 2 rfl (daX5_look_0 22 rfl) rfl ?_
  obtain ⟨μ10, hf10, h⟩ := Option.bind_eq_some_iff.mp h
  refine GM_callV0 (pc := 41) [(3, v2)] (tX5_pickHumps l hf10) cwX5_pickHumps 5 (Nat.le_of_ble_eq_true rfl) rfl kv_X5_pickHumps ke_X5_pickHumps km_X5_93 hc4 ⟨Nat.le_of_ble_eq_true rfl, Nat.le_of_ble_eq_true rfl⟩ (Nat.le_of_ble_eq_true rfl) (Nat.le_of_ble_eq_true rfl) (daX5_look_0 23 rfl) ?_
  refine GM_aload_n (pc := 44) 0 rfl (daX5_look_0 24 rfl) rfl ?_
  refine GM_aload_n (pc := 45) 1 rfl (daX5_look_0 25 rfl) rfl ?_
  refine GM_aload_n (pc := 46) 2 rfl (daX5_look_0 26 rfl) rfl ?_
  obtain ⟨μ11, hf11, h⟩ := Option.bind_eq_some_iff.mp h
  refine GM_callV0 (pc := 47) [(3, v1), (3, v2)] (tX5_pickLakes l hf11) cwX5_pickLakes 5 (Nat.le_of_ble_eq_true rfl) rfl kv_X5_pickLakes ke_X5_pickLakes km_X5_97 hc4 ⟨Nat.le_of_ble_eq_true rfl, Nat.le_of_ble_eq_true rfl⟩ (Nat.le_of_ble_eq_true rfl) (Nat.le_of_ble_eq_true rfl) (daX5_look_0 27 rfl) ?_
  cases h
  exact GM_vret (pc := 50) (daX5_look_0 28 rfl) rfl hK
theorem tX5_look (l : Launch) {v0 v1 v2 : Int} {μ : Mm} {t : Mm} (h : fX5_look v0 v1 v2 μ = some t) : Ct l yX5_look mX5_look [(3, v0), (3, v1), (3, v2)] μ ([], t, 0, 0) :=
  Ct_of (by decide +kernel) rfl rfl (Nat.le_of_ble_eq_true rfl) (fun _ _ _ => trivial) (gX5_look_0 l h ⟨rfl, rfl⟩)
def mX5_changes : MI := (RX5, cX5_changes, 13, (some .boolean), "changes", 2, 52, fun _ _ _ => True)
theorem cwX5_changes : CWd yX5_changes mX5_changes 3 := ⟨ki_X5, kk_X5_changes, ⟨by decide, by decide⟩, rfl⟩
def dtX5_changes_0 : List (Nat × Instr × Nat) := [(0, .iload_n 3, 1), (1, .ifCond .lt 17, 3), (4, .iload_n 3, 1), (5, .aload_n 0, 1), (6, .getfield 35, 3), (9, .if_icmp .ge 9, 3), (12, .iload_n 3, 1), (13, .bipush 90, 2), (15, .if_icmp .lt 5, 3), (18, .iconst 0, 1), (19, .ireturn, 1), (20, .aload_n 2, 1), (21, .getfield 101, 3), (24, .iload_n 3, 1), (25, .iaload, 1), (26, .istore 4, 2), (28, .aload_n 2, 1), (29, .getfield 104, 3), (32, .iload_n 3, 1), (33, .iaload, 1), (34, .istore 5, 2), (36, .aload_n 2, 1), (37, .getfield 82, 3), (40, .iconst 0, 1), (41, .laload, 1), (42, .lstore 6, 2), (44, .aload_n 2, 1), (45, .getfield 82, 3), (48, .iconst 1, 1), (49, .laload, 1), (50, .lstore 8, 2), (52, .aload_n 2, 1), (53, .getfield 82, 3), (56, .iconst 2, 1), (57, .laload, 1), (58, .lstore 10, 2), (60, .aload_n 0, 1), (61, .aload_n 1, 1), (62, .aload_n 2, 1), (63, .iload_n 3, 1), (64, .invokevirtual 89, 3), (67, .iload 4, 2), (69, .aload_n 2, 1), (70, .getfield 101, 3), (73, .iload_n 3, 1), (74, .iaload, 1), (75, .if_icmp .ne 54, 3), (78, .iload 5, 2), (80, .aload_n 2, 1), (81, .getfield 104, 3), (84, .iload_n 3, 1), (85, .iaload, 1), (86, .if_icmp .ne 43, 3), (89, .lload 6, 2), (91, .aload_n 2, 1), (92, .getfield 82, 3), (95, .iconst 0, 1), (96, .laload, 1), (97, .lcmp, 1), (98, .ifCond .ne 31, 3), (101, .lload 8, 2), (103, .aload_n 2, 1), (104, .getfield 82, 3), (107, .iconst 1, 1)]
theorem ddX5_changes_0 : (dtX5_changes_0.all fun e => decide (decode mX5_changes.2.1 e.1 = .ok (e.2.1, e.2.2))) = true := by decide +kernel
theorem daX5_changes_0 (j : Nat) {pc n : Nat} {i : Instr} (h : dtX5_changes_0[j]? = some (pc, i, n)) : decode mX5_changes.2.1 pc = .ok (i, n) := dec_of (c := mX5_changes.2.1) ddX5_changes_0 h
def dtX5_changes_1 : List (Nat × Instr × Nat) := [(108, .laload, 1), (109, .lcmp, 1), (110, .ifCond .ne 19, 3), (113, .lload 10, 2), (115, .aload_n 2, 1), (116, .getfield 82, 3), (119, .iconst 2, 1), (120, .laload, 1), (121, .lcmp, 1), (122, .ifCond .ne 7, 3), (125, .iconst 1, 1), (126, .goto 4, 3), (129, .iconst 0, 1), (130, .istore 12, 2), (132, .iload 12, 2), (134, .ifCond .ne 14, 3), (137, .aload_n 0, 1), (138, .aload_n 2, 1), (139, .invokevirtual 93, 3), (142, .aload_n 0, 1), (143, .aload_n 1, 1), (144, .aload_n 2, 1), (145, .invokevirtual 97, 3), (148, .iload 12, 2), (150, .ifCond .ne 7, 3), (153, .iconst 1, 1), (154, .goto 4, 3), (157, .iconst 0, 1), (158, .ireturn, 1)]
theorem ddX5_changes_1 : (dtX5_changes_1.all fun e => decide (decode mX5_changes.2.1 e.1 = .ok (e.2.1, e.2.2))) = true := by decide +kernel
theorem daX5_changes_1 (j : Nat) {pc n : Nat} {i : Instr} (h : dtX5_changes_1[j]? = some (pc, i, n)) : decode mX5_changes.2.1 pc = .ok (i, n) := dec_of (c := mX5_changes.2.1) ddX5_changes_1 h
def jX5_changes_148 (v12 : Int) (μ : Mm) : Option (Int × Mm) :=
  if v12 = 0 then
    some (1, μ)
  else
    some (0, μ)
def jX5_changes_130 (v0 v1 v2 s0 : Int) (μ : Mm) : Option (Int × Mm) :=
  if s0 = 0 then
    chk (KD v0 = 5) (
    (fX5_pickHumps v0 v2 μ).bind fun μ4 =>
    (fX5_pickLakes v0 v1 v2 μ4).bind fun μ5 =>
    jX5_changes_148 s0 μ5)
  else
    jX5_changes_148 s0 μ
def jX5_changes_129 (v0 v1 v2 : Int) (μ : Mm) : Option (Int × Mm) :=
  jX5_changes_130 v0 v1 v2 0 μ
def fX5_changes (v0 v1 v2 v3 : Int) (μ : Mm) : Option (Int × Mm) :=
  if v3 < 0 then
    some (0, μ)
  else
    chk (KD v0 = 5) (
    if μ v0 6 ≤ v3 then
      some (0, μ)
    else
      if v3 < 90 then
        chk (KD v2 = 7) (
        chk (KD (μ v2 4) = 12 ∧ 0 ≤ v3 ∧ v3 < LN (μ v2 4)) (
        chk (KD (μ v2 5) = 12 ∧ v3 < LN (μ v2 5)) (
        chk (KD (μ v2 9) = 13 ∧ 0 < LN (μ v2 9)) (
        chk (1 < LN (μ v2 9)) (
        chk (2 < LN (μ v2 9)) (
        (fX5_lookAlong v0 v1 v2 v3 μ).bind fun μ16 =>
        chk (KD (μ16 v2 4) = 12 ∧ v3 < LN (μ16 v2 4)) (
        if μ (μ v2 4) v3 = μ16 (μ16 v2 4) v3 then
          chk (KD (μ16 v2 5) = 12 ∧ v3 < LN (μ16 v2 5)) (
          if μ (μ v2 5) v3 = μ16 (μ16 v2 5) v3 then
            chk (KD (μ16 v2 9) = 13 ∧ 0 < LN (μ16 v2 9)) (
            if μ (μ v2 9) 0 = μ16 (μ16 v2 9) 0 then
              chk (1 < LN (μ16 v2 9)) (
              if μ (μ v2 9) 1 = μ16 (μ16 v2 9) 1 then
                chk (2 < LN (μ16 v2 9)) (
                if μ (μ v2 9) 2 = μ16 (μ16 v2 9) 2 then
                  jX5_changes_130 v0 v1 v2 1 μ16
                else
                  jX5_changes_129 v0 v1 v2 μ16)
              else
                jX5_changes_129 v0 v1 v2 μ16)
            else
              jX5_changes_129 v0 v1 v2 μ16)
          else
            jX5_changes_129 v0 v1 v2 μ16)
        else
          jX5_changes_129 v0 v1 v2 μ16)))))))
      else
        some (0, μ))
set_option maxRecDepth 20000 in
theorem gX5_changes_148 (l : Launch) {F : FI} {v12 : Int} {μ : Mm} {t : (Int × Mm)} (h : jX5_changes_148 v12 μ = some t) (hK : F.1 = [(0, t.1)] ∧ F.2.1 = t.2) : GM l mX5_changes F 0 0 148 [(12, (0, v12))] [] μ := by
  unfold jX5_changes_148 at h
  refine GM_iload (pc := 148) 0 rfl (daX5_changes_1 23 rfl) ?_
  refine GM_if_ne (pc := 150) 157 (daX5_changes_1 24 rfl) rfl (fun c1 => ?_) (fun c1 => ?_)
  · skip
    rw [if_neg c1] at h
    refine GM_iconst (pc := 157) 0 (daX5_changes_1 27 rfl) rfl (R32_b rfl) ?_
    cases h
    exact GM_zret (pc := 158) (daX5_changes_1 28 rfl) rfl (Or.inl rfl) hK
  · skip
    rw [if_pos c1] at h
    refine GM_iconst (pc := 153) 1 (daX5_changes_1 25 rfl) rfl (R32_b rfl) ?_
    refine GM_goto (pc := 154) 158 (daX5_changes_1 26 rfl) rfl ?_
    cases h
    exact GM_zret (pc := 158) (daX5_changes_1 28 rfl) rfl (Or.inr rfl) hK
set_option maxRecDepth 20000 in
theorem gX5_changes_130 (l : Launch) {F : FI} {v0 v1 v2 s0 : Int} {μ : Mm} {t : (Int × Mm)} (h : jX5_changes_130 v0 v1 v2 s0 μ = some t) (hK : F.1 = [(0, t.1)] ∧ F.2.1 = t.2) : GM l mX5_changes F 0 0 130 [(0, (3, v0)), (1, (3, v1)), (2, (3, v2))] [(0, s0)] μ := by
  unfold jX5_changes_130 at h
  refine GM_istore (L' := [(12, (0, s0)), (0, (3, v0)), (1, (3, v1)), (2, (3, v2))]) (pc := 130) (daX5_changes_1 13 rfl) (Nat.le_of_ble_eq_true rfl) rfl ?_
  refine GM_iload (pc := 132) 0 rfl (daX5_changes_1 14 rfl) ?_
  refine GM_if_ne (pc := 134) 148 (daX5_changes_1 15 rfl) rfl (fun c2 => ?_) (fun c2 => ?_)
  · skip
    rw [if_neg c2] at h
    refine GM_pick [0] rfl ?_
    exact gX5_changes_148 l h hK
  · skip
    rw [if_pos c2] at h
    refine GM_aload_n (pc := 137) 1 rfl (daX5_changes_1 16 rfl) rfl ?_
    refine GM_aload_n (pc := 138) 3 rfl (daX5_changes_1 17 rfl) rfl ?_
    obtain ⟨hc3, h⟩ := chk_inv h
    obtain ⟨μ4, hf4, h⟩ := Option.bind_eq_some_iff.mp h
    refine GM_callV0 (pc := 139) [(3, v2)] (tX5_pickHumps l hf4) cwX5_pickHumps 5 (Nat.le_of_ble_eq_true rfl) rfl kv_X5_pickHumps ke_X5_pickHumps km_X5_93 hc3 ⟨Nat.le_of_ble_eq_true rfl, Nat.le_of_ble_eq_true rfl⟩ (Nat.le_of_ble_eq_true rfl) (Nat.le_of_ble_eq_true rfl) (daX5_changes_1 18 rfl) ?_
    refine GM_aload_n (pc := 142) 1 rfl (daX5_changes_1 19 rfl) rfl ?_
    refine GM_aload_n (pc := 143) 2 rfl (daX5_changes_1 20 rfl) rfl ?_
    refine GM_aload_n (pc := 144) 3 rfl (daX5_changes_1 21 rfl) rfl ?_
    obtain ⟨μ5, hf5, h⟩ := Option.bind_eq_some_iff.mp h
    refine GM_callV0 (pc := 145) [(3, v1), (3, v2)] (tX5_pickLakes l hf5) cwX5_pickLakes 5 (Nat.le_of_ble_eq_true rfl) rfl kv_X5_pickLakes ke_X5_pickLakes km_X5_97 hc3 ⟨Nat.le_of_ble_eq_true rfl, Nat.le_of_ble_eq_true rfl⟩ (Nat.le_of_ble_eq_true rfl) (Nat.le_of_ble_eq_true rfl) (daX5_changes_1 22 rfl) ?_
    refine GM_pick [0] rfl ?_
    exact gX5_changes_148 l h hK
set_option maxRecDepth 20000 in
theorem gX5_changes_129 (l : Launch) {F : FI} {v0 v1 v2 : Int} {μ : Mm} {t : (Int × Mm)} (h : jX5_changes_129 v0 v1 v2 μ = some t) (hK : F.1 = [(0, t.1)] ∧ F.2.1 = t.2) : GM l mX5_changes F 0 0 129 [(0, (3, v0)), (1, (3, v1)), (2, (3, v2))] [] μ := by
  unfold jX5_changes_129 at h
  refine GM_iconst (pc := 129) 0 (daX5_changes_1 12 rfl) rfl (R32_b rfl) ?_
  exact gX5_changes_130 l h hK
set_option maxRecDepth 20000 in
theorem gX5_changes_0 (l : Launch) {F : FI} {v0 v1 v2 v3 : Int} {μ : Mm} {t : (Int × Mm)} (h : fX5_changes v0 v1 v2 v3 μ = some t) (hK : F.1 = [(0, t.1)] ∧ F.2.1 = t.2) : GM l mX5_changes F 0 0 0 [(0, (3, v0)), (1, (3, v1)), (2, (3, v2)), (3, (0, v3))] [] μ := by
  unfold fX5_changes at h
  refine GM_iload_n (pc := 0) 3 rfl (daX5_changes_0 0 rfl) rfl ?_
  refine GM_if_lt (pc := 1) 18 (daX5_changes_0 1 rfl) rfl (fun c6 => ?_) (fun c6 => ?_)
  · skip
    rw [if_pos c6] at h
    refine GM_iconst (pc := 18) 0 (daX5_changes_0 9 rfl) rfl (R32_b rfl) ?_
    cases h
    exact GM_zret (pc := 19) (daX5_changes_0 10 rfl) rfl (Or.inl rfl) hK
  · skip
    rw [if_neg c6] at h
    refine GM_iload_n (pc := 4) 3 rfl (daX5_changes_0 2 rfl) rfl ?_
    refine GM_aload_n (pc := 5) 0 rfl (daX5_changes_0 3 rfl) rfl ?_
    obtain ⟨hc7, h⟩ := chk_inv h
    refine GM_getf (pc := 6) 5 6 0 6 kf_X5_35 (Nat.le_of_ble_eq_true rfl) (Nat.le_of_ble_eq_true rfl) rfl (daX5_changes_0 4 rfl) hc7 rfl ?_
    refine GM_icmp_ge (pc := 9) 18 (daX5_changes_0 5 rfl) rfl (fun c8 => ?_) (fun c8 => ?_)
    · skip
      rw [if_pos c8] at h
      refine GM_iconst (pc := 18) 0 (daX5_changes_0 9 rfl) rfl (R32_b rfl) ?_
      cases h
      exact GM_zret (pc := 19) (daX5_changes_0 10 rfl) rfl (Or.inl rfl) hK
    · skip
      rw [if_neg c8] at h
      refine GM_iload_n (pc := 12) 3 rfl (daX5_changes_0 6 rfl) rfl ?_
      refine GM_bipush (pc := 13) 90 (daX5_changes_0 7 rfl) rfl (R32_b rfl) ?_
      refine GM_icmp_lt (pc := 15) 20 (daX5_changes_0 8 rfl) rfl (fun c9 => ?_) (fun c9 => ?_)
      · skip
        rw [if_pos c9] at h
        refine GM_aload_n (pc := 20) 2 rfl (daX5_changes_0 11 rfl) rfl ?_
        obtain ⟨hc10, h⟩ := chk_inv h
        refine GM_getf (pc := 21) 7 4 3 4 kf_X5_101 (Nat.le_of_ble_eq_true rfl) (Nat.le_of_ble_eq_true rfl) rfl (daX5_changes_0 12 rfl) hc10 rfl ?_
        refine GM_iload_n (pc := 24) 3 rfl (daX5_changes_0 13 rfl) rfl ?_
        obtain ⟨hc11, h⟩ := chk_inv h
        refine GM_iald (pc := 25) (daX5_changes_0 14 rfl) hc11.1 hc11.2.1 hc11.2.2 ?_
        refine GM_istore (L' := [(4, (0, μ (μ v2 4) v3)), (0, (3, v0)), (1, (3, v1)), (2, (3, v2)), (3, (0, v3))]) (pc := 26) (daX5_changes_0 15 rfl) (Nat.le_of_ble_eq_true rfl) rfl ?_
        refine GM_aload_n (pc := 28) 3 rfl (daX5_changes_0 16 rfl) rfl ?_
        refine GM_getf (pc := 29) 7 5 3 5 kf_X5_104 (Nat.le_of_ble_eq_true rfl) (Nat.le_of_ble_eq_true rfl) rfl (daX5_changes_0 17 rfl) hc10 rfl ?_
        refine GM_iload_n (pc := 32) 4 rfl (daX5_changes_0 18 rfl) rfl ?_
        obtain ⟨hc12, h⟩ := chk_inv h
        refine GM_iald (pc := 33) (daX5_changes_0 19 rfl) hc12.1 hc11.2.1 hc12.2 ?_
        refine GM_istore (L' := [(5, (0, μ (μ v2 5) v3)), (4, (0, μ (μ v2 4) v3)), (0, (3, v0)), (1, (3, v1)), (2, (3, v2)), (3, (0, v3))]) (pc := 34) (daX5_changes_0 20 rfl) (Nat.le_of_ble_eq_true rfl) rfl ?_
        refine GM_aload_n (pc := 36) 4 rfl (daX5_changes_0 21 rfl) rfl ?_
        refine GM_getf (pc := 37) 7 9 3 9 kf_X5_82 (Nat.le_of_ble_eq_true rfl) (Nat.le_of_ble_eq_true rfl) rfl (daX5_changes_0 22 rfl) hc10 rfl ?_
        refine GM_iconst (pc := 40) 0 (daX5_changes_0 23 rfl) rfl (R32_b rfl) ?_
        obtain ⟨hc13, h⟩ := chk_inv h
        refine GM_lald (pc := 41) (daX5_changes_0 24 rfl) hc13.1 (by decide) hc13.2 ?_
        refine GM_lstore (L' := [(6, (2, μ (μ v2 9) 0)), (5, (0, μ (μ v2 5) v3)), (4, (0, μ (μ v2 4) v3)), (0, (3, v0)), (1, (3, v1)), (2, (3, v2)), (3, (0, v3))]) (pc := 42) (daX5_changes_0 25 rfl) (Nat.le_of_ble_eq_true rfl) rfl ?_
        refine GM_aload_n (pc := 44) 5 rfl (daX5_changes_0 26 rfl) rfl ?_
        refine GM_getf (pc := 45) 7 9 3 9 kf_X5_82 (Nat.le_of_ble_eq_true rfl) (Nat.le_of_ble_eq_true rfl) rfl (daX5_changes_0 27 rfl) hc10 rfl ?_
        refine GM_iconst (pc := 48) 1 (daX5_changes_0 28 rfl) rfl (R32_b rfl) ?_
        obtain ⟨hc14, h⟩ := chk_inv h
        refine GM_lald (pc := 49) (daX5_changes_0 29 rfl) hc13.1 (by decide) hc14 ?_
        refine GM_lstore (L' := [(8, (2, μ (μ v2 9) 1)), (6, (2, μ (μ v2 9) 0)), (5, (0, μ (μ v2 5) v3)), (4, (0, μ (μ v2 4) v3)), (0, (3, v0)), (1, (3, v1)), (2, (3, v2)), (3, (0, v3))]) (pc := 50) (daX5_changes_0 30 rfl) (Nat.le_of_ble_eq_true rfl) rfl ?_
        refine GM_aload_n (pc := 52) 6 rfl (daX5_changes_0 31 rfl) rfl ?_
        refine GM_getf (pc := 53) 7 9 3 9 kf_X5_82 (Nat.le_of_ble_eq_true rfl) (Nat.le_of_ble_eq_true rfl) rfl (daX5_changes_0 32 rfl) hc10 rfl ?_
        refine GM_iconst (pc := 56) 2 (daX5_changes_0 33 rfl) rfl (R32_b rfl) ?_
        obtain ⟨hc15, h⟩ := chk_inv h
        refine GM_lald (pc := 57) (daX5_changes_0 34 rfl) hc13.1 (by decide) hc15 ?_
        refine GM_lstore (L' := [(10, (2, μ (μ v2 9) 2)), (8, (2, μ (μ v2 9) 1)), (6, (2, μ (μ v2 9) 0)), (5, (0, μ (μ v2 5) v3)), (4, (0, μ (μ v2 4) v3)), (0, (3, v0)), (1, (3, v1)), (2, (3, v2)), (3, (0, v3))]) (pc := 58) (daX5_changes_0 35 rfl) (Nat.le_of_ble_eq_true rfl) rfl ?_
        refine GM_aload_n (pc := 60) 5 rfl (daX5_changes_0 36 rfl) rfl ?_
        refine GM_aload_n (pc := 61) 6 rfl (daX5_changes_0 37 rfl) rfl ?_
        refine GM_aload_n (pc := 62) 7 rfl (daX5_changes_0 38 rfl) rfl ?_
        refine GM_iload_n (pc := 63) 8 rfl (daX5_changes_0 39 rfl) rfl ?_
        obtain ⟨μ16, hf16, h⟩ := Option.bind_eq_some_iff.mp h
        refine GM_callV0 (pc := 64) [(3, v1), (3, v2), (0, v3)] (tX5_lookAlong l hf16) cwX5_lookAlong 5 (Nat.le_of_ble_eq_true rfl) rfl kv_X5_lookAlong ke_X5_lookAlong km_X5_89 hc7 ⟨Nat.le_of_ble_eq_true rfl, Nat.le_of_ble_eq_true rfl⟩ (Nat.le_of_ble_eq_true rfl) (Nat.le_of_ble_eq_true rfl) (daX5_changes_0 40 rfl) ?_
        refine GM_iload (pc := 67) 4 rfl (daX5_changes_0 41 rfl) ?_
        refine GM_aload_n (pc := 69) 7 rfl (daX5_changes_0 42 rfl) rfl ?_
        refine GM_getf (pc := 70) 7 4 3 4 kf_X5_101 (Nat.le_of_ble_eq_true rfl) (Nat.le_of_ble_eq_true rfl) rfl (daX5_changes_0 43 rfl) hc10 rfl ?_
        refine GM_iload_n (pc := 73) 8 rfl (daX5_changes_0 44 rfl) rfl ?_
        obtain ⟨hc17, h⟩ := chk_inv h
        refine GM_iald (pc := 74) (daX5_changes_0 45 rfl) hc17.1 hc11.2.1 hc17.2 ?_
        refine GM_icmp_ne (pc := 75) 129 (daX5_changes_0 46 rfl) rfl (fun c18 => ?_) (fun c18 => ?_)
        · skip
          rw [if_neg c18] at h
          refine GM_pick [5, 6, 7] rfl ?_
          exact gX5_changes_129 l h hK
        · skip
          rw [if_pos c18] at h
          refine GM_iload (pc := 78) 3 rfl (daX5_changes_0 47 rfl) ?_
          refine GM_aload_n (pc := 80) 7 rfl (daX5_changes_0 48 rfl) rfl ?_
          refine GM_getf (pc := 81) 7 5 3 5 kf_X5_104 (Nat.le_of_ble_eq_true rfl) (Nat.le_of_ble_eq_true rfl) rfl (daX5_changes_0 49 rfl) hc10 rfl ?_
          refine GM_iload_n (pc := 84) 8 rfl (daX5_changes_0 50 rfl) rfl ?_
          obtain ⟨hc19, h⟩ := chk_inv h
          refine GM_iald (pc := 85) (daX5_changes_0 51 rfl) hc19.1 hc11.2.1 hc19.2 ?_
          refine GM_icmp_ne (pc := 86) 129 (daX5_changes_0 52 rfl) rfl (fun c20 => ?_) (fun c20 => ?_)
          · skip
            rw [if_neg c20] at h
            refine GM_pick [5, 6, 7] rfl ?_
            exact gX5_changes_129 l h hK
          · skip
            rw [if_pos c20] at h
            refine GM_lload (pc := 89) 2 rfl (daX5_changes_0 53 rfl) ?_
            refine GM_aload_n (pc := 91) 7 rfl (daX5_changes_0 54 rfl) rfl ?_
            refine GM_getf (pc := 92) 7 9 3 9 kf_X5_82 (Nat.le_of_ble_eq_true rfl) (Nat.le_of_ble_eq_true rfl) rfl (daX5_changes_0 55 rfl) hc10 rfl ?_
            refine GM_iconst (pc := 95) 0 (daX5_changes_0 56 rfl) rfl (R32_b rfl) ?_
            obtain ⟨hc21, h⟩ := chk_inv h
            refine GM_lald (pc := 96) (daX5_changes_0 57 rfl) hc21.1 (by decide) hc21.2 ?_
            refine GM_lcmp (pc := 97) (daX5_changes_0 58 rfl) ?_
            refine GM_if_ne (pc := 98) 129 (daX5_changes_0 59 rfl) rfl (fun c22 => ?_) (fun c22 => ?_)
            · skip
              have c22 := (not_congr lcmp_eq).mp c22
              rw [if_neg c22] at h
              refine GM_pick [5, 6, 7] rfl ?_
              exact gX5_changes_129 l h hK
            · skip
              have c22 := lcmp_eq.mp c22
              rw [if_pos c22] at h
              refine GM_lload (pc := 101) 1 rfl (daX5_changes_0 60 rfl) ?_
              refine GM_aload_n (pc := 103) 7 rfl (daX5_changes_0 61 rfl) rfl ?_
              refine GM_getf (pc := 104) 7 9 3 9 kf_X5_82 (Nat.le_of_ble_eq_true rfl) (Nat.le_of_ble_eq_true rfl) rfl (daX5_changes_0 62 rfl) hc10 rfl ?_
              refine GM_iconst (pc := 107) 1 (daX5_changes_0 63 rfl) rfl (R32_b rfl) ?_
              obtain ⟨hc23, h⟩ := chk_inv h
              refine GM_lald (pc := 108) (daX5_changes_1 0 rfl) hc21.1 (by decide) hc23 ?_
              refine GM_lcmp (pc := 109) (daX5_changes_1 1 rfl) ?_
              refine GM_if_ne (pc := 110) 129 (daX5_changes_1 2 rfl) rfl (fun c24 => ?_) (fun c24 => ?_)
              · skip
                have c24 := (not_congr lcmp_eq).mp c24
                rw [if_neg c24] at h
                refine GM_pick [5, 6, 7] rfl ?_
                exact gX5_changes_129 l h hK
              · skip
                have c24 := lcmp_eq.mp c24
                rw [if_pos c24] at h
                refine GM_lload (pc := 113) 0 rfl (daX5_changes_1 3 rfl) ?_
                refine GM_aload_n (pc := 115) 7 rfl (daX5_changes_1 4 rfl) rfl ?_
                refine GM_getf (pc := 116) 7 9 3 9 kf_X5_82 (Nat.le_of_ble_eq_true rfl) (Nat.le_of_ble_eq_true rfl) rfl (daX5_changes_1 5 rfl) hc10 rfl ?_
                refine GM_iconst (pc := 119) 2 (daX5_changes_1 6 rfl) rfl (R32_b rfl) ?_
                obtain ⟨hc25, h⟩ := chk_inv h
                refine GM_lald (pc := 120) (daX5_changes_1 7 rfl) hc21.1 (by decide) hc25 ?_
                refine GM_lcmp (pc := 121) (daX5_changes_1 8 rfl) ?_
                refine GM_if_ne (pc := 122) 129 (daX5_changes_1 9 rfl) rfl (fun c26 => ?_) (fun c26 => ?_)
                · skip
                  have c26 := (not_congr lcmp_eq).mp c26
                  rw [if_neg c26] at h
                  refine GM_pick [5, 6, 7] rfl ?_
                  exact gX5_changes_129 l h hK
                · skip
                  have c26 := lcmp_eq.mp c26
                  rw [if_pos c26] at h
                  refine GM_iconst (pc := 125) 1 (daX5_changes_1 10 rfl) rfl (R32_b rfl) ?_
                  refine GM_goto (pc := 126) 130 (daX5_changes_1 11 rfl) rfl ?_
                  refine GM_pick [5, 6, 7] rfl ?_
                  exact gX5_changes_130 l h hK
      · skip
        rw [if_neg c9] at h
        refine GM_iconst (pc := 18) 0 (daX5_changes_0 9 rfl) rfl (R32_b rfl) ?_
        cases h
        exact GM_zret (pc := 19) (daX5_changes_0 10 rfl) rfl (Or.inl rfl) hK
theorem tX5_changes (l : Launch) {v0 v1 v2 v3 : Int} {μ : Mm} {t : (Int × Mm)} (h : fX5_changes v0 v1 v2 v3 μ = some t) : Ct l yX5_changes mX5_changes [(3, v0), (3, v1), (3, v2), (0, v3)] μ ([(0, t.1)], t.2, 0, 0) :=
  Ct_of (by decide +kernel) rfl rfl (Nat.le_of_ble_eq_true rfl) (fun _ _ _ => trivial) (gX5_changes_0 l h ⟨rfl, rfl⟩)
def mX8_init : MI := (RX8, cX8_init, 2, none, "<init>", 2, 36, fun _ _ _ => True)
theorem cwX8_init : CWd yX8_init mX8_init 0 := ⟨ki_X8, kk_X8_init, ⟨by decide, by decide⟩, rfl⟩
def dtX8_init_0 : List (Nat × Instr × Nat) := [(0, .aload_n 0, 1), (1, .invokespecial 3, 3), (4, .aload_n 0, 1), (5, .sipush 700, 3), (8, .newarray .int, 2), (10, .putfield 9, 3), (13, .aload_n 0, 1), (14, .iconst (-1), 1), (15, .putfield 15, 3), (18, .aload_n 0, 1), (19, .iconst 2, 1), (20, .anewarray 19, 3), (23, .putfield 21, 3), (26, .aload_n 0, 1), (27, .iconst 4, 1), (28, .anewarray 25, 3), (31, .putfield 27, 3), (34, .iconst 0, 1), (35, .istore_n 1, 1), (36, .iload_n 1, 1), (37, .iconst 2, 1), (38, .if_icmp .ge 22, 3), (41, .aload_n 0, 1), (42, .getfield 21, 3), (45, .iload_n 1, 1), (46, .new 19, 3), (49, .dup, 1), (50, .invokespecial 31, 3), (53, .aastore, 1), (54, .iinc 1 1, 3), (57, .goto (-21), 3), (60, .iconst 0, 1), (61, .istore_n 1, 1), (62, .iload_n 1, 1), (63, .iconst 4, 1), (64, .if_icmp .ge 22, 3), (67, .aload_n 0, 1), (68, .getfield 27, 3), (71, .iload_n 1, 1), (72, .new 25, 3), (75, .dup, 1), (76, .invokespecial 32, 3), (79, .aastore, 1), (80, .iinc 1 1, 3), (83, .goto (-21), 3), (86, .return_, 1)]
theorem ddX8_init_0 : (dtX8_init_0.all fun e => decide (decode mX8_init.2.1 e.1 = .ok (e.2.1, e.2.2))) = true := by decide +kernel
theorem daX8_init_0 (j : Nat) {pc n : Nat} {i : Instr} (h : dtX8_init_0[j]? = some (pc, i, n)) : decode mX8_init.2.1 pc = .ok (i, n) := dec_of (c := mX8_init.2.1) ddX8_init_0 h
def zX8_init_36 (l : Launch) (F : FI) (v0 : Int) (k n : Nat) : (Int × Mm) ⊕ Mm → Prop
  | .inl (v1, μ) => GM l mX8_init F k n 36 [(0, (3, v0)), (1, (0, v1))] [] μ
  | .inr μ => GM l mX8_init F k n 60 [(0, (3, v0))] [] μ
def sX8_init_36 (v0 : Int) : (Int × Mm) → Option (((Int × Mm) ⊕ Mm) × Nat × Nat) := fun (v1, μ) =>
  if 2 ≤ v1 then
    some (.inr μ, 0, 0)
  else
    chk (KD v0 = 8) (
    chk (KD (v0 + 10 + 10 * v1) = 2 ∧ μ 0 (v0 + 10 + 10 * v1) = 0) (
    pay 1 11 (
    lm (mnw μ (v0 + 10 + 10 * v1)) fun μ5 =>
    chk (v0 + 10 + 10 * v1 ≠ 0) (
    (fX2_init (v0 + 10 + 10 * v1) μ5).bind fun (μ7, c7, n7) =>
    pay c7 n7 (
    chk (KD (μ v0 6) = 15 ∧ 0 ≤ v1 ∧ v1 < LN (μ v0 6)) (
    lm (mst μ7 (μ v0 6) v1 (v0 + 10 + 10 * v1)) fun μ10 =>
    some (.inl (w32 (v1 + 1), μ10), 0, 0)))))))
def zX8_init_62 (l : Launch) (F : FI) (v0 : Int) (k n : Nat) : (Int × Mm) ⊕ Mm → Prop
  | .inl (v1, μ) => GM l mX8_init F k n 62 [(0, (3, v0)), (1, (0, v1))] [] μ
  | .inr μ => GM l mX8_init F k n 86 [] [] μ
def sX8_init_62 (v0 : Int) : (Int × Mm) → Option (((Int × Mm) ⊕ Mm) × Nat × Nat) := fun (v1, μ) =>
  if 4 ≤ v1 then
    some (.inr μ, 0, 0)
  else
    chk (KD v0 = 8) (
    chk (KD (v0 + 40 + 10 * v1) = 6 ∧ μ 0 (v0 + 40 + 10 * v1) = 0) (
    pay 1 9 (
    lm (mnw μ (v0 + 40 + 10 * v1)) fun μ15 =>
    chk (v0 + 40 + 10 * v1 ≠ 0) (
    (fX6_init (v0 + 40 + 10 * v1) μ15).bind fun (μ17, c17, n17) =>
    pay c17 n17 (
    chk (KD (μ v0 7) = 17 ∧ 0 ≤ v1 ∧ v1 < LN (μ v0 7)) (
    lm (mst μ17 (μ v0 7) v1 (v0 + 40 + 10 * v1)) fun μ20 =>
    some (.inl (w32 (v1 + 1), μ20), 0, 0)))))))
def fX8_init (v0 : Int) (μ : Mm) : Option (Mm × Nat × Nat) :=
  chk (v0 ≠ 0) (
  chk (KD (v0 + 1) = 12 ∧ LN (v0 + 1) = 700 ∧ μ 0 (v0 + 1) = 0) (
  pay 1 700 (
  lm (mnw μ (v0 + 1)) fun μ24 =>
  chk (KD v0 = 8) (
  lm (mst μ24 v0 0 (v0 + 1)) fun μ26 =>
  lm (mst μ26 v0 3 (-1)) fun μ27 =>
  chk (KD (v0 + 2) = 15 ∧ LN (v0 + 2) = 2 ∧ μ27 0 (v0 + 2) = 0) (
  pay 1 2 (
  lm (mnw μ27 (v0 + 2)) fun μ30 =>
  lm (mst μ30 v0 6 (v0 + 2)) fun μ31 =>
  chk (KD (v0 + 3) = 17 ∧ LN (v0 + 3) = 4 ∧ μ31 0 (v0 + 3) = 0) (
  pay 1 4 (
  lm (mnw μ31 (v0 + 3)) fun μ34 =>
  lm (mst μ34 v0 7 (v0 + 3)) fun μ35 =>
  (lopA (sX8_init_36 v0) FU (0, μ35)).bind fun (μ_37, ccx36, nnx36) =>
    pay ccx36 nnx36 (
    (lopA (sX8_init_62 v0) FU (0, μ_37)).bind fun (μ_40, ccx39, nnx39) =>
      pay ccx39 nnx39 (
      some (μ_40, 0, 0)))))))))))
set_option maxRecDepth 20000 in
theorem qX8_init_36 (l : Launch) (F : FI) (v0 : Int) : ∀ (q : (Int × Mm)) (t : ((Int × Mm) ⊕ Mm)) (c0 n0 : Nat), sX8_init_36 v0 q = some (t, c0, n0) → ∀ k n, zX8_init_36 l F v0 k n t → zX8_init_36 l F v0 (c0 + k) (n0 + n) (.inl q) := by
  intro q t c0 n0 h k n hK
  obtain ⟨v1, μ⟩ := q
  unfold sX8_init_36 at h
  try dsimp only at h
  show GM l mX8_init F (c0 + k) (n0 + n) 36 [(0, (3, v0)), (1, (0, v1))] [] μ
  refine GM_iload_n (pc := 36) 1 rfl (daX8_init_0 19 rfl) rfl ?_
  refine GM_iconst (pc := 37) 2 (daX8_init_0 20 rfl) rfl (R32_b rfl) ?_
  refine GM_icmp_ge (pc := 38) 60 (daX8_init_0 21 rfl) rfl (fun c1 => ?_) (fun c1 => ?_)
  · skip
    rw [if_pos c1] at h
    refine GM_pick [0] rfl ?_
    cases h
    rw [Nat.zero_add, Nat.zero_add]
    exact hK
  · skip
    rw [if_neg c1] at h
    refine GM_aload_n (pc := 41) 0 rfl (daX8_init_0 22 rfl) rfl ?_
    obtain ⟨hc2, h⟩ := chk_inv h
    refine GM_getf (pc := 42) 8 6 3 6 kf_X8_21 (Nat.le_of_ble_eq_true rfl) (Nat.le_of_ble_eq_true rfl) rfl (daX8_init_0 23 rfl) hc2 rfl ?_
    refine GM_iload_n (pc := 45) 1 rfl (daX8_init_0 24 rfl) rfl ?_
    obtain ⟨hc3, h⟩ := chk_inv h
    obtain ⟨c4, n4, hp, e1, e2⟩ := pay_inv h
    subst e1 e2
    replace h := hp
    clear hp
    rw [Nat.add_assoc, Nat.add_assoc]
    obtain ⟨μ5, hμ5, h⟩ := lm_inv h
    refine GM_new (pc := 46) 2 (v0 + 10 + 10 * v1) (by decide) kc_X8_19 (daX8_init_0 25 rfl) hc3.1 hc3.2 ?_
    refine GM_mem hμ5 ?_
    refine GM_dup (pc := 49) (daX8_init_0 26 rfl) (Nat.ne_of_beq_eq_false rfl) ?_
    obtain ⟨hc6, h⟩ := chk_inv h
    obtain ⟨⟨μ7, c7, n7⟩, hf7, h⟩ := Option.bind_eq_some_iff.mp h
    dsimp only at h
    obtain ⟨c8, n8, hp, e1, e2⟩ := pay_inv h
    subst e1 e2
    replace h := hp
    clear hp
    rw [Nat.add_assoc, Nat.add_assoc]
    refine GM_callIN (pc := 50) [] (tX2_init l hf7) cwX2_init "HillSketch" rfl rfl kv_X2_init (by decide) hc6 ⟨Nat.le_of_ble_eq_true rfl, Nat.le_of_ble_eq_true rfl⟩ (Nat.le_of_ble_eq_true rfl) (Nat.le_of_ble_eq_true rfl) (daX8_init_0 27 rfl) ?_
    obtain ⟨hc9, h⟩ := chk_inv h
    obtain ⟨μ10, hμ10, h⟩ := lm_inv h
    refine GM_aast (pc := 53) 15 2 (by decide) (by decide) (by decide) (fun _ => rfl) (daX8_init_0 28 rfl) hc9.1 hc9.2.1 hc9.2.2 hc3.1 ?_
    refine GM_mem hμ10 ?_
    refine GM_iinc (L' := [(1, (0, w32 (v1 + 1))), (0, (3, v0))]) (pc := 54) 1 rfl (daX8_init_0 29 rfl) (Nat.le_of_ble_eq_true rfl) rfl ?_
    refine GM_goto (pc := 57) 36 (daX8_init_0 30 rfl) rfl ?_
    refine GM_pick [1, 0] rfl ?_
    cases h
    rw [Nat.zero_add, Nat.zero_add]
    exact hK
set_option maxRecDepth 20000 in
theorem qX8_init_62 (l : Launch) (F : FI) (v0 : Int) : ∀ (q : (Int × Mm)) (t : ((Int × Mm) ⊕ Mm)) (c0 n0 : Nat), sX8_init_62 v0 q = some (t, c0, n0) → ∀ k n, zX8_init_62 l F v0 k n t → zX8_init_62 l F v0 (c0 + k) (n0 + n) (.inl q) := by
  intro q t c0 n0 h k n hK
  obtain ⟨v1, μ⟩ := q
  unfold sX8_init_62 at h
  try dsimp only at h
  show GM l mX8_init F (c0 + k) (n0 + n) 62 [(0, (3, v0)), (1, (0, v1))] [] μ
  refine GM_iload_n (pc := 62) 1 rfl (daX8_init_0 33 rfl) rfl ?_
  refine GM_iconst (pc := 63) 4 (daX8_init_0 34 rfl) rfl (R32_b rfl) ?_
  refine GM_icmp_ge (pc := 64) 86 (daX8_init_0 35 rfl) rfl (fun c11 => ?_) (fun c11 => ?_)
  · skip
    rw [if_pos c11] at h
    refine GM_pick [] rfl ?_
    cases h
    rw [Nat.zero_add, Nat.zero_add]
    exact hK
  · skip
    rw [if_neg c11] at h
    refine GM_aload_n (pc := 67) 0 rfl (daX8_init_0 36 rfl) rfl ?_
    obtain ⟨hc12, h⟩ := chk_inv h
    refine GM_getf (pc := 68) 8 7 3 7 kf_X8_27 (Nat.le_of_ble_eq_true rfl) (Nat.le_of_ble_eq_true rfl) rfl (daX8_init_0 37 rfl) hc12 rfl ?_
    refine GM_iload_n (pc := 71) 1 rfl (daX8_init_0 38 rfl) rfl ?_
    obtain ⟨hc13, h⟩ := chk_inv h
    obtain ⟨c14, n14, hp, e1, e2⟩ := pay_inv h
    subst e1 e2
    replace h := hp
    clear hp
    rw [Nat.add_assoc, Nat.add_assoc]
    obtain ⟨μ15, hμ15, h⟩ := lm_inv h
    refine GM_new (pc := 72) 6 (v0 + 40 + 10 * v1) (by decide) kc_X8_25 (daX8_init_0 39 rfl) hc13.1 hc13.2 ?_
    refine GM_mem hμ15 ?_
    refine GM_dup (pc := 75) (daX8_init_0 40 rfl) (Nat.ne_of_beq_eq_false rfl) ?_
    obtain ⟨hc16, h⟩ := chk_inv h
    obtain ⟨⟨μ17, c17, n17⟩, hf17, h⟩ := Option.bind_eq_some_iff.mp h
    dsimp only at h
    obtain ⟨c18, n18, hp, e1, e2⟩ := pay_inv h
    subst e1 e2
    replace h := hp
    clear hp
    rw [Nat.add_assoc, Nat.add_assoc]
    refine GM_callIN (pc := 76) [] (tX6_init l hf17) cwX6_init "HillSketch" rfl rfl kv_X6_init (by decide) hc16 ⟨Nat.le_of_ble_eq_true rfl, Nat.le_of_ble_eq_true rfl⟩ (Nat.le_of_ble_eq_true rfl) (Nat.le_of_ble_eq_true rfl) (daX8_init_0 41 rfl) ?_
    obtain ⟨hc19, h⟩ := chk_inv h
    obtain ⟨μ20, hμ20, h⟩ := lm_inv h
    refine GM_aast (pc := 79) 17 6 (by decide) (by decide) (by decide) (fun _ => rfl) (daX8_init_0 42 rfl) hc19.1 hc19.2.1 hc19.2.2 hc13.1 ?_
    refine GM_mem hμ20 ?_
    refine GM_iinc (L' := [(1, (0, w32 (v1 + 1))), (0, (3, v0))]) (pc := 80) 1 rfl (daX8_init_0 43 rfl) (Nat.le_of_ble_eq_true rfl) rfl ?_
    refine GM_goto (pc := 83) 62 (daX8_init_0 44 rfl) rfl ?_
    refine GM_pick [1, 0] rfl ?_
    cases h
    rw [Nat.zero_add, Nat.zero_add]
    exact hK
set_option maxRecDepth 20000 in
theorem gX8_init_0 (l : Launch) {F : FI} {v0 : Int} {μ : Mm} {t : Mm} {c0 n0 k n : Nat} (h : fX8_init v0 μ = some (t, c0, n0)) (hK : F.1 = [] ∧ F.2.1 = t) : GM l mX8_init F (c0 + k) (n0 + n) 0 [(0, (3, v0))] [] μ := by
  unfold fX8_init at h
  refine GM_aload_n (pc := 0) 0 rfl (daX8_init_0 0 rfl) rfl ?_
  obtain ⟨hc21, h⟩ := chk_inv h
  refine GM_objInit (pc := 1) km_X8_3 kv__java_lang_Object__init____V_ kk_obj (daX8_init_0 1 rfl) hc21 ⟨Nat.le_of_ble_eq_true rfl, Nat.le_of_ble_eq_true rfl⟩ ?_
  refine GM_aload_n (pc := 4) 0 rfl (daX8_init_0 2 rfl) rfl ?_
  refine GM_sipush (pc := 5) 700 (daX8_init_0 3 rfl) rfl (R32_b rfl) ?_
  obtain ⟨hc22, h⟩ := chk_inv h
  obtain ⟨c23, n23, hp, e1, e2⟩ := pay_inv h
  subst e1 e2
  replace h := hp
  clear hp
  rw [Nat.add_assoc, Nat.add_assoc]
  obtain ⟨μ24, hμ24, h⟩ := lm_inv h
  refine GM_newi (pc := 8) (N := 700) (v0 + 1) (daX8_init_0 4 rfl) hc22.1 hc22.2.1 (Nat.le_of_ble_eq_true rfl) hc22.2.2 ?_
  refine GM_mem hμ24 ?_
  obtain ⟨hc25, h⟩ := chk_inv h
  obtain ⟨μ26, hμ26, h⟩ := lm_inv h
  refine GM_putF (pc := 10) 8 0 3 kf_X8_9 (Nat.le_of_ble_eq_true rfl) (Nat.le_of_ble_eq_true rfl) rfl rfl rfl rfl (daX8_init_0 5 rfl) hc25 (fun q => absurd q (by decide)) ?_
  refine GM_mem hμ26 ?_
  refine GM_aload_n (pc := 13) 0 rfl (daX8_init_0 6 rfl) rfl ?_
  refine GM_iconst (pc := 14) (-1) (daX8_init_0 7 rfl) rfl (R32_b rfl) ?_
  obtain ⟨μ27, hμ27, h⟩ := lm_inv h
  refine GM_putf (pc := 15) 8 3 0 kf_X8_15 (Nat.le_of_ble_eq_true rfl) (Nat.le_of_ble_eq_true rfl) rfl rfl (daX8_init_0 8 rfl) hc25 (fun q => absurd q (by decide)) ?_
  refine GM_mem hμ27 ?_
  refine GM_aload_n (pc := 18) 0 rfl (daX8_init_0 9 rfl) rfl ?_
  refine GM_iconst (pc := 19) 2 (daX8_init_0 10 rfl) rfl (R32_b rfl) ?_
  obtain ⟨hc28, h⟩ := chk_inv h
  obtain ⟨c29, n29, hp, e1, e2⟩ := pay_inv h
  subst e1 e2
  replace h := hp
  clear hp
  rw [Nat.add_assoc, Nat.add_assoc]
  obtain ⟨μ30, hμ30, h⟩ := lm_inv h
  refine GM_newr (pc := 20) (N := 2) 15 2 (v0 + 2) (by decide) (by decide) (fun _ => rfl) (by decide) kc_X8_19 (daX8_init_0 11 rfl) hc28.1 hc28.2.1 (Nat.le_of_ble_eq_true rfl) hc28.2.2 ?_
  refine GM_mem hμ30 ?_
  obtain ⟨μ31, hμ31, h⟩ := lm_inv h
  refine GM_putF (pc := 23) 8 6 3 kf_X8_21 (Nat.le_of_ble_eq_true rfl) (Nat.le_of_ble_eq_true rfl) rfl rfl rfl rfl (daX8_init_0 12 rfl) hc25 (fun q => absurd q (by decide)) ?_
  refine GM_mem hμ31 ?_
  refine GM_aload_n (pc := 26) 0 rfl (daX8_init_0 13 rfl) rfl ?_
  refine GM_iconst (pc := 27) 4 (daX8_init_0 14 rfl) rfl (R32_b rfl) ?_
  obtain ⟨hc32, h⟩ := chk_inv h
  obtain ⟨c33, n33, hp, e1, e2⟩ := pay_inv h
  subst e1 e2
  replace h := hp
  clear hp
  rw [Nat.add_assoc, Nat.add_assoc]
  obtain ⟨μ34, hμ34, h⟩ := lm_inv h
  refine GM_newr (pc := 28) (N := 4) 17 6 (v0 + 3) (by decide) (by decide) (fun _ => rfl) (by decide) kc_X8_25 (daX8_init_0 15 rfl) hc32.1 hc32.2.1 (Nat.le_of_ble_eq_true rfl) hc32.2.2 ?_
  refine GM_mem hμ34 ?_
  obtain ⟨μ35, hμ35, h⟩ := lm_inv h
  refine GM_putF (pc := 31) 8 7 3 kf_X8_27 (Nat.le_of_ble_eq_true rfl) (Nat.le_of_ble_eq_true rfl) rfl rfl rfl rfl (daX8_init_0 16 rfl) hc25 (fun q => absurd q (by decide)) ?_
  refine GM_mem hμ35 ?_
  refine GM_iconst (pc := 34) 0 (daX8_init_0 17 rfl) rfl (R32_b rfl) ?_
  refine GM_istore_n (L' := [(1, (0, 0)), (0, (3, v0))]) (pc := 35) (daX8_init_0 18 rfl) rfl (Nat.le_of_ble_eq_true rfl) rfl ?_
  refine GM_pick [1, 0] rfl ?_
  obtain ⟨x36, hqx36, h⟩ := Option.bind_eq_some_iff.mp h
  obtain ⟨x36, ccx36, nnx36⟩ := x36
  dsimp only at h
  obtain ⟨c38, n38, hp, e1, e2⟩ := pay_inv h
  subst e1 e2
  replace h := hp
  clear hp
  rw [Nat.add_assoc, Nat.add_assoc]
  refine lopA_ind (fun k n => zX8_init_36 l F v0 k n) (qX8_init_36 l F v0) FU _ x36 _ _ hqx36 _ _ ?_
  obtain ⟨μ_37, hqq⟩ : ∃ z, z = x36 := ⟨x36, rfl⟩
  subst hqq
  show GM l mX8_init F (c38 + k) (n38 + n) 60 [(0, (3, v0))] [] μ_37
  refine GM_iconst (pc := 60) 0 (daX8_init_0 31 rfl) rfl (R32_b rfl) ?_
  refine GM_istore_n (L' := [(1, (0, 0)), (0, (3, v0))]) (pc := 61) (daX8_init_0 32 rfl) rfl (Nat.le_of_ble_eq_true rfl) rfl ?_
  refine GM_pick [1, 0] rfl ?_
  obtain ⟨x39, hqx39, h⟩ := Option.bind_eq_some_iff.mp h
  obtain ⟨x39, ccx39, nnx39⟩ := x39
  dsimp only at h
  obtain ⟨c41, n41, hp, e1, e2⟩ := pay_inv h
  subst e1 e2
  replace h := hp
  clear hp
  rw [Nat.add_assoc, Nat.add_assoc]
  refine lopA_ind (fun k n => zX8_init_62 l F v0 k n) (qX8_init_62 l F v0) FU _ x39 _ _ hqx39 _ _ ?_
  obtain ⟨μ_40, hqq⟩ : ∃ z, z = x39 := ⟨x39, rfl⟩
  subst hqq
  show GM l mX8_init F (c41 + k) (n41 + n) 86 [] [] μ_40
  cases h
  exact GM_vret (pc := 86) (daX8_init_0 45 rfl) rfl hK
theorem tX8_init (l : Launch) {v0 : Int} {μ : Mm} {t : Mm} {c0 n0 : Nat} (h : fX8_init v0 μ = some (t, c0, n0)) : Ct l yX8_init mX8_init [(3, v0)] μ ([], t, c0, n0) :=
  Ct_of (by decide +kernel) rfl rfl (Nat.le_of_ble_eq_true rfl) (fun _ _ _ => trivial) (gX8_init_0 (k := 0) (n := 0) l h ⟨rfl, rfl⟩)
def mX8_append : MI := (RX8, cX8_append, 3, none, "append", 0, 0, fun _ _ _ => True)
theorem cwX8_append : CWd yX8_append mX8_append 1 := ⟨ki_X8, kk_X8_append, ⟨by decide, by decide⟩, rfl⟩
def dtX8_append_0 : List (Nat × Instr × Nat) := [(0, .bipush 24, 2), (2, .istore_n 2, 1), (3, .iload_n 2, 1), (4, .ifCond .lt 45, 3), (7, .aload_n 0, 1), (8, .getfield 33, 3), (11, .sipush 700, 3), (14, .if_icmp .ge 29, 3), (17, .aload_n 0, 1), (18, .getfield 9, 3), (21, .aload_n 0, 1), (22, .getfield 33, 3), (25, .iload_n 1, 1), (26, .iload_n 2, 1), (27, .iushr, 1), (28, .sipush 255, 3), (31, .iand, 1), (32, .iastore, 1), (33, .aload_n 0, 1), (34, .dup, 1), (35, .getfield 33, 3), (38, .iconst 1, 1), (39, .iadd, 1), (40, .putfield 33, 3), (43, .iinc 2 (-8), 3), (46, .goto (-43), 3), (49, .return_, 1)]
theorem ddX8_append_0 : (dtX8_append_0.all fun e => decide (decode mX8_append.2.1 e.1 = .ok (e.2.1, e.2.2))) = true := by decide +kernel
theorem daX8_append_0 (j : Nat) {pc n : Nat} {i : Instr} (h : dtX8_append_0[j]? = some (pc, i, n)) : decode mX8_append.2.1 pc = .ok (i, n) := dec_of (c := mX8_append.2.1) ddX8_append_0 h
def zX8_append_3 (l : Launch) (F : FI) (v0 v1 : Int) (k n : Nat) : (Int × Mm) ⊕ Mm → Prop
  | .inl (v2, μ) => GM l mX8_append F k n 3 [(0, (3, v0)), (1, (0, v1)), (2, (0, v2))] [] μ
  | .inr μ => GM l mX8_append F k n 49 [] [] μ
def sX8_append_3 (v0 v1 : Int) : (Int × Mm) → Option ((Int × Mm) ⊕ Mm) := fun (v2, μ) =>
  if v2 < 0 then
    some (.inr μ)
  else
    chk (KD v0 = 8) (
    if 700 ≤ μ v0 1 then
      some (.inl (w32 (v2 + (-8)), μ))
    else
      chk (KD (μ v0 0) = 12 ∧ 0 ≤ μ v0 1 ∧ μ v0 1 < LN (μ v0 0)) (
      lm (mst μ (μ v0 0) (μ v0 1) (iand (iushr v1 v2) 255)) fun μ5 =>
      lm (mst μ5 v0 1 (w32 ((μ5 v0 1) + 1))) fun μ6 =>
      some (.inl (w32 (v2 + (-8)), μ6))))
def fX8_append (v0 v1 : Int) (μ : Mm) : Option Mm :=
  (lop (sX8_append_3 v0 v1) FU (24, μ)).bind fun μ_8 =>
    some μ_8
set_option maxRecDepth 20000 in
theorem qX8_append_3 (l : Launch) (F : FI) (v0 v1 : Int) (k n : Nat) : ∀ (q : (Int × Mm)) (t : ((Int × Mm) ⊕ Mm)), sX8_append_3 v0 v1 q = some t → zX8_append_3 l F v0 v1 k n t → zX8_append_3 l F v0 v1 k n (.inl q) := by
  intro q t h hK
  obtain ⟨v2, μ⟩ := q
  unfold sX8_append_3 at h
  try dsimp only at h
  show GM l mX8_append F k n 3 [(0, (3, v0)), (1, (0, v1)), (2, (0, v2))] [] μ
  refine GM_iload_n (pc := 3) 2 rfl (daX8_append_0 2 rfl) rfl ?_
  refine GM_if_lt (pc := 4) 49 (daX8_append_0 3 rfl) rfl (fun c1 => ?_) (fun c1 => ?_)
  · skip
    rw [if_pos c1] at h
    refine GM_pick [] rfl ?_
    cases h
    exact hK
  · skip
    rw [if_neg c1] at h
    refine GM_aload_n (pc := 7) 0 rfl (daX8_append_0 4 rfl) rfl ?_
    obtain ⟨hc2, h⟩ := chk_inv h
    refine GM_getf (pc := 8) 8 1 0 1 kf_X8_33 (Nat.le_of_ble_eq_true rfl) (Nat.le_of_ble_eq_true rfl) rfl (daX8_append_0 5 rfl) hc2 rfl ?_
    refine GM_sipush (pc := 11) 700 (daX8_append_0 6 rfl) rfl (R32_b rfl) ?_
    refine GM_icmp_ge (pc := 14) 43 (daX8_append_0 7 rfl) rfl (fun c3 => ?_) (fun c3 => ?_)
    · skip
      rw [if_pos c3] at h
      refine GM_iinc (L' := [(2, (0, w32 (v2 + (-8)))), (0, (3, v0)), (1, (0, v1))]) (pc := 43) 2 rfl (daX8_append_0 24 rfl) (Nat.le_of_ble_eq_true rfl) rfl ?_
      refine GM_goto (pc := 46) 3 (daX8_append_0 25 rfl) rfl ?_
      refine GM_pick [1, 2, 0] rfl ?_
      cases h
      exact hK
    · skip
      rw [if_neg c3] at h
      refine GM_aload_n (pc := 17) 0 rfl (daX8_append_0 8 rfl) rfl ?_
      refine GM_getf (pc := 18) 8 0 3 0 kf_X8_9 (Nat.le_of_ble_eq_true rfl) (Nat.le_of_ble_eq_true rfl) rfl (daX8_append_0 9 rfl) hc2 rfl ?_
      refine GM_aload_n (pc := 21) 0 rfl (daX8_append_0 10 rfl) rfl ?_
      refine GM_getf (pc := 22) 8 1 0 1 kf_X8_33 (Nat.le_of_ble_eq_true rfl) (Nat.le_of_ble_eq_true rfl) rfl (daX8_append_0 11 rfl) hc2 rfl ?_
      refine GM_iload_n (pc := 25) 1 rfl (daX8_append_0 12 rfl) rfl ?_
      refine GM_iload_n (pc := 26) 2 rfl (daX8_append_0 13 rfl) rfl ?_
      refine GM_iushr (pc := 27) (daX8_append_0 14 rfl) ?_
      refine GM_sipush (pc := 28) 255 (daX8_append_0 15 rfl) rfl (R32_b rfl) ?_
      refine GM_iand (pc := 31) (daX8_append_0 16 rfl) ?_
      obtain ⟨hc4, h⟩ := chk_inv h
      obtain ⟨μ5, hμ5, h⟩ := lm_inv h
      refine GM_iast (pc := 32) (daX8_append_0 17 rfl) hc4.1 hc4.2.1 hc4.2.2 ?_
      refine GM_mem hμ5 ?_
      refine GM_aload_n (pc := 33) 0 rfl (daX8_append_0 18 rfl) rfl ?_
      refine GM_dup (pc := 34) (daX8_append_0 19 rfl) (Nat.ne_of_beq_eq_false rfl) ?_
      refine GM_getf (pc := 35) 8 1 0 1 kf_X8_33 (Nat.le_of_ble_eq_true rfl) (Nat.le_of_ble_eq_true rfl) rfl (daX8_append_0 20 rfl) hc2 rfl ?_
      refine GM_iconst (pc := 38) 1 (daX8_append_0 21 rfl) rfl (R32_b rfl) ?_
      refine GM_iadd (pc := 39) (daX8_append_0 22 rfl) ?_
      obtain ⟨μ6, hμ6, h⟩ := lm_inv h
      refine GM_putf (pc := 40) 8 1 0 kf_X8_33 (Nat.le_of_ble_eq_true rfl) (Nat.le_of_ble_eq_true rfl) rfl rfl (daX8_append_0 23 rfl) hc2 (fun q => absurd q (by decide)) ?_
      refine GM_mem hμ6 ?_
      refine GM_iinc (L' := [(2, (0, w32 (v2 + (-8)))), (0, (3, v0)), (1, (0, v1))]) (pc := 43) 2 rfl (daX8_append_0 24 rfl) (Nat.le_of_ble_eq_true rfl) rfl ?_
      refine GM_goto (pc := 46) 3 (daX8_append_0 25 rfl) rfl ?_
      refine GM_pick [1, 2, 0] rfl ?_
      cases h
      exact hK
set_option maxRecDepth 20000 in
theorem gX8_append_0 (l : Launch) {F : FI} {v0 v1 : Int} {μ : Mm} {t : Mm} (h : fX8_append v0 v1 μ = some t) (hK : F.1 = [] ∧ F.2.1 = t) : GM l mX8_append F 0 0 0 [(0, (3, v0)), (1, (0, v1))] [] μ := by
  unfold fX8_append at h
  refine GM_bipush (pc := 0) 24 (daX8_append_0 0 rfl) rfl (R32_b rfl) ?_
  refine GM_istore_n (L' := [(2, (0, 24)), (0, (3, v0)), (1, (0, v1))]) (pc := 2) (daX8_append_0 1 rfl) rfl (Nat.le_of_ble_eq_true rfl) rfl ?_
  refine GM_pick [1, 2, 0] rfl ?_
  obtain ⟨x7, hqx7, h⟩ := Option.bind_eq_some_iff.mp h
  refine lop_ind (zX8_append_3 l F v0 v1 0 0) (qX8_append_3 l F v0 v1 0 0) FU _ x7 hqx7 ?_
  obtain ⟨μ_8, hqq⟩ : ∃ z, z = x7 := ⟨x7, rfl⟩
  subst hqq
  show GM l mX8_append F 0 0 49 [] [] μ_8
  cases h
  exact GM_vret (pc := 49) (daX8_append_0 26 rfl) rfl hK
theorem tX8_append (l : Launch) {v0 v1 : Int} {μ : Mm} {t : Mm} (h : fX8_append v0 v1 μ = some t) : Ct l yX8_append mX8_append [(3, v0), (0, v1)] μ ([], t, 0, 0) :=
  Ct_of (by decide +kernel) rfl rfl (Nat.le_of_ble_eq_true rfl) (fun _ _ _ => trivial) (gX8_append_0 l h ⟨rfl, rfl⟩)
def mX8_take : MI := (RX8, cX8_take, 3, none, "take", 2, 82, fun _ _ _ => True)
theorem cwX8_take : CWd yX8_take mX8_take 1 := ⟨ki_X8, kk_X8_take, ⟨by decide, by decide⟩, rfl⟩
def dtX8_take_0 : List (Nat × Instr × Nat) := [(0, .aload_n 1, 1), (1, .getfield 9, 3), (4, .iconst 0, 1), (5, .aload_n 0, 1), (6, .getfield 9, 3), (9, .iconst 0, 1), (10, .sipush 700, 3), (13, .invokestatic 36, 3), (16, .aload_n 0, 1), (17, .aload_n 1, 1), (18, .getfield 33, 3), (21, .putfield 33, 3), (24, .aload_n 0, 1), (25, .aload_n 1, 1), (26, .getfield 42, 3), (29, .putfield 42, 3), (32, .aload_n 0, 1), (33, .aload_n 1, 1), (34, .getfield 15, 3), (37, .putfield 15, 3), (40, .aload_n 0, 1), (41, .aload_n 1, 1), (42, .getfield 45, 3), (45, .putfield 45, 3), (48, .aload_n 0, 1), (49, .aload_n 1, 1), (50, .getfield 48, 3), (53, .putfield 48, 3), (56, .iconst 0, 1), (57, .istore_n 2, 1), (58, .iload_n 2, 1), (59, .iconst 2, 1), (60, .if_icmp .ge 24, 3), (63, .aload_n 0, 1), (64, .getfield 21, 3), (67, .iload_n 2, 1), (68, .aaload, 1), (69, .aload_n 1, 1), (70, .getfield 21, 3), (73, .iload_n 2, 1), (74, .aaload, 1), (75, .invokevirtual 51, 3), (78, .iinc 2 1, 3), (81, .goto (-23), 3), (84, .iconst 0, 1), (85, .istore_n 2, 1), (86, .iload_n 2, 1), (87, .iconst 4, 1), (88, .if_icmp .ge 24, 3), (91, .aload_n 0, 1), (92, .getfield 27, 3), (95, .iload_n 2, 1), (96, .aaload, 1), (97, .aload_n 1, 1), (98, .getfield 27, 3), (101, .iload_n 2, 1), (102, .aaload, 1), (103, .invokevirtual 55, 3), (106, .iinc 2 1, 3), (109, .goto (-23), 3), (112, .return_, 1)]
theorem ddX8_take_0 : (dtX8_take_0.all fun e => decide (decode mX8_take.2.1 e.1 = .ok (e.2.1, e.2.2))) = true := by decide +kernel
theorem daX8_take_0 (j : Nat) {pc n : Nat} {i : Instr} (h : dtX8_take_0[j]? = some (pc, i, n)) : decode mX8_take.2.1 pc = .ok (i, n) := dec_of (c := mX8_take.2.1) ddX8_take_0 h
def zX8_take_58 (l : Launch) (F : FI) (v0 v1 : Int) (k n : Nat) : (Int × Mm) ⊕ Mm → Prop
  | .inl (v2, μ) => GM l mX8_take F k n 58 [(0, (3, v0)), (1, (3, v1)), (2, (0, v2))] [] μ
  | .inr μ => GM l mX8_take F k n 84 [(0, (3, v0)), (1, (3, v1))] [] μ
def sX8_take_58 (v0 v1 : Int) : (Int × Mm) → Option ((Int × Mm) ⊕ Mm) := fun (v2, μ) =>
  if 2 ≤ v2 then
    some (.inr μ)
  else
    chk (KD v0 = 8) (
    chk (KD (μ v0 6) = 15 ∧ 0 ≤ v2 ∧ v2 < LN (μ v0 6)) (
    chk (KD v1 = 8) (
    chk (KD (μ v1 6) = 15 ∧ v2 < LN (μ v1 6)) (
    chk (KD (μ (μ v0 6) v2) = 2) (
    (fX2_take (μ (μ v0 6) v2) (μ (μ v1 6) v2) μ).bind fun μ7 =>
    some (.inl (w32 (v2 + 1), μ7)))))))
def zX8_take_86 (l : Launch) (F : FI) (v0 v1 : Int) (k n : Nat) : (Int × Mm) ⊕ Mm → Prop
  | .inl (v2, μ) => GM l mX8_take F k n 86 [(0, (3, v0)), (1, (3, v1)), (2, (0, v2))] [] μ
  | .inr μ => GM l mX8_take F k n 112 [] [] μ
def sX8_take_86 (v0 v1 : Int) : (Int × Mm) → Option ((Int × Mm) ⊕ Mm) := fun (v2, μ) =>
  if 4 ≤ v2 then
    some (.inr μ)
  else
    chk (KD v0 = 8) (
    chk (KD (μ v0 7) = 17 ∧ 0 ≤ v2 ∧ v2 < LN (μ v0 7)) (
    chk (KD v1 = 8) (
    chk (KD (μ v1 7) = 17 ∧ v2 < LN (μ v1 7)) (
    chk (KD (μ (μ v0 7) v2) = 6) (
    (fX6_take (μ (μ v0 7) v2) (μ (μ v1 7) v2) μ).bind fun μ14 =>
    some (.inl (w32 (v2 + 1), μ14)))))))
def fX8_take (v0 v1 : Int) (μ : Mm) : Option Mm :=
  chk (KD v1 = 8) (
  chk (KD v0 = 8) (
  chk (KD (μ v1 0) = 12 ∧ KD (μ v0 0) = 12 ∧ ((0 : Int) ≤ 0 ∧ (0 : Int) ≤ 0 ∧ (0 : Int) ≤ 700) ∧ 0 + 700 ≤ LN (μ v1 0) ∧ 0 + 700 ≤ LN (μ v0 0)) (
  lm (mcp μ (μ v1 0) 0 (μ v0 0) 0 700) fun μ18 =>
  lm (mst μ18 v0 1 (μ18 v1 1)) fun μ19 =>
  lm (mst μ19 v0 2 (μ19 v1 2)) fun μ20 =>
  lm (mst μ20 v0 3 (μ20 v1 3)) fun μ21 =>
  lm (mst μ21 v0 4 (μ21 v1 4)) fun μ22 =>
  lm (mst μ22 v0 5 (μ22 v1 5)) fun μ23 =>
  (lop (sX8_take_58 v0 v1) FU (0, μ23)).bind fun μ_25 =>
    (lop (sX8_take_86 v0 v1) FU (0, μ_25)).bind fun μ_27 =>
      some μ_27)))
set_option maxRecDepth 20000 in
theorem qX8_take_58 (l : Launch) (F : FI) (v0 v1 : Int) (k n : Nat) : ∀ (q : (Int × Mm)) (t : ((Int × Mm) ⊕ Mm)), sX8_take_58 v0 v1 q = some t → zX8_take_58 l F v0 v1 k n t → zX8_take_58 l F v0 v1 k n (.inl q) := by
  intro q t h hK
  obtain ⟨v2, μ⟩ := q
  unfold sX8_take_58 at h
  try dsimp only at h
  show GM l mX8_take F k n 58 [(0, (3, v0)), (1, (3, v1)), (2, (0, v2))] [] μ
  refine GM_iload_n (pc := 58) 2 rfl (daX8_take_0 30 rfl) rfl ?_
  refine GM_iconst (pc := 59) 2 (daX8_take_0 31 rfl) rfl (R32_b rfl) ?_
  refine GM_icmp_ge (pc := 60) 84 (daX8_take_0 32 rfl) rfl (fun c1 => ?_) (fun c1 => ?_)
  · skip
    rw [if_pos c1] at h
    refine GM_pick [0, 1] rfl ?_
    cases h
    exact hK
  · skip
    rw [if_neg c1] at h
    refine GM_aload_n (pc := 63) 0 rfl (daX8_take_0 33 rfl) rfl ?_
    obtain ⟨hc2, h⟩ := chk_inv h
    refine GM_getf (pc := 64) 8 6 3 6 kf_X8_21 (Nat.le_of_ble_eq_true rfl) (Nat.le_of_ble_eq_true rfl) rfl (daX8_take_0 34 rfl) hc2 rfl ?_
    refine GM_iload_n (pc := 67) 2 rfl (daX8_take_0 35 rfl) rfl ?_
    obtain ⟨hc3, h⟩ := chk_inv h
    refine GM_aald (pc := 68) 15 2 (by decide) (by decide) (fun _ => rfl) (daX8_take_0 36 rfl) hc3.1 hc3.2.1 hc3.2.2 ?_
    refine GM_aload_n (pc := 69) 1 rfl (daX8_take_0 37 rfl) rfl ?_
    obtain ⟨hc4, h⟩ := chk_inv h
    refine GM_getf (pc := 70) 8 6 3 6 kf_X8_21 (Nat.le_of_ble_eq_true rfl) (Nat.le_of_ble_eq_true rfl) rfl (daX8_take_0 38 rfl) hc4 rfl ?_
    refine GM_iload_n (pc := 73) 2 rfl (daX8_take_0 39 rfl) rfl ?_
    obtain ⟨hc5, h⟩ := chk_inv h
    refine GM_aald (pc := 74) 15 2 (by decide) (by decide) (fun _ => rfl) (daX8_take_0 40 rfl) hc5.1 hc3.2.1 hc5.2 ?_
    obtain ⟨hc6, h⟩ := chk_inv h
    obtain ⟨μ7, hf7, h⟩ := Option.bind_eq_some_iff.mp h
    refine GM_callV0 (pc := 75) [(3, μ (μ v1 6) v2)] (tX2_take l hf7) cwX2_take 2 (Nat.le_of_ble_eq_true rfl) rfl kv_X2_take ke_X2_take km_X8_51 hc6 ⟨Nat.le_of_ble_eq_true rfl, Nat.le_of_ble_eq_true rfl⟩ (Nat.le_of_ble_eq_true rfl) (Nat.le_of_ble_eq_true rfl) (daX8_take_0 41 rfl) ?_
    refine GM_iinc (L' := [(2, (0, w32 (v2 + 1))), (0, (3, v0)), (1, (3, v1))]) (pc := 78) 2 rfl (daX8_take_0 42 rfl) (Nat.le_of_ble_eq_true rfl) rfl ?_
    refine GM_goto (pc := 81) 58 (daX8_take_0 43 rfl) rfl ?_
    refine GM_pick [1, 2, 0] rfl ?_
    cases h
    exact hK
set_option maxRecDepth 20000 in
theorem qX8_take_86 (l : Launch) (F : FI) (v0 v1 : Int) (k n : Nat) : ∀ (q : (Int × Mm)) (t : ((Int × Mm) ⊕ Mm)), sX8_take_86 v0 v1 q = some t → zX8_take_86 l F v0 v1 k n t → zX8_take_86 l F v0 v1 k n (.inl q) := by
  intro q t h hK
  obtain ⟨v2, μ⟩ := q
  unfold sX8_take_86 at h
  try dsimp only at h
  show GM l mX8_take F k n 86 [(0, (3, v0)), (1, (3, v1)), (2, (0, v2))] [] μ
  refine GM_iload_n (pc := 86) 2 rfl (daX8_take_0 46 rfl) rfl ?_
  refine GM_iconst (pc := 87) 4 (daX8_take_0 47 rfl) rfl (R32_b rfl) ?_
  refine GM_icmp_ge (pc := 88) 112 (daX8_take_0 48 rfl) rfl (fun c8 => ?_) (fun c8 => ?_)
  · skip
    rw [if_pos c8] at h
    refine GM_pick [] rfl ?_
    cases h
    exact hK
  · skip
    rw [if_neg c8] at h
    refine GM_aload_n (pc := 91) 0 rfl (daX8_take_0 49 rfl) rfl ?_
    obtain ⟨hc9, h⟩ := chk_inv h
    refine GM_getf (pc := 92) 8 7 3 7 kf_X8_27 (Nat.le_of_ble_eq_true rfl) (Nat.le_of_ble_eq_true rfl) rfl (daX8_take_0 50 rfl) hc9 rfl ?_
    refine GM_iload_n (pc := 95) 2 rfl (daX8_take_0 51 rfl) rfl ?_
    obtain ⟨hc10, h⟩ := chk_inv h
    refine GM_aald (pc := 96) 17 6 (by decide) (by decide) (fun _ => rfl) (daX8_take_0 52 rfl) hc10.1 hc10.2.1 hc10.2.2 ?_
    refine GM_aload_n (pc := 97) 1 rfl (daX8_take_0 53 rfl) rfl ?_
    obtain ⟨hc11, h⟩ := chk_inv h
    refine GM_getf (pc := 98) 8 7 3 7 kf_X8_27 (Nat.le_of_ble_eq_true rfl) (Nat.le_of_ble_eq_true rfl) rfl (daX8_take_0 54 rfl) hc11 rfl ?_
    refine GM_iload_n (pc := 101) 2 rfl (daX8_take_0 55 rfl) rfl ?_
    obtain ⟨hc12, h⟩ := chk_inv h
    refine GM_aald (pc := 102) 17 6 (by decide) (by decide) (fun _ => rfl) (daX8_take_0 56 rfl) hc12.1 hc10.2.1 hc12.2 ?_
    obtain ⟨hc13, h⟩ := chk_inv h
    obtain ⟨μ14, hf14, h⟩ := Option.bind_eq_some_iff.mp h
    refine GM_callV0 (pc := 103) [(3, μ (μ v1 7) v2)] (tX6_take l hf14) cwX6_take 6 (Nat.le_of_ble_eq_true rfl) rfl kv_X6_take ke_X6_take km_X8_55 hc13 ⟨Nat.le_of_ble_eq_true rfl, Nat.le_of_ble_eq_true rfl⟩ (Nat.le_of_ble_eq_true rfl) (Nat.le_of_ble_eq_true rfl) (daX8_take_0 57 rfl) ?_
    refine GM_iinc (L' := [(2, (0, w32 (v2 + 1))), (0, (3, v0)), (1, (3, v1))]) (pc := 106) 2 rfl (daX8_take_0 58 rfl) (Nat.le_of_ble_eq_true rfl) rfl ?_
    refine GM_goto (pc := 109) 86 (daX8_take_0 59 rfl) rfl ?_
    refine GM_pick [1, 2, 0] rfl ?_
    cases h
    exact hK
set_option maxRecDepth 20000 in
theorem gX8_take_0 (l : Launch) {F : FI} {v0 v1 : Int} {μ : Mm} {t : Mm} (h : fX8_take v0 v1 μ = some t) (hK : F.1 = [] ∧ F.2.1 = t) : GM l mX8_take F 0 0 0 [(0, (3, v0)), (1, (3, v1))] [] μ := by
  unfold fX8_take at h
  refine GM_aload_n (pc := 0) 1 rfl (daX8_take_0 0 rfl) rfl ?_
  obtain ⟨hc15, h⟩ := chk_inv h
  refine GM_getf (pc := 1) 8 0 3 0 kf_X8_9 (Nat.le_of_ble_eq_true rfl) (Nat.le_of_ble_eq_true rfl) rfl (daX8_take_0 1 rfl) hc15 rfl ?_
  refine GM_iconst (pc := 4) 0 (daX8_take_0 2 rfl) rfl (R32_b rfl) ?_
  refine GM_aload_n (pc := 5) 0 rfl (daX8_take_0 3 rfl) rfl ?_
  obtain ⟨hc16, h⟩ := chk_inv h
  refine GM_getf (pc := 6) 8 0 3 0 kf_X8_9 (Nat.le_of_ble_eq_true rfl) (Nat.le_of_ble_eq_true rfl) rfl (daX8_take_0 4 rfl) hc16 rfl ?_
  refine GM_iconst (pc := 9) 0 (daX8_take_0 5 rfl) rfl (R32_b rfl) ?_
  refine GM_sipush (pc := 10) 700 (daX8_take_0 6 rfl) rfl (R32_b rfl) ?_
  obtain ⟨hc17, h⟩ := chk_inv h
  obtain ⟨μ18, hμ18, h⟩ := lm_inv h
  refine GM_copyi (pc := 13) km_X8_36 ks__java_lang_System_arraycopy__Ljava_lang_Object_ILjava_lang_Object_II_V_ ki_J10 kt_arraycopy (daX8_take_0 7 rfl) ⟨Nat.le_of_ble_eq_true rfl, Nat.le_of_ble_eq_true rfl⟩ hc17.1 hc17.2.1 hc17.2.2.1 hc17.2.2.2.1 hc17.2.2.2.2 ?_
  refine GM_mem hμ18 ?_
  refine GM_aload_n (pc := 16) 0 rfl (daX8_take_0 8 rfl) rfl ?_
  refine GM_aload_n (pc := 17) 1 rfl (daX8_take_0 9 rfl) rfl ?_
  refine GM_getf (pc := 18) 8 1 0 1 kf_X8_33 (Nat.le_of_ble_eq_true rfl) (Nat.le_of_ble_eq_true rfl) rfl (daX8_take_0 10 rfl) hc15 rfl ?_
  obtain ⟨μ19, hμ19, h⟩ := lm_inv h
  refine GM_putf (pc := 21) 8 1 0 kf_X8_33 (Nat.le_of_ble_eq_true rfl) (Nat.le_of_ble_eq_true rfl) rfl rfl (daX8_take_0 11 rfl) hc16 (fun q => absurd q (by decide)) ?_
  refine GM_mem hμ19 ?_
  refine GM_aload_n (pc := 24) 0 rfl (daX8_take_0 12 rfl) rfl ?_
  refine GM_aload_n (pc := 25) 1 rfl (daX8_take_0 13 rfl) rfl ?_
  refine GM_getf (pc := 26) 8 2 0 2 kf_X8_42 (Nat.le_of_ble_eq_true rfl) (Nat.le_of_ble_eq_true rfl) rfl (daX8_take_0 14 rfl) hc15 rfl ?_
  obtain ⟨μ20, hμ20, h⟩ := lm_inv h
  refine GM_putf (pc := 29) 8 2 0 kf_X8_42 (Nat.le_of_ble_eq_true rfl) (Nat.le_of_ble_eq_true rfl) rfl rfl (daX8_take_0 15 rfl) hc16 (fun q => absurd q (by decide)) ?_
  refine GM_mem hμ20 ?_
  refine GM_aload_n (pc := 32) 0 rfl (daX8_take_0 16 rfl) rfl ?_
  refine GM_aload_n (pc := 33) 1 rfl (daX8_take_0 17 rfl) rfl ?_
  refine GM_getf (pc := 34) 8 3 0 3 kf_X8_15 (Nat.le_of_ble_eq_true rfl) (Nat.le_of_ble_eq_true rfl) rfl (daX8_take_0 18 rfl) hc15 rfl ?_
  obtain ⟨μ21, hμ21, h⟩ := lm_inv h
  refine GM_putf (pc := 37) 8 3 0 kf_X8_15 (Nat.le_of_ble_eq_true rfl) (Nat.le_of_ble_eq_true rfl) rfl rfl (daX8_take_0 19 rfl) hc16 (fun q => absurd q (by decide)) ?_
  refine GM_mem hμ21 ?_
  refine GM_aload_n (pc := 40) 0 rfl (daX8_take_0 20 rfl) rfl ?_
  refine GM_aload_n (pc := 41) 1 rfl (daX8_take_0 21 rfl) rfl ?_
  refine GM_getf (pc := 42) 8 4 0 4 kf_X8_45 (Nat.le_of_ble_eq_true rfl) (Nat.le_of_ble_eq_true rfl) rfl (daX8_take_0 22 rfl) hc15 rfl ?_
  obtain ⟨μ22, hμ22, h⟩ := lm_inv h
  refine GM_putf (pc := 45) 8 4 0 kf_X8_45 (Nat.le_of_ble_eq_true rfl) (Nat.le_of_ble_eq_true rfl) rfl rfl (daX8_take_0 23 rfl) hc16 (fun q => absurd q (by decide)) ?_
  refine GM_mem hμ22 ?_
  refine GM_aload_n (pc := 48) 0 rfl (daX8_take_0 24 rfl) rfl ?_
  refine GM_aload_n (pc := 49) 1 rfl (daX8_take_0 25 rfl) rfl ?_
  refine GM_getf (pc := 50) 8 5 0 5 kf_X8_48 (Nat.le_of_ble_eq_true rfl) (Nat.le_of_ble_eq_true rfl) rfl (daX8_take_0 26 rfl) hc15 rfl ?_
  obtain ⟨μ23, hμ23, h⟩ := lm_inv h
  refine GM_putf (pc := 53) 8 5 0 kf_X8_48 (Nat.le_of_ble_eq_true rfl) (Nat.le_of_ble_eq_true rfl) rfl rfl (daX8_take_0 27 rfl) hc16 (fun q => absurd q (by decide)) ?_
  refine GM_mem hμ23 ?_
  refine GM_iconst (pc := 56) 0 (daX8_take_0 28 rfl) rfl (R32_b rfl) ?_
  refine GM_istore_n (L' := [(2, (0, 0)), (0, (3, v0)), (1, (3, v1))]) (pc := 57) (daX8_take_0 29 rfl) rfl (Nat.le_of_ble_eq_true rfl) rfl ?_
  refine GM_pick [1, 2, 0] rfl ?_
  obtain ⟨x24, hqx24, h⟩ := Option.bind_eq_some_iff.mp h
  refine lop_ind (zX8_take_58 l F v0 v1 0 0) (qX8_take_58 l F v0 v1 0 0) FU _ x24 hqx24 ?_
  obtain ⟨μ_25, hqq⟩ : ∃ z, z = x24 := ⟨x24, rfl⟩
  subst hqq
  show GM l mX8_take F 0 0 84 [(0, (3, v0)), (1, (3, v1))] [] μ_25
  refine GM_iconst (pc := 84) 0 (daX8_take_0 44 rfl) rfl (R32_b rfl) ?_
  refine GM_istore_n (L' := [(2, (0, 0)), (0, (3, v0)), (1, (3, v1))]) (pc := 85) (daX8_take_0 45 rfl) rfl (Nat.le_of_ble_eq_true rfl) rfl ?_
  refine GM_pick [1, 2, 0] rfl ?_
  obtain ⟨x26, hqx26, h⟩ := Option.bind_eq_some_iff.mp h
  refine lop_ind (zX8_take_86 l F v0 v1 0 0) (qX8_take_86 l F v0 v1 0 0) FU _ x26 hqx26 ?_
  obtain ⟨μ_27, hqq⟩ : ∃ z, z = x26 := ⟨x26, rfl⟩
  subst hqq
  show GM l mX8_take F 0 0 112 [] [] μ_27
  cases h
  exact GM_vret (pc := 112) (daX8_take_0 60 rfl) rfl hK
theorem tX8_take (l : Launch) {v0 v1 : Int} {μ : Mm} {t : Mm} (h : fX8_take v0 v1 μ = some t) : Ct l yX8_take mX8_take [(3, v0), (3, v1)] μ ([], t, 0, 0) :=
  Ct_of (by decide +kernel) rfl rfl (Nat.le_of_ble_eq_true rfl) (fun _ _ _ => trivial) (gX8_take_0 l h ⟨rfl, rfl⟩)
