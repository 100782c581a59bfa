def mX11_fault : MI := (RX11, cX11_fault, 2, (some .int), "fault", 0, 0, fun _ _ _ => True)
theorem cwX11_fault : CWd yX11_fault mX11_fault 1 := ⟨ki_X11, kk_X11_fault, ⟨by decide, by decide⟩, rfl⟩
def dtX11_fault_0 : List (Nat × Instr × Nat) := [(0, .iload_n 1, 1), (1, .ifCond .ne 12, 3), (4, .aload_n 0, 1), (5, .getfield 7, 3), (8, .iconst 3, 1), (9, .iaload, 1), (10, .goto 18, 3), (13, .iload_n 1, 1), (14, .iconst 1, 1), (15, .if_icmp .ne 12, 3), (18, .aload_n 0, 1), (19, .getfield 7, 3), (22, .iconst 4, 1), (23, .iaload, 1), (24, .goto 4, 3), (27, .iconst (-1), 1), (28, .ireturn, 1)]
theorem ddX11_fault_0 : (dtX11_fault_0.all fun e => decide (decode mX11_fault.2.1 e.1 = .ok (e.2.1, e.2.2))) = true := by decide +kernel
theorem daX11_fault_0 (j : Nat) {pc n : Nat} {i : Instr} (h : dtX11_fault_0[j]? = some (pc, i, n)) : decode mX11_fault.2.1 pc = .ok (i, n) := dec_of (c := mX11_fault.2.1) ddX11_fault_0 h
def fX11_fault (v0 v1 : Int) (μ : Mm) : Option Int :=
  if v1 = 0 then
    chk (KD v0 = 11) (
    chk (KD (μ v0 0) = 12 ∧ 3 < LN (μ v0 0)) (
    some (μ (μ v0 0) 3)))
  else
    if v1 = 1 then
      chk (KD v0 = 11) (
      chk (KD (μ v0 0) = 12 ∧ 4 < LN (μ v0 0)) (
      some (μ (μ v0 0) 4)))
    else
      some (-1)
set_option maxRecDepth 20000 in
theorem gX11_fault_0 (l : Launch) {F : FI} {v0 v1 : Int} {μ : Mm} {t : Int} (h : fX11_fault v0 v1 μ = some t) (hK : F.1 = [(0, t)] ∧ F.2.1 = μ) : GM l mX11_fault F 0 0 0 [(0, (3, v0)), (1, (0, v1))] [] μ := by
  unfold fX11_fault at h
  refine GM_iload_n (pc := 0) 1 rfl (daX11_fault_0 0 rfl) rfl ?_
  refine GM_if_ne (pc := 1) 13 (daX11_fault_0 1 rfl) rfl (fun c1 => ?_) (fun c1 => ?_)
  · skip
    rw [if_neg c1] at h
    refine GM_iload_n (pc := 13) 1 rfl (daX11_fault_0 7 rfl) rfl ?_
    refine GM_iconst (pc := 14) 1 (daX11_fault_0 8 rfl) rfl (R32_b rfl) ?_
    refine GM_icmp_ne (pc := 15) 27 (daX11_fault_0 9 rfl) rfl (fun c2 => ?_) (fun c2 => ?_)
    · skip
      rw [if_neg c2] at h
      refine GM_iconst (pc := 27) (-1) (daX11_fault_0 15 rfl) rfl (R32_b rfl) ?_
      cases h
      exact GM_iret (pc := 28) (daX11_fault_0 16 rfl) rfl hK
    · skip
      rw [if_pos c2] at h
      refine GM_aload_n (pc := 18) 0 rfl (daX11_fault_0 10 rfl) rfl ?_
      obtain ⟨hc3, h⟩ := chk_inv h
      refine GM_getf (pc := 19) 11 0 3 0 kf_X11_7 (Nat.le_of_ble_eq_true rfl) (Nat.le_of_ble_eq_true rfl) rfl (daX11_fault_0 11 rfl) hc3 rfl ?_
      refine GM_iconst (pc := 22) 4 (daX11_fault_0 12 rfl) rfl (R32_b rfl) ?_
      obtain ⟨hc4, h⟩ := chk_inv h
      refine GM_iald (pc := 23) (daX11_fault_0 13 rfl) hc4.1 (by decide) hc4.2 ?_
      refine GM_goto (pc := 24) 28 (daX11_fault_0 14 rfl) rfl ?_
      cases h
      exact GM_iret (pc := 28) (daX11_fault_0 16 rfl) rfl hK
  · skip
    rw [if_pos c1] at h
    refine GM_aload_n (pc := 4) 0 rfl (daX11_fault_0 2 rfl) rfl ?_
    obtain ⟨hc5, h⟩ := chk_inv h
    refine GM_getf (pc := 5) 11 0 3 0 kf_X11_7 (Nat.le_of_ble_eq_true rfl) (Nat.le_of_ble_eq_true rfl) rfl (daX11_fault_0 3 rfl) hc5 rfl ?_
    refine GM_iconst (pc := 8) 3 (daX11_fault_0 4 rfl) rfl (R32_b rfl) ?_
    obtain ⟨hc6, h⟩ := chk_inv h
    refine GM_iald (pc := 9) (daX11_fault_0 5 rfl) hc6.1 (by decide) hc6.2 ?_
    refine GM_goto (pc := 10) 28 (daX11_fault_0 6 rfl) rfl ?_
    cases h
    exact GM_iret (pc := 28) (daX11_fault_0 16 rfl) rfl hK
theorem tX11_fault (l : Launch) {v0 v1 : Int} {μ : Mm} {t : Int} (h : fX11_fault v0 v1 μ = some t) : Ct l yX11_fault mX11_fault [(3, v0), (0, v1)] μ ([(0, t)], μ, 0, 0) :=
  Ct_of (by decide +kernel) rfl rfl (Nat.le_of_ble_eq_true rfl) (fun _ _ _ => trivial) (gX11_fault_0 l h ⟨rfl, rfl⟩)
def mX11_placesOf : MI := (RX11, cX11_placesOf, 2, (some .int), "placesOf", 0, 0, fun _ _ _ => True)
theorem cwX11_placesOf : CWd yX11_placesOf mX11_placesOf 1 := ⟨ki_X11, kk_X11_placesOf, ⟨by decide, by decide⟩, rfl⟩
def dtX11_placesOf_0 : List (Nat × Instr × Nat) := [(0, .aload_n 0, 1), (1, .getfield 7, 3), (4, .iload_n 1, 1), (5, .iconst 0, 1), (6, .iadd, 1), (7, .iaload, 1), (8, .aload_n 0, 1), (9, .getfield 7, 3), (12, .iload_n 1, 1), (13, .iconst 1, 1), (14, .iadd, 1), (15, .iaload, 1), (16, .imul, 1), (17, .ireturn, 1)]
theorem ddX11_placesOf_0 : (dtX11_placesOf_0.all fun e => decide (decode mX11_placesOf.2.1 e.1 = .ok (e.2.1, e.2.2))) = true := by decide +kernel
theorem daX11_placesOf_0 (j : Nat) {pc n : Nat} {i : Instr} (h : dtX11_placesOf_0[j]? = some (pc, i, n)) : decode mX11_placesOf.2.1 pc = .ok (i, n) := dec_of (c := mX11_placesOf.2.1) ddX11_placesOf_0 h
def fX11_placesOf (v0 v1 : Int) (μ : Mm) : Option Int :=
  chk (KD v0 = 11) (
  chk (KD (μ v0 0) = 12 ∧ 0 ≤ w32 (v1 + 0) ∧ w32 (v1 + 0) < LN (μ v0 0)) (
  chk (0 ≤ w32 (v1 + 1) ∧ w32 (v1 + 1) < LN (μ v0 0)) (
  some (w32 ((μ (μ v0 0) (w32 (v1 + 0))) * (μ (μ v0 0) (w32 (v1 + 1))))))))
set_option maxRecDepth 20000 in
theorem gX11_placesOf_0 (l : Launch) {F : FI} {v0 v1 : Int} {μ : Mm} {t : Int} (h : fX11_placesOf v0 v1 μ = some t) (hK : F.1 = [(0, t)] ∧ F.2.1 = μ) : GM l mX11_placesOf F 0 0 0 [(0, (3, v0)), (1, (0, v1))] [] μ := by
  unfold fX11_placesOf at h
  refine GM_aload_n (pc := 0) 0 rfl (daX11_placesOf_0 0 rfl) rfl ?_
  obtain ⟨hc1, h⟩ := chk_inv h
  refine GM_getf (pc := 1) 11 0 3 0 kf_X11_7 (Nat.le_of_ble_eq_true rfl) (Nat.le_of_ble_eq_true rfl) rfl (daX11_placesOf_0 1 rfl) hc1 rfl ?_
  refine GM_iload_n (pc := 4) 1 rfl (daX11_placesOf_0 2 rfl) rfl ?_
  refine GM_iconst (pc := 5) 0 (daX11_placesOf_0 3 rfl) rfl (R32_b rfl) ?_
  refine GM_iadd (pc := 6) (daX11_placesOf_0 4 rfl) ?_
  obtain ⟨hc2, h⟩ := chk_inv h
  refine GM_iald (pc := 7) (daX11_placesOf_0 5 rfl) hc2.1 hc2.2.1 hc2.2.2 ?_
  refine GM_aload_n (pc := 8) 0 rfl (daX11_placesOf_0 6 rfl) rfl ?_
  refine GM_getf (pc := 9) 11 0 3 0 kf_X11_7 (Nat.le_of_ble_eq_true rfl) (Nat.le_of_ble_eq_true rfl) rfl (daX11_placesOf_0 7 rfl) hc1 rfl ?_
  refine GM_iload_n (pc := 12) 1 rfl (daX11_placesOf_0 8 rfl) rfl ?_
  refine GM_iconst (pc := 13) 1 (daX11_placesOf_0 9 rfl) rfl (R32_b rfl) ?_
  refine GM_iadd (pc := 14) (daX11_placesOf_0 10 rfl) ?_
  obtain ⟨hc3, h⟩ := chk_inv h
  refine GM_iald (pc := 15) (daX11_placesOf_0 11 rfl) hc2.1 hc3.1 hc3.2 ?_
  refine GM_imul (pc := 16) (daX11_placesOf_0 12 rfl) ?_
  cases h
  exact GM_iret (pc := 17) (daX11_placesOf_0 13 rfl) rfl hK
theorem tX11_placesOf (l : Launch) {v0 v1 : Int} {μ : Mm} {t : Int} (h : fX11_placesOf v0 v1 μ = some t) : Ct l yX11_placesOf mX11_placesOf [(3, v0), (0, v1)] μ ([(0, t)], μ, 0, 0) :=
  Ct_of (by decide +kernel) rfl rfl (Nat.le_of_ble_eq_true rfl) (fun _ _ _ => trivial) (gX11_placesOf_0 l h ⟨rfl, rfl⟩)
def mX11_isPlace : MI := (RX11, cX11_isPlace, 3, (some .boolean), "isPlace", 2, 44, fun _ _ _ => True)
theorem cwX11_isPlace : CWd yX11_isPlace mX11_isPlace 2 := ⟨ki_X11, kk_X11_isPlace, ⟨by decide, by decide⟩, rfl⟩
def dtX11_isPlace_0 : List (Nat × Instr × Nat) := [(0, .aload_n 0, 1), (1, .iconst 0, 1), (2, .iload_n 1, 1), (3, .invokevirtual 182, 3), (6, .ifCond .eq 26, 3), (9, .iload_n 2, 1), (10, .iconst 0, 1), (11, .aload_n 0, 1), (12, .iconst 0, 1), (13, .iload_n 1, 1), (14, .invokestatic 204, 3), (17, .invokevirtual 207, 3), (20, .iconst 1, 1), (21, .isub, 1), (22, .invokestatic 147, 3), (25, .ifCond .eq 7, 3), (28, .iconst 1, 1), (29, .goto 4, 3), (32, .iconst 0, 1), (33, .ireturn, 1)]
theorem ddX11_isPlace_0 : (dtX11_isPlace_0.all fun e => decide (decode mX11_isPlace.2.1 e.1 = .ok (e.2.1, e.2.2))) = true := by decide +kernel
theorem daX11_isPlace_0 (j : Nat) {pc n : Nat} {i : Instr} (h : dtX11_isPlace_0[j]? = some (pc, i, n)) : decode mX11_isPlace.2.1 pc = .ok (i, n) := dec_of (c := mX11_isPlace.2.1) ddX11_isPlace_0 h
def fX11_isPlace (v0 v1 v2 : Int) (μ : Mm) : Option Int :=
  chk (KD v0 = 11) (
  (fX11_isOf v0 0 v1 μ).bind fun r2 =>
  if r2 = 0 then
    some 0
  else
    (fX11_placeOf 0 v1).bind fun r4 =>
    (fX11_placesOf v0 r4 μ).bind fun r5 =>
    if isIn v2 0 (w32 (r5 - 1)) = 0 then
      some 0
    else
      some 1)
set_option maxRecDepth 20000 in
theorem gX11_isPlace_0 (l : Launch) {F : FI} {v0 v1 v2 : Int} {μ : Mm} {t : Int} (h : fX11_isPlace v0 v1 v2 μ = some t) (hK : F.1 = [(0, t)] ∧ F.2.1 = μ) : GM l mX11_isPlace F 0 0 0 [(0, (3, v0)), (1, (0, v1)), (2, (0, v2))] [] μ := by
  unfold fX11_isPlace at h
  refine GM_aload_n (pc := 0) 0 rfl (daX11_isPlace_0 0 rfl) rfl ?_
  refine GM_iconst (pc := 1) 0 (daX11_isPlace_0 1 rfl) rfl (R32_b rfl) ?_
  refine GM_iload_n (pc := 2) 1 rfl (daX11_isPlace_0 2 rfl) rfl ?_
  obtain ⟨hc1, h⟩ := chk_inv h
  obtain ⟨r2, hf2, h⟩ := Option.bind_eq_some_iff.mp h
  refine GM_callV0 (pc := 3) [(0, 0), (0, v1)] (tX11_isOf l hf2) cwX11_isOf 11 (Nat.le_of_ble_eq_true rfl) rfl kv_X11_isOf ke_X11_isOf km_X11_182 hc1 ⟨Nat.le_of_ble_eq_true rfl, Nat.le_of_ble_eq_true rfl⟩ (Nat.le_of_ble_eq_true rfl) (Nat.le_of_ble_eq_true rfl) (daX11_isPlace_0 3 rfl) ?_
  refine GM_if_eq (pc := 6) 32 (daX11_isPlace_0 4 rfl) rfl (fun c3 => ?_) (fun c3 => ?_)
  · skip
    rw [if_pos c3] at h
    refine GM_iconst (pc := 32) 0 (daX11_isPlace_0 18 rfl) rfl (R32_b rfl) ?_
    cases h
    exact GM_zret (pc := 33) (daX11_isPlace_0 19 rfl) rfl (Or.inl rfl) hK
  · skip
    rw [if_neg c3] at h
    refine GM_iload_n (pc := 9) 2 rfl (daX11_isPlace_0 5 rfl) rfl ?_
    refine GM_iconst (pc := 10) 0 (daX11_isPlace_0 6 rfl) rfl (R32_b rfl) ?_
    refine GM_aload_n (pc := 11) 0 rfl (daX11_isPlace_0 7 rfl) rfl ?_
    refine GM_iconst (pc := 12) 0 (daX11_isPlace_0 8 rfl) rfl (R32_b rfl) ?_
    refine GM_iload_n (pc := 13) 1 rfl (daX11_isPlace_0 9 rfl) rfl ?_
    obtain ⟨r4, hf4, h⟩ := Option.bind_eq_some_iff.mp h
    refine GM_callS0 (pc := 14) [(0, 0), (0, v1)] (tX11_placeOf l hf4) cwX11_placeOf ks_X11_placeOf km_X11_204 ⟨Nat.le_of_ble_eq_true rfl, Nat.le_of_ble_eq_true rfl⟩ (Nat.le_of_ble_eq_true rfl) (Nat.le_of_ble_eq_true rfl) (daX11_isPlace_0 10 rfl) ?_
    obtain ⟨r5, hf5, h⟩ := Option.bind_eq_some_iff.mp h
    refine GM_callV0 (pc := 17) [(0, r4)] (tX11_placesOf l hf5) cwX11_placesOf 11 (Nat.le_of_ble_eq_true rfl) rfl kv_X11_placesOf ke_X11_placesOf km_X11_207 hc1 ⟨Nat.le_of_ble_eq_true rfl, Nat.le_of_ble_eq_true rfl⟩ (Nat.le_of_ble_eq_true rfl) (Nat.le_of_ble_eq_true rfl) (daX11_isPlace_0 11 rfl) ?_
    refine GM_iconst (pc := 20) 1 (daX11_isPlace_0 12 rfl) rfl (R32_b rfl) ?_
    refine GM_isub (pc := 21) (daX11_isPlace_0 13 rfl) ?_
    refine GM_callS0 (pc := 22) [(0, v2), (0, 0), (0, w32 (r5 - 1))] (tX11_isIn l (fX11_isIn_eq v2 0 (w32 (r5 - 1)))) cwX11_isIn ks_X11_isIn km_X11_147 ⟨Nat.le_of_ble_eq_true rfl, Nat.le_of_ble_eq_true rfl⟩ (Nat.le_of_ble_eq_true rfl) (Nat.le_of_ble_eq_true rfl) (daX11_isPlace_0 14 rfl) ?_
    refine GM_if_eq (pc := 25) 32 (daX11_isPlace_0 15 rfl) rfl (fun c6 => ?_) (fun c6 => ?_)
    · skip
      rw [if_pos c6] at h
      refine GM_iconst (pc := 32) 0 (daX11_isPlace_0 18 rfl) rfl (R32_b rfl) ?_
      cases h
      exact GM_zret (pc := 33) (daX11_isPlace_0 19 rfl) rfl (Or.inl rfl) hK
    · skip
      rw [if_neg c6] at h
      refine GM_iconst (pc := 28) 1 (daX11_isPlace_0 16 rfl) rfl (R32_b rfl) ?_
      refine GM_goto (pc := 29) 33 (daX11_isPlace_0 17 rfl) rfl ?_
      cases h
      exact GM_zret (pc := 33) (daX11_isPlace_0 19 rfl) rfl (Or.inr rfl) hK
theorem tX11_isPlace (l : Launch) {v0 v1 v2 : Int} {μ : Mm} {t : Int} (h : fX11_isPlace v0 v1 v2 μ = some t) : Ct l yX11_isPlace mX11_isPlace [(3, v0), (0, v1), (0, v2)] μ ([(0, t)], μ, 0, 0) :=
  Ct_of (by decide +kernel) rfl rfl (Nat.le_of_ble_eq_true rfl) (fun _ _ _ => trivial) (gX11_isPlace_0 l h ⟨rfl, rfl⟩)
def mX11_land : MI := (RX11, cX11_land, 5, (some .int), "land", 2, 44, fun _ _ _ => True)
theorem cwX11_land : CWd yX11_land mX11_land 2 := ⟨ki_X11, kk_X11_land, ⟨by decide, by decide⟩, rfl⟩
def dtX11_land_0 : List (Nat × Instr × Nat) := [(0, .aload_n 0, 1), (1, .iconst 0, 1), (2, .iload_n 1, 1), (3, .invokevirtual 182, 3), (6, .ifCond .ne 5, 3), (9, .iconst (-1), 1), (10, .ireturn, 1), (11, .iconst 0, 1), (12, .iload_n 1, 1), (13, .invokestatic 204, 3), (16, .istore_n 3, 1), (17, .iload_n 2, 1), (18, .iconst 0, 1), (19, .iconst 5, 1), (20, .invokestatic 147, 3), (23, .ifCond .eq 12, 3), (26, .aload_n 0, 1), (27, .getfield 7, 3), (30, .iload_n 3, 1), (31, .iload_n 2, 1), (32, .iadd, 1), (33, .iaload, 1), (34, .ireturn, 1), (35, .iload_n 2, 1), (36, .bipush 30, 2), (38, .if_icmp .ge 10, 3), (41, .iload_n 2, 1), (42, .bipush 10, 2), (44, .isub, 1), (45, .goto 33, 3), (48, .iload_n 2, 1), (49, .bipush 50, 2), (51, .if_icmp .ge 10, 3), (54, .iload_n 2, 1), (55, .bipush 30, 2), (57, .isub, 1), (58, .goto 20, 3), (61, .iload_n 2, 1), (62, .bipush 70, 2), (64, .if_icmp .ge 10, 3), (67, .iload_n 2, 1), (68, .bipush 50, 2), (70, .isub, 1), (71, .goto 7, 3), (74, .iload_n 2, 1), (75, .bipush 70, 2), (77, .isub, 1), (78, .istore 4, 2), (80, .iload_n 2, 1), (81, .bipush 10, 2), (83, .if_icmp .lt 22, 3), (86, .iload 4, 2), (88, .iconst 0, 1), (89, .aload_n 0, 1), (90, .getfield 7, 3), (93, .iload_n 3, 1), (94, .iconst 5, 1), (95, .iadd, 1), (96, .iaload, 1), (97, .iconst 1, 1), (98, .isub, 1), (99, .invokestatic 147, 3), (102, .ifCond .ne 5, 3), (105, .iconst (-1), 1)]
theorem ddX11_land_0 : (dtX11_land_0.all fun e => decide (decode mX11_land.2.1 e.1 = .ok (e.2.1, e.2.2))) = true := by decide +kernel
theorem daX11_land_0 (j : Nat) {pc n : Nat} {i : Instr} (h : dtX11_land_0[j]? = some (pc, i, n)) : decode mX11_land.2.1 pc = .ok (i, n) := dec_of (c := mX11_land.2.1) ddX11_land_0 h
def dtX11_land_1 : List (Nat × Instr × Nat) := [(106, .ireturn, 1), (107, .aload_n 0, 1), (108, .getfield 7, 3), (111, .iload_n 3, 1), (112, .sipush 150, 3), (115, .iadd, 1), (116, .iconst 4, 1), (117, .iload 4, 2), (119, .imul, 1), (120, .iadd, 1), (121, .iload_n 2, 1), (122, .bipush 30, 2), (124, .if_icmp .ge 7, 3), (127, .iconst 1, 1), (128, .goto 24, 3), (131, .iload_n 2, 1), (132, .bipush 50, 2), (134, .if_icmp .ge 7, 3), (137, .iconst 0, 1), (138, .goto 14, 3), (141, .iload_n 2, 1), (142, .bipush 70, 2), (144, .if_icmp .ge 7, 3), (147, .iconst 2, 1), (148, .goto 4, 3), (151, .iconst 3, 1), (152, .iadd, 1), (153, .iaload, 1), (154, .ireturn, 1)]
theorem ddX11_land_1 : (dtX11_land_1.all fun e => decide (decode mX11_land.2.1 e.1 = .ok (e.2.1, e.2.2))) = true := by decide +kernel
theorem daX11_land_1 (j : Nat) {pc n : Nat} {i : Instr} (h : dtX11_land_1[j]? = some (pc, i, n)) : decode mX11_land.2.1 pc = .ok (i, n) := dec_of (c := mX11_land.2.1) ddX11_land_1 h
def jX11_land_78 (v0 v2 v3 s0 : Int) (μ : Mm) : Option Int :=
  if v2 < 10 then
    some (-1)
  else
    chk (KD v0 = 11) (
    chk (KD (μ v0 0) = 12 ∧ 0 ≤ w32 (v3 + 5) ∧ w32 (v3 + 5) < LN (μ v0 0)) (
    if isIn s0 0 (w32 ((μ (μ v0 0) (w32 (v3 + 5))) - 1)) = 0 then
      some (-1)
    else
      if 30 ≤ v2 then
        if 50 ≤ v2 then
          if 70 ≤ v2 then
            chk (0 ≤ w32 ((w32 ((w32 (v3 + 150)) + (w32 (4 * s0)))) + 3) ∧ w32 ((w32 ((w32 (v3 + 150)) + (w32 (4 * s0)))) + 3) < LN (μ v0 0)) (
            some (μ (μ v0 0) (w32 ((w32 ((w32 (v3 + 150)) + (w32 (4 * s0)))) + 3))))
          else
            chk (0 ≤ w32 ((w32 ((w32 (v3 + 150)) + (w32 (4 * s0)))) + 2) ∧ w32 ((w32 ((w32 (v3 + 150)) + (w32 (4 * s0)))) + 2) < LN (μ v0 0)) (
            some (μ (μ v0 0) (w32 ((w32 ((w32 (v3 + 150)) + (w32 (4 * s0)))) + 2))))
        else
          chk (0 ≤ w32 ((w32 ((w32 (v3 + 150)) + (w32 (4 * s0)))) + 0) ∧ w32 ((w32 ((w32 (v3 + 150)) + (w32 (4 * s0)))) + 0) < LN (μ v0 0)) (
          some (μ (μ v0 0) (w32 ((w32 ((w32 (v3 + 150)) + (w32 (4 * s0)))) + 0))))
      else
        chk (0 ≤ w32 ((w32 ((w32 (v3 + 150)) + (w32 (4 * s0)))) + 1) ∧ w32 ((w32 ((w32 (v3 + 150)) + (w32 (4 * s0)))) + 1) < LN (μ v0 0)) (
        some (μ (μ v0 0) (w32 ((w32 ((w32 (v3 + 150)) + (w32 (4 * s0)))) + 1))))))
def fX11_land (v0 v1 v2 : Int) (μ : Mm) : Option Int :=
  chk (KD v0 = 11) (
  (fX11_isOf v0 0 v1 μ).bind fun r13 =>
  if r13 = 0 then
    some (-1)
  else
    (fX11_placeOf 0 v1).bind fun r15 =>
    if isIn v2 0 5 = 0 then
      if 30 ≤ v2 then
        if 50 ≤ v2 then
          if 70 ≤ v2 then
            jX11_land_78 v0 v2 r15 (w32 (v2 - 70)) μ
          else
            jX11_land_78 v0 v2 r15 (w32 (v2 - 50)) μ
        else
          jX11_land_78 v0 v2 r15 (w32 (v2 - 30)) μ
      else
        jX11_land_78 v0 v2 r15 (w32 (v2 - 10)) μ
    else
      chk (KD (μ v0 0) = 12 ∧ 0 ≤ w32 (r15 + v2) ∧ w32 (r15 + v2) < LN (μ v0 0)) (
      some (μ (μ v0 0) (w32 (r15 + v2)))))
set_option maxRecDepth 20000 in
theorem gX11_land_78 (l : Launch) {F : FI} {v0 v2 v3 s0 : Int} {μ : Mm} {t : Int} (h : jX11_land_78 v0 v2 v3 s0 μ = some t) (hK : F.1 = [(0, t)] ∧ F.2.1 = μ) : GM l mX11_land F 0 0 78 [(0, (3, v0)), (2, (0, v2)), (3, (0, v3))] [(0, s0)] μ := by
  unfold jX11_land_78 at h
  refine GM_istore (L' := [(4, (0, s0)), (0, (3, v0)), (2, (0, v2)), (3, (0, v3))]) (pc := 78) (daX11_land_0 47 rfl) (Nat.le_of_ble_eq_true rfl) rfl ?_
  refine GM_iload_n (pc := 80) 2 rfl (daX11_land_0 48 rfl) rfl ?_
  refine GM_bipush (pc := 81) 10 (daX11_land_0 49 rfl) rfl (R32_b rfl) ?_
  refine GM_icmp_lt (pc := 83) 105 (daX11_land_0 50 rfl) rfl (fun c1 => ?_) (fun c1 => ?_)
  · skip
    rw [if_pos c1] at h
    refine GM_iconst (pc := 105) (-1) (daX11_land_0 63 rfl) rfl (R32_b rfl) ?_
    cases h
    exact GM_iret (pc := 106) (daX11_land_1 0 rfl) rfl hK
  · skip
    rw [if_neg c1] at h
    refine GM_iload (pc := 86) 0 rfl (daX11_land_0 51 rfl) ?_
    refine GM_iconst (pc := 88) 0 (daX11_land_0 52 rfl) rfl (R32_b rfl) ?_
    refine GM_aload_n (pc := 89) 1 rfl (daX11_land_0 53 rfl) rfl ?_
    obtain ⟨hc2, h⟩ := chk_inv h
    refine GM_getf (pc := 90) 11 0 3 0 kf_X11_7 (Nat.le_of_ble_eq_true rfl) (Nat.le_of_ble_eq_true rfl) rfl (daX11_land_0 54 rfl) hc2 rfl ?_
    refine GM_iload_n (pc := 93) 3 rfl (daX11_land_0 55 rfl) rfl ?_
    refine GM_iconst (pc := 94) 5 (daX11_land_0 56 rfl) rfl (R32_b rfl) ?_
    refine GM_iadd (pc := 95) (daX11_land_0 57 rfl) ?_
    obtain ⟨hc3, h⟩ := chk_inv h
    refine GM_iald (pc := 96) (daX11_land_0 58 rfl) hc3.1 hc3.2.1 hc3.2.2 ?_
    refine GM_iconst (pc := 97) 1 (daX11_land_0 59 rfl) rfl (R32_b rfl) ?_
    refine GM_isub (pc := 98) (daX11_land_0 60 rfl) ?_
    refine GM_callS0 (pc := 99) [(0, s0), (0, 0), (0, w32 ((μ (μ v0 0) (w32 (v3 + 5))) - 1))] (tX11_isIn l (fX11_isIn_eq s0 0 (w32 ((μ (μ v0 0) (w32 (v3 + 5))) - 1)))) cwX11_isIn ks_X11_isIn km_X11_147 ⟨Nat.le_of_ble_eq_true rfl, Nat.le_of_ble_eq_true rfl⟩ (Nat.le_of_ble_eq_true rfl) (Nat.le_of_ble_eq_true rfl) (daX11_land_0 61 rfl) ?_
    refine GM_if_ne (pc := 102) 107 (daX11_land_0 62 rfl) rfl (fun c4 => ?_) (fun c4 => ?_)
    · skip
      rw [if_neg c4] at h
      refine GM_aload_n (pc := 107) 1 rfl (daX11_land_1 1 rfl) rfl ?_
      refine GM_getf (pc := 108) 11 0 3 0 kf_X11_7 (Nat.le_of_ble_eq_true rfl) (Nat.le_of_ble_eq_true rfl) rfl (daX11_land_1 2 rfl) hc2 rfl ?_
      refine GM_iload_n (pc := 111) 3 rfl (daX11_land_1 3 rfl) rfl ?_
      refine GM_sipush (pc := 112) 150 (daX11_land_1 4 rfl) rfl (R32_b rfl) ?_
      refine GM_iadd (pc := 115) (daX11_land_1 5 rfl) ?_
      refine GM_iconst (pc := 116) 4 (daX11_land_1 6 rfl) rfl (R32_b rfl) ?_
      refine GM_iload (pc := 117) 0 rfl (daX11_land_1 7 rfl) ?_
      refine GM_imul (pc := 119) (daX11_land_1 8 rfl) ?_
      refine GM_iadd (pc := 120) (daX11_land_1 9 rfl) ?_
      refine GM_iload_n (pc := 121) 2 rfl (daX11_land_1 10 rfl) rfl ?_
      refine GM_bipush (pc := 122) 30 (daX11_land_1 11 rfl) rfl (R32_b rfl) ?_
      refine GM_icmp_ge (pc := 124) 131 (daX11_land_1 12 rfl) rfl (fun c5 => ?_) (fun c5 => ?_)
      · skip
        rw [if_pos c5] at h
        refine GM_iload_n (pc := 131) 2 rfl (daX11_land_1 15 rfl) rfl ?_
        refine GM_bipush (pc := 132) 50 (daX11_land_1 16 rfl) rfl (R32_b rfl) ?_
        refine GM_icmp_ge (pc := 134) 141 (daX11_land_1 17 rfl) rfl (fun c6 => ?_) (fun c6 => ?_)
        · skip
          rw [if_pos c6] at h
          refine GM_iload_n (pc := 141) 2 rfl (daX11_land_1 20 rfl) rfl ?_
          refine GM_bipush (pc := 142) 70 (daX11_land_1 21 rfl) rfl (R32_b rfl) ?_
          refine GM_icmp_ge (pc := 144) 151 (daX11_land_1 22 rfl) rfl (fun c7 => ?_) (fun c7 => ?_)
          · skip
            rw [if_pos c7] at h
            refine GM_iconst (pc := 151) 3 (daX11_land_1 25 rfl) rfl (R32_b rfl) ?_
            refine GM_iadd (pc := 152) (daX11_land_1 26 rfl) ?_
            obtain ⟨hc8, h⟩ := chk_inv h
            refine GM_iald (pc := 153) (daX11_land_1 27 rfl) hc3.1 hc8.1 hc8.2 ?_
            cases h
            exact GM_iret (pc := 154) (daX11_land_1 28 rfl) rfl hK
          · skip
            rw [if_neg c7] at h
            refine GM_iconst (pc := 147) 2 (daX11_land_1 23 rfl) rfl (R32_b rfl) ?_
            refine GM_goto (pc := 148) 152 (daX11_land_1 24 rfl) rfl ?_
            refine GM_iadd (pc := 152) (daX11_land_1 26 rfl) ?_
            obtain ⟨hc9, h⟩ := chk_inv h
            refine GM_iald (pc := 153) (daX11_land_1 27 rfl) hc3.1 hc9.1 hc9.2 ?_
            cases h
            exact GM_iret (pc := 154) (daX11_land_1 28 rfl) rfl hK
        · skip
          rw [if_neg c6] at h
          refine GM_iconst (pc := 137) 0 (daX11_land_1 18 rfl) rfl (R32_b rfl) ?_
          refine GM_goto (pc := 138) 152 (daX11_land_1 19 rfl) rfl ?_
          refine GM_iadd (pc := 152) (daX11_land_1 26 rfl) ?_
          obtain ⟨hc10, h⟩ := chk_inv h
          refine GM_iald (pc := 153) (daX11_land_1 27 rfl) hc3.1 hc10.1 hc10.2 ?_
          cases h
          exact GM_iret (pc := 154) (daX11_land_1 28 rfl) rfl hK
      · skip
        rw [if_neg c5] at h
        refine GM_iconst (pc := 127) 1 (daX11_land_1 13 rfl) rfl (R32_b rfl) ?_
        refine GM_goto (pc := 128) 152 (daX11_land_1 14 rfl) rfl ?_
        refine GM_iadd (pc := 152) (daX11_land_1 26 rfl) ?_
        obtain ⟨hc11, h⟩ := chk_inv h
        refine GM_iald (pc := 153) (daX11_land_1 27 rfl) hc3.1 hc11.1 hc11.2 ?_
        cases h
        exact GM_iret (pc := 154) (daX11_land_1 28 rfl) rfl hK
    · skip
      rw [if_pos c4] at h
      refine GM_iconst (pc := 105) (-1) (daX11_land_0 63 rfl) rfl (R32_b rfl) ?_
      cases h
      exact GM_iret (pc := 106) (daX11_land_1 0 rfl) rfl hK
set_option maxRecDepth 20000 in
theorem gX11_land_0 (l : Launch) {F : FI} {v0 v1 v2 : Int} {μ : Mm} {t : Int} (h : fX11_land v0 v1 v2 μ = some t) (hK : F.1 = [(0, t)] ∧ F.2.1 = μ) : GM l mX11_land F 0 0 0 [(0, (3, v0)), (1, (0, v1)), (2, (0, v2))] [] μ := by
  unfold fX11_land at h
  refine GM_aload_n (pc := 0) 0 rfl (daX11_land_0 0 rfl) rfl ?_
  refine GM_iconst (pc := 1) 0 (daX11_land_0 1 rfl) rfl (R32_b rfl) ?_
  refine GM_iload_n (pc := 2) 1 rfl (daX11_land_0 2 rfl) rfl ?_
  obtain ⟨hc12, h⟩ := chk_inv h
  obtain ⟨r13, hf13, h⟩ := Option.bind_eq_some_iff.mp h
  refine GM_callV0 (pc := 3) [(0, 0), (0, v1)] (tX11_isOf l hf13) cwX11_isOf 11 (Nat.le_of_ble_eq_true rfl) rfl kv_X11_isOf ke_X11_isOf km_X11_182 hc12 ⟨Nat.le_of_ble_eq_true rfl, Nat.le_of_ble_eq_true rfl⟩ (Nat.le_of_ble_eq_true rfl) (Nat.le_of_ble_eq_true rfl) (daX11_land_0 3 rfl) ?_
  refine GM_if_ne (pc := 6) 11 (daX11_land_0 4 rfl) rfl (fun c14 => ?_) (fun c14 => ?_)
  · skip
    rw [if_neg c14] at h
    refine GM_iconst (pc := 11) 0 (daX11_land_0 7 rfl) rfl (R32_b rfl) ?_
    refine GM_iload_n (pc := 12) 1 rfl (daX11_land_0 8 rfl) rfl ?_
    obtain ⟨r15, hf15, h⟩ := Option.bind_eq_some_iff.mp h
    refine GM_callS0 (pc := 13) [(0, 0), (0, v1)] (tX11_placeOf l hf15) cwX11_placeOf ks_X11_placeOf km_X11_204 ⟨Nat.le_of_ble_eq_true rfl, Nat.le_of_ble_eq_true rfl⟩ (Nat.le_of_ble_eq_true rfl) (Nat.le_of_ble_eq_true rfl) (daX11_land_0 9 rfl) ?_
    refine GM_istore_n (L' := [(3, (0, r15)), (0, (3, v0)), (1, (0, v1)), (2, (0, v2))]) (pc := 16) (daX11_land_0 10 rfl) rfl (Nat.le_of_ble_eq_true rfl) rfl ?_
    refine GM_iload_n (pc := 17) 3 rfl (daX11_land_0 11 rfl) rfl ?_
    refine GM_iconst (pc := 18) 0 (daX11_land_0 12 rfl) rfl (R32_b rfl) ?_
    refine GM_iconst (pc := 19) 5 (daX11_land_0 13 rfl) rfl (R32_b rfl) ?_
    refine GM_callS0 (pc := 20) [(0, v2), (0, 0), (0, 5)] (tX11_isIn l (fX11_isIn_eq v2 0 5)) cwX11_isIn ks_X11_isIn km_X11_147 ⟨Nat.le_of_ble_eq_true rfl, Nat.le_of_ble_eq_true rfl⟩ (Nat.le_of_ble_eq_true rfl) (Nat.le_of_ble_eq_true rfl) (daX11_land_0 14 rfl) ?_
    refine GM_if_eq (pc := 23) 35 (daX11_land_0 15 rfl) rfl (fun c16 => ?_) (fun c16 => ?_)
    · skip
      rw [if_pos c16] at h
      refine GM_iload_n (pc := 35) 3 rfl (daX11_land_0 23 rfl) rfl ?_
      refine GM_bipush (pc := 36) 30 (daX11_land_0 24 rfl) rfl (R32_b rfl) ?_
      refine GM_icmp_ge (pc := 38) 48 (daX11_land_0 25 rfl) rfl (fun c17 => ?_) (fun c17 => ?_)
      · skip
        rw [if_pos c17] at h
        refine GM_iload_n (pc := 48) 3 rfl (daX11_land_0 30 rfl) rfl ?_
        refine GM_bipush (pc := 49) 50 (daX11_land_0 31 rfl) rfl (R32_b rfl) ?_
        refine GM_icmp_ge (pc := 51) 61 (daX11_land_0 32 rfl) rfl (fun c18 => ?_) (fun c18 => ?_)
        · skip
          rw [if_pos c18] at h
          refine GM_iload_n (pc := 61) 3 rfl (daX11_land_0 37 rfl) rfl ?_
          refine GM_bipush (pc := 62) 70 (daX11_land_0 38 rfl) rfl (R32_b rfl) ?_
          refine GM_icmp_ge (pc := 64) 74 (daX11_land_0 39 rfl) rfl (fun c19 => ?_) (fun c19 => ?_)
          · skip
            rw [if_pos c19] at h
            refine GM_iload_n (pc := 74) 3 rfl (daX11_land_0 44 rfl) rfl ?_
            refine GM_bipush (pc := 75) 70 (daX11_land_0 45 rfl) rfl (R32_b rfl) ?_
            refine GM_isub (pc := 77) (daX11_land_0 46 rfl) ?_
            refine GM_pick [1, 3, 0] rfl ?_
            exact gX11_land_78 l h hK
          · skip
            rw [if_neg c19] at h
            refine GM_iload_n (pc := 67) 3 rfl (daX11_land_0 40 rfl) rfl ?_
            refine GM_bipush (pc := 68) 50 (daX11_land_0 41 rfl) rfl (R32_b rfl) ?_
            refine GM_isub (pc := 70) (daX11_land_0 42 rfl) ?_
            refine GM_goto (pc := 71) 78 (daX11_land_0 43 rfl) rfl ?_
            refine GM_pick [1, 3, 0] rfl ?_
            exact gX11_land_78 l h hK
        · skip
          rw [if_neg c18] at h
          refine GM_iload_n (pc := 54) 3 rfl (daX11_land_0 33 rfl) rfl ?_
          refine GM_bipush (pc := 55) 30 (daX11_land_0 34 rfl) rfl (R32_b rfl) ?_
          refine GM_isub (pc := 57) (daX11_land_0 35 rfl) ?_
          refine GM_goto (pc := 58) 78 (daX11_land_0 36 rfl) rfl ?_
          refine GM_pick [1, 3, 0] rfl ?_
          exact gX11_land_78 l h hK
      · skip
        rw [if_neg c17] at h
        refine GM_iload_n (pc := 41) 3 rfl (daX11_land_0 26 rfl) rfl ?_
        refine GM_bipush (pc := 42) 10 (daX11_land_0 27 rfl) rfl (R32_b rfl) ?_
        refine GM_isub (pc := 44) (daX11_land_0 28 rfl) ?_
        refine GM_goto (pc := 45) 78 (daX11_land_0 29 rfl) rfl ?_
        refine GM_pick [1, 3, 0] rfl ?_
        exact gX11_land_78 l h hK
    · skip
      rw [if_neg c16] at h
      refine GM_aload_n (pc := 26) 1 rfl (daX11_land_0 16 rfl) rfl ?_
      refine GM_getf (pc := 27) 11 0 3 0 kf_X11_7 (Nat.le_of_ble_eq_true rfl) (Nat.le_of_ble_eq_true rfl) rfl (daX11_land_0 17 rfl) hc12 rfl ?_
      refine GM_iload_n (pc := 30) 0 rfl (daX11_land_0 18 rfl) rfl ?_
      refine GM_iload_n (pc := 31) 3 rfl (daX11_land_0 19 rfl) rfl ?_
      refine GM_iadd (pc := 32) (daX11_land_0 20 rfl) ?_
      obtain ⟨hc20, h⟩ := chk_inv h
      refine GM_iald (pc := 33) (daX11_land_0 21 rfl) hc20.1 hc20.2.1 hc20.2.2 ?_
      cases h
      exact GM_iret (pc := 34) (daX11_land_0 22 rfl) rfl hK
  · skip
    rw [if_pos c14] at h
    refine GM_iconst (pc := 9) (-1) (daX11_land_0 5 rfl) rfl (R32_b rfl) ?_
    cases h
    exact GM_iret (pc := 10) (daX11_land_0 6 rfl) rfl hK
theorem tX11_land (l : Launch) {v0 v1 v2 : Int} {μ : Mm} {t : Int} (h : fX11_land v0 v1 v2 μ = some t) : Ct l yX11_land mX11_land [(3, v0), (0, v1), (0, v2)] μ ([(0, t)], μ, 0, 0) :=
  Ct_of (by decide +kernel) rfl rfl (Nat.le_of_ble_eq_true rfl) (fun _ _ _ => trivial) (gX11_land_0 l h ⟨rfl, rfl⟩)
def mX11_height : MI := (RX11, cX11_height, 3, (some .int), "height", 3, 66, fun _ _ _ => True)
theorem cwX11_height : CWd yX11_height mX11_height 2 := ⟨ki_X11, kk_X11_height, ⟨by decide, by decide⟩, rfl⟩
def dtX11_height_0 : List (Nat × Instr × Nat) := [(0, .aload_n 0, 1), (1, .iload_n 1, 1), (2, .iload_n 2, 1), (3, .invokevirtual 210, 3), (6, .ifCond .eq 21, 3), (9, .aload_n 0, 1), (10, .getfield 7, 3), (13, .iconst 0, 1), (14, .iload_n 1, 1), (15, .invokestatic 204, 3), (18, .bipush 6, 2), (20, .iadd, 1), (21, .iload_n 2, 1), (22, .iadd, 1), (23, .iaload, 1), (24, .goto 4, 3), (27, .iconst (-1), 1), (28, .ireturn, 1)]
theorem ddX11_height_0 : (dtX11_height_0.all fun e => decide (decode mX11_height.2.1 e.1 = .ok (e.2.1, e.2.2))) = true := by decide +kernel
theorem daX11_height_0 (j : Nat) {pc n : Nat} {i : Instr} (h : dtX11_height_0[j]? = some (pc, i, n)) : decode mX11_height.2.1 pc = .ok (i, n) := dec_of (c := mX11_height.2.1) ddX11_height_0 h
def fX11_height (v0 v1 v2 : Int) (μ : Mm) : Option Int :=
  chk (KD v0 = 11) (
  (fX11_isPlace v0 v1 v2 μ).bind fun r2 =>
  if r2 = 0 then
    some (-1)
  else
    (fX11_placeOf 0 v1).bind fun r4 =>
    chk (KD (μ v0 0) = 12 ∧ 0 ≤ w32 ((w32 (r4 + 6)) + v2) ∧ w32 ((w32 (r4 + 6)) + v2) < LN (μ v0 0)) (
    some (μ (μ v0 0) (w32 ((w32 (r4 + 6)) + v2)))))
set_option maxRecDepth 20000 in
theorem gX11_height_0 (l : Launch) {F : FI} {v0 v1 v2 : Int} {μ : Mm} {t : Int} (h : fX11_height v0 v1 v2 μ = some t) (hK : F.1 = [(0, t)] ∧ F.2.1 = μ) : GM l mX11_height F 0 0 0 [(0, (3, v0)), (1, (0, v1)), (2, (0, v2))] [] μ := by
  unfold fX11_height at h
  refine GM_aload_n (pc := 0) 0 rfl (daX11_height_0 0 rfl) rfl ?_
  refine GM_iload_n (pc := 1) 1 rfl (daX11_height_0 1 rfl) rfl ?_
  refine GM_iload_n (pc := 2) 2 rfl (daX11_height_0 2 rfl) rfl ?_
  obtain ⟨hc1, h⟩ := chk_inv h
  obtain ⟨r2, hf2, h⟩ := Option.bind_eq_some_iff.mp h
  refine GM_callV0 (pc := 3) [(0, v1), (0, v2)] (tX11_isPlace l hf2) cwX11_isPlace 11 (Nat.le_of_ble_eq_true rfl) rfl kv_X11_isPlace ke_X11_isPlace km_X11_210 hc1 ⟨Nat.le_of_ble_eq_true rfl, Nat.le_of_ble_eq_true rfl⟩ (Nat.le_of_ble_eq_true rfl) (Nat.le_of_ble_eq_true rfl) (daX11_height_0 3 rfl) ?_
  refine GM_if_eq (pc := 6) 27 (daX11_height_0 4 rfl) rfl (fun c3 => ?_) (fun c3 => ?_)
  · skip
    rw [if_pos c3] at h
    refine GM_iconst (pc := 27) (-1) (daX11_height_0 16 rfl) rfl (R32_b rfl) ?_
    cases h
    exact GM_iret (pc := 28) (daX11_height_0 17 rfl) rfl hK
  · skip
    rw [if_neg c3] at h
    refine GM_aload_n (pc := 9) 0 rfl (daX11_height_0 5 rfl) rfl ?_
    refine GM_getf (pc := 10) 11 0 3 0 kf_X11_7 (Nat.le_of_ble_eq_true rfl) (Nat.le_of_ble_eq_true rfl) rfl (daX11_height_0 6 rfl) hc1 rfl ?_
    refine GM_iconst (pc := 13) 0 (daX11_height_0 7 rfl) rfl (R32_b rfl) ?_
    refine GM_iload_n (pc := 14) 1 rfl (daX11_height_0 8 rfl) rfl ?_
    obtain ⟨r4, hf4, h⟩ := Option.bind_eq_some_iff.mp h
    refine GM_callS0 (pc := 15) [(0, 0), (0, v1)] (tX11_placeOf l hf4) cwX11_placeOf ks_X11_placeOf km_X11_204 ⟨Nat.le_of_ble_eq_true rfl, Nat.le_of_ble_eq_true rfl⟩ (Nat.le_of_ble_eq_true rfl) (Nat.le_of_ble_eq_true rfl) (daX11_height_0 9 rfl) ?_
    refine GM_bipush (pc := 18) 6 (daX11_height_0 10 rfl) rfl (R32_b rfl) ?_
    refine GM_iadd (pc := 20) (daX11_height_0 11 rfl) ?_
    refine GM_iload_n (pc := 21) 2 rfl (daX11_height_0 12 rfl) rfl ?_
    refine GM_iadd (pc := 22) (daX11_height_0 13 rfl) ?_
    obtain ⟨hc5, h⟩ := chk_inv h
    refine GM_iald (pc := 23) (daX11_height_0 14 rfl) hc5.1 hc5.2.1 hc5.2.2 ?_
    refine GM_goto (pc := 24) 28 (daX11_height_0 15 rfl) rfl ?_
    cases h
    exact GM_iret (pc := 28) (daX11_height_0 17 rfl) rfl hK
theorem tX11_height (l : Launch) {v0 v1 v2 : Int} {μ : Mm} {t : Int} (h : fX11_height v0 v1 v2 μ = some t) : Ct l yX11_height mX11_height [(3, v0), (0, v1), (0, v2)] μ ([(0, t)], μ, 0, 0) :=
  Ct_of (by decide +kernel) rfl rfl (Nat.le_of_ble_eq_true rfl) (fun _ _ _ => trivial) (gX11_height_0 l h ⟨rfl, rfl⟩)
def mX11_mend : MI := (RX11, cX11_mend, 4, (some .boolean), "mend", 3, 66, fun _ _ _ => True)
theorem cwX11_mend : CWd yX11_mend mX11_mend 3 := ⟨ki_X11, kk_X11_mend, ⟨by decide, by decide⟩, rfl⟩
def dtX11_mend_0 : List (Nat × Instr × Nat) := [(0, .aload_n 0, 1), (1, .iload_n 1, 1), (2, .iload_n 2, 1), (3, .invokevirtual 210, 3), (6, .ifCond .eq 14, 3), (9, .iload_n 3, 1), (10, .iconst 0, 1), (11, .sipush 999, 3), (14, .invokestatic 147, 3), (17, .ifCond .ne 5, 3), (20, .iconst 0, 1), (21, .ireturn, 1), (22, .aload_n 0, 1), (23, .getfield 7, 3), (26, .iconst 0, 1), (27, .iload_n 1, 1), (28, .invokestatic 204, 3), (31, .bipush 6, 2), (33, .iadd, 1), (34, .iload_n 2, 1), (35, .iadd, 1), (36, .iload_n 3, 1), (37, .iastore, 1), (38, .iconst 1, 1), (39, .ireturn, 1)]
theorem ddX11_mend_0 : (dtX11_mend_0.all fun e => decide (decode mX11_mend.2.1 e.1 = .ok (e.2.1, e.2.2))) = true := by decide +kernel
theorem daX11_mend_0 (j : Nat) {pc n : Nat} {i : Instr} (h : dtX11_mend_0[j]? = some (pc, i, n)) : decode mX11_mend.2.1 pc = .ok (i, n) := dec_of (c := mX11_mend.2.1) ddX11_mend_0 h
def fX11_mend (v0 v1 v2 v3 : Int) (μ : Mm) : Option (Int × Mm) :=
  chk (KD v0 = 11) (
  (fX11_isPlace v0 v1 v2 μ).bind fun r2 =>
  if r2 = 0 then
    some (0, μ)
  else
    if isIn v3 0 999 = 0 then
      some (0, μ)
    else
      (fX11_placeOf 0 v1).bind fun r5 =>
      chk (KD (μ v0 0) = 12 ∧ 0 ≤ w32 ((w32 (r5 + 6)) + v2) ∧ w32 ((w32 (r5 + 6)) + v2) < LN (μ v0 0)) (
      lm (mst μ (μ v0 0) (w32 ((w32 (r5 + 6)) + v2)) v3) fun μ7 =>
      some (1, μ7)))
set_option maxRecDepth 20000 in
theorem gX11_mend_0 (l : Launch) {F : FI} {v0 v1 v2 v3 : Int} {μ : Mm} {t : (Int × Mm)} (h : fX11_mend v0 v1 v2 v3 μ = some t) (hK : F.1 = [(0, t.1)] ∧ F.2.1 = t.2) : GM l mX11_mend F 0 0 0 [(0, (3, v0)), (1, (0, v1)), (2, (0, v2)), (3, (0, v3))] [] μ := by
  unfold fX11_mend at h
  refine GM_aload_n (pc := 0) 0 rfl (daX11_mend_0 0 rfl) rfl ?_
  refine GM_iload_n (pc := 1) 1 rfl (daX11_mend_0 1 rfl) rfl ?_
  refine GM_iload_n (pc := 2) 2 rfl (daX11_mend_0 2 rfl) rfl ?_
  obtain ⟨hc1, h⟩ := chk_inv h
  obtain ⟨r2, hf2, h⟩ := Option.bind_eq_some_iff.mp h
  refine GM_callV0 (pc := 3) [(0, v1), (0, v2)] (tX11_isPlace l hf2) cwX11_isPlace 11 (Nat.le_of_ble_eq_true rfl) rfl kv_X11_isPlace ke_X11_isPlace km_X11_210 hc1 ⟨Nat.le_of_ble_eq_true rfl, Nat.le_of_ble_eq_true rfl⟩ (Nat.le_of_ble_eq_true rfl) (Nat.le_of_ble_eq_true rfl) (daX11_mend_0 3 rfl) ?_
  refine GM_if_eq (pc := 6) 20 (daX11_mend_0 4 rfl) rfl (fun c3 => ?_) (fun c3 => ?_)
  · skip
    rw [if_pos c3] at h
    refine GM_iconst (pc := 20) 0 (daX11_mend_0 10 rfl) rfl (R32_b rfl) ?_
    cases h
    exact GM_zret (pc := 21) (daX11_mend_0 11 rfl) rfl (Or.inl rfl) hK
  · skip
    rw [if_neg c3] at h
    refine GM_iload_n (pc := 9) 3 rfl (daX11_mend_0 5 rfl) rfl ?_
    refine GM_iconst (pc := 10) 0 (daX11_mend_0 6 rfl) rfl (R32_b rfl) ?_
    refine GM_sipush (pc := 11) 999 (daX11_mend_0 7 rfl) rfl (R32_b rfl) ?_
    refine GM_callS0 (pc := 14) [(0, v3), (0, 0), (0, 999)] (tX11_isIn l (fX11_isIn_eq v3 0 999)) cwX11_isIn ks_X11_isIn km_X11_147 ⟨Nat.le_of_ble_eq_true rfl, Nat.le_of_ble_eq_true rfl⟩ (Nat.le_of_ble_eq_true rfl) (Nat.le_of_ble_eq_true rfl) (daX11_mend_0 8 rfl) ?_
    refine GM_if_ne (pc := 17) 22 (daX11_mend_0 9 rfl) rfl (fun c4 => ?_) (fun c4 => ?_)
    · skip
      rw [if_neg c4] at h
      refine GM_aload_n (pc := 22) 0 rfl (daX11_mend_0 12 rfl) rfl ?_
      refine GM_getf (pc := 23) 11 0 3 0 kf_X11_7 (Nat.le_of_ble_eq_true rfl) (Nat.le_of_ble_eq_true rfl) rfl (daX11_mend_0 13 rfl) hc1 rfl ?_
      refine GM_iconst (pc := 26) 0 (daX11_mend_0 14 rfl) rfl (R32_b rfl) ?_
      refine GM_iload_n (pc := 27) 1 rfl (daX11_mend_0 15 rfl) rfl ?_
      obtain ⟨r5, hf5, h⟩ := Option.bind_eq_some_iff.mp h
      refine GM_callS0 (pc := 28) [(0, 0), (0, v1)] (tX11_placeOf l hf5) cwX11_placeOf ks_X11_placeOf km_X11_204 ⟨Nat.le_of_ble_eq_true rfl, Nat.le_of_ble_eq_true rfl⟩ (Nat.le_of_ble_eq_true rfl) (Nat.le_of_ble_eq_true rfl) (daX11_mend_0 16 rfl) ?_
      refine GM_bipush (pc := 31) 6 (daX11_mend_0 17 rfl) rfl (R32_b rfl) ?_
      refine GM_iadd (pc := 33) (daX11_mend_0 18 rfl) ?_
      refine GM_iload_n (pc := 34) 2 rfl (daX11_mend_0 19 rfl) rfl ?_
      refine GM_iadd (pc := 35) (daX11_mend_0 20 rfl) ?_
      refine GM_iload_n (pc := 36) 3 rfl (daX11_mend_0 21 rfl) rfl ?_
      obtain ⟨hc6, h⟩ := chk_inv h
      obtain ⟨μ7, hμ7, h⟩ := lm_inv h
      refine GM_iast (pc := 37) (daX11_mend_0 22 rfl) hc6.1 hc6.2.1 hc6.2.2 ?_
      refine GM_mem hμ7 ?_
      refine GM_iconst (pc := 38) 1 (daX11_mend_0 23 rfl) rfl (R32_b rfl) ?_
      cases h
      exact GM_zret (pc := 39) (daX11_mend_0 24 rfl) rfl (Or.inr rfl) hK
    · skip
      rw [if_pos c4] at h
      refine GM_iconst (pc := 20) 0 (daX11_mend_0 10 rfl) rfl (R32_b rfl) ?_
      cases h
      exact GM_zret (pc := 21) (daX11_mend_0 11 rfl) rfl (Or.inl rfl) hK
theorem tX11_mend (l : Launch) {v0 v1 v2 v3 : Int} {μ : Mm} {t : (Int × Mm)} (h : fX11_mend v0 v1 v2 v3 μ = some t) : Ct l yX11_mend mX11_mend [(3, v0), (0, v1), (0, v2), (0, v3)] μ ([(0, t.1)], t.2, 0, 0) :=
  Ct_of (by decide +kernel) rfl rfl (Nat.le_of_ble_eq_true rfl) (fun _ _ _ => trivial) (gX11_mend_0 l h ⟨rfl, rfl⟩)
def mX11_sketch : MI := (RX11, cX11_sketch, 4, (some .int), "sketch", 2, 44, fun _ _ _ => True)
theorem cwX11_sketch : CWd yX11_sketch mX11_sketch 2 := ⟨ki_X11, kk_X11_sketch, ⟨by decide, by decide⟩, rfl⟩
def dtX11_sketch_0 : List (Nat × Instr × Nat) := [(0, .aload_n 0, 1), (1, .iconst 1, 1), (2, .iload_n 1, 1), (3, .invokevirtual 182, 3), (6, .ifCond .ne 5, 3), (9, .iconst (-1), 1), (10, .ireturn, 1), (11, .iconst 1, 1), (12, .iload_n 1, 1), (13, .invokestatic 204, 3), (16, .istore_n 3, 1), (17, .iload_n 2, 1), (18, .iconst 0, 1), (19, .bipush 6, 2), (21, .invokestatic 147, 3), (24, .ifCond .eq 12, 3), (27, .aload_n 0, 1), (28, .getfield 7, 3), (31, .iload_n 3, 1), (32, .iload_n 2, 1), (33, .iadd, 1), (34, .iaload, 1), (35, .ireturn, 1), (36, .iload_n 2, 1), (37, .bipush 10, 2), (39, .bipush 9, 2), (41, .aload_n 0, 1), (42, .getfield 7, 3), (45, .iload_n 3, 1), (46, .iaload, 1), (47, .iadd, 1), (48, .invokestatic 147, 3), (51, .ifCond .eq 18, 3), (54, .aload_n 0, 1), (55, .getfield 7, 3), (58, .iload_n 3, 1), (59, .bipush 7, 2), (61, .iadd, 1), (62, .iload_n 2, 1), (63, .iadd, 1), (64, .bipush 10, 2), (66, .isub, 1), (67, .iaload, 1), (68, .ireturn, 1), (69, .iload_n 2, 1), (70, .bipush 30, 2), (72, .bipush 29, 2), (74, .aload_n 0, 1), (75, .getfield 7, 3), (78, .iload_n 3, 1), (79, .iaload, 1), (80, .iadd, 1), (81, .invokestatic 147, 3), (84, .ifCond .eq 20, 3), (87, .aload_n 0, 1), (88, .getfield 7, 3), (91, .iload_n 3, 1), (92, .bipush 19, 2), (94, .iadd, 1), (95, .iload_n 2, 1), (96, .iadd, 1), (97, .bipush 30, 2), (99, .isub, 1), (100, .iaload, 1)]
theorem ddX11_sketch_0 : (dtX11_sketch_0.all fun e => decide (decode mX11_sketch.2.1 e.1 = .ok (e.2.1, e.2.2))) = true := by decide +kernel
theorem daX11_sketch_0 (j : Nat) {pc n : Nat} {i : Instr} (h : dtX11_sketch_0[j]? = some (pc, i, n)) : decode mX11_sketch.2.1 pc = .ok (i, n) := dec_of (c := mX11_sketch.2.1) ddX11_sketch_0 h
def dtX11_sketch_1 : List (Nat × Instr × Nat) := [(101, .goto 4, 3), (104, .iconst (-1), 1), (105, .ireturn, 1)]
theorem ddX11_sketch_1 : (dtX11_sketch_1.all fun e => decide (decode mX11_sketch.2.1 e.1 = .ok (e.2.1, e.2.2))) = true := by decide +kernel
theorem daX11_sketch_1 (j : Nat) {pc n : Nat} {i : Instr} (h : dtX11_sketch_1[j]? = some (pc, i, n)) : decode mX11_sketch.2.1 pc = .ok (i, n) := dec_of (c := mX11_sketch.2.1) ddX11_sketch_1 h
def fX11_sketch (v0 v1 v2 : Int) (μ : Mm) : Option Int :=
  chk (KD v0 = 11) (
  (fX11_isOf v0 1 v1 μ).bind fun r2 =>
  if r2 = 0 then
    some (-1)
  else
    (fX11_placeOf 1 v1).bind fun r4 =>
    if isIn v2 0 6 = 0 then
      chk (KD (μ v0 0) = 12 ∧ 0 ≤ r4 ∧ r4 < LN (μ v0 0)) (
      if isIn v2 10 (w32 (9 + (μ (μ v0 0) r4))) = 0 then
        if isIn v2 30 (w32 (29 + (μ (μ v0 0) r4))) = 0 then
          some (-1)
        else
          chk (0 ≤ w32 ((w32 ((w32 (r4 + 19)) + v2)) - 30) ∧ w32 ((w32 ((w32 (r4 + 19)) + v2)) - 30) < LN (μ v0 0)) (
          some (μ (μ v0 0) (w32 ((w32 ((w32 (r4 + 19)) + v2)) - 30))))
      else
        chk (0 ≤ w32 ((w32 ((w32 (r4 + 7)) + v2)) - 10) ∧ w32 ((w32 ((w32 (r4 + 7)) + v2)) - 10) < LN (μ v0 0)) (
        some (μ (μ v0 0) (w32 ((w32 ((w32 (r4 + 7)) + v2)) - 10)))))
    else
      chk (KD (μ v0 0) = 12 ∧ 0 ≤ w32 (r4 + v2) ∧ w32 (r4 + v2) < LN (μ v0 0)) (
      some (μ (μ v0 0) (w32 (r4 + v2)))))
set_option maxRecDepth 20000 in
theorem gX11_sketch_0 (l : Launch) {F : FI} {v0 v1 v2 : Int} {μ : Mm} {t : Int} (h : fX11_sketch v0 v1 v2 μ = some t) (hK : F.1 = [(0, t)] ∧ F.2.1 = μ) : GM l mX11_sketch F 0 0 0 [(0, (3, v0)), (1, (0, v1)), (2, (0, v2))] [] μ := by
  unfold fX11_sketch at h
  refine GM_aload_n (pc := 0) 0 rfl (daX11_sketch_0 0 rfl) rfl ?_
  refine GM_iconst (pc := 1) 1 (daX11_sketch_0 1 rfl) rfl (R32_b rfl) ?_
  refine GM_iload_n (pc := 2) 1 rfl (daX11_sketch_0 2 rfl) rfl ?_
  obtain ⟨hc1, h⟩ := chk_inv h
  obtain ⟨r2, hf2, h⟩ := Option.bind_eq_some_iff.mp h
  refine GM_callV0 (pc := 3) [(0, 1), (0, v1)] (tX11_isOf l hf2) cwX11_isOf 11 (Nat.le_of_ble_eq_true rfl) rfl kv_X11_isOf ke_X11_isOf km_X11_182 hc1 ⟨Nat.le_of_ble_eq_true rfl, Nat.le_of_ble_eq_true rfl⟩ (Nat.le_of_ble_eq_true rfl) (Nat.le_of_ble_eq_true rfl) (daX11_sketch_0 3 rfl) ?_
  refine GM_if_ne (pc := 6) 11 (daX11_sketch_0 4 rfl) rfl (fun c3 => ?_) (fun c3 => ?_)
  · skip
    rw [if_neg c3] at h
    refine GM_iconst (pc := 11) 1 (daX11_sketch_0 7 rfl) rfl (R32_b rfl) ?_
    refine GM_iload_n (pc := 12) 1 rfl (daX11_sketch_0 8 rfl) rfl ?_
    obtain ⟨r4, hf4, h⟩ := Option.bind_eq_some_iff.mp h
    refine GM_callS0 (pc := 13) [(0, 1), (0, v1)] (tX11_placeOf l hf4) cwX11_placeOf ks_X11_placeOf km_X11_204 ⟨Nat.le_of_ble_eq_true rfl, Nat.le_of_ble_eq_true rfl⟩ (Nat.le_of_ble_eq_true rfl) (Nat.le_of_ble_eq_true rfl) (daX11_sketch_0 9 rfl) ?_
    refine GM_istore_n (L' := [(3, (0, r4)), (0, (3, v0)), (1, (0, v1)), (2, (0, v2))]) (pc := 16) (daX11_sketch_0 10 rfl) rfl (Nat.le_of_ble_eq_true rfl) rfl ?_
    refine GM_iload_n (pc := 17) 3 rfl (daX11_sketch_0 11 rfl) rfl ?_
    refine GM_iconst (pc := 18) 0 (daX11_sketch_0 12 rfl) rfl (R32_b rfl) ?_
    refine GM_bipush (pc := 19) 6 (daX11_sketch_0 13 rfl) rfl (R32_b rfl) ?_
    refine GM_callS0 (pc := 21) [(0, v2), (0, 0), (0, 6)] (tX11_isIn l (fX11_isIn_eq v2 0 6)) cwX11_isIn ks_X11_isIn km_X11_147 ⟨Nat.le_of_ble_eq_true rfl, Nat.le_of_ble_eq_true rfl⟩ (Nat.le_of_ble_eq_true rfl) (Nat.le_of_ble_eq_true rfl) (daX11_sketch_0 14 rfl) ?_
    refine GM_if_eq (pc := 24) 36 (daX11_sketch_0 15 rfl) rfl (fun c5 => ?_) (fun c5 => ?_)
    · skip
      rw [if_pos c5] at h
      refine GM_iload_n (pc := 36) 3 rfl (daX11_sketch_0 23 rfl) rfl ?_
      refine GM_bipush (pc := 37) 10 (daX11_sketch_0 24 rfl) rfl (R32_b rfl) ?_
      refine GM_bipush (pc := 39) 9 (daX11_sketch_0 25 rfl) rfl (R32_b rfl) ?_
      refine GM_aload_n (pc := 41) 1 rfl (daX11_sketch_0 26 rfl) rfl ?_
      refine GM_getf (pc := 42) 11 0 3 0 kf_X11_7 (Nat.le_of_ble_eq_true rfl) (Nat.le_of_ble_eq_true rfl) rfl (daX11_sketch_0 27 rfl) hc1 rfl ?_
      refine GM_iload_n (pc := 45) 0 rfl (daX11_sketch_0 28 rfl) rfl ?_
      obtain ⟨hc6, h⟩ := chk_inv h
      refine GM_iald (pc := 46) (daX11_sketch_0 29 rfl) hc6.1 hc6.2.1 hc6.2.2 ?_
      refine GM_iadd (pc := 47) (daX11_sketch_0 30 rfl) ?_
      refine GM_callS0 (pc := 48) [(0, v2), (0, 10), (0, w32 (9 + (μ (μ v0 0) r4)))] (tX11_isIn l (fX11_isIn_eq v2 10 (w32 (9 + (μ (μ v0 0) r4))))) cwX11_isIn ks_X11_isIn km_X11_147 ⟨Nat.le_of_ble_eq_true rfl, Nat.le_of_ble_eq_true rfl⟩ (Nat.le_of_ble_eq_true rfl) (Nat.le_of_ble_eq_true rfl) (daX11_sketch_0 31 rfl) ?_
      refine GM_if_eq (pc := 51) 69 (daX11_sketch_0 32 rfl) rfl (fun c7 => ?_) (fun c7 => ?_)
      · skip
        rw [if_pos c7] at h
        refine GM_iload_n (pc := 69) 3 rfl (daX11_sketch_0 44 rfl) rfl ?_
        refine GM_bipush (pc := 70) 30 (daX11_sketch_0 45 rfl) rfl (R32_b rfl) ?_
        refine GM_bipush (pc := 72) 29 (daX11_sketch_0 46 rfl) rfl (R32_b rfl) ?_
        refine GM_aload_n (pc := 74) 1 rfl (daX11_sketch_0 47 rfl) rfl ?_
        refine GM_getf (pc := 75) 11 0 3 0 kf_X11_7 (Nat.le_of_ble_eq_true rfl) (Nat.le_of_ble_eq_true rfl) rfl (daX11_sketch_0 48 rfl) hc1 rfl ?_
        refine GM_iload_n (pc := 78) 0 rfl (daX11_sketch_0 49 rfl) rfl ?_
        refine GM_iald (pc := 79) (daX11_sketch_0 50 rfl) hc6.1 hc6.2.1 hc6.2.2 ?_
        refine GM_iadd (pc := 80) (daX11_sketch_0 51 rfl) ?_
        refine GM_callS0 (pc := 81) [(0, v2), (0, 30), (0, w32 (29 + (μ (μ v0 0) r4)))] (tX11_isIn l (fX11_isIn_eq v2 30 (w32 (29 + (μ (μ v0 0) r4))))) cwX11_isIn ks_X11_isIn km_X11_147 ⟨Nat.le_of_ble_eq_true rfl, Nat.le_of_ble_eq_true rfl⟩ (Nat.le_of_ble_eq_true rfl) (Nat.le_of_ble_eq_true rfl) (daX11_sketch_0 52 rfl) ?_
        refine GM_if_eq (pc := 84) 104 (daX11_sketch_0 53 rfl) rfl (fun c8 => ?_) (fun c8 => ?_)
        · skip
          rw [if_pos c8] at h
          refine GM_iconst (pc := 104) (-1) (daX11_sketch_1 1 rfl) rfl (R32_b rfl) ?_
          cases h
          exact GM_iret (pc := 105) (daX11_sketch_1 2 rfl) rfl hK
        · skip
          rw [if_neg c8] at h
          refine GM_aload_n (pc := 87) 1 rfl (daX11_sketch_0 54 rfl) rfl ?_
          refine GM_getf (pc := 88) 11 0 3 0 kf_X11_7 (Nat.le_of_ble_eq_true rfl) (Nat.le_of_ble_eq_true rfl) rfl (daX11_sketch_0 55 rfl) hc1 rfl ?_
          refine GM_iload_n (pc := 91) 0 rfl (daX11_sketch_0 56 rfl) rfl ?_
          refine GM_bipush (pc := 92) 19 (daX11_sketch_0 57 rfl) rfl (R32_b rfl) ?_
          refine GM_iadd (pc := 94) (daX11_sketch_0 58 rfl) ?_
          refine GM_iload_n (pc := 95) 3 rfl (daX11_sketch_0 59 rfl) rfl ?_
          refine GM_iadd (pc := 96) (daX11_sketch_0 60 rfl) ?_
          refine GM_bipush (pc := 97) 30 (daX11_sketch_0 61 rfl) rfl (R32_b rfl) ?_
          refine GM_isub (pc := 99) (daX11_sketch_0 62 rfl) ?_
          obtain ⟨hc9, h⟩ := chk_inv h
          refine GM_iald (pc := 100) (daX11_sketch_0 63 rfl) hc6.1 hc9.1 hc9.2 ?_
          refine GM_goto (pc := 101) 105 (daX11_sketch_1 0 rfl) rfl ?_
          cases h
          exact GM_iret (pc := 105) (daX11_sketch_1 2 rfl) rfl hK
      · skip
        rw [if_neg c7] at h
        refine GM_aload_n (pc := 54) 1 rfl (daX11_sketch_0 33 rfl) rfl ?_
        refine GM_getf (pc := 55) 11 0 3 0 kf_X11_7 (Nat.le_of_ble_eq_true rfl) (Nat.le_of_ble_eq_true rfl) rfl (daX11_sketch_0 34 rfl) hc1 rfl ?_
        refine GM_iload_n (pc := 58) 0 rfl (daX11_sketch_0 35 rfl) rfl ?_
        refine GM_bipush (pc := 59) 7 (daX11_sketch_0 36 rfl) rfl (R32_b rfl) ?_
        refine GM_iadd (pc := 61) (daX11_sketch_0 37 rfl) ?_
        refine GM_iload_n (pc := 62) 3 rfl (daX11_sketch_0 38 rfl) rfl ?_
        refine GM_iadd (pc := 63) (daX11_sketch_0 39 rfl) ?_
        refine GM_bipush (pc := 64) 10 (daX11_sketch_0 40 rfl) rfl (R32_b rfl) ?_
        refine GM_isub (pc := 66) (daX11_sketch_0 41 rfl) ?_
        obtain ⟨hc10, h⟩ := chk_inv h
        refine GM_iald (pc := 67) (daX11_sketch_0 42 rfl) hc6.1 hc10.1 hc10.2 ?_
        cases h
        exact GM_iret (pc := 68) (daX11_sketch_0 43 rfl) rfl hK
    · skip
      rw [if_neg c5] at h
      refine GM_aload_n (pc := 27) 1 rfl (daX11_sketch_0 16 rfl) rfl ?_
      refine GM_getf (pc := 28) 11 0 3 0 kf_X11_7 (Nat.le_of_ble_eq_true rfl) (Nat.le_of_ble_eq_true rfl) rfl (daX11_sketch_0 17 rfl) hc1 rfl ?_
      refine GM_iload_n (pc := 31) 0 rfl (daX11_sketch_0 18 rfl) rfl ?_
      refine GM_iload_n (pc := 32) 3 rfl (daX11_sketch_0 19 rfl) rfl ?_
      refine GM_iadd (pc := 33) (daX11_sketch_0 20 rfl) ?_
      obtain ⟨hc11, h⟩ := chk_inv h
      refine GM_iald (pc := 34) (daX11_sketch_0 21 rfl) hc11.1 hc11.2.1 hc11.2.2 ?_
      cases h
      exact GM_iret (pc := 35) (daX11_sketch_0 22 rfl) rfl hK
  · skip
    rw [if_pos c3] at h
    refine GM_iconst (pc := 9) (-1) (daX11_sketch_0 5 rfl) rfl (R32_b rfl) ?_
    cases h
    exact GM_iret (pc := 10) (daX11_sketch_0 6 rfl) rfl hK
theorem tX11_sketch (l : Launch) {v0 v1 v2 : Int} {μ : Mm} {t : Int} (h : fX11_sketch v0 v1 v2 μ = some t) : Ct l yX11_sketch mX11_sketch [(3, v0), (0, v1), (0, v2)] μ ([(0, t)], μ, 0, 0) :=
  Ct_of (by decide +kernel) rfl rfl (Nat.le_of_ble_eq_true rfl) (fun _ _ _ => trivial) (gX11_sketch_0 l h ⟨rfl, rfl⟩)
def mX11_eastOf : MI := (RX11, cX11_eastOf, 4, (some .int), "eastOf", 0, 0, fun _ _ _ => True)
theorem cwX11_eastOf : CWd yX11_eastOf mX11_eastOf 3 := ⟨ki_X11, kk_X11_eastOf, ⟨by decide, by decide⟩, rfl⟩
def dtX11_eastOf_0 : List (Nat × Instr × Nat) := [(0, .iload_n 3, 1), (1, .aload_n 0, 1), (2, .getfield 7, 3), (5, .iload_n 1, 1), (6, .iconst 0, 1), (7, .iadd, 1), (8, .iaload, 1), (9, .irem, 1), (10, .iload_n 2, 1), (11, .aload_n 0, 1), (12, .getfield 7, 3), (15, .iload_n 1, 1), (16, .iconst 0, 1), (17, .iadd, 1), (18, .iaload, 1), (19, .irem, 1), (20, .isub, 1), (21, .ireturn, 1)]
theorem ddX11_eastOf_0 : (dtX11_eastOf_0.all fun e => decide (decode mX11_eastOf.2.1 e.1 = .ok (e.2.1, e.2.2))) = true := by decide +kernel
theorem daX11_eastOf_0 (j : Nat) {pc n : Nat} {i : Instr} (h : dtX11_eastOf_0[j]? = some (pc, i, n)) : decode mX11_eastOf.2.1 pc = .ok (i, n) := dec_of (c := mX11_eastOf.2.1) ddX11_eastOf_0 h
def fX11_eastOf (v0 v1 v2 v3 : Int) (μ : Mm) : Option Int :=
  chk (KD v0 = 11) (
  chk (KD (μ v0 0) = 12 ∧ 0 ≤ w32 (v1 + 0) ∧ w32 (v1 + 0) < LN (μ v0 0)) (
  chk (μ (μ v0 0) (w32 (v1 + 0)) ≠ 0) (
  some (w32 ((v3.tmod (μ (μ v0 0) (w32 (v1 + 0)))) - (v2.tmod (μ (μ v0 0) (w32 (v1 + 0)))))))))
set_option maxRecDepth 20000 in
theorem gX11_eastOf_0 (l : Launch) {F : FI} {v0 v1 v2 v3 : Int} {μ : Mm} {t : Int} (h : fX11_eastOf v0 v1 v2 v3 μ = some t) (hK : F.1 = [(0, t)] ∧ F.2.1 = μ) : GM l mX11_eastOf F 0 0 0 [(0, (3, v0)), (1, (0, v1)), (2, (0, v2)), (3, (0, v3))] [] μ := by
  unfold fX11_eastOf at h
  refine GM_iload_n (pc := 0) 3 rfl (daX11_eastOf_0 0 rfl) rfl ?_
  refine GM_aload_n (pc := 1) 0 rfl (daX11_eastOf_0 1 rfl) rfl ?_
  obtain ⟨hc1, h⟩ := chk_inv h
  refine GM_getf (pc := 2) 11 0 3 0 kf_X11_7 (Nat.le_of_ble_eq_true rfl) (Nat.le_of_ble_eq_true rfl) rfl (daX11_eastOf_0 2 rfl) hc1 rfl ?_
  refine GM_iload_n (pc := 5) 1 rfl (daX11_eastOf_0 3 rfl) rfl ?_
  refine GM_iconst (pc := 6) 0 (daX11_eastOf_0 4 rfl) rfl (R32_b rfl) ?_
  refine GM_iadd (pc := 7) (daX11_eastOf_0 5 rfl) ?_
  obtain ⟨hc2, h⟩ := chk_inv h
  refine GM_iald (pc := 8) (daX11_eastOf_0 6 rfl) hc2.1 hc2.2.1 hc2.2.2 ?_
  obtain ⟨hc3, h⟩ := chk_inv h
  refine GM_irem (pc := 9) (daX11_eastOf_0 7 rfl) hc3 ?_
  refine GM_iload_n (pc := 10) 2 rfl (daX11_eastOf_0 8 rfl) rfl ?_
  refine GM_aload_n (pc := 11) 0 rfl (daX11_eastOf_0 9 rfl) rfl ?_
  refine GM_getf (pc := 12) 11 0 3 0 kf_X11_7 (Nat.le_of_ble_eq_true rfl) (Nat.le_of_ble_eq_true rfl) rfl (daX11_eastOf_0 10 rfl) hc1 rfl ?_
  refine GM_iload_n (pc := 15) 1 rfl (daX11_eastOf_0 11 rfl) rfl ?_
  refine GM_iconst (pc := 16) 0 (daX11_eastOf_0 12 rfl) rfl (R32_b rfl) ?_
  refine GM_iadd (pc := 17) (daX11_eastOf_0 13 rfl) ?_
  refine GM_iald (pc := 18) (daX11_eastOf_0 14 rfl) hc2.1 hc2.2.1 hc2.2.2 ?_
  refine GM_irem (pc := 19) (daX11_eastOf_0 15 rfl) hc3 ?_
  refine GM_isub (pc := 20) (daX11_eastOf_0 16 rfl) ?_
  cases h
  exact GM_iret (pc := 21) (daX11_eastOf_0 17 rfl) rfl hK
theorem tX11_eastOf (l : Launch) {v0 v1 v2 v3 : Int} {μ : Mm} {t : Int} (h : fX11_eastOf v0 v1 v2 v3 μ = some t) : Ct l yX11_eastOf mX11_eastOf [(3, v0), (0, v1), (0, v2), (0, v3)] μ ([(0, t)], μ, 0, 0) :=
  Ct_of (by decide +kernel) rfl rfl (Nat.le_of_ble_eq_true rfl) (fun _ _ _ => trivial) (gX11_eastOf_0 l h ⟨rfl, rfl⟩)
def mX11_southOf : MI := (RX11, cX11_southOf, 4, (some .int), "southOf", 0, 0, fun _ _ _ => True)
theorem cwX11_southOf : CWd yX11_southOf mX11_southOf 3 := ⟨ki_X11, kk_X11_southOf, ⟨by decide, by decide⟩, rfl⟩
def dtX11_southOf_0 : List (Nat × Instr × Nat) := [(0, .iload_n 3, 1), (1, .aload_n 0, 1), (2, .getfield 7, 3), (5, .iload_n 1, 1), (6, .iconst 0, 1), (7, .iadd, 1), (8, .iaload, 1), (9, .idiv, 1), (10, .iload_n 2, 1), (11, .aload_n 0, 1), (12, .getfield 7, 3), (15, .iload_n 1, 1), (16, .iconst 0, 1), (17, .iadd, 1), (18, .iaload, 1), (19, .idiv, 1), (20, .isub, 1), (21, .ireturn, 1)]
theorem ddX11_southOf_0 : (dtX11_southOf_0.all fun e => decide (decode mX11_southOf.2.1 e.1 = .ok (e.2.1, e.2.2))) = true := by decide +kernel
theorem daX11_southOf_0 (j : Nat) {pc n : Nat} {i : Instr} (h : dtX11_southOf_0[j]? = some (pc, i, n)) : decode mX11_southOf.2.1 pc = .ok (i, n) := dec_of (c := mX11_southOf.2.1) ddX11_southOf_0 h
def fX11_southOf (v0 v1 v2 v3 : Int) (μ : Mm) : Option Int :=
  chk (KD v0 = 11) (
  chk (KD (μ v0 0) = 12 ∧ 0 ≤ w32 (v1 + 0) ∧ w32 (v1 + 0) < LN (μ v0 0)) (
  chk (μ (μ v0 0) (w32 (v1 + 0)) ≠ 0) (
  some (w32 ((w32 (v3.tdiv (μ (μ v0 0) (w32 (v1 + 0))))) - (w32 (v2.tdiv (μ (μ v0 0) (w32 (v1 + 0))))))))))
set_option maxRecDepth 20000 in
theorem gX11_southOf_0 (l : Launch) {F : FI} {v0 v1 v2 v3 : Int} {μ : Mm} {t : Int} (h : fX11_southOf v0 v1 v2 v3 μ = some t) (hK : F.1 = [(0, t)] ∧ F.2.1 = μ) : GM l mX11_southOf F 0 0 0 [(0, (3, v0)), (1, (0, v1)), (2, (0, v2)), (3, (0, v3))] [] μ := by
  unfold fX11_southOf at h
  refine GM_iload_n (pc := 0) 3 rfl (daX11_southOf_0 0 rfl) rfl ?_
  refine GM_aload_n (pc := 1) 0 rfl (daX11_southOf_0 1 rfl) rfl ?_
  obtain ⟨hc1, h⟩ := chk_inv h
  refine GM_getf (pc := 2) 11 0 3 0 kf_X11_7 (Nat.le_of_ble_eq_true rfl) (Nat.le_of_ble_eq_true rfl) rfl (daX11_southOf_0 2 rfl) hc1 rfl ?_
  refine GM_iload_n (pc := 5) 1 rfl (daX11_southOf_0 3 rfl) rfl ?_
  refine GM_iconst (pc := 6) 0 (daX11_southOf_0 4 rfl) rfl (R32_b rfl) ?_
  refine GM_iadd (pc := 7) (daX11_southOf_0 5 rfl) ?_
  obtain ⟨hc2, h⟩ := chk_inv h
  refine GM_iald (pc := 8) (daX11_southOf_0 6 rfl) hc2.1 hc2.2.1 hc2.2.2 ?_
  obtain ⟨hc3, h⟩ := chk_inv h
  refine GM_idiv (pc := 9) (daX11_southOf_0 7 rfl) hc3 ?_
  refine GM_iload_n (pc := 10) 2 rfl (daX11_southOf_0 8 rfl) rfl ?_
  refine GM_aload_n (pc := 11) 0 rfl (daX11_southOf_0 9 rfl) rfl ?_
  refine GM_getf (pc := 12) 11 0 3 0 kf_X11_7 (Nat.le_of_ble_eq_true rfl) (Nat.le_of_ble_eq_true rfl) rfl (daX11_southOf_0 10 rfl) hc1 rfl ?_
  refine GM_iload_n (pc := 15) 1 rfl (daX11_southOf_0 11 rfl) rfl ?_
  refine GM_iconst (pc := 16) 0 (daX11_southOf_0 12 rfl) rfl (R32_b rfl) ?_
  refine GM_iadd (pc := 17) (daX11_southOf_0 13 rfl) ?_
  refine GM_iald (pc := 18) (daX11_southOf_0 14 rfl) hc2.1 hc2.2.1 hc2.2.2 ?_
  refine GM_idiv (pc := 19) (daX11_southOf_0 15 rfl) hc3 ?_
  refine GM_isub (pc := 20) (daX11_southOf_0 16 rfl) ?_
  cases h
  exact GM_iret (pc := 21) (daX11_southOf_0 17 rfl) rfl hK
theorem tX11_southOf (l : Launch) {v0 v1 v2 v3 : Int} {μ : Mm} {t : Int} (h : fX11_southOf v0 v1 v2 v3 μ = some t) : Ct l yX11_southOf mX11_southOf [(3, v0), (0, v1), (0, v2), (0, v3)] μ ([(0, t)], μ, 0, 0) :=
  Ct_of (by decide +kernel) rfl rfl (Nat.le_of_ble_eq_true rfl) (fun _ _ _ => trivial) (gX11_southOf_0 l h ⟨rfl, rfl⟩)
def mX11_farOf : MI := (RX11, cX11_farOf, 6, (some .int), "farOf", 1, 23, fun _ _ _ => True)
theorem cwX11_farOf : CWd yX11_farOf mX11_farOf 3 := ⟨ki_X11, kk_X11_farOf, ⟨by decide, by decide⟩, rfl⟩
def dtX11_farOf_0 : List (Nat × Instr × Nat) := [(0, .aload_n 0, 1), (1, .iload_n 1, 1), (2, .iload_n 2, 1), (3, .iload_n 3, 1), (4, .invokevirtual 213, 3), (7, .istore 4, 2), (9, .aload_n 0, 1), (10, .iload_n 1, 1), (11, .iload_n 2, 1), (12, .iload_n 3, 1), (13, .invokevirtual 217, 3), (16, .istore 5, 2), (18, .iload 4, 2), (20, .iload 4, 2), (22, .imul, 1), (23, .iload 5, 2), (25, .iload 5, 2), (27, .imul, 1), (28, .iadd, 1), (29, .ireturn, 1)]
theorem ddX11_farOf_0 : (dtX11_farOf_0.all fun e => decide (decode mX11_farOf.2.1 e.1 = .ok (e.2.1, e.2.2))) = true := by decide +kernel
theorem daX11_farOf_0 (j : Nat) {pc n : Nat} {i : Instr} (h : dtX11_farOf_0[j]? = some (pc, i, n)) : decode mX11_farOf.2.1 pc = .ok (i, n) := dec_of (c := mX11_farOf.2.1) ddX11_farOf_0 h
def fX11_farOf (v0 v1 v2 v3 : Int) (μ : Mm) : Option Int :=
  chk (KD v0 = 11) (
  (fX11_eastOf v0 v1 v2 v3 μ).bind fun r2 =>
  (fX11_southOf v0 v1 v2 v3 μ).bind fun r3 =>
  some (w32 ((w32 (r2 * r2)) + (w32 (r3 * r3)))))
set_option maxRecDepth 20000 in
theorem gX11_farOf_0 (l : Launch) {F : FI} {v0 v1 v2 v3 : Int} {μ : Mm} {t : Int} (h : fX11_farOf v0 v1 v2 v3 μ = some t) (hK : F.1 = [(0, t)] ∧ F.2.1 = μ) : GM l mX11_farOf F 0 0 0 [(0, (3, v0)), (1, (0, v1)), (2, (0, v2)), (3, (0, v3))] [] μ := by
  unfold fX11_farOf at h
  refine GM_aload_n (pc := 0) 0 rfl (daX11_farOf_0 0 rfl) rfl ?_
  refine GM_iload_n (pc := 1) 1 rfl (daX11_farOf_0 1 rfl) rfl ?_
  refine GM_iload_n (pc := 2) 2 rfl (daX11_farOf_0 2 rfl) rfl ?_
  refine GM_iload_n (pc := 3) 3 rfl (daX11_farOf_0 3 rfl) rfl ?_
  obtain ⟨hc1, h⟩ := chk_inv h
  obtain ⟨r2, hf2, h⟩ := Option.bind_eq_some_iff.mp h
  refine GM_callV0 (pc := 4) [(0, v1), (0, v2), (0, v3)] (tX11_eastOf l hf2) cwX11_eastOf 11 (Nat.le_of_ble_eq_true rfl) rfl kv_X11_eastOf ke_X11_eastOf km_X11_213 hc1 ⟨Nat.le_of_ble_eq_true rfl, Nat.le_of_ble_eq_true rfl⟩ (Nat.le_of_ble_eq_true rfl) (Nat.le_of_ble_eq_true rfl) (daX11_farOf_0 4 rfl) ?_
  refine GM_istore (L' := [(4, (0, r2)), (0, (3, v0)), (1, (0, v1)), (2, (0, v2)), (3, (0, v3))]) (pc := 7) (daX11_farOf_0 5 rfl) (Nat.le_of_ble_eq_true rfl) rfl ?_
  refine GM_aload_n (pc := 9) 1 rfl (daX11_farOf_0 6 rfl) rfl ?_
  refine GM_iload_n (pc := 10) 2 rfl (daX11_farOf_0 7 rfl) rfl ?_
  refine GM_iload_n (pc := 11) 3 rfl (daX11_farOf_0 8 rfl) rfl ?_
  refine GM_iload_n (pc := 12) 4 rfl (daX11_farOf_0 9 rfl) rfl ?_
  obtain ⟨r3, hf3, h⟩ := Option.bind_eq_some_iff.mp h
  refine GM_callV0 (pc := 13) [(0, v1), (0, v2), (0, v3)] (tX11_southOf l hf3) cwX11_southOf 11 (Nat.le_of_ble_eq_true rfl) rfl kv_X11_southOf ke_X11_southOf km_X11_217 hc1 ⟨Nat.le_of_ble_eq_true rfl, Nat.le_of_ble_eq_true rfl⟩ (Nat.le_of_ble_eq_true rfl) (Nat.le_of_ble_eq_true rfl) (daX11_farOf_0 10 rfl) ?_
  refine GM_istore (L' := [(5, (0, r3)), (4, (0, r2)), (0, (3, v0)), (1, (0, v1)), (2, (0, v2)), (3, (0, v3))]) (pc := 16) (daX11_farOf_0 11 rfl) (Nat.le_of_ble_eq_true rfl) rfl ?_
  refine GM_iload (pc := 18) 1 rfl (daX11_farOf_0 12 rfl) ?_
  refine GM_iload (pc := 20) 1 rfl (daX11_farOf_0 13 rfl) ?_
  refine GM_imul (pc := 22) (daX11_farOf_0 14 rfl) ?_
  refine GM_iload (pc := 23) 0 rfl (daX11_farOf_0 15 rfl) ?_
  refine GM_iload (pc := 25) 0 rfl (daX11_farOf_0 16 rfl) ?_
  refine GM_imul (pc := 27) (daX11_farOf_0 17 rfl) ?_
  refine GM_iadd (pc := 28) (daX11_farOf_0 18 rfl) ?_
  cases h
  exact GM_iret (pc := 29) (daX11_farOf_0 19 rfl) rfl hK
theorem tX11_farOf (l : Launch) {v0 v1 v2 v3 : Int} {μ : Mm} {t : Int} (h : fX11_farOf v0 v1 v2 v3 μ = some t) : Ct l yX11_farOf mX11_farOf [(3, v0), (0, v1), (0, v2), (0, v3)] μ ([(0, t)], μ, 0, 0) :=
  Ct_of (by decide +kernel) rfl rfl (Nat.le_of_ble_eq_true rfl) (fun _ _ _ => trivial) (gX11_farOf_0 l h ⟨rfl, rfl⟩)
def mX11_riseOf : MI := (RX11, cX11_riseOf, 4, (some .int), "riseOf", 2, 48, fun _ _ _ => True)
theorem cwX11_riseOf : CWd yX11_riseOf mX11_riseOf 3 := ⟨ki_X11, kk_X11_riseOf, ⟨by decide, by decide⟩, rfl⟩
def dtX11_riseOf_0 : List (Nat × Instr × Nat) := [(0, .aload_n 0, 1), (1, .getfield 7, 3), (4, .iload_n 1, 1), (5, .bipush 6, 2), (7, .iadd, 1), (8, .iload_n 3, 1), (9, .iadd, 1), (10, .iaload, 1), (11, .aload_n 0, 1), (12, .getfield 7, 3), (15, .iload_n 1, 1), (16, .iconst 3, 1), (17, .iadd, 1), (18, .iaload, 1), (19, .aload_n 0, 1), (20, .iload_n 1, 1), (21, .iload_n 2, 1), (22, .iload_n 3, 1), (23, .invokevirtual 220, 3), (26, .imul, 1), (27, .bipush 100, 2), (29, .idiv, 1), (30, .isub, 1), (31, .aload_n 0, 1), (32, .getfield 7, 3), (35, .iload_n 1, 1), (36, .bipush 6, 2), (38, .iadd, 1), (39, .iload_n 2, 1), (40, .iadd, 1), (41, .iaload, 1), (42, .isub, 1), (43, .aload_n 0, 1), (44, .getfield 7, 3), (47, .iload_n 1, 1), (48, .iconst 2, 1), (49, .iadd, 1), (50, .iaload, 1), (51, .isub, 1), (52, .ireturn, 1)]
theorem ddX11_riseOf_0 : (dtX11_riseOf_0.all fun e => decide (decode mX11_riseOf.2.1 e.1 = .ok (e.2.1, e.2.2))) = true := by decide +kernel
theorem daX11_riseOf_0 (j : Nat) {pc n : Nat} {i : Instr} (h : dtX11_riseOf_0[j]? = some (pc, i, n)) : decode mX11_riseOf.2.1 pc = .ok (i, n) := dec_of (c := mX11_riseOf.2.1) ddX11_riseOf_0 h
def fX11_riseOf (v0 v1 v2 v3 : Int) (μ : Mm) : Option Int :=
  chk (KD v0 = 11) (
  chk (KD (μ v0 0) = 12 ∧ 0 ≤ w32 ((w32 (v1 + 6)) + v3) ∧ w32 ((w32 (v1 + 6)) + v3) < LN (μ v0 0)) (
  chk (0 ≤ w32 (v1 + 3) ∧ w32 (v1 + 3) < LN (μ v0 0)) (
  (fX11_farOf v0 v1 v2 v3 μ).bind fun r4 =>
  chk (0 ≤ w32 ((w32 (v1 + 6)) + v2) ∧ w32 ((w32 (v1 + 6)) + v2) < LN (μ v0 0)) (
  chk (0 ≤ w32 (v1 + 2) ∧ w32 (v1 + 2) < LN (μ v0 0)) (
  some (w32 ((w32 ((w32 ((μ (μ v0 0) (w32 ((w32 (v1 + 6)) + v3))) - (w32 ((w32 ((μ (μ v0 0) (w32 (v1 + 3))) * r4)).tdiv 100)))) - (μ (μ v0 0) (w32 ((w32 (v1 + 6)) + v2))))) - (μ (μ v0 0) (w32 (v1 + 2))))))))))
set_option maxRecDepth 20000 in
theorem gX11_riseOf_0 (l : Launch) {F : FI} {v0 v1 v2 v3 : Int} {μ : Mm} {t : Int} (h : fX11_riseOf v0 v1 v2 v3 μ = some t) (hK : F.1 = [(0, t)] ∧ F.2.1 = μ) : GM l mX11_riseOf F 0 0 0 [(0, (3, v0)), (1, (0, v1)), (2, (0, v2)), (3, (0, v3))] [] μ := by
  unfold fX11_riseOf at h
  refine GM_aload_n (pc := 0) 0 rfl (daX11_riseOf_0 0 rfl) rfl ?_
  obtain ⟨hc1, h⟩ := chk_inv h
  refine GM_getf (pc := 1) 11 0 3 0 kf_X11_7 (Nat.le_of_ble_eq_true rfl) (Nat.le_of_ble_eq_true rfl) rfl (daX11_riseOf_0 1 rfl) hc1 rfl ?_
  refine GM_iload_n (pc := 4) 1 rfl (daX11_riseOf_0 2 rfl) rfl ?_
  refine GM_bipush (pc := 5) 6 (daX11_riseOf_0 3 rfl) rfl (R32_b rfl) ?_
  refine GM_iadd (pc := 7) (daX11_riseOf_0 4 rfl) ?_
  refine GM_iload_n (pc := 8) 3 rfl (daX11_riseOf_0 5 rfl) rfl ?_
  refine GM_iadd (pc := 9) (daX11_riseOf_0 6 rfl) ?_
  obtain ⟨hc2, h⟩ := chk_inv h
  refine GM_iald (pc := 10) (daX11_riseOf_0 7 rfl) hc2.1 hc2.2.1 hc2.2.2 ?_
  refine GM_aload_n (pc := 11) 0 rfl (daX11_riseOf_0 8 rfl) rfl ?_
  refine GM_getf (pc := 12) 11 0 3 0 kf_X11_7 (Nat.le_of_ble_eq_true rfl) (Nat.le_of_ble_eq_true rfl) rfl (daX11_riseOf_0 9 rfl) hc1 rfl ?_
  refine GM_iload_n (pc := 15) 1 rfl (daX11_riseOf_0 10 rfl) rfl ?_
  refine GM_iconst (pc := 16) 3 (daX11_riseOf_0 11 rfl) rfl (R32_b rfl) ?_
  refine GM_iadd (pc := 17) (daX11_riseOf_0 12 rfl) ?_
  obtain ⟨hc3, h⟩ := chk_inv h
  refine GM_iald (pc := 18) (daX11_riseOf_0 13 rfl) hc2.1 hc3.1 hc3.2 ?_
  refine GM_aload_n (pc := 19) 0 rfl (daX11_riseOf_0 14 rfl) rfl ?_
  refine GM_iload_n (pc := 20) 1 rfl (daX11_riseOf_0 15 rfl) rfl ?_
  refine GM_iload_n (pc := 21) 2 rfl (daX11_riseOf_0 16 rfl) rfl ?_
  refine GM_iload_n (pc := 22) 3 rfl (daX11_riseOf_0 17 rfl) rfl ?_
  obtain ⟨r4, hf4, h⟩ := Option.bind_eq_some_iff.mp h
  refine GM_callV0 (pc := 23) [(0, v1), (0, v2), (0, v3)] (tX11_farOf l hf4) cwX11_farOf 11 (Nat.le_of_ble_eq_true rfl) rfl kv_X11_farOf ke_X11_farOf km_X11_220 hc1 ⟨Nat.le_of_ble_eq_true rfl, Nat.le_of_ble_eq_true rfl⟩ (Nat.le_of_ble_eq_true rfl) (Nat.le_of_ble_eq_true rfl) (daX11_riseOf_0 18 rfl) ?_
  refine GM_imul (pc := 26) (daX11_riseOf_0 19 rfl) ?_
  refine GM_bipush (pc := 27) 100 (daX11_riseOf_0 20 rfl) rfl (R32_b rfl) ?_
  refine GM_idiv (pc := 29) (daX11_riseOf_0 21 rfl) (by decide) ?_
  refine GM_isub (pc := 30) (daX11_riseOf_0 22 rfl) ?_
  refine GM_aload_n (pc := 31) 0 rfl (daX11_riseOf_0 23 rfl) rfl ?_
  refine GM_getf (pc := 32) 11 0 3 0 kf_X11_7 (Nat.le_of_ble_eq_true rfl) (Nat.le_of_ble_eq_true rfl) rfl (daX11_riseOf_0 24 rfl) hc1 rfl ?_
  refine GM_iload_n (pc := 35) 1 rfl (daX11_riseOf_0 25 rfl) rfl ?_
  refine GM_bipush (pc := 36) 6 (daX11_riseOf_0 26 rfl) rfl (R32_b rfl) ?_
  refine GM_iadd (pc := 38) (daX11_riseOf_0 27 rfl) ?_
  refine GM_iload_n (pc := 39) 2 rfl (daX11_riseOf_0 28 rfl) rfl ?_
  refine GM_iadd (pc := 40) (daX11_riseOf_0 29 rfl) ?_
  obtain ⟨hc5, h⟩ := chk_inv h
  refine GM_iald (pc := 41) (daX11_riseOf_0 30 rfl) hc2.1 hc5.1 hc5.2 ?_
  refine GM_isub (pc := 42) (daX11_riseOf_0 31 rfl) ?_
  refine GM_aload_n (pc := 43) 0 rfl (daX11_riseOf_0 32 rfl) rfl ?_
  refine GM_getf (pc := 44) 11 0 3 0 kf_X11_7 (Nat.le_of_ble_eq_true rfl) (Nat.le_of_ble_eq_true rfl) rfl (daX11_riseOf_0 33 rfl) hc1 rfl ?_
  refine GM_iload_n (pc := 47) 1 rfl (daX11_riseOf_0 34 rfl) rfl ?_
  refine GM_iconst (pc := 48) 2 (daX11_riseOf_0 35 rfl) rfl (R32_b rfl) ?_
  refine GM_iadd (pc := 49) (daX11_riseOf_0 36 rfl) ?_
  obtain ⟨hc6, h⟩ := chk_inv h
  refine GM_iald (pc := 50) (daX11_riseOf_0 37 rfl) hc2.1 hc6.1 hc6.2 ?_
  refine GM_isub (pc := 51) (daX11_riseOf_0 38 rfl) ?_
  cases h
  exact GM_iret (pc := 52) (daX11_riseOf_0 39 rfl) rfl hK
theorem tX11_riseOf (l : Launch) {v0 v1 v2 v3 : Int} {μ : Mm} {t : Int} (h : fX11_riseOf v0 v1 v2 v3 μ = some t) : Ct l yX11_riseOf mX11_riseOf [(3, v0), (0, v1), (0, v2), (0, v3)] μ ([(0, t)], μ, 0, 0) :=
  Ct_of (by decide +kernel) rfl rfl (Nat.le_of_ble_eq_true rfl) (fun _ _ _ => trivial) (gX11_riseOf_0 l h ⟨rfl, rfl⟩)
def mX11_steep : MI := (RX11, cX11_steep, 9, (some .long), "steep", 3, 71, fun _ _ _ => True)
theorem cwX11_steep : CWd yX11_steep mX11_steep 4 := ⟨ki_X11, kk_X11_steep, ⟨by decide, by decide⟩, rfl⟩
def dtX11_steep_0 : List (Nat × Instr × Nat) := [(0, .aload_n 0, 1), (1, .iload_n 1, 1), (2, .iload_n 2, 1), (3, .iload_n 3, 1), (4, .invokevirtual 223, 3), (7, .i2l, 1), (8, .lstore 5, 2), (10, .aload_n 0, 1), (11, .iload_n 1, 1), (12, .iload_n 2, 1), (13, .iload 4, 2), (15, .invokevirtual 223, 3), (18, .i2l, 1), (19, .lstore 7, 2), (21, .lload 5, 2), (23, .lload 5, 2), (25, .lconst 0, 1), (26, .lcmp, 1), (27, .ifCond .ge 9, 3), (30, .lload 5, 2), (32, .lneg, 1), (33, .goto 5, 3), (36, .lload 5, 2), (38, .lmul, 1), (39, .aload_n 0, 1), (40, .iload_n 1, 1), (41, .iload_n 2, 1), (42, .iload 4, 2), (44, .invokevirtual 220, 3), (47, .i2l, 1), (48, .lmul, 1), (49, .lload 7, 2), (51, .lload 7, 2), (53, .lconst 0, 1), (54, .lcmp, 1), (55, .ifCond .ge 9, 3), (58, .lload 7, 2), (60, .lneg, 1), (61, .goto 5, 3), (64, .lload 7, 2), (66, .lmul, 1), (67, .aload_n 0, 1), (68, .iload_n 1, 1), (69, .iload_n 2, 1), (70, .iload_n 3, 1), (71, .invokevirtual 220, 3), (74, .i2l, 1), (75, .lmul, 1), (76, .lsub, 1), (77, .lreturn, 1)]
theorem ddX11_steep_0 : (dtX11_steep_0.all fun e => decide (decode mX11_steep.2.1 e.1 = .ok (e.2.1, e.2.2))) = true := by decide +kernel
theorem daX11_steep_0 (j : Nat) {pc n : Nat} {i : Instr} (h : dtX11_steep_0[j]? = some (pc, i, n)) : decode mX11_steep.2.1 pc = .ok (i, n) := dec_of (c := mX11_steep.2.1) ddX11_steep_0 h
def jX11_steep_66 (v0 v1 v2 v3 s0 s1 s2 : Int) (μ : Mm) : Option Int :=
  chk (KD v0 = 11) (
  (fX11_farOf v0 v1 v2 v3 μ).bind fun r2 =>
  some (w64 (s2 - (w64 ((w64 (s1 * s0)) * r2)))))
def jX11_steep_38 (v0 v1 v2 v3 v4 v7 s0 s1 : Int) (μ : Mm) : Option Int :=
  chk (KD v0 = 11) (
  (fX11_farOf v0 v1 v2 v4 μ).bind fun r4 =>
  if 0 ≤ v7 then
    jX11_steep_66 v0 v1 v2 v3 v7 v7 (w64 ((w64 (s1 * s0)) * r4)) μ
  else
    jX11_steep_66 v0 v1 v2 v3 (w64 (-v7)) v7 (w64 ((w64 (s1 * s0)) * r4)) μ)
def fX11_steep (v0 v1 v2 v3 v4 : Int) (μ : Mm) : Option Int :=
  chk (KD v0 = 11) (
  (fX11_riseOf v0 v1 v2 v3 μ).bind fun r7 =>
  (fX11_riseOf v0 v1 v2 v4 μ).bind fun r8 =>
  if 0 ≤ r7 then
    jX11_steep_38 v0 v1 v2 v3 v4 r8 r7 r7 μ
  else
    jX11_steep_38 v0 v1 v2 v3 v4 r8 (w64 (-r7)) r7 μ)
set_option maxRecDepth 20000 in
theorem gX11_steep_66 (l : Launch) {F : FI} {v0 v1 v2 v3 s0 s1 s2 : Int} {μ : Mm} {t : Int} (h : jX11_steep_66 v0 v1 v2 v3 s0 s1 s2 μ = some t) (hK : F.1 = [(2, t)] ∧ F.2.1 = μ) : GM l mX11_steep F 0 0 66 [(0, (3, v0)), (1, (0, v1)), (2, (0, v2)), (3, (0, v3))] [(2, s0), (2, s1), (2, s2)] μ := by
  unfold jX11_steep_66 at h
  refine GM_lmul (pc := 66) (daX11_steep_0 40 rfl) ?_
  refine GM_aload_n (pc := 67) 0 rfl (daX11_steep_0 41 rfl) rfl ?_
  refine GM_iload_n (pc := 68) 1 rfl (daX11_steep_0 42 rfl) rfl ?_
  refine GM_iload_n (pc := 69) 2 rfl (daX11_steep_0 43 rfl) rfl ?_
  refine GM_iload_n (pc := 70) 3 rfl (daX11_steep_0 44 rfl) rfl ?_
  obtain ⟨hc1, h⟩ := chk_inv h
  obtain ⟨r2, hf2, h⟩ := Option.bind_eq_some_iff.mp h
  refine GM_callV0 (pc := 71) [(0, v1), (0, v2), (0, v3)] (tX11_farOf l hf2) cwX11_farOf 11 (Nat.le_of_ble_eq_true rfl) rfl kv_X11_farOf ke_X11_farOf km_X11_220 hc1 ⟨Nat.le_of_ble_eq_true rfl, Nat.le_of_ble_eq_true rfl⟩ (Nat.le_of_ble_eq_true rfl) (Nat.le_of_ble_eq_true rfl) (daX11_steep_0 45 rfl) ?_
  refine GM_i2l (pc := 74) (daX11_steep_0 46 rfl) ?_
  refine GM_lmul (pc := 75) (daX11_steep_0 47 rfl) ?_
  refine GM_lsub (pc := 76) (daX11_steep_0 48 rfl) ?_
  cases h
  exact GM_lret (pc := 77) (daX11_steep_0 49 rfl) rfl hK
set_option maxRecDepth 20000 in
theorem gX11_steep_38 (l : Launch) {F : FI} {v0 v1 v2 v3 v4 v7 s0 s1 : Int} {μ : Mm} {t : Int} (h : jX11_steep_38 v0 v1 v2 v3 v4 v7 s0 s1 μ = some t) (hK : F.1 = [(2, t)] ∧ F.2.1 = μ) : GM l mX11_steep F 0 0 38 [(0, (3, v0)), (1, (0, v1)), (2, (0, v2)), (3, (0, v3)), (4, (0, v4)), (7, (2, v7))] [(2, s0), (2, s1)] μ := by
  unfold jX11_steep_38 at h
  refine GM_lmul (pc := 38) (daX11_steep_0 23 rfl) ?_
  refine GM_aload_n (pc := 39) 0 rfl (daX11_steep_0 24 rfl) rfl ?_
  refine GM_iload_n (pc := 40) 1 rfl (daX11_steep_0 25 rfl) rfl ?_
  refine GM_iload_n (pc := 41) 2 rfl (daX11_steep_0 26 rfl) rfl ?_
  refine GM_iload (pc := 42) 4 rfl (daX11_steep_0 27 rfl) ?_
  obtain ⟨hc3, h⟩ := chk_inv h
  obtain ⟨r4, hf4, h⟩ := Option.bind_eq_some_iff.mp h
  refine GM_callV0 (pc := 44) [(0, v1), (0, v2), (0, v4)] (tX11_farOf l hf4) cwX11_farOf 11 (Nat.le_of_ble_eq_true rfl) rfl kv_X11_farOf ke_X11_farOf km_X11_220 hc3 ⟨Nat.le_of_ble_eq_true rfl, Nat.le_of_ble_eq_true rfl⟩ (Nat.le_of_ble_eq_true rfl) (Nat.le_of_ble_eq_true rfl) (daX11_steep_0 28 rfl) ?_
  refine GM_i2l (pc := 47) (daX11_steep_0 29 rfl) ?_
  refine GM_lmul (pc := 48) (daX11_steep_0 30 rfl) ?_
  refine GM_lload (pc := 49) 5 rfl (daX11_steep_0 31 rfl) ?_
  refine GM_lload (pc := 51) 5 rfl (daX11_steep_0 32 rfl) ?_
  refine GM_lconst (pc := 53) 0 (daX11_steep_0 33 rfl) rfl (R64_b rfl) ?_
  refine GM_lcmp (pc := 54) (daX11_steep_0 34 rfl) ?_
  refine GM_if_ge (pc := 55) 64 (daX11_steep_0 35 rfl) rfl (fun c5 => ?_) (fun c5 => ?_)
  · skip
    have c5 := lcmp_ge.mp c5
    rw [if_pos c5] at h
    refine GM_lload (pc := 64) 5 rfl (daX11_steep_0 39 rfl) ?_
    refine GM_pick [0, 1, 2, 3] rfl ?_
    exact gX11_steep_66 l h hK
  · skip
    have c5 := (not_congr lcmp_ge).mp c5
    rw [if_neg c5] at h
    refine GM_lload (pc := 58) 5 rfl (daX11_steep_0 36 rfl) ?_
    refine GM_lneg (pc := 60) (daX11_steep_0 37 rfl) ?_
    refine GM_goto (pc := 61) 66 (daX11_steep_0 38 rfl) rfl ?_
    refine GM_pick [0, 1, 2, 3] rfl ?_
    exact gX11_steep_66 l h hK
set_option maxRecDepth 20000 in
theorem gX11_steep_0 (l : Launch) {F : FI} {v0 v1 v2 v3 v4 : Int} {μ : Mm} {t : Int} (h : fX11_steep v0 v1 v2 v3 v4 μ = some t) (hK : F.1 = [(2, t)] ∧ F.2.1 = μ) : GM l mX11_steep F 0 0 0 [(0, (3, v0)), (1, (0, v1)), (2, (0, v2)), (3, (0, v3)), (4, (0, v4))] [] μ := by
  unfold fX11_steep at h
  refine GM_aload_n (pc := 0) 0 rfl (daX11_steep_0 0 rfl) rfl ?_
  refine GM_iload_n (pc := 1) 1 rfl (daX11_steep_0 1 rfl) rfl ?_
  refine GM_iload_n (pc := 2) 2 rfl (daX11_steep_0 2 rfl) rfl ?_
  refine GM_iload_n (pc := 3) 3 rfl (daX11_steep_0 3 rfl) rfl ?_
  obtain ⟨hc6, h⟩ := chk_inv h
  obtain ⟨r7, hf7, h⟩ := Option.bind_eq_some_iff.mp h
  refine GM_callV0 (pc := 4) [(0, v1), (0, v2), (0, v3)] (tX11_riseOf l hf7) cwX11_riseOf 11 (Nat.le_of_ble_eq_true rfl) rfl kv_X11_riseOf ke_X11_riseOf km_X11_223 hc6 ⟨Nat.le_of_ble_eq_true rfl, Nat.le_of_ble_eq_true rfl⟩ (Nat.le_of_ble_eq_true rfl) (Nat.le_of_ble_eq_true rfl) (daX11_steep_0 4 rfl) ?_
  refine GM_i2l (pc := 7) (daX11_steep_0 5 rfl) ?_
  refine GM_lstore (L' := [(5, (2, r7)), (0, (3, v0)), (1, (0, v1)), (2, (0, v2)), (3, (0, v3)), (4, (0, v4))]) (pc := 8) (daX11_steep_0 6 rfl) (Nat.le_of_ble_eq_true rfl) rfl ?_
  refine GM_aload_n (pc := 10) 1 rfl (daX11_steep_0 7 rfl) rfl ?_
  refine GM_iload_n (pc := 11) 2 rfl (daX11_steep_0 8 rfl) rfl ?_
  refine GM_iload_n (pc := 12) 3 rfl (daX11_steep_0 9 rfl) rfl ?_
  refine GM_iload (pc := 13) 5 rfl (daX11_steep_0 10 rfl) ?_
  obtain ⟨r8, hf8, h⟩ := Option.bind_eq_some_iff.mp h
  refine GM_callV0 (pc := 15) [(0, v1), (0, v2), (0, v4)] (tX11_riseOf l hf8) cwX11_riseOf 11 (Nat.le_of_ble_eq_true rfl) rfl kv_X11_riseOf ke_X11_riseOf km_X11_223 hc6 ⟨Nat.le_of_ble_eq_true rfl, Nat.le_of_ble_eq_true rfl⟩ (Nat.le_of_ble_eq_true rfl) (Nat.le_of_ble_eq_true rfl) (daX11_steep_0 11 rfl) ?_
  refine GM_i2l (pc := 18) (daX11_steep_0 12 rfl) ?_
  refine GM_lstore (L' := [(7, (2, r8)), (5, (2, r7)), (0, (3, v0)), (1, (0, v1)), (2, (0, v2)), (3, (0, v3)), (4, (0, v4))]) (pc := 19) (daX11_steep_0 13 rfl) (Nat.le_of_ble_eq_true rfl) rfl ?_
  refine GM_lload (pc := 21) 1 rfl (daX11_steep_0 14 rfl) ?_
  refine GM_lload (pc := 23) 1 rfl (daX11_steep_0 15 rfl) ?_
  refine GM_lconst (pc := 25) 0 (daX11_steep_0 16 rfl) rfl (R64_b rfl) ?_
  refine GM_lcmp (pc := 26) (daX11_steep_0 17 rfl) ?_
  refine GM_if_ge (pc := 27) 36 (daX11_steep_0 18 rfl) rfl (fun c9 => ?_) (fun c9 => ?_)
  · skip
    have c9 := lcmp_ge.mp c9
    rw [if_pos c9] at h
    refine GM_lload (pc := 36) 1 rfl (daX11_steep_0 22 rfl) ?_
    refine GM_pick [2, 3, 4, 5, 6, 0] rfl ?_
    exact gX11_steep_38 l h hK
  · skip
    have c9 := (not_congr lcmp_ge).mp c9
    rw [if_neg c9] at h
    refine GM_lload (pc := 30) 1 rfl (daX11_steep_0 19 rfl) ?_
    refine GM_lneg (pc := 32) (daX11_steep_0 20 rfl) ?_
    refine GM_goto (pc := 33) 38 (daX11_steep_0 21 rfl) rfl ?_
    refine GM_pick [2, 3, 4, 5, 6, 0] rfl ?_
    exact gX11_steep_38 l h hK
theorem tX11_steep (l : Launch) {v0 v1 v2 v3 v4 : Int} {μ : Mm} {t : Int} (h : fX11_steep v0 v1 v2 v3 v4 μ = some t) : Ct l yX11_steep mX11_steep [(3, v0), (0, v1), (0, v2), (0, v3), (0, v4)] μ ([(2, t)], μ, 0, 0) :=
  Ct_of (by decide +kernel) rfl rfl (Nat.le_of_ble_eq_true rfl) (fun _ _ _ => trivial) (gX11_steep_0 l h ⟨rfl, rfl⟩)
def mX11_isSeen : MI := (RX11, cX11_isSeen, 9, (some .boolean), "isSeen", 4, 99, fun _ _ _ => True)
theorem cwX11_isSeen : CWd yX11_isSeen mX11_isSeen 3 := ⟨ki_X11, kk_X11_isSeen, ⟨by decide, by decide⟩, rfl⟩
def dtX11_isSeen_0 : List (Nat × Instr × Nat) := [(0, .aload_n 0, 1), (1, .iload_n 1, 1), (2, .iload_n 2, 1), (3, .iload_n 3, 1), (4, .invokevirtual 220, 3), (7, .aload_n 0, 1), (8, .getfield 7, 3), (11, .iload_n 1, 1), (12, .iconst 4, 1), (13, .iadd, 1), (14, .iaload, 1), (15, .if_icmp .le 5, 3), (18, .iconst 0, 1), (19, .ireturn, 1), (20, .aload_n 0, 1), (21, .iload_n 1, 1), (22, .iload_n 2, 1), (23, .iload_n 3, 1), (24, .invokevirtual 213, 3), (27, .istore 4, 2), (29, .aload_n 0, 1), (30, .iload_n 1, 1), (31, .iload_n 2, 1), (32, .iload_n 3, 1), (33, .invokevirtual 217, 3), (36, .istore 5, 2), (38, .iload 4, 2), (40, .i2l, 1), (41, .iload 5, 2), (43, .i2l, 1), (44, .invokestatic 69, 3), (47, .l2i, 1), (48, .istore 6, 2), (50, .iconst 1, 1), (51, .istore 7, 2), (53, .iconst 1, 1), (54, .istore 8, 2), (56, .iload 8, 2), (58, .iload 6, 2), (60, .if_icmp .ge 55, 3), (63, .iload 7, 2), (65, .ifCond .eq 50, 3), (68, .aload_n 0, 1), (69, .iload_n 1, 1), (70, .iload_n 2, 1), (71, .iload_n 2, 1), (72, .iload 4, 2), (74, .iload 5, 2), (76, .aload_n 0, 1), (77, .getfield 7, 3), (80, .iload_n 1, 1), (81, .iconst 0, 1), (82, .iadd, 1), (83, .iaload, 1), (84, .imul, 1), (85, .iadd, 1), (86, .iload 6, 2), (88, .idiv, 1), (89, .iload 8, 2), (91, .imul, 1), (92, .iadd, 1), (93, .iload_n 3, 1), (94, .invokevirtual 226, 3), (97, .lconst 0, 1)]
theorem ddX11_isSeen_0 : (dtX11_isSeen_0.all fun e => decide (decode mX11_isSeen.2.1 e.1 = .ok (e.2.1, e.2.2))) = true := by decide +kernel
theorem daX11_isSeen_0 (j : Nat) {pc n : Nat} {i : Instr} (h : dtX11_isSeen_0[j]? = some (pc, i, n)) : decode mX11_isSeen.2.1 pc = .ok (i, n) := dec_of (c := mX11_isSeen.2.1) ddX11_isSeen_0 h
def dtX11_isSeen_1 : List (Nat × Instr × Nat) := [(98, .lcmp, 1), (99, .ifCond .ge 7, 3), (102, .iconst 1, 1), (103, .goto 4, 3), (106, .iconst 0, 1), (107, .istore 7, 2), (109, .iinc 8 1, 3), (112, .goto (-56), 3), (115, .iload 7, 2), (117, .ireturn, 1)]
theorem ddX11_isSeen_1 : (dtX11_isSeen_1.all fun e => decide (decode mX11_isSeen.2.1 e.1 = .ok (e.2.1, e.2.2))) = true := by decide +kernel
theorem daX11_isSeen_1 (j : Nat) {pc n : Nat} {i : Instr} (h : dtX11_isSeen_1[j]? = some (pc, i, n)) : decode mX11_isSeen.2.1 pc = .ok (i, n) := dec_of (c := mX11_isSeen.2.1) ddX11_isSeen_1 h
def zX11_isSeen_56 (l : Launch) (F : FI) (v0 v1 v2 v3 v4 v5 v6 : Int) (μ : Mm) (k n : Nat) : (Int × Int) ⊕ Int → Prop
  | .inl (v7, v8) => GM l mX11_isSeen F k n 56 [(0, (3, v0)), (1, (0, v1)), (2, (0, v2)), (3, (0, v3)), (4, (0, v4)), (5, (0, v5)), (6, (0, v6)), (7, (0, v7)), (8, (0, v8))] [] μ
  | .inr v7 => GM l mX11_isSeen F k n 115 [(7, (0, v7))] [] μ
def sX11_isSeen_56 (v0 v1 v2 v3 v4 v5 v6 : Int) (μ : Mm) : (Int × Int) → Option ((Int × Int) ⊕ Int) := fun (v7, v8) =>
  if v6 ≤ v8 then
    some (.inr v7)
  else
    if v7 = 0 then
      some (.inr v7)
    else
      chk (KD v0 = 11) (
      chk (KD (μ v0 0) = 12 ∧ 0 ≤ w32 (v1 + 0) ∧ w32 (v1 + 0) < LN (μ v0 0)) (
      chk (v6 ≠ 0) (
      (fX11_steep v0 v1 v2 (w32 (v2 + (w32 ((w32 ((w32 (v4 + (w32 (v5 * (μ (μ v0 0) (w32 (v1 + 0))))))).tdiv v6)) * v8)))) v3 μ).bind fun r6 =>
      if 0 ≤ r6 then
        some (.inl (0, w32 (v8 + 1)))
      else
        some (.inl (1, w32 (v8 + 1))))))
def fX11_isSeen (v0 v1 v2 v3 : Int) (μ : Mm) : Option Int :=
  chk (KD v0 = 11) (
  (fX11_farOf v0 v1 v2 v3 μ).bind fun r9 =>
  chk (KD (μ v0 0) = 12 ∧ 0 ≤ w32 (v1 + 4) ∧ w32 (v1 + 4) < LN (μ v0 0)) (
  if r9 ≤ μ (μ v0 0) (w32 (v1 + 4)) then
    (fX11_eastOf v0 v1 v2 v3 μ).bind fun r12 =>
    (fX11_southOf v0 v1 v2 v3 μ).bind fun r13 =>
    (fX11_common r12 r13).bind fun r14 =>
    (lop (sX11_isSeen_56 v0 v1 v2 v3 r12 r13 (w32 r14) μ) FU (1, 1)).bind fun v7_16 =>
      chk ((v7_16 = 0 ∨ v7_16 = 1)) (
      some v7_16)
  else
    some 0))
set_option maxRecDepth 20000 in
theorem qX11_isSeen_56 (l : Launch) (F : FI) (v0 v1 v2 v3 v4 v5 v6 : Int) (μ : Mm) (k n : Nat) : ∀ (q : (Int × Int)) (t : ((Int × Int) ⊕ Int)), sX11_isSeen_56 v0 v1 v2 v3 v4 v5 v6 μ q = some t → zX11_isSeen_56 l F v0 v1 v2 v3 v4 v5 v6 μ k n t → zX11_isSeen_56 l F v0 v1 v2 v3 v4 v5 v6 μ k n (.inl q) := by
  intro q t h hK
  obtain ⟨v7, v8⟩ := q
  unfold sX11_isSeen_56 at h
  try dsimp only at h
  show GM l mX11_isSeen F k n 56 [(0, (3, v0)), (1, (0, v1)), (2, (0, v2)), (3, (0, v3)), (4, (0, v4)), (5, (0, v5)), (6, (0, v6)), (7, (0, v7)), (8, (0, v8))] [] μ
  refine GM_iload (pc := 56) 8 rfl (daX11_isSeen_0 37 rfl) ?_
  refine GM_iload (pc := 58) 6 rfl (daX11_isSeen_0 38 rfl) ?_
  refine GM_icmp_ge (pc := 60) 115 (daX11_isSeen_0 39 rfl) rfl (fun c1 => ?_) (fun c1 => ?_)
  · skip
    rw [if_pos c1] at h
    refine GM_pick [7] rfl ?_
    cases h
    exact hK
  · skip
    rw [if_neg c1] at h
    refine GM_iload (pc := 63) 7 rfl (daX11_isSeen_0 40 rfl) ?_
    refine GM_if_eq (pc := 65) 115 (daX11_isSeen_0 41 rfl) rfl (fun c2 => ?_) (fun c2 => ?_)
    · skip
      rw [if_pos c2] at h
      refine GM_pick [7] rfl ?_
      cases h
      exact hK
    · skip
      rw [if_neg c2] at h
      refine GM_aload_n (pc := 68) 0 rfl (daX11_isSeen_0 42 rfl) rfl ?_
      refine GM_iload_n (pc := 69) 1 rfl (daX11_isSeen_0 43 rfl) rfl ?_
      refine GM_iload_n (pc := 70) 2 rfl (daX11_isSeen_0 44 rfl) rfl ?_
      refine GM_iload_n (pc := 71) 2 rfl (daX11_isSeen_0 45 rfl) rfl ?_
      refine GM_iload (pc := 72) 4 rfl (daX11_isSeen_0 46 rfl) ?_
      refine GM_iload (pc := 74) 5 rfl (daX11_isSeen_0 47 rfl) ?_
      refine GM_aload_n (pc := 76) 0 rfl (daX11_isSeen_0 48 rfl) rfl ?_
      obtain ⟨hc3, h⟩ := chk_inv h
      refine GM_getf (pc := 77) 11 0 3 0 kf_X11_7 (Nat.le_of_ble_eq_true rfl) (Nat.le_of_ble_eq_true rfl) rfl (daX11_isSeen_0 49 rfl) hc3 rfl ?_
      refine GM_iload_n (pc := 80) 1 rfl (daX11_isSeen_0 50 rfl) rfl ?_
      refine GM_iconst (pc := 81) 0 (daX11_isSeen_0 51 rfl) rfl (R32_b rfl) ?_
      refine GM_iadd (pc := 82) (daX11_isSeen_0 52 rfl) ?_
      obtain ⟨hc4, h⟩ := chk_inv h
      refine GM_iald (pc := 83) (daX11_isSeen_0 53 rfl) hc4.1 hc4.2.1 hc4.2.2 ?_
      refine GM_imul (pc := 84) (daX11_isSeen_0 54 rfl) ?_
      refine GM_iadd (pc := 85) (daX11_isSeen_0 55 rfl) ?_
      refine GM_iload (pc := 86) 6 rfl (daX11_isSeen_0 56 rfl) ?_
      obtain ⟨hc5, h⟩ := chk_inv h
      refine GM_idiv (pc := 88) (daX11_isSeen_0 57 rfl) hc5 ?_
      refine GM_iload (pc := 89) 8 rfl (daX11_isSeen_0 58 rfl) ?_
      refine GM_imul (pc := 91) (daX11_isSeen_0 59 rfl) ?_
      refine GM_iadd (pc := 92) (daX11_isSeen_0 60 rfl) ?_
      refine GM_iload_n (pc := 93) 3 rfl (daX11_isSeen_0 61 rfl) rfl ?_
      obtain ⟨r6, hf6, h⟩ := Option.bind_eq_some_iff.mp h
      refine GM_callV0 (pc := 94) [(0, v1), (0, v2), (0, w32 (v2 + (w32 ((w32 ((w32 (v4 + (w32 (v5 * (μ (μ v0 0) (w32 (v1 + 0))))))).tdiv v6)) * v8)))), (0, v3)] (tX11_steep l hf6) cwX11_steep 11 (Nat.le_of_ble_eq_true rfl) rfl kv_X11_steep ke_X11_steep km_X11_226 hc3 ⟨Nat.le_of_ble_eq_true rfl, Nat.le_of_ble_eq_true rfl⟩ (Nat.le_of_ble_eq_true rfl) (Nat.le_of_ble_eq_true rfl) (daX11_isSeen_0 62 rfl) ?_
      refine GM_lconst (pc := 97) 0 (daX11_isSeen_0 63 rfl) rfl (R64_b rfl) ?_
      refine GM_lcmp (pc := 98) (daX11_isSeen_1 0 rfl) ?_
      refine GM_if_ge (pc := 99) 106 (daX11_isSeen_1 1 rfl) rfl (fun c7 => ?_) (fun c7 => ?_)
      · skip
        have c7 := lcmp_ge.mp c7
        rw [if_pos c7] at h
        refine GM_iconst (pc := 106) 0 (daX11_isSeen_1 4 rfl) rfl (R32_b rfl) ?_
        refine GM_istore (L' := [(7, (0, 0)), (0, (3, v0)), (1, (0, v1)), (2, (0, v2)), (3, (0, v3)), (4, (0, v4)), (5, (0, v5)), (6, (0, v6)), (8, (0, v8))]) (pc := 107) (daX11_isSeen_1 5 rfl) (Nat.le_of_ble_eq_true rfl) rfl ?_
        refine GM_iinc (L' := [(8, (0, w32 (v8 + 1))), (7, (0, 0)), (0, (3, v0)), (1, (0, v1)), (2, (0, v2)), (3, (0, v3)), (4, (0, v4)), (5, (0, v5)), (6, (0, v6))]) (pc := 109) 8 rfl (daX11_isSeen_1 6 rfl) (Nat.le_of_ble_eq_true rfl) rfl ?_
        refine GM_goto (pc := 112) 56 (daX11_isSeen_1 7 rfl) rfl ?_
        refine GM_pick [2, 3, 4, 5, 6, 7, 8, 1, 0] rfl ?_
        cases h
        exact hK
      · skip
        have c7 := (not_congr lcmp_ge).mp c7
        rw [if_neg c7] at h
        refine GM_iconst (pc := 102) 1 (daX11_isSeen_1 2 rfl) rfl (R32_b rfl) ?_
        refine GM_goto (pc := 103) 107 (daX11_isSeen_1 3 rfl) rfl ?_
        refine GM_istore (L' := [(7, (0, 1)), (0, (3, v0)), (1, (0, v1)), (2, (0, v2)), (3, (0, v3)), (4, (0, v4)), (5, (0, v5)), (6, (0, v6)), (8, (0, v8))]) (pc := 107) (daX11_isSeen_1 5 rfl) (Nat.le_of_ble_eq_true rfl) rfl ?_
        refine GM_iinc (L' := [(8, (0, w32 (v8 + 1))), (7, (0, 1)), (0, (3, v0)), (1, (0, v1)), (2, (0, v2)), (3, (0, v3)), (4, (0, v4)), (5, (0, v5)), (6, (0, v6))]) (pc := 109) 8 rfl (daX11_isSeen_1 6 rfl) (Nat.le_of_ble_eq_true rfl) rfl ?_
        refine GM_goto (pc := 112) 56 (daX11_isSeen_1 7 rfl) rfl ?_
        refine GM_pick [2, 3, 4, 5, 6, 7, 8, 1, 0] rfl ?_
        cases h
        exact hK
set_option maxRecDepth 20000 in
theorem gX11_isSeen_0 (l : Launch) {F : FI} {v0 v1 v2 v3 : Int} {μ : Mm} {t : Int} (h : fX11_isSeen v0 v1 v2 v3 μ = some t) (hK : F.1 = [(0, t)] ∧ F.2.1 = μ) : GM l mX11_isSeen F 0 0 0 [(0, (3, v0)), (1, (0, v1)), (2, (0, v2)), (3, (0, v3))] [] μ := by
  unfold fX11_isSeen at h
  refine GM_aload_n (pc := 0) 0 rfl (daX11_isSeen_0 0 rfl) rfl ?_
  refine GM_iload_n (pc := 1) 1 rfl (daX11_isSeen_0 1 rfl) rfl ?_
  refine GM_iload_n (pc := 2) 2 rfl (daX11_isSeen_0 2 rfl) rfl ?_
  refine GM_iload_n (pc := 3) 3 rfl (daX11_isSeen_0 3 rfl) rfl ?_
  obtain ⟨hc8, h⟩ := chk_inv h
  obtain ⟨r9, hf9, h⟩ := Option.bind_eq_some_iff.mp h
  refine GM_callV0 (pc := 4) [(0, v1), (0, v2), (0, v3)] (tX11_farOf l hf9) cwX11_farOf 11 (Nat.le_of_ble_eq_true rfl) rfl kv_X11_farOf ke_X11_farOf km_X11_220 hc8 ⟨Nat.le_of_ble_eq_true rfl, Nat.le_of_ble_eq_true rfl⟩ (Nat.le_of_ble_eq_true rfl) (Nat.le_of_ble_eq_true rfl) (daX11_isSeen_0 4 rfl) ?_
  refine GM_aload_n (pc := 7) 0 rfl (daX11_isSeen_0 5 rfl) rfl ?_
  refine GM_getf (pc := 8) 11 0 3 0 kf_X11_7 (Nat.le_of_ble_eq_true rfl) (Nat.le_of_ble_eq_true rfl) rfl (daX11_isSeen_0 6 rfl) hc8 rfl ?_
  refine GM_iload_n (pc := 11) 1 rfl (daX11_isSeen_0 7 rfl) rfl ?_
  refine GM_iconst (pc := 12) 4 (daX11_isSeen_0 8 rfl) rfl (R32_b rfl) ?_
  refine GM_iadd (pc := 13) (daX11_isSeen_0 9 rfl) ?_
  obtain ⟨hc10, h⟩ := chk_inv h
  refine GM_iald (pc := 14) (daX11_isSeen_0 10 rfl) hc10.1 hc10.2.1 hc10.2.2 ?_
  refine GM_icmp_le (pc := 15) 20 (daX11_isSeen_0 11 rfl) rfl (fun c11 => ?_) (fun c11 => ?_)
  · skip
    rw [if_pos c11] at h
    refine GM_aload_n (pc := 20) 0 rfl (daX11_isSeen_0 14 rfl) rfl ?_
    refine GM_iload_n (pc := 21) 1 rfl (daX11_isSeen_0 15 rfl) rfl ?_
    refine GM_iload_n (pc := 22) 2 rfl (daX11_isSeen_0 16 rfl) rfl ?_
    refine GM_iload_n (pc := 23) 3 rfl (daX11_isSeen_0 17 rfl) rfl ?_
    obtain ⟨r12, hf12, h⟩ := Option.bind_eq_some_iff.mp h
    refine GM_callV0 (pc := 24) [(0, v1), (0, v2), (0, v3)] (tX11_eastOf l hf12) cwX11_eastOf 11 (Nat.le_of_ble_eq_true rfl) rfl kv_X11_eastOf ke_X11_eastOf km_X11_213 hc8 ⟨Nat.le_of_ble_eq_true rfl, Nat.le_of_ble_eq_true rfl⟩ (Nat.le_of_ble_eq_true rfl) (Nat.le_of_ble_eq_true rfl) (daX11_isSeen_0 18 rfl) ?_
    refine GM_istore (L' := [(4, (0, r12)), (0, (3, v0)), (1, (0, v1)), (2, (0, v2)), (3, (0, v3))]) (pc := 27) (daX11_isSeen_0 19 rfl) (Nat.le_of_ble_eq_true rfl) rfl ?_
    refine GM_aload_n (pc := 29) 1 rfl (daX11_isSeen_0 20 rfl) rfl ?_
    refine GM_iload_n (pc := 30) 2 rfl (daX11_isSeen_0 21 rfl) rfl ?_
    refine GM_iload_n (pc := 31) 3 rfl (daX11_isSeen_0 22 rfl) rfl ?_
    refine GM_iload_n (pc := 32) 4 rfl (daX11_isSeen_0 23 rfl) rfl ?_
    obtain ⟨r13, hf13, h⟩ := Option.bind_eq_some_iff.mp h
    refine GM_callV0 (pc := 33) [(0, v1), (0, v2), (0, v3)] (tX11_southOf l hf13) cwX11_southOf 11 (Nat.le_of_ble_eq_true rfl) rfl kv_X11_southOf ke_X11_southOf km_X11_217 hc8 ⟨Nat.le_of_ble_eq_true rfl, Nat.le_of_ble_eq_true rfl⟩ (Nat.le_of_ble_eq_true rfl) (Nat.le_of_ble_eq_true rfl) (daX11_isSeen_0 24 rfl) ?_
    refine GM_istore (L' := [(5, (0, r13)), (4, (0, r12)), (0, (3, v0)), (1, (0, v1)), (2, (0, v2)), (3, (0, v3))]) (pc := 36) (daX11_isSeen_0 25 rfl) (Nat.le_of_ble_eq_true rfl) rfl ?_
    refine GM_iload (pc := 38) 1 rfl (daX11_isSeen_0 26 rfl) ?_
    refine GM_i2l (pc := 40) (daX11_isSeen_0 27 rfl) ?_
    refine GM_iload (pc := 41) 0 rfl (daX11_isSeen_0 28 rfl) ?_
    refine GM_i2l (pc := 43) (daX11_isSeen_0 29 rfl) ?_
    obtain ⟨r14, hf14, h⟩ := Option.bind_eq_some_iff.mp h
    refine GM_callS0 (pc := 44) [(2, r12), (2, r13)] (tX11_common l hf14) cwX11_common ks_X11_common km_X11_69 ⟨Nat.le_of_ble_eq_true rfl, Nat.le_of_ble_eq_true rfl⟩ (Nat.le_of_ble_eq_true rfl) (Nat.le_of_ble_eq_true rfl) (daX11_isSeen_0 30 rfl) ?_
    refine GM_l2i (pc := 47) (daX11_isSeen_0 31 rfl) ?_
    refine GM_istore (L' := [(6, (0, w32 r14)), (5, (0, r13)), (4, (0, r12)), (0, (3, v0)), (1, (0, v1)), (2, (0, v2)), (3, (0, v3))]) (pc := 48) (daX11_isSeen_0 32 rfl) (Nat.le_of_ble_eq_true rfl) rfl ?_
    refine GM_iconst (pc := 50) 1 (daX11_isSeen_0 33 rfl) rfl (R32_b rfl) ?_
    refine GM_istore (L' := [(7, (0, 1)), (6, (0, w32 r14)), (5, (0, r13)), (4, (0, r12)), (0, (3, v0)), (1, (0, v1)), (2, (0, v2)), (3, (0, v3))]) (pc := 51) (daX11_isSeen_0 34 rfl) (Nat.le_of_ble_eq_true rfl) rfl ?_
    refine GM_iconst (pc := 53) 1 (daX11_isSeen_0 35 rfl) rfl (R32_b rfl) ?_
    refine GM_istore (L' := [(8, (0, 1)), (7, (0, 1)), (6, (0, w32 r14)), (5, (0, r13)), (4, (0, r12)), (0, (3, v0)), (1, (0, v1)), (2, (0, v2)), (3, (0, v3))]) (pc := 54) (daX11_isSeen_0 36 rfl) (Nat.le_of_ble_eq_true rfl) rfl ?_
    refine GM_pick [5, 6, 7, 8, 4, 3, 2, 1, 0] rfl ?_
    obtain ⟨x15, hqx15, h⟩ := Option.bind_eq_some_iff.mp h
    refine lop_ind (zX11_isSeen_56 l F v0 v1 v2 v3 r12 r13 (w32 r14) μ 0 0) (qX11_isSeen_56 l F v0 v1 v2 v3 r12 r13 (w32 r14) μ 0 0) FU _ x15 hqx15 ?_
    obtain ⟨v7_16, hqq⟩ : ∃ z, z = x15 := ⟨x15, rfl⟩
    subst hqq
    show GM l mX11_isSeen F 0 0 115 [(7, (0, v7_16))] [] μ
    refine GM_iload (pc := 115) 0 rfl (daX11_isSeen_1 8 rfl) ?_
    obtain ⟨hc17, h⟩ := chk_inv h
    cases h
    exact GM_zret (pc := 117) (daX11_isSeen_1 9 rfl) rfl hc17 hK
  · skip
    rw [if_neg c11] at h
    refine GM_iconst (pc := 18) 0 (daX11_isSeen_0 12 rfl) rfl (R32_b rfl) ?_
    cases h
    exact GM_zret (pc := 19) (daX11_isSeen_0 13 rfl) rfl (Or.inl rfl) hK
theorem tX11_isSeen (l : Launch) {v0 v1 v2 v3 : Int} {μ : Mm} {t : Int} (h : fX11_isSeen v0 v1 v2 v3 μ = some t) : Ct l yX11_isSeen mX11_isSeen [(3, v0), (0, v1), (0, v2), (0, v3)] μ ([(0, t)], μ, 0, 0) :=
  Ct_of (by decide +kernel) rfl rfl (Nat.le_of_ble_eq_true rfl) (fun _ _ _ => trivial) (gX11_isSeen_0 l h ⟨rfl, rfl⟩)
def mX11_topOf : MI := (RX11, cX11_topOf, 8, (some .int), "topOf", 4, 99, fun _ _ _ => True)
theorem cwX11_topOf : CWd yX11_topOf mX11_topOf 3 := ⟨ki_X11, kk_X11_topOf, ⟨by decide, by decide⟩, rfl⟩
def dtX11_topOf_0 : List (Nat × Instr × Nat) := [(0, .iload_n 2, 1), (1, .aload_n 0, 1), (2, .getfield 7, 3), (5, .iload_n 1, 1), (6, .iconst 0, 1), (7, .iadd, 1), (8, .iaload, 1), (9, .irem, 1), (10, .aload_n 0, 1), (11, .getfield 17, 3), (14, .iload_n 3, 1), (15, .iaload, 1), (16, .iadd, 1), (17, .istore 4, 2), (19, .iload_n 2, 1), (20, .aload_n 0, 1), (21, .getfield 7, 3), (24, .iload_n 1, 1), (25, .iconst 0, 1), (26, .iadd, 1), (27, .iaload, 1), (28, .idiv, 1), (29, .aload_n 0, 1), (30, .getfield 20, 3), (33, .iload_n 3, 1), (34, .iaload, 1), (35, .iadd, 1), (36, .istore 5, 2), (38, .iconst (-1), 1), (39, .istore 6, 2), (41, .iload 4, 2), (43, .iconst 0, 1), (44, .aload_n 0, 1), (45, .getfield 7, 3), (48, .iload_n 1, 1), (49, .iconst 0, 1), (50, .iadd, 1), (51, .iaload, 1), (52, .iconst 1, 1), (53, .isub, 1), (54, .invokestatic 147, 3), (57, .ifCond .eq 106, 3), (60, .iload 5, 2), (62, .iconst 0, 1), (63, .aload_n 0, 1), (64, .getfield 7, 3), (67, .iload_n 1, 1), (68, .iconst 1, 1), (69, .iadd, 1), (70, .iaload, 1), (71, .iconst 1, 1), (72, .isub, 1), (73, .invokestatic 147, 3), (76, .ifCond .eq 87, 3), (79, .iload 5, 2), (81, .aload_n 0, 1), (82, .getfield 7, 3), (85, .iload_n 1, 1), (86, .iconst 0, 1), (87, .iadd, 1), (88, .iaload, 1), (89, .imul, 1), (90, .iload 4, 2), (92, .iadd, 1)]
theorem ddX11_topOf_0 : (dtX11_topOf_0.all fun e => decide (decode mX11_topOf.2.1 e.1 = .ok (e.2.1, e.2.2))) = true := by decide +kernel
theorem daX11_topOf_0 (j : Nat) {pc n : Nat} {i : Instr} (h : dtX11_topOf_0[j]? = some (pc, i, n)) : decode mX11_topOf.2.1 pc = .ok (i, n) := dec_of (c := mX11_topOf.2.1) ddX11_topOf_0 h
def dtX11_topOf_1 : List (Nat × Instr × Nat) := [(93, .istore 7, 2), (95, .aload_n 0, 1), (96, .iload_n 1, 1), (97, .iload_n 2, 1), (98, .iload 7, 2), (100, .invokevirtual 220, 3), (103, .aload_n 0, 1), (104, .getfield 7, 3), (107, .iload_n 1, 1), (108, .iconst 4, 1), (109, .iadd, 1), (110, .iaload, 1), (111, .if_icmp .gt 27, 3), (114, .iload 6, 2), (116, .ifCond .lt 18, 3), (119, .aload_n 0, 1), (120, .iload_n 1, 1), (121, .iload_n 2, 1), (122, .iload 7, 2), (124, .iload 6, 2), (126, .invokevirtual 226, 3), (129, .lconst 0, 1), (130, .lcmp, 1), (131, .ifCond .le 7, 3), (134, .iload 7, 2), (136, .istore 6, 2), (138, .iload 4, 2), (140, .aload_n 0, 1), (141, .getfield 17, 3), (144, .iload_n 3, 1), (145, .iaload, 1), (146, .iadd, 1), (147, .istore 4, 2), (149, .iload 5, 2), (151, .aload_n 0, 1), (152, .getfield 20, 3), (155, .iload_n 3, 1), (156, .iaload, 1), (157, .iadd, 1), (158, .istore 5, 2), (160, .goto (-119), 3), (163, .iload 6, 2), (165, .ireturn, 1)]
theorem ddX11_topOf_1 : (dtX11_topOf_1.all fun e => decide (decode mX11_topOf.2.1 e.1 = .ok (e.2.1, e.2.2))) = true := by decide +kernel
theorem daX11_topOf_1 (j : Nat) {pc n : Nat} {i : Instr} (h : dtX11_topOf_1[j]? = some (pc, i, n)) : decode mX11_topOf.2.1 pc = .ok (i, n) := dec_of (c := mX11_topOf.2.1) ddX11_topOf_1 h
def jX11_topOf_138 (v0 v1 v2 v3 v4 v5 v6 : Int) (μ : Mm) : Option ((Int × Int × Int) ⊕ Int) :=
  chk (KD v0 = 11) (
  chk (KD (μ v0 3) = 12 ∧ 0 ≤ v3 ∧ v3 < LN (μ v0 3)) (
  lt (w32 (v4 + (μ (μ v0 3) v3))) fun y3 =>
  chk (KD (μ v0 4) = 12 ∧ v3 < LN (μ v0 4)) (
  lt (w32 (v5 + (μ (μ v0 4) v3))) fun y5 =>
  some (.inl (y3, y5, v6)))))
def jX11_topOf_134 (v0 v1 v2 v3 v4 v5 v7 : Int) (μ : Mm) : Option ((Int × Int × Int) ⊕ Int) :=
  jX11_topOf_138 v0 v1 v2 v3 v4 v5 v7 μ
def zX11_topOf_41 (l : Launch) (F : FI) (v0 v1 v2 v3 : Int) (μ : Mm) (k n : Nat) : (Int × Int × Int) ⊕ Int → Prop
  | .inl (v4, v5, v6) => GM l mX11_topOf F k n 41 [(0, (3, v0)), (1, (0, v1)), (2, (0, v2)), (3, (0, v3)), (4, (0, v4)), (5, (0, v5)), (6, (0, v6))] [] μ
  | .inr v6 => GM l mX11_topOf F k n 163 [(6, (0, v6))] [] μ
def sX11_topOf_41 (v0 v1 v2 v3 : Int) (μ : Mm) : (Int × Int × Int) → Option ((Int × Int × Int) ⊕ Int) := fun (v4, v5, v6) =>
  chk (KD v0 = 11) (
  chk (KD (μ v0 0) = 12 ∧ 0 ≤ w32 (v1 + 0) ∧ w32 (v1 + 0) < LN (μ v0 0)) (
  if isIn v4 0 (w32 ((μ (μ v0 0) (w32 (v1 + 0))) - 1)) = 0 then
    some (.inr v6)
  else
    chk (0 ≤ w32 (v1 + 1) ∧ w32 (v1 + 1) < LN (μ v0 0)) (
    if isIn v5 0 (w32 ((μ (μ v0 0) (w32 (v1 + 1))) - 1)) = 0 then
      some (.inr v6)
    else
      lt (w32 ((w32 (v5 * (μ (μ v0 0) (w32 (v1 + 0))))) + v4)) fun y11 =>
      (fX11_farOf v0 v1 v2 y11 μ).bind fun r12 =>
      chk (0 ≤ w32 (v1 + 4) ∧ w32 (v1 + 4) < LN (μ v0 0)) (
      if μ (μ v0 0) (w32 (v1 + 4)) < r12 then
        jX11_topOf_138 v0 v1 v2 v3 v4 v5 v6 μ
      else
        if v6 < 0 then
          jX11_topOf_134 v0 v1 v2 v3 v4 v5 y11 μ
        else
          (fX11_steep v0 v1 v2 y11 v6 μ).bind fun r16 =>
          if r16 ≤ 0 then
            jX11_topOf_138 v0 v1 v2 v3 v4 v5 v6 μ
          else
            jX11_topOf_134 v0 v1 v2 v3 v4 v5 y11 μ))))
def fX11_topOf (v0 v1 v2 v3 : Int) (μ : Mm) : Option Int :=
  chk (KD v0 = 11) (
  chk (KD (μ v0 0) = 12 ∧ 0 ≤ w32 (v1 + 0) ∧ w32 (v1 + 0) < LN (μ v0 0)) (
  chk (μ (μ v0 0) (w32 (v1 + 0)) ≠ 0) (
  chk (KD (μ v0 3) = 12 ∧ 0 ≤ v3 ∧ v3 < LN (μ v0 3)) (
  lt (w32 ((v2.tmod (μ (μ v0 0) (w32 (v1 + 0)))) + (μ (μ v0 3) v3))) fun y22 =>
  chk (KD (μ v0 4) = 12 ∧ v3 < LN (μ v0 4)) (
  lt (w32 ((w32 (v2.tdiv (μ (μ v0 0) (w32 (v1 + 0))))) + (μ (μ v0 4) v3))) fun y24 =>
  (lop (sX11_topOf_41 v0 v1 v2 v3 μ) FU (y22, y24, (-1))).bind fun v6_26 =>
    some v6_26)))))
set_option maxRecDepth 20000 in
theorem gX11_topOf_138 (l : Launch) {F : FI} {v0 v1 v2 v3 v4 v5 v6 : Int} {μ : Mm} {t : ((Int × Int × Int) ⊕ Int)} {k n : Nat} (h : jX11_topOf_138 v0 v1 v2 v3 v4 v5 v6 μ = some t) (hK : zX11_topOf_41 l F v0 v1 v2 v3 μ k n t) : GM l mX11_topOf F k n 138 [(0, (3, v0)), (1, (0, v1)), (2, (0, v2)), (3, (0, v3)), (4, (0, v4)), (5, (0, v5)), (6, (0, v6))] [] μ := by
  unfold jX11_topOf_138 at h
  refine GM_iload (pc := 138) 4 rfl (daX11_topOf_1 26 rfl) ?_
  refine GM_aload_n (pc := 140) 0 rfl (daX11_topOf_1 27 rfl) rfl ?_
  obtain ⟨hc1, h⟩ := chk_inv h
  refine GM_getf (pc := 141) 11 3 3 3 kf_X11_17 (Nat.le_of_ble_eq_true rfl) (Nat.le_of_ble_eq_true rfl) rfl (daX11_topOf_1 28 rfl) hc1 rfl ?_
  refine GM_iload_n (pc := 144) 3 rfl (daX11_topOf_1 29 rfl) rfl ?_
  obtain ⟨hc2, h⟩ := chk_inv h
  refine GM_iald (pc := 145) (daX11_topOf_1 30 rfl) hc2.1 hc2.2.1 hc2.2.2 ?_
  refine GM_iadd (pc := 146) (daX11_topOf_1 31 rfl) ?_
  obtain ⟨y3, hy3, h⟩ := lt_inv h
  refine GM_top hy3 ?_
  refine GM_istore (L' := [(4, (0, y3)), (0, (3, v0)), (1, (0, v1)), (2, (0, v2)), (3, (0, v3)), (5, (0, v5)), (6, (0, v6))]) (pc := 147) (daX11_topOf_1 32 rfl) (Nat.le_of_ble_eq_true rfl) rfl ?_
  refine GM_iload (pc := 149) 5 rfl (daX11_topOf_1 33 rfl) ?_
  refine GM_aload_n (pc := 151) 1 rfl (daX11_topOf_1 34 rfl) rfl ?_
  refine GM_getf (pc := 152) 11 4 3 4 kf_X11_20 (Nat.le_of_ble_eq_true rfl) (Nat.le_of_ble_eq_true rfl) rfl (daX11_topOf_1 35 rfl) hc1 rfl ?_
  refine GM_iload_n (pc := 155) 4 rfl (daX11_topOf_1 36 rfl) rfl ?_
  obtain ⟨hc4, h⟩ := chk_inv h
  refine GM_iald (pc := 156) (daX11_topOf_1 37 rfl) hc4.1 hc2.2.1 hc4.2 ?_
  refine GM_iadd (pc := 157) (daX11_topOf_1 38 rfl) ?_
  obtain ⟨y5, hy5, h⟩ := lt_inv h
  refine GM_top hy5 ?_
  refine GM_istore (L' := [(5, (0, y5)), (4, (0, y3)), (0, (3, v0)), (1, (0, v1)), (2, (0, v2)), (3, (0, v3)), (6, (0, v6))]) (pc := 158) (daX11_topOf_1 39 rfl) (Nat.le_of_ble_eq_true rfl) rfl ?_
  refine GM_goto (pc := 160) 41 (daX11_topOf_1 40 rfl) rfl ?_
  refine GM_pick [2, 3, 4, 5, 1, 0, 6] rfl ?_
  cases h
  exact hK
set_option maxRecDepth 20000 in
theorem gX11_topOf_134 (l : Launch) {F : FI} {v0 v1 v2 v3 v4 v5 v7 : Int} {μ : Mm} {t : ((Int × Int × Int) ⊕ Int)} {k n : Nat} (h : jX11_topOf_134 v0 v1 v2 v3 v4 v5 v7 μ = some t) (hK : zX11_topOf_41 l F v0 v1 v2 v3 μ k n t) : GM l mX11_topOf F k n 134 [(0, (3, v0)), (1, (0, v1)), (2, (0, v2)), (3, (0, v3)), (4, (0, v4)), (5, (0, v5)), (7, (0, v7))] [] μ := by
  unfold jX11_topOf_134 at h
  refine GM_iload (pc := 134) 6 rfl (daX11_topOf_1 24 rfl) ?_
  refine GM_istore (L' := [(6, (0, v7)), (0, (3, v0)), (1, (0, v1)), (2, (0, v2)), (3, (0, v3)), (4, (0, v4)), (5, (0, v5)), (7, (0, v7))]) (pc := 136) (daX11_topOf_1 25 rfl) (Nat.le_of_ble_eq_true rfl) rfl ?_
  refine GM_pick [1, 2, 3, 4, 5, 6, 0] rfl ?_
  exact gX11_topOf_138 l h hK
set_option maxRecDepth 20000 in
theorem qX11_topOf_41 (l : Launch) (F : FI) (v0 v1 v2 v3 : Int) (μ : Mm) (k n : Nat) : ∀ (q : (Int × Int × Int)) (t : ((Int × Int × Int) ⊕ Int)), sX11_topOf_41 v0 v1 v2 v3 μ q = some t → zX11_topOf_41 l F v0 v1 v2 v3 μ k n t → zX11_topOf_41 l F v0 v1 v2 v3 μ k n (.inl q) := by
  intro q t h hK
  obtain ⟨v4, v5, v6⟩ := q
  unfold sX11_topOf_41 at h
  try dsimp only at h
  show GM l mX11_topOf F k n 41 [(0, (3, v0)), (1, (0, v1)), (2, (0, v2)), (3, (0, v3)), (4, (0, v4)), (5, (0, v5)), (6, (0, v6))] [] μ
  refine GM_iload (pc := 41) 4 rfl (daX11_topOf_0 30 rfl) ?_
  refine GM_iconst (pc := 43) 0 (daX11_topOf_0 31 rfl) rfl (R32_b rfl) ?_
  refine GM_aload_n (pc := 44) 0 rfl (daX11_topOf_0 32 rfl) rfl ?_
  obtain ⟨hc6, h⟩ := chk_inv h
  refine GM_getf (pc := 45) 11 0 3 0 kf_X11_7 (Nat.le_of_ble_eq_true rfl) (Nat.le_of_ble_eq_true rfl) rfl (daX11_topOf_0 33 rfl) hc6 rfl ?_
  refine GM_iload_n (pc := 48) 1 rfl (daX11_topOf_0 34 rfl) rfl ?_
  refine GM_iconst (pc := 49) 0 (daX11_topOf_0 35 rfl) rfl (R32_b rfl) ?_
  refine GM_iadd (pc := 50) (daX11_topOf_0 36 rfl) ?_
  obtain ⟨hc7, h⟩ := chk_inv h
  refine GM_iald (pc := 51) (daX11_topOf_0 37 rfl) hc7.1 hc7.2.1 hc7.2.2 ?_
  refine GM_iconst (pc := 52) 1 (daX11_topOf_0 38 rfl) rfl (R32_b rfl) ?_
  refine GM_isub (pc := 53) (daX11_topOf_0 39 rfl) ?_
  refine GM_callS0 (pc := 54) [(0, v4), (0, 0), (0, w32 ((μ (μ v0 0) (w32 (v1 + 0))) - 1))] (tX11_isIn l (fX11_isIn_eq v4 0 (w32 ((μ (μ v0 0) (w32 (v1 + 0))) - 1)))) cwX11_isIn ks_X11_isIn km_X11_147 ⟨Nat.le_of_ble_eq_true rfl, Nat.le_of_ble_eq_true rfl⟩ (Nat.le_of_ble_eq_true rfl) (Nat.le_of_ble_eq_true rfl) (daX11_topOf_0 40 rfl) ?_
  refine GM_if_eq (pc := 57) 163 (daX11_topOf_0 41 rfl) rfl (fun c8 => ?_) (fun c8 => ?_)
  · skip
    rw [if_pos c8] at h
    refine GM_pick [6] rfl ?_
    cases h
    exact hK
  · skip
    rw [if_neg c8] at h
    refine GM_iload (pc := 60) 5 rfl (daX11_topOf_0 42 rfl) ?_
    refine GM_iconst (pc := 62) 0 (daX11_topOf_0 43 rfl) rfl (R32_b rfl) ?_
    refine GM_aload_n (pc := 63) 0 rfl (daX11_topOf_0 44 rfl) rfl ?_
    refine GM_getf (pc := 64) 11 0 3 0 kf_X11_7 (Nat.le_of_ble_eq_true rfl) (Nat.le_of_ble_eq_true rfl) rfl (daX11_topOf_0 45 rfl) hc6 rfl ?_
    refine GM_iload_n (pc := 67) 1 rfl (daX11_topOf_0 46 rfl) rfl ?_
    refine GM_iconst (pc := 68) 1 (daX11_topOf_0 47 rfl) rfl (R32_b rfl) ?_
    refine GM_iadd (pc := 69) (daX11_topOf_0 48 rfl) ?_
    obtain ⟨hc9, h⟩ := chk_inv h
    refine GM_iald (pc := 70) (daX11_topOf_0 49 rfl) hc7.1 hc9.1 hc9.2 ?_
    refine GM_iconst (pc := 71) 1 (daX11_topOf_0 50 rfl) rfl (R32_b rfl) ?_
    refine GM_isub (pc := 72) (daX11_topOf_0 51 rfl) ?_
    refine GM_callS0 (pc := 73) [(0, v5), (0, 0), (0, w32 ((μ (μ v0 0) (w32 (v1 + 1))) - 1))] (tX11_isIn l (fX11_isIn_eq v5 0 (w32 ((μ (μ v0 0) (w32 (v1 + 1))) - 1)))) cwX11_isIn ks_X11_isIn km_X11_147 ⟨Nat.le_of_ble_eq_true rfl, Nat.le_of_ble_eq_true rfl⟩ (Nat.le_of_ble_eq_true rfl) (Nat.le_of_ble_eq_true rfl) (daX11_topOf_0 52 rfl) ?_
    refine GM_if_eq (pc := 76) 163 (daX11_topOf_0 53 rfl) rfl (fun c10 => ?_) (fun c10 => ?_)
    · skip
      rw [if_pos c10] at h
      refine GM_pick [6] rfl ?_
      cases h
      exact hK
    · skip
      rw [if_neg c10] at h
      refine GM_iload (pc := 79) 5 rfl (daX11_topOf_0 54 rfl) ?_
      refine GM_aload_n (pc := 81) 0 rfl (daX11_topOf_0 55 rfl) rfl ?_
      refine GM_getf (pc := 82) 11 0 3 0 kf_X11_7 (Nat.le_of_ble_eq_true rfl) (Nat.le_of_ble_eq_true rfl) rfl (daX11_topOf_0 56 rfl) hc6 rfl ?_
      refine GM_iload_n (pc := 85) 1 rfl (daX11_topOf_0 57 rfl) rfl ?_
      refine GM_iconst (pc := 86) 0 (daX11_topOf_0 58 rfl) rfl (R32_b rfl) ?_
      refine GM_iadd (pc := 87) (daX11_topOf_0 59 rfl) ?_
      refine GM_iald (pc := 88) (daX11_topOf_0 60 rfl) hc7.1 hc7.2.1 hc7.2.2 ?_
      refine GM_imul (pc := 89) (daX11_topOf_0 61 rfl) ?_
      refine GM_iload (pc := 90) 4 rfl (daX11_topOf_0 62 rfl) ?_
      refine GM_iadd (pc := 92) (daX11_topOf_0 63 rfl) ?_
      obtain ⟨y11, hy11, h⟩ := lt_inv h
      refine GM_top hy11 ?_
      refine GM_istore (L' := [(7, (0, y11)), (0, (3, v0)), (1, (0, v1)), (2, (0, v2)), (3, (0, v3)), (4, (0, v4)), (5, (0, v5)), (6, (0, v6))]) (pc := 93) (daX11_topOf_1 0 rfl) (Nat.le_of_ble_eq_true rfl) rfl ?_
      refine GM_aload_n (pc := 95) 1 rfl (daX11_topOf_1 1 rfl) rfl ?_
      refine GM_iload_n (pc := 96) 2 rfl (daX11_topOf_1 2 rfl) rfl ?_
      refine GM_iload_n (pc := 97) 3 rfl (daX11_topOf_1 3 rfl) rfl ?_
      refine GM_iload (pc := 98) 0 rfl (daX11_topOf_1 4 rfl) ?_
      obtain ⟨r12, hf12, h⟩ := Option.bind_eq_some_iff.mp h
      refine GM_callV0 (pc := 100) [(0, v1), (0, v2), (0, y11)] (tX11_farOf l hf12) cwX11_farOf 11 (Nat.le_of_ble_eq_true rfl) rfl kv_X11_farOf ke_X11_farOf km_X11_220 hc6 ⟨Nat.le_of_ble_eq_true rfl, Nat.le_of_ble_eq_true rfl⟩ (Nat.le_of_ble_eq_true rfl) (Nat.le_of_ble_eq_true rfl) (daX11_topOf_1 5 rfl) ?_
      refine GM_aload_n (pc := 103) 1 rfl (daX11_topOf_1 6 rfl) rfl ?_
      refine GM_getf (pc := 104) 11 0 3 0 kf_X11_7 (Nat.le_of_ble_eq_true rfl) (Nat.le_of_ble_eq_true rfl) rfl (daX11_topOf_1 7 rfl) hc6 rfl ?_
      refine GM_iload_n (pc := 107) 2 rfl (daX11_topOf_1 8 rfl) rfl ?_
      refine GM_iconst (pc := 108) 4 (daX11_topOf_1 9 rfl) rfl (R32_b rfl) ?_
      refine GM_iadd (pc := 109) (daX11_topOf_1 10 rfl) ?_
      obtain ⟨hc13, h⟩ := chk_inv h
      refine GM_iald (pc := 110) (daX11_topOf_1 11 rfl) hc7.1 hc13.1 hc13.2 ?_
      refine GM_icmp_gt (pc := 111) 138 (daX11_topOf_1 12 rfl) rfl (fun c14 => ?_) (fun c14 => ?_)
      · skip
        rw [if_pos c14] at h
        refine GM_pick [1, 2, 3, 4, 5, 6, 7] rfl ?_
        exact gX11_topOf_138 l h hK
      · skip
        rw [if_neg c14] at h
        refine GM_iload (pc := 114) 7 rfl (daX11_topOf_1 13 rfl) ?_
        refine GM_if_lt (pc := 116) 134 (daX11_topOf_1 14 rfl) rfl (fun c15 => ?_) (fun c15 => ?_)
        · skip
          rw [if_pos c15] at h
          refine GM_pick [1, 2, 3, 4, 5, 6, 0] rfl ?_
          exact gX11_topOf_134 l h hK
        · skip
          rw [if_neg c15] at h
          refine GM_aload_n (pc := 119) 1 rfl (daX11_topOf_1 15 rfl) rfl ?_
          refine GM_iload_n (pc := 120) 2 rfl (daX11_topOf_1 16 rfl) rfl ?_
          refine GM_iload_n (pc := 121) 3 rfl (daX11_topOf_1 17 rfl) rfl ?_
          refine GM_iload (pc := 122) 0 rfl (daX11_topOf_1 18 rfl) ?_
          refine GM_iload (pc := 124) 7 rfl (daX11_topOf_1 19 rfl) ?_
          obtain ⟨r16, hf16, h⟩ := Option.bind_eq_some_iff.mp h
          refine GM_callV0 (pc := 126) [(0, v1), (0, v2), (0, y11), (0, v6)] (tX11_steep l hf16) cwX11_steep 11 (Nat.le_of_ble_eq_true rfl) rfl kv_X11_steep ke_X11_steep km_X11_226 hc6 ⟨Nat.le_of_ble_eq_true rfl, Nat.le_of_ble_eq_true rfl⟩ (Nat.le_of_ble_eq_true rfl) (Nat.le_of_ble_eq_true rfl) (daX11_topOf_1 20 rfl) ?_
          refine GM_lconst (pc := 129) 0 (daX11_topOf_1 21 rfl) rfl (R64_b rfl) ?_
          refine GM_lcmp (pc := 130) (daX11_topOf_1 22 rfl) ?_
          refine GM_if_le (pc := 131) 138 (daX11_topOf_1 23 rfl) rfl (fun c17 => ?_) (fun c17 => ?_)
          · skip
            have c17 := lcmp_le.mp c17
            rw [if_pos c17] at h
            refine GM_pick [1, 2, 3, 4, 5, 6, 7] rfl ?_
            exact gX11_topOf_138 l h hK
          · skip
            have c17 := (not_congr lcmp_le).mp c17
            rw [if_neg c17] at h
            refine GM_pick [1, 2, 3, 4, 5, 6, 0] rfl ?_
            exact gX11_topOf_134 l h hK
set_option maxRecDepth 20000 in
theorem gX11_topOf_0 (l : Launch) {F : FI} {v0 v1 v2 v3 : Int} {μ : Mm} {t : Int} (h : fX11_topOf v0 v1 v2 v3 μ = some t) (hK : F.1 = [(0, t)] ∧ F.2.1 = μ) : GM l mX11_topOf F 0 0 0 [(0, (3, v0)), (1, (0, v1)), (2, (0, v2)), (3, (0, v3))] [] μ := by
  unfold fX11_topOf at h
  refine GM_iload_n (pc := 0) 2 rfl (daX11_topOf_0 0 rfl) rfl ?_
  refine GM_aload_n (pc := 1) 0 rfl (daX11_topOf_0 1 rfl) rfl ?_
  obtain ⟨hc18, h⟩ := chk_inv h
  refine GM_getf (pc := 2) 11 0 3 0 kf_X11_7 (Nat.le_of_ble_eq_true rfl) (Nat.le_of_ble_eq_true rfl) rfl (daX11_topOf_0 2 rfl) hc18 rfl ?_
  refine GM_iload_n (pc := 5) 1 rfl (daX11_topOf_0 3 rfl) rfl ?_
  refine GM_iconst (pc := 6) 0 (daX11_topOf_0 4 rfl) rfl (R32_b rfl) ?_
  refine GM_iadd (pc := 7) (daX11_topOf_0 5 rfl) ?_
  obtain ⟨hc19, h⟩ := chk_inv h
  refine GM_iald (pc := 8) (daX11_topOf_0 6 rfl) hc19.1 hc19.2.1 hc19.2.2 ?_
  obtain ⟨hc20, h⟩ := chk_inv h
  refine GM_irem (pc := 9) (daX11_topOf_0 7 rfl) hc20 ?_
  refine GM_aload_n (pc := 10) 0 rfl (daX11_topOf_0 8 rfl) rfl ?_
  refine GM_getf (pc := 11) 11 3 3 3 kf_X11_17 (Nat.le_of_ble_eq_true rfl) (Nat.le_of_ble_eq_true rfl) rfl (daX11_topOf_0 9 rfl) hc18 rfl ?_
  refine GM_iload_n (pc := 14) 3 rfl (daX11_topOf_0 10 rfl) rfl ?_
  obtain ⟨hc21, h⟩ := chk_inv h
  refine GM_iald (pc := 15) (daX11_topOf_0 11 rfl) hc21.1 hc21.2.1 hc21.2.2 ?_
  refine GM_iadd (pc := 16) (daX11_topOf_0 12 rfl) ?_
  obtain ⟨y22, hy22, h⟩ := lt_inv h
  refine GM_top hy22 ?_
  refine GM_istore (L' := [(4, (0, y22)), (0, (3, v0)), (1, (0, v1)), (2, (0, v2)), (3, (0, v3))]) (pc := 17) (daX11_topOf_0 13 rfl) (Nat.le_of_ble_eq_true rfl) rfl ?_
  refine GM_iload_n (pc := 19) 3 rfl (daX11_topOf_0 14 rfl) rfl ?_
  refine GM_aload_n (pc := 20) 1 rfl (daX11_topOf_0 15 rfl) rfl ?_
  refine GM_getf (pc := 21) 11 0 3 0 kf_X11_7 (Nat.le_of_ble_eq_true rfl) (Nat.le_of_ble_eq_true rfl) rfl (daX11_topOf_0 16 rfl) hc18 rfl ?_
  refine GM_iload_n (pc := 24) 2 rfl (daX11_topOf_0 17 rfl) rfl ?_
  refine GM_iconst (pc := 25) 0 (daX11_topOf_0 18 rfl) rfl (R32_b rfl) ?_
  refine GM_iadd (pc := 26) (daX11_topOf_0 19 rfl) ?_
  refine GM_iald (pc := 27) (daX11_topOf_0 20 rfl) hc19.1 hc19.2.1 hc19.2.2 ?_
  refine GM_idiv (pc := 28) (daX11_topOf_0 21 rfl) hc20 ?_
  refine GM_aload_n (pc := 29) 1 rfl (daX11_topOf_0 22 rfl) rfl ?_
  refine GM_getf (pc := 30) 11 4 3 4 kf_X11_20 (Nat.le_of_ble_eq_true rfl) (Nat.le_of_ble_eq_true rfl) rfl (daX11_topOf_0 23 rfl) hc18 rfl ?_
  refine GM_iload_n (pc := 33) 4 rfl (daX11_topOf_0 24 rfl) rfl ?_
  obtain ⟨hc23, h⟩ := chk_inv h
  refine GM_iald (pc := 34) (daX11_topOf_0 25 rfl) hc23.1 hc21.2.1 hc23.2 ?_
  refine GM_iadd (pc := 35) (daX11_topOf_0 26 rfl) ?_
  obtain ⟨y24, hy24, h⟩ := lt_inv h
  refine GM_top hy24 ?_
  refine GM_istore (L' := [(5, (0, y24)), (4, (0, y22)), (0, (3, v0)), (1, (0, v1)), (2, (0, v2)), (3, (0, v3))]) (pc := 36) (daX11_topOf_0 27 rfl) (Nat.le_of_ble_eq_true rfl) rfl ?_
  refine GM_iconst (pc := 38) (-1) (daX11_topOf_0 28 rfl) rfl (R32_b rfl) ?_
  refine GM_istore (L' := [(6, (0, (-1))), (5, (0, y24)), (4, (0, y22)), (0, (3, v0)), (1, (0, v1)), (2, (0, v2)), (3, (0, v3))]) (pc := 39) (daX11_topOf_0 29 rfl) (Nat.le_of_ble_eq_true rfl) rfl ?_
  refine GM_pick [3, 4, 5, 6, 2, 1, 0] rfl ?_
  obtain ⟨x25, hqx25, h⟩ := Option.bind_eq_some_iff.mp h
  refine lop_ind (zX11_topOf_41 l F v0 v1 v2 v3 μ 0 0) (qX11_topOf_41 l F v0 v1 v2 v3 μ 0 0) FU _ x25 hqx25 ?_
  obtain ⟨v6_26, hqq⟩ : ∃ z, z = x25 := ⟨x25, rfl⟩
  subst hqq
  show GM l mX11_topOf F 0 0 163 [(6, (0, v6_26))] [] μ
  refine GM_iload (pc := 163) 0 rfl (daX11_topOf_1 41 rfl) ?_
  cases h
  exact GM_iret (pc := 165) (daX11_topOf_1 42 rfl) rfl hK
theorem tX11_topOf (l : Launch) {v0 v1 v2 v3 : Int} {μ : Mm} {t : Int} (h : fX11_topOf v0 v1 v2 v3 μ = some t) : Ct l yX11_topOf mX11_topOf [(3, v0), (0, v1), (0, v2), (0, v3)] μ ([(0, t)], μ, 0, 0) :=
  Ct_of (by decide +kernel) rfl rfl (Nat.le_of_ble_eq_true rfl) (fun _ _ _ => trivial) (gX11_topOf_0 l h ⟨rfl, rfl⟩)
def mX11_looks : MI := (RX11, cX11_looks, 5, none, "looks", 5, 126, fun _ _ _ => True)
theorem cwX11_looks : CWd yX11_looks mX11_looks 2 := ⟨ki_X11, kk_X11_looks, ⟨by decide, by decide⟩, rfl⟩
def dtX11_looks_0 : List (Nat × Instr × Nat) := [(0, .aload_n 0, 1), (1, .iconst 0, 1), (2, .putfield 229, 3), (5, .iconst 0, 1), (6, .istore_n 3, 1), (7, .iload_n 3, 1), (8, .aload_n 0, 1), (9, .getfield 77, 3), (12, .if_icmp .ge 47, 3), (15, .aload_n 0, 1), (16, .iload_n 1, 1), (17, .iload_n 2, 1), (18, .iload_n 3, 1), (19, .invokevirtual 232, 3), (22, .istore 4, 2), (24, .iload 4, 2), (26, .ifCond .ge 6, 3), (29, .goto 24, 3), (32, .aload_n 0, 1), (33, .getfield 26, 3), (36, .aload_n 0, 1), (37, .getfield 229, 3), (40, .iload 4, 2), (42, .iastore, 1), (43, .aload_n 0, 1), (44, .dup, 1), (45, .getfield 229, 3), (48, .iconst 1, 1), (49, .iadd, 1), (50, .putfield 229, 3), (53, .iinc 3 1, 3), (56, .goto (-49), 3), (59, .return_, 1)]
theorem ddX11_looks_0 : (dtX11_looks_0.all fun e => decide (decode mX11_looks.2.1 e.1 = .ok (e.2.1, e.2.2))) = true := by decide +kernel
theorem daX11_looks_0 (j : Nat) {pc n : Nat} {i : Instr} (h : dtX11_looks_0[j]? = some (pc, i, n)) : decode mX11_looks.2.1 pc = .ok (i, n) := dec_of (c := mX11_looks.2.1) ddX11_looks_0 h
def zX11_looks_7 (l : Launch) (F : FI) (v0 v1 v2 : Int) (k n : Nat) : (Int × Mm) ⊕ Mm → Prop
  | .inl (v3, μ) => GM l mX11_looks F k n 7 [(0, (3, v0)), (1, (0, v1)), (2, (0, v2)), (3, (0, v3))] [] μ
  | .inr μ => GM l mX11_looks F k n 59 [] [] μ
def sX11_looks_7 (v0 v1 v2 : Int) : (Int × Mm) → Option ((Int × Mm) ⊕ Mm) := fun (v3, μ) =>
  chk (KD v0 = 11) (
  if μ v0 2 ≤ v3 then
    some (.inr μ)
  else
    (fX11_topOf v0 v1 v2 v3 μ).bind fun r3 =>
    if 0 ≤ r3 then
      chk (KD (μ v0 15) = 12 ∧ 0 ≤ μ v0 14 ∧ μ v0 14 < LN (μ v0 15)) (
      lm (mst μ (μ v0 15) (μ v0 14) r3) fun μ6 =>
      lm (mst μ6 v0 14 (w32 ((μ6 v0 14) + 1))) fun μ7 =>
      some (.inl (w32 (v3 + 1), μ7)))
    else
      some (.inl (w32 (v3 + 1), μ)))
def fX11_looks (v0 v1 v2 : Int) (μ : Mm) : Option Mm :=
  chk (KD v0 = 11) (
  lm (mst μ v0 14 0) fun μ9 =>
  (lop (sX11_looks_7 v0 v1 v2) FU (0, μ9)).bind fun μ_11 =>
    some μ_11)
set_option maxRecDepth 20000 in
theorem qX11_looks_7 (l : Launch) (F : FI) (v0 v1 v2 : Int) (k n : Nat) : ∀ (q : (Int × Mm)) (t : ((Int × Mm) ⊕ Mm)), sX11_looks_7 v0 v1 v2 q = some t → zX11_looks_7 l F v0 v1 v2 k n t → zX11_looks_7 l F v0 v1 v2 k n (.inl q) := by
  intro q t h hK
  obtain ⟨v3, μ⟩ := q
  unfold sX11_looks_7 at h
  try dsimp only at h
  show GM l mX11_looks F k n 7 [(0, (3, v0)), (1, (0, v1)), (2, (0, v2)), (3, (0, v3))] [] μ
  refine GM_iload_n (pc := 7) 3 rfl (daX11_looks_0 5 rfl) rfl ?_
  refine GM_aload_n (pc := 8) 0 rfl (daX11_looks_0 6 rfl) rfl ?_
  obtain ⟨hc1, h⟩ := chk_inv h
  refine GM_getf (pc := 9) 11 2 0 2 kf_X11_77 (Nat.le_of_ble_eq_true rfl) (Nat.le_of_ble_eq_true rfl) rfl (daX11_looks_0 7 rfl) hc1 rfl ?_
  refine GM_icmp_ge (pc := 12) 59 (daX11_looks_0 8 rfl) rfl (fun c2 => ?_) (fun c2 => ?_)
  · skip
    rw [if_pos c2] at h
    refine GM_pick [] rfl ?_
    cases h
    exact hK
  · skip
    rw [if_neg c2] at h
    refine GM_aload_n (pc := 15) 0 rfl (daX11_looks_0 9 rfl) rfl ?_
    refine GM_iload_n (pc := 16) 1 rfl (daX11_looks_0 10 rfl) rfl ?_
    refine GM_iload_n (pc := 17) 2 rfl (daX11_looks_0 11 rfl) rfl ?_
    refine GM_iload_n (pc := 18) 3 rfl (daX11_looks_0 12 rfl) rfl ?_
    obtain ⟨r3, hf3, h⟩ := Option.bind_eq_some_iff.mp h
    refine GM_callV0 (pc := 19) [(0, v1), (0, v2), (0, v3)] (tX11_topOf l hf3) cwX11_topOf 11 (Nat.le_of_ble_eq_true rfl) rfl kv_X11_topOf ke_X11_topOf km_X11_232 hc1 ⟨Nat.le_of_ble_eq_true rfl, Nat.le_of_ble_eq_true rfl⟩ (Nat.le_of_ble_eq_true rfl) (Nat.le_of_ble_eq_true rfl) (daX11_looks_0 13 rfl) ?_
    refine GM_istore (L' := [(4, (0, r3)), (0, (3, v0)), (1, (0, v1)), (2, (0, v2)), (3, (0, v3))]) (pc := 22) (daX11_looks_0 14 rfl) (Nat.le_of_ble_eq_true rfl) rfl ?_
    refine GM_iload (pc := 24) 0 rfl (daX11_looks_0 15 rfl) ?_
    refine GM_if_ge (pc := 26) 32 (daX11_looks_0 16 rfl) rfl (fun c4 => ?_) (fun c4 => ?_)
    · skip
      rw [if_pos c4] at h
      refine GM_aload_n (pc := 32) 1 rfl (daX11_looks_0 18 rfl) rfl ?_
      refine GM_getf (pc := 33) 11 15 3 15 kf_X11_26 (Nat.le_of_ble_eq_true rfl) (Nat.le_of_ble_eq_true rfl) rfl (daX11_looks_0 19 rfl) hc1 rfl ?_
      refine GM_aload_n (pc := 36) 1 rfl (daX11_looks_0 20 rfl) rfl ?_
      refine GM_getf (pc := 37) 11 14 0 14 kf_X11_229 (Nat.le_of_ble_eq_true rfl) (Nat.le_of_ble_eq_true rfl) rfl (daX11_looks_0 21 rfl) hc1 rfl ?_
      refine GM_iload (pc := 40) 0 rfl (daX11_looks_0 22 rfl) ?_
      obtain ⟨hc5, h⟩ := chk_inv h
      obtain ⟨μ6, hμ6, h⟩ := lm_inv h
      refine GM_iast (pc := 42) (daX11_looks_0 23 rfl) hc5.1 hc5.2.1 hc5.2.2 ?_
      refine GM_mem hμ6 ?_
      refine GM_aload_n (pc := 43) 1 rfl (daX11_looks_0 24 rfl) rfl ?_
      refine GM_dup (pc := 44) (daX11_looks_0 25 rfl) (Nat.ne_of_beq_eq_false rfl) ?_
      refine GM_getf (pc := 45) 11 14 0 14 kf_X11_229 (Nat.le_of_ble_eq_true rfl) (Nat.le_of_ble_eq_true rfl) rfl (daX11_looks_0 26 rfl) hc1 rfl ?_
      refine GM_iconst (pc := 48) 1 (daX11_looks_0 27 rfl) rfl (R32_b rfl) ?_
      refine GM_iadd (pc := 49) (daX11_looks_0 28 rfl) ?_
      obtain ⟨μ7, hμ7, h⟩ := lm_inv h
      refine GM_putf (pc := 50) 11 14 0 kf_X11_229 (Nat.le_of_ble_eq_true rfl) (Nat.le_of_ble_eq_true rfl) rfl rfl (daX11_looks_0 29 rfl) hc1 (fun q => absurd q (by decide)) ?_
      refine GM_mem hμ7 ?_
      refine GM_iinc (L' := [(3, (0, w32 (v3 + 1))), (4, (0, r3)), (0, (3, v0)), (1, (0, v1)), (2, (0, v2))]) (pc := 53) 4 rfl (daX11_looks_0 30 rfl) (Nat.le_of_ble_eq_true rfl) rfl ?_
      refine GM_goto (pc := 56) 7 (daX11_looks_0 31 rfl) rfl ?_
      refine GM_pick [2, 3, 4, 0] rfl ?_
      cases h
      exact hK
    · skip
      rw [if_neg c4] at h
      refine GM_goto (pc := 29) 53 (daX11_looks_0 17 rfl) rfl ?_
      refine GM_iinc (L' := [(3, (0, w32 (v3 + 1))), (4, (0, r3)), (0, (3, v0)), (1, (0, v1)), (2, (0, v2))]) (pc := 53) 4 rfl (daX11_looks_0 30 rfl) (Nat.le_of_ble_eq_true rfl) rfl ?_
      refine GM_goto (pc := 56) 7 (daX11_looks_0 31 rfl) rfl ?_
      refine GM_pick [2, 3, 4, 0] rfl ?_
      cases h
      exact hK
set_option maxRecDepth 20000 in
theorem gX11_looks_0 (l : Launch) {F : FI} {v0 v1 v2 : Int} {μ : Mm} {t : Mm} (h : fX11_looks v0 v1 v2 μ = some t) (hK : F.1 = [] ∧ F.2.1 = t) : GM l mX11_looks F 0 0 0 [(0, (3, v0)), (1, (0, v1)), (2, (0, v2))] [] μ := by
  unfold fX11_looks at h
  refine GM_aload_n (pc := 0) 0 rfl (daX11_looks_0 0 rfl) rfl ?_
  refine GM_iconst (pc := 1) 0 (daX11_looks_0 1 rfl) rfl (R32_b rfl) ?_
  obtain ⟨hc8, h⟩ := chk_inv h
  obtain ⟨μ9, hμ9, h⟩ := lm_inv h
  refine GM_putf (pc := 2) 11 14 0 kf_X11_229 (Nat.le_of_ble_eq_true rfl) (Nat.le_of_ble_eq_true rfl) rfl rfl (daX11_looks_0 2 rfl) hc8 (fun q => absurd q (by decide)) ?_
  refine GM_mem hμ9 ?_
  refine GM_iconst (pc := 5) 0 (daX11_looks_0 3 rfl) rfl (R32_b rfl) ?_
  refine GM_istore_n (L' := [(3, (0, 0)), (0, (3, v0)), (1, (0, v1)), (2, (0, v2))]) (pc := 6) (daX11_looks_0 4 rfl) rfl (Nat.le_of_ble_eq_true rfl) rfl ?_
  refine GM_pick [1, 2, 3, 0] rfl ?_
  obtain ⟨x10, hqx10, h⟩ := Option.bind_eq_some_iff.mp h
  refine lop_ind (zX11_looks_7 l F v0 v1 v2 0 0) (qX11_looks_7 l F v0 v1 v2 0 0) FU _ x10 hqx10 ?_
  obtain ⟨μ_11, hqq⟩ : ∃ z, z = x10 := ⟨x10, rfl⟩
  subst hqq
  show GM l mX11_looks F 0 0 59 [] [] μ_11
  cases h
  exact GM_vret (pc := 59) (daX11_looks_0 32 rfl) rfl hK
theorem tX11_looks (l : Launch) {v0 v1 v2 : Int} {μ : Mm} {t : Mm} (h : fX11_looks v0 v1 v2 μ = some t) : Ct l yX11_looks mX11_looks [(3, v0), (0, v1), (0, v2)] μ ([], t, 0, 0) :=
  Ct_of (by decide +kernel) rfl rfl (Nat.le_of_ble_eq_true rfl) (fun _ _ _ => trivial) (gX11_looks_0 l h ⟨rfl, rfl⟩)
def mX11_surveyAt : MI := (RX11, cX11_surveyAt, 6, none, "surveyAt", 6, 150, fun _ _ _ => True)
theorem cwX11_surveyAt : CWd yX11_surveyAt mX11_surveyAt 2 := ⟨ki_X11, kk_X11_surveyAt, ⟨by decide, by decide⟩, rfl⟩
def dtX11_surveyAt_0 : List (Nat × Instr × Nat) := [(0, .aload_n 0, 1), (1, .iload_n 1, 1), (2, .iload_n 2, 1), (3, .invokevirtual 235, 3), (6, .aload_n 0, 1), (7, .getfield 29, 3), (10, .iload_n 2, 1), (11, .iconst 0, 1), (12, .iastore, 1), (13, .iconst 0, 1), (14, .istore_n 3, 1), (15, .iload_n 3, 1), (16, .aload_n 0, 1), (17, .getfield 229, 3), (20, .if_icmp .ge 137, 3), (23, .aload_n 0, 1), (24, .getfield 229, 3), (27, .iconst 2, 1), (28, .if_icmp .le 129, 3), (31, .aload_n 0, 1), (32, .getfield 26, 3), (35, .iload_n 3, 1), (36, .ifCond .ne 12, 3), (39, .aload_n 0, 1), (40, .getfield 229, 3), (43, .iconst 1, 1), (44, .isub, 1), (45, .goto 6, 3), (48, .iload_n 3, 1), (49, .iconst 1, 1), (50, .isub, 1), (51, .iaload, 1), (52, .istore 4, 2), (54, .aload_n 0, 1), (55, .getfield 26, 3), (58, .iload_n 3, 1), (59, .iconst 1, 1), (60, .iadd, 1), (61, .aload_n 0, 1), (62, .getfield 229, 3), (65, .if_icmp .ne 7, 3), (68, .iconst 0, 1), (69, .goto 6, 3), (72, .iload_n 3, 1), (73, .iconst 1, 1), (74, .iadd, 1), (75, .iaload, 1), (76, .istore 5, 2), (78, .aload_n 0, 1), (79, .iload_n 1, 1), (80, .iload_n 2, 1), (81, .aload_n 0, 1), (82, .getfield 26, 3), (85, .iload_n 3, 1), (86, .iaload, 1), (87, .iload 4, 2), (89, .invokevirtual 226, 3), (92, .lconst 0, 1), (93, .lcmp, 1), (94, .ifCond .le 57, 3), (97, .aload_n 0, 1), (98, .iload_n 1, 1), (99, .iload_n 2, 1), (100, .aload_n 0, 1)]
theorem ddX11_surveyAt_0 : (dtX11_surveyAt_0.all fun e => decide (decode mX11_surveyAt.2.1 e.1 = .ok (e.2.1, e.2.2))) = true := by decide +kernel
theorem daX11_surveyAt_0 (j : Nat) {pc n : Nat} {i : Instr} (h : dtX11_surveyAt_0[j]? = some (pc, i, n)) : decode mX11_surveyAt.2.1 pc = .ok (i, n) := dec_of (c := mX11_surveyAt.2.1) ddX11_surveyAt_0 h
def dtX11_surveyAt_1 : List (Nat × Instr × Nat) := [(101, .getfield 26, 3), (104, .iload_n 3, 1), (105, .iaload, 1), (106, .iload 5, 2), (108, .invokevirtual 226, 3), (111, .lconst 0, 1), (112, .lcmp, 1), (113, .ifCond .ge 6, 3), (116, .goto 35, 3), (119, .aload_n 0, 1), (120, .getfield 32, 3), (123, .bipush 64, 2), (125, .iload_n 2, 1), (126, .imul, 1), (127, .aload_n 0, 1), (128, .getfield 29, 3), (131, .iload_n 2, 1), (132, .iaload, 1), (133, .iadd, 1), (134, .aload_n 0, 1), (135, .getfield 26, 3), (138, .iload_n 3, 1), (139, .iaload, 1), (140, .iastore, 1), (141, .aload_n 0, 1), (142, .getfield 29, 3), (145, .iload_n 2, 1), (146, .dup2, 1), (147, .iaload, 1), (148, .iconst 1, 1), (149, .iadd, 1), (150, .iastore, 1), (151, .iinc 3 1, 3), (154, .goto (-139), 3), (157, .return_, 1)]
theorem ddX11_surveyAt_1 : (dtX11_surveyAt_1.all fun e => decide (decode mX11_surveyAt.2.1 e.1 = .ok (e.2.1, e.2.2))) = true := by decide +kernel
theorem daX11_surveyAt_1 (j : Nat) {pc n : Nat} {i : Instr} (h : dtX11_surveyAt_1[j]? = some (pc, i, n)) : decode mX11_surveyAt.2.1 pc = .ok (i, n) := dec_of (c := mX11_surveyAt.2.1) ddX11_surveyAt_1 h
def jX11_surveyAt_75 (v0 v1 v2 v3 v4 s0 s1 : Int) (μ : Mm) : Option ((Int × Mm) ⊕ Mm) :=
  chk (KD s1 = 12 ∧ 0 ≤ s0 ∧ s0 < LN s1) (
  chk (KD v0 = 11) (
  chk (KD (μ v0 15) = 12 ∧ 0 ≤ v3 ∧ v3 < LN (μ v0 15)) (
  (fX11_steep v0 v1 v2 (μ (μ v0 15) v3) v4 μ).bind fun r4 =>
  if r4 ≤ 0 then
    some (.inl (w32 (v3 + 1), μ))
  else
    (fX11_steep v0 v1 v2 (μ (μ v0 15) v3) (μ s1 s0) μ).bind fun r6 =>
    if 0 ≤ r6 then
      chk (KD (μ v0 16) = 12 ∧ 0 ≤ v2 ∧ v2 < LN (μ v0 16)) (
      chk (KD (μ v0 17) = 12 ∧ 0 ≤ w32 ((w32 (64 * v2)) + (μ (μ v0 16) v2)) ∧ w32 ((w32 (64 * v2)) + (μ (μ v0 16) v2)) < LN (μ v0 17)) (
      lm (mst μ (μ v0 17) (w32 ((w32 (64 * v2)) + (μ (μ v0 16) v2))) (μ (μ v0 15) v3)) fun μ10 =>
      chk (KD (μ10 v0 16) = 12 ∧ v2 < LN (μ10 v0 16)) (
      lm (mst μ10 (μ10 v0 16) v2 (w32 ((μ10 (μ10 v0 16) v2) + 1))) fun μ12 =>
      some (.inl (w32 (v3 + 1), μ12)))))
    else
      some (.inl (w32 (v3 + 1), μ)))))
def jX11_surveyAt_51 (v0 v1 v2 v3 s0 s1 : Int) (μ : Mm) : Option ((Int × Mm) ⊕ Mm) :=
  chk (KD s1 = 12 ∧ 0 ≤ s0 ∧ s0 < LN s1) (
  chk (KD v0 = 11) (
  if w32 (v3 + 1) = μ v0 14 then
    jX11_surveyAt_75 v0 v1 v2 v3 (μ s1 s0) 0 (μ v0 15) μ
  else
    jX11_surveyAt_75 v0 v1 v2 v3 (μ s1 s0) (w32 (v3 + 1)) (μ v0 15) μ))
def zX11_surveyAt_15 (l : Launch) (F : FI) (v0 v1 v2 : Int) (k n : Nat) : (Int × Mm) ⊕ Mm → Prop
  | .inl (v3, μ) => GM l mX11_surveyAt F k n 15 [(0, (3, v0)), (1, (0, v1)), (2, (0, v2)), (3, (0, v3))] [] μ
  | .inr μ => GM l mX11_surveyAt F k n 157 [] [] μ
def sX11_surveyAt_15 (v0 v1 v2 : Int) : (Int × Mm) → Option ((Int × Mm) ⊕ Mm) := fun (v3, μ) =>
  chk (KD v0 = 11) (
  if μ v0 14 ≤ v3 then
    some (.inr μ)
  else
    if μ v0 14 ≤ 2 then
      some (.inr μ)
    else
      if v3 = 0 then
        jX11_surveyAt_51 v0 v1 v2 v3 (w32 ((μ v0 14) - 1)) (μ v0 15) μ
      else
        jX11_surveyAt_51 v0 v1 v2 v3 (w32 (v3 - 1)) (μ v0 15) μ)
def fX11_surveyAt (v0 v1 v2 : Int) (μ : Mm) : Option Mm :=
  chk (KD v0 = 11) (
  (fX11_looks v0 v1 v2 μ).bind fun μ21 =>
  chk (KD (μ21 v0 16) = 12 ∧ 0 ≤ v2 ∧ v2 < LN (μ21 v0 16)) (
  lm (mst μ21 (μ21 v0 16) v2 0) fun μ23 =>
  (lop (sX11_surveyAt_15 v0 v1 v2) FU (0, μ23)).bind fun μ_25 =>
    some μ_25))
set_option maxRecDepth 20000 in
theorem gX11_surveyAt_75 (l : Launch) {F : FI} {v0 v1 v2 v3 v4 s0 s1 : Int} {μ : Mm} {t : ((Int × Mm) ⊕ Mm)} {k n : Nat} (h : jX11_surveyAt_75 v0 v1 v2 v3 v4 s0 s1 μ = some t) (hK : zX11_surveyAt_15 l F v0 v1 v2 k n t) : GM l mX11_surveyAt F k n 75 [(0, (3, v0)), (1, (0, v1)), (2, (0, v2)), (3, (0, v3)), (4, (0, v4))] [(0, s0), (3, s1)] μ := by
  unfold jX11_surveyAt_75 at h
  obtain ⟨hc1, h⟩ := chk_inv h
  refine GM_iald (pc := 75) (daX11_surveyAt_0 46 rfl) hc1.1 hc1.2.1 hc1.2.2 ?_
  refine GM_istore (L' := [(5, (0, μ s1 s0)), (0, (3, v0)), (1, (0, v1)), (2, (0, v2)), (3, (0, v3)), (4, (0, v4))]) (pc := 76) (daX11_surveyAt_0 47 rfl) (Nat.le_of_ble_eq_true rfl) rfl ?_
  refine GM_aload_n (pc := 78) 1 rfl (daX11_surveyAt_0 48 rfl) rfl ?_
  refine GM_iload_n (pc := 79) 2 rfl (daX11_surveyAt_0 49 rfl) rfl ?_
  refine GM_iload_n (pc := 80) 3 rfl (daX11_surveyAt_0 50 rfl) rfl ?_
  refine GM_aload_n (pc := 81) 1 rfl (daX11_surveyAt_0 51 rfl) rfl ?_
  obtain ⟨hc2, h⟩ := chk_inv h
  refine GM_getf (pc := 82) 11 15 3 15 kf_X11_26 (Nat.le_of_ble_eq_true rfl) (Nat.le_of_ble_eq_true rfl) rfl (daX11_surveyAt_0 52 rfl) hc2 rfl ?_
  refine GM_iload_n (pc := 85) 4 rfl (daX11_surveyAt_0 53 rfl) rfl ?_
  obtain ⟨hc3, h⟩ := chk_inv h
  refine GM_iald (pc := 86) (daX11_surveyAt_0 54 rfl) hc3.1 hc3.2.1 hc3.2.2 ?_
  refine GM_iload (pc := 87) 5 rfl (daX11_surveyAt_0 55 rfl) ?_
  obtain ⟨r4, hf4, h⟩ := Option.bind_eq_some_iff.mp h
  refine GM_callV0 (pc := 89) [(0, v1), (0, v2), (0, μ (μ v0 15) v3), (0, v4)] (tX11_steep l hf4) cwX11_steep 11 (Nat.le_of_ble_eq_true rfl) rfl kv_X11_steep ke_X11_steep km_X11_226 hc2 ⟨Nat.le_of_ble_eq_true rfl, Nat.le_of_ble_eq_true rfl⟩ (Nat.le_of_ble_eq_true rfl) (Nat.le_of_ble_eq_true rfl) (daX11_surveyAt_0 56 rfl) ?_
  refine GM_lconst (pc := 92) 0 (daX11_surveyAt_0 57 rfl) rfl (R64_b rfl) ?_
  refine GM_lcmp (pc := 93) (daX11_surveyAt_0 58 rfl) ?_
  refine GM_if_le (pc := 94) 151 (daX11_surveyAt_0 59 rfl) rfl (fun c5 => ?_) (fun c5 => ?_)
  · skip
    have c5 := lcmp_le.mp c5
    rw [if_pos c5] at h
    refine GM_iinc (L' := [(3, (0, w32 (v3 + 1))), (5, (0, μ s1 s0)), (0, (3, v0)), (1, (0, v1)), (2, (0, v2)), (4, (0, v4))]) (pc := 151) 4 rfl (daX11_surveyAt_1 32 rfl) (Nat.le_of_ble_eq_true rfl) rfl ?_
    refine GM_goto (pc := 154) 15 (daX11_surveyAt_1 33 rfl) rfl ?_
    refine GM_pick [2, 3, 4, 0] rfl ?_
    cases h
    exact hK
  · skip
    have c5 := (not_congr lcmp_le).mp c5
    rw [if_neg c5] at h
    refine GM_aload_n (pc := 97) 1 rfl (daX11_surveyAt_0 60 rfl) rfl ?_
    refine GM_iload_n (pc := 98) 2 rfl (daX11_surveyAt_0 61 rfl) rfl ?_
    refine GM_iload_n (pc := 99) 3 rfl (daX11_surveyAt_0 62 rfl) rfl ?_
    refine GM_aload_n (pc := 100) 1 rfl (daX11_surveyAt_0 63 rfl) rfl ?_
    refine GM_getf (pc := 101) 11 15 3 15 kf_X11_26 (Nat.le_of_ble_eq_true rfl) (Nat.le_of_ble_eq_true rfl) rfl (daX11_surveyAt_1 0 rfl) hc2 rfl ?_
    refine GM_iload_n (pc := 104) 4 rfl (daX11_surveyAt_1 1 rfl) rfl ?_
    refine GM_iald (pc := 105) (daX11_surveyAt_1 2 rfl) hc3.1 hc3.2.1 hc3.2.2 ?_
    refine GM_iload (pc := 106) 0 rfl (daX11_surveyAt_1 3 rfl) ?_
    obtain ⟨r6, hf6, h⟩ := Option.bind_eq_some_iff.mp h
    refine GM_callV0 (pc := 108) [(0, v1), (0, v2), (0, μ (μ v0 15) v3), (0, μ s1 s0)] (tX11_steep l hf6) cwX11_steep 11 (Nat.le_of_ble_eq_true rfl) rfl kv_X11_steep ke_X11_steep km_X11_226 hc2 ⟨Nat.le_of_ble_eq_true rfl, Nat.le_of_ble_eq_true rfl⟩ (Nat.le_of_ble_eq_true rfl) (Nat.le_of_ble_eq_true rfl) (daX11_surveyAt_1 4 rfl) ?_
    refine GM_lconst (pc := 111) 0 (daX11_surveyAt_1 5 rfl) rfl (R64_b rfl) ?_
    refine GM_lcmp (pc := 112) (daX11_surveyAt_1 6 rfl) ?_
    refine GM_if_ge (pc := 113) 119 (daX11_surveyAt_1 7 rfl) rfl (fun c7 => ?_) (fun c7 => ?_)
    · skip
      have c7 := lcmp_ge.mp c7
      rw [if_pos c7] at h
      refine GM_aload_n (pc := 119) 1 rfl (daX11_surveyAt_1 9 rfl) rfl ?_
      refine GM_getf (pc := 120) 11 17 3 17 kf_X11_32 (Nat.le_of_ble_eq_true rfl) (Nat.le_of_ble_eq_true rfl) rfl (daX11_surveyAt_1 10 rfl) hc2 rfl ?_
      refine GM_bipush (pc := 123) 64 (daX11_surveyAt_1 11 rfl) rfl (R32_b rfl) ?_
      refine GM_iload_n (pc := 125) 3 rfl (daX11_surveyAt_1 12 rfl) rfl ?_
      refine GM_imul (pc := 126) (daX11_surveyAt_1 13 rfl) ?_
      refine GM_aload_n (pc := 127) 1 rfl (daX11_surveyAt_1 14 rfl) rfl ?_
      refine GM_getf (pc := 128) 11 16 3 16 kf_X11_29 (Nat.le_of_ble_eq_true rfl) (Nat.le_of_ble_eq_true rfl) rfl (daX11_surveyAt_1 15 rfl) hc2 rfl ?_
      refine GM_iload_n (pc := 131) 3 rfl (daX11_surveyAt_1 16 rfl) rfl ?_
      obtain ⟨hc8, h⟩ := chk_inv h
      refine GM_iald (pc := 132) (daX11_surveyAt_1 17 rfl) hc8.1 hc8.2.1 hc8.2.2 ?_
      refine GM_iadd (pc := 133) (daX11_surveyAt_1 18 rfl) ?_
      refine GM_aload_n (pc := 134) 1 rfl (daX11_surveyAt_1 19 rfl) rfl ?_
      refine GM_getf (pc := 135) 11 15 3 15 kf_X11_26 (Nat.le_of_ble_eq_true rfl) (Nat.le_of_ble_eq_true rfl) rfl (daX11_surveyAt_1 20 rfl) hc2 rfl ?_
      refine GM_iload_n (pc := 138) 4 rfl (daX11_surveyAt_1 21 rfl) rfl ?_
      refine GM_iald (pc := 139) (daX11_surveyAt_1 22 rfl) hc3.1 hc3.2.1 hc3.2.2 ?_
      obtain ⟨hc9, h⟩ := chk_inv h
      obtain ⟨μ10, hμ10, h⟩ := lm_inv h
      refine GM_iast (pc := 140) (daX11_surveyAt_1 23 rfl) hc9.1 hc9.2.1 hc9.2.2 ?_
      refine GM_mem hμ10 ?_
      refine GM_aload_n (pc := 141) 1 rfl (daX11_surveyAt_1 24 rfl) rfl ?_
      refine GM_getf (pc := 142) 11 16 3 16 kf_X11_29 (Nat.le_of_ble_eq_true rfl) (Nat.le_of_ble_eq_true rfl) rfl (daX11_surveyAt_1 25 rfl) hc2 rfl ?_
      refine GM_iload_n (pc := 145) 3 rfl (daX11_surveyAt_1 26 rfl) rfl ?_
      refine GM_dup2 (pc := 146) (daX11_surveyAt_1 27 rfl) (Nat.ne_of_beq_eq_false rfl) (Nat.ne_of_beq_eq_false rfl) ?_
      obtain ⟨hc11, h⟩ := chk_inv h
      refine GM_iald (pc := 147) (daX11_surveyAt_1 28 rfl) hc11.1 hc8.2.1 hc11.2 ?_
      refine GM_iconst (pc := 148) 1 (daX11_surveyAt_1 29 rfl) rfl (R32_b rfl) ?_
      refine GM_iadd (pc := 149) (daX11_surveyAt_1 30 rfl) ?_
      obtain ⟨μ12, hμ12, h⟩ := lm_inv h
      refine GM_iast (pc := 150) (daX11_surveyAt_1 31 rfl) hc11.1 hc8.2.1 hc11.2 ?_
      refine GM_mem hμ12 ?_
      refine GM_iinc (L' := [(3, (0, w32 (v3 + 1))), (5, (0, μ s1 s0)), (0, (3, v0)), (1, (0, v1)), (2, (0, v2)), (4, (0, v4))]) (pc := 151) 4 rfl (daX11_surveyAt_1 32 rfl) (Nat.le_of_ble_eq_true rfl) rfl ?_
      refine GM_goto (pc := 154) 15 (daX11_surveyAt_1 33 rfl) rfl ?_
      refine GM_pick [2, 3, 4, 0] rfl ?_
      cases h
      exact hK
    · skip
      have c7 := (not_congr lcmp_ge).mp c7
      rw [if_neg c7] at h
      refine GM_goto (pc := 116) 151 (daX11_surveyAt_1 8 rfl) rfl ?_
      refine GM_iinc (L' := [(3, (0, w32 (v3 + 1))), (5, (0, μ s1 s0)), (0, (3, v0)), (1, (0, v1)), (2, (0, v2)), (4, (0, v4))]) (pc := 151) 4 rfl (daX11_surveyAt_1 32 rfl) (Nat.le_of_ble_eq_true rfl) rfl ?_
      refine GM_goto (pc := 154) 15 (daX11_surveyAt_1 33 rfl) rfl ?_
      refine GM_pick [2, 3, 4, 0] rfl ?_
      cases h
      exact hK
set_option maxRecDepth 20000 in
theorem gX11_surveyAt_51 (l : Launch) {F : FI} {v0 v1 v2 v3 s0 s1 : Int} {μ : Mm} {t : ((Int × Mm) ⊕ Mm)} {k n : Nat} (h : jX11_surveyAt_51 v0 v1 v2 v3 s0 s1 μ = some t) (hK : zX11_surveyAt_15 l F v0 v1 v2 k n t) : GM l mX11_surveyAt F k n 51 [(0, (3, v0)), (1, (0, v1)), (2, (0, v2)), (3, (0, v3))] [(0, s0), (3, s1)] μ := by
  unfold jX11_surveyAt_51 at h
  obtain ⟨hc13, h⟩ := chk_inv h
  refine GM_iald (pc := 51) (daX11_surveyAt_0 31 rfl) hc13.1 hc13.2.1 hc13.2.2 ?_
  refine GM_istore (L' := [(4, (0, μ s1 s0)), (0, (3, v0)), (1, (0, v1)), (2, (0, v2)), (3, (0, v3))]) (pc := 52) (daX11_surveyAt_0 32 rfl) (Nat.le_of_ble_eq_true rfl) rfl ?_
  refine GM_aload_n (pc := 54) 1 rfl (daX11_surveyAt_0 33 rfl) rfl ?_
  obtain ⟨hc14, h⟩ := chk_inv h
  refine GM_getf (pc := 55) 11 15 3 15 kf_X11_26 (Nat.le_of_ble_eq_true rfl) (Nat.le_of_ble_eq_true rfl) rfl (daX11_surveyAt_0 34 rfl) hc14 rfl ?_
  refine GM_iload_n (pc := 58) 4 rfl (daX11_surveyAt_0 35 rfl) rfl ?_
  refine GM_iconst (pc := 59) 1 (daX11_surveyAt_0 36 rfl) rfl (R32_b rfl) ?_
  refine GM_iadd (pc := 60) (daX11_surveyAt_0 37 rfl) ?_
  refine GM_aload_n (pc := 61) 1 rfl (daX11_surveyAt_0 38 rfl) rfl ?_
  refine GM_getf (pc := 62) 11 14 0 14 kf_X11_229 (Nat.le_of_ble_eq_true rfl) (Nat.le_of_ble_eq_true rfl) rfl (daX11_surveyAt_0 39 rfl) hc14 rfl ?_
  refine GM_icmp_ne (pc := 65) 72 (daX11_surveyAt_0 40 rfl) rfl (fun c15 => ?_) (fun c15 => ?_)
  · skip
    rw [if_neg c15] at h
    refine GM_iload_n (pc := 72) 4 rfl (daX11_surveyAt_0 43 rfl) rfl ?_
    refine GM_iconst (pc := 73) 1 (daX11_surveyAt_0 44 rfl) rfl (R32_b rfl) ?_
    refine GM_iadd (pc := 74) (daX11_surveyAt_0 45 rfl) ?_
    refine GM_pick [1, 2, 3, 4, 0] rfl ?_
    exact gX11_surveyAt_75 l h hK
  · skip
    rw [if_pos c15] at h
    refine GM_iconst (pc := 68) 0 (daX11_surveyAt_0 41 rfl) rfl (R32_b rfl) ?_
    refine GM_goto (pc := 69) 75 (daX11_surveyAt_0 42 rfl) rfl ?_
    refine GM_pick [1, 2, 3, 4, 0] rfl ?_
    exact gX11_surveyAt_75 l h hK
set_option maxRecDepth 20000 in
theorem qX11_surveyAt_15 (l : Launch) (F : FI) (v0 v1 v2 : Int) (k n : Nat) : ∀ (q : (Int × Mm)) (t : ((Int × Mm) ⊕ Mm)), sX11_surveyAt_15 v0 v1 v2 q = some t → zX11_surveyAt_15 l F v0 v1 v2 k n t → zX11_surveyAt_15 l F v0 v1 v2 k n (.inl q) := by
  intro q t h hK
  obtain ⟨v3, μ⟩ := q
  unfold sX11_surveyAt_15 at h
  try dsimp only at h
  show GM l mX11_surveyAt F k n 15 [(0, (3, v0)), (1, (0, v1)), (2, (0, v2)), (3, (0, v3))] [] μ
  refine GM_iload_n (pc := 15) 3 rfl (daX11_surveyAt_0 11 rfl) rfl ?_
  refine GM_aload_n (pc := 16) 0 rfl (daX11_surveyAt_0 12 rfl) rfl ?_
  obtain ⟨hc16, h⟩ := chk_inv h
  refine GM_getf (pc := 17) 11 14 0 14 kf_X11_229 (Nat.le_of_ble_eq_true rfl) (Nat.le_of_ble_eq_true rfl) rfl (daX11_surveyAt_0 13 rfl) hc16 rfl ?_
  refine GM_icmp_ge (pc := 20) 157 (daX11_surveyAt_0 14 rfl) rfl (fun c17 => ?_) (fun c17 => ?_)
  · skip
    rw [if_pos c17] at h
    refine GM_pick [] rfl ?_
    cases h
    exact hK
  · skip
    rw [if_neg c17] at h
    refine GM_aload_n (pc := 23) 0 rfl (daX11_surveyAt_0 15 rfl) rfl ?_
    refine GM_getf (pc := 24) 11 14 0 14 kf_X11_229 (Nat.le_of_ble_eq_true rfl) (Nat.le_of_ble_eq_true rfl) rfl (daX11_surveyAt_0 16 rfl) hc16 rfl ?_
    refine GM_iconst (pc := 27) 2 (daX11_surveyAt_0 17 rfl) rfl (R32_b rfl) ?_
    refine GM_icmp_le (pc := 28) 157 (daX11_surveyAt_0 18 rfl) rfl (fun c18 => ?_) (fun c18 => ?_)
    · skip
      rw [if_pos c18] at h
      refine GM_pick [] rfl ?_
      cases h
      exact hK
    · skip
      rw [if_neg c18] at h
      refine GM_aload_n (pc := 31) 0 rfl (daX11_surveyAt_0 19 rfl) rfl ?_
      refine GM_getf (pc := 32) 11 15 3 15 kf_X11_26 (Nat.le_of_ble_eq_true rfl) (Nat.le_of_ble_eq_true rfl) rfl (daX11_surveyAt_0 20 rfl) hc16 rfl ?_
      refine GM_iload_n (pc := 35) 3 rfl (daX11_surveyAt_0 21 rfl) rfl ?_
      refine GM_if_ne (pc := 36) 48 (daX11_surveyAt_0 22 rfl) rfl (fun c19 => ?_) (fun c19 => ?_)
      · skip
        rw [if_neg c19] at h
        refine GM_iload_n (pc := 48) 3 rfl (daX11_surveyAt_0 28 rfl) rfl ?_
        refine GM_iconst (pc := 49) 1 (daX11_surveyAt_0 29 rfl) rfl (R32_b rfl) ?_
        refine GM_isub (pc := 50) (daX11_surveyAt_0 30 rfl) ?_
        exact gX11_surveyAt_51 l h hK
      · skip
        rw [if_pos c19] at h
        refine GM_aload_n (pc := 39) 0 rfl (daX11_surveyAt_0 23 rfl) rfl ?_
        refine GM_getf (pc := 40) 11 14 0 14 kf_X11_229 (Nat.le_of_ble_eq_true rfl) (Nat.le_of_ble_eq_true rfl) rfl (daX11_surveyAt_0 24 rfl) hc16 rfl ?_
        refine GM_iconst (pc := 43) 1 (daX11_surveyAt_0 25 rfl) rfl (R32_b rfl) ?_
        refine GM_isub (pc := 44) (daX11_surveyAt_0 26 rfl) ?_
        refine GM_goto (pc := 45) 51 (daX11_surveyAt_0 27 rfl) rfl ?_
        exact gX11_surveyAt_51 l h hK
set_option maxRecDepth 20000 in
theorem gX11_surveyAt_0 (l : Launch) {F : FI} {v0 v1 v2 : Int} {μ : Mm} {t : Mm} (h : fX11_surveyAt v0 v1 v2 μ = some t) (hK : F.1 = [] ∧ F.2.1 = t) : GM l mX11_surveyAt F 0 0 0 [(0, (3, v0)), (1, (0, v1)), (2, (0, v2))] [] μ := by
  unfold fX11_surveyAt at h
  refine GM_aload_n (pc := 0) 0 rfl (daX11_surveyAt_0 0 rfl) rfl ?_
  refine GM_iload_n (pc := 1) 1 rfl (daX11_surveyAt_0 1 rfl) rfl ?_
  refine GM_iload_n (pc := 2) 2 rfl (daX11_surveyAt_0 2 rfl) rfl ?_
  obtain ⟨hc20, h⟩ := chk_inv h
  obtain ⟨μ21, hf21, h⟩ := Option.bind_eq_some_iff.mp h
  refine GM_callV0 (pc := 3) [(0, v1), (0, v2)] (tX11_looks l hf21) cwX11_looks 11 (Nat.le_of_ble_eq_true rfl) rfl kv_X11_looks ke_X11_looks km_X11_235 hc20 ⟨Nat.le_of_ble_eq_true rfl, Nat.le_of_ble_eq_true rfl⟩ (Nat.le_of_ble_eq_true rfl) (Nat.le_of_ble_eq_true rfl) (daX11_surveyAt_0 3 rfl) ?_
  refine GM_aload_n (pc := 6) 0 rfl (daX11_surveyAt_0 4 rfl) rfl ?_
  refine GM_getf (pc := 7) 11 16 3 16 kf_X11_29 (Nat.le_of_ble_eq_true rfl) (Nat.le_of_ble_eq_true rfl) rfl (daX11_surveyAt_0 5 rfl) hc20 rfl ?_
  refine GM_iload_n (pc := 10) 2 rfl (daX11_surveyAt_0 6 rfl) rfl ?_
  refine GM_iconst (pc := 11) 0 (daX11_surveyAt_0 7 rfl) rfl (R32_b rfl) ?_
  obtain ⟨hc22, h⟩ := chk_inv h
  obtain ⟨μ23, hμ23, h⟩ := lm_inv h
  refine GM_iast (pc := 12) (daX11_surveyAt_0 8 rfl) hc22.1 hc22.2.1 hc22.2.2 ?_
  refine GM_mem hμ23 ?_
  refine GM_iconst (pc := 13) 0 (daX11_surveyAt_0 9 rfl) rfl (R32_b rfl) ?_
  refine GM_istore_n (L' := [(3, (0, 0)), (0, (3, v0)), (1, (0, v1)), (2, (0, v2))]) (pc := 14) (daX11_surveyAt_0 10 rfl) rfl (Nat.le_of_ble_eq_true rfl) rfl ?_
  refine GM_pick [1, 2, 3, 0] rfl ?_
  obtain ⟨x24, hqx24, h⟩ := Option.bind_eq_some_iff.mp h
  refine lop_ind (zX11_surveyAt_15 l F v0 v1 v2 0 0) (qX11_surveyAt_15 l F v0 v1 v2 0 0) FU _ x24 hqx24 ?_
  obtain ⟨μ_25, hqq⟩ : ∃ z, z = x24 := ⟨x24, rfl⟩
  subst hqq
  show GM l mX11_surveyAt F 0 0 157 [] [] μ_25
  cases h
  exact GM_vret (pc := 157) (daX11_surveyAt_1 34 rfl) rfl hK
theorem tX11_surveyAt (l : Launch) {v0 v1 v2 : Int} {μ : Mm} {t : Mm} (h : fX11_surveyAt v0 v1 v2 μ = some t) : Ct l yX11_surveyAt mX11_surveyAt [(3, v0), (0, v1), (0, v2)] μ ([], t, 0, 0) :=
  Ct_of (by decide +kernel) rfl rfl (Nat.le_of_ble_eq_true rfl) (fun _ _ _ => trivial) (gX11_surveyAt_0 l h ⟨rfl, rfl⟩)
def mX11_survey : MI := (RX11, cX11_survey, 3, none, "survey", 7, 175, fun _ _ _ => True)
theorem cwX11_survey : CWd yX11_survey mX11_survey 1 := ⟨ki_X11, kk_X11_survey, ⟨by decide, by decide⟩, rfl⟩
def dtX11_survey_0 : List (Nat × Instr × Nat) := [(0, .iconst 0, 1), (1, .istore_n 2, 1), (2, .iload_n 2, 1), (3, .aload_n 0, 1), (4, .iload_n 1, 1), (5, .invokevirtual 207, 3), (8, .if_icmp .ge 15, 3), (11, .aload_n 0, 1), (12, .iload_n 1, 1), (13, .iload_n 2, 1), (14, .invokevirtual 238, 3), (17, .iinc 2 1, 3), (20, .goto (-18), 3), (23, .return_, 1)]
theorem ddX11_survey_0 : (dtX11_survey_0.all fun e => decide (decode mX11_survey.2.1 e.1 = .ok (e.2.1, e.2.2))) = true := by decide +kernel
theorem daX11_survey_0 (j : Nat) {pc n : Nat} {i : Instr} (h : dtX11_survey_0[j]? = some (pc, i, n)) : decode mX11_survey.2.1 pc = .ok (i, n) := dec_of (c := mX11_survey.2.1) ddX11_survey_0 h
def zX11_survey_2 (l : Launch) (F : FI) (v0 v1 : Int) (k n : Nat) : (Int × Mm) ⊕ Mm → Prop
  | .inl (v2, μ) => GM l mX11_survey F k n 2 [(0, (3, v0)), (1, (0, v1)), (2, (0, v2))] [] μ
  | .inr μ => GM l mX11_survey F k n 23 [] [] μ
def sX11_survey_2 (v0 v1 : Int) : (Int × Mm) → Option ((Int × Mm) ⊕ Mm) := fun (v2, μ) =>
  chk (KD v0 = 11) (
  (fX11_placesOf v0 v1 μ).bind fun r2 =>
  if r2 ≤ v2 then
    some (.inr μ)
  else
    (fX11_surveyAt v0 v1 v2 μ).bind fun μ4 =>
    some (.inl (w32 (v2 + 1), μ4)))
def fX11_survey (v0 v1 : Int) (μ : Mm) : Option Mm :=
  (lop (sX11_survey_2 v0 v1) FU (0, μ)).bind fun μ_6 =>
    some μ_6
set_option maxRecDepth 20000 in
theorem qX11_survey_2 (l : Launch) (F : FI) (v0 v1 : Int) (k n : Nat) : ∀ (q : (Int × Mm)) (t : ((Int × Mm) ⊕ Mm)), sX11_survey_2 v0 v1 q = some t → zX11_survey_2 l F v0 v1 k n t → zX11_survey_2 l F v0 v1 k n (.inl q) := by
  intro q t h hK
  obtain ⟨v2, μ⟩ := q
  unfold sX11_survey_2 at h
  try dsimp only at h
  show GM l mX11_survey F k n 2 [(0, (3, v0)), (1, (0, v1)), (2, (0, v2))] [] μ
  refine GM_iload_n (pc := 2) 2 rfl (daX11_survey_0 2 rfl) rfl ?_
  refine GM_aload_n (pc := 3) 0 rfl (daX11_survey_0 3 rfl) rfl ?_
  refine GM_iload_n (pc := 4) 1 rfl (daX11_survey_0 4 rfl) rfl ?_
  obtain ⟨hc1, h⟩ := chk_inv h
  obtain ⟨r2, hf2, h⟩ := Option.bind_eq_some_iff.mp h
  refine GM_callV0 (pc := 5) [(0, v1)] (tX11_placesOf l hf2) cwX11_placesOf 11 (Nat.le_of_ble_eq_true rfl) rfl kv_X11_placesOf ke_X11_placesOf km_X11_207 hc1 ⟨Nat.le_of_ble_eq_true rfl, Nat.le_of_ble_eq_true rfl⟩ (Nat.le_of_ble_eq_true rfl) (Nat.le_of_ble_eq_true rfl) (daX11_survey_0 5 rfl) ?_
  refine GM_icmp_ge (pc := 8) 23 (daX11_survey_0 6 rfl) rfl (fun c3 => ?_) (fun c3 => ?_)
  · skip
    rw [if_pos c3] at h
    refine GM_pick [] rfl ?_
    cases h
    exact hK
  · skip
    rw [if_neg c3] at h
    refine GM_aload_n (pc := 11) 0 rfl (daX11_survey_0 7 rfl) rfl ?_
    refine GM_iload_n (pc := 12) 1 rfl (daX11_survey_0 8 rfl) rfl ?_
    refine GM_iload_n (pc := 13) 2 rfl (daX11_survey_0 9 rfl) rfl ?_
    obtain ⟨μ4, hf4, h⟩ := Option.bind_eq_some_iff.mp h
    refine GM_callV0 (pc := 14) [(0, v1), (0, v2)] (tX11_surveyAt l hf4) cwX11_surveyAt 11 (Nat.le_of_ble_eq_true rfl) rfl kv_X11_surveyAt ke_X11_surveyAt km_X11_238 hc1 ⟨Nat.le_of_ble_eq_true rfl, Nat.le_of_ble_eq_true rfl⟩ (Nat.le_of_ble_eq_true rfl) (Nat.le_of_ble_eq_true rfl) (daX11_survey_0 10 rfl) ?_
    refine GM_iinc (L' := [(2, (0, w32 (v2 + 1))), (0, (3, v0)), (1, (0, v1))]) (pc := 17) 2 rfl (daX11_survey_0 11 rfl) (Nat.le_of_ble_eq_true rfl) rfl ?_
    refine GM_goto (pc := 20) 2 (daX11_survey_0 12 rfl) rfl ?_
    refine GM_pick [1, 2, 0] rfl ?_
    cases h
    exact hK
set_option maxRecDepth 20000 in
theorem gX11_survey_0 (l : Launch) {F : FI} {v0 v1 : Int} {μ : Mm} {t : Mm} (h : fX11_survey v0 v1 μ = some t) (hK : F.1 = [] ∧ F.2.1 = t) : GM l mX11_survey F 0 0 0 [(0, (3, v0)), (1, (0, v1))] [] μ := by
  unfold fX11_survey at h
  refine GM_iconst (pc := 0) 0 (daX11_survey_0 0 rfl) rfl (R32_b rfl) ?_
  refine GM_istore_n (L' := [(2, (0, 0)), (0, (3, v0)), (1, (0, v1))]) (pc := 1) (daX11_survey_0 1 rfl) rfl (Nat.le_of_ble_eq_true rfl) rfl ?_
  refine GM_pick [1, 2, 0] rfl ?_
  obtain ⟨x5, hqx5, h⟩ := Option.bind_eq_some_iff.mp h
  refine lop_ind (zX11_survey_2 l F v0 v1 0 0) (qX11_survey_2 l F v0 v1 0 0) FU _ x5 hqx5 ?_
  obtain ⟨μ_6, hqq⟩ : ∃ z, z = x5 := ⟨x5, rfl⟩
  subst hqq
  show GM l mX11_survey F 0 0 23 [] [] μ_6
  cases h
  exact GM_vret (pc := 23) (daX11_survey_0 13 rfl) rfl hK
theorem tX11_survey (l : Launch) {v0 v1 : Int} {μ : Mm} {t : Mm} (h : fX11_survey v0 v1 μ = some t) : Ct l yX11_survey mX11_survey [(3, v0), (0, v1)] μ ([], t, 0, 0) :=
  Ct_of (by decide +kernel) rfl rfl (Nat.le_of_ble_eq_true rfl) (fun _ _ _ => trivial) (gX11_survey_0 l h ⟨rfl, rfl⟩)
def mX11_areTwo : MI := (RX11, cX11_areTwo, 4, (some .boolean), "areTwo", 3, 66, fun _ _ _ => True)
theorem cwX11_areTwo : CWd yX11_areTwo mX11_areTwo 3 := ⟨ki_X11, kk_X11_areTwo, ⟨by decide, by decide⟩, rfl⟩
def dtX11_areTwo_0 : List (Nat × Instr × Nat) := [(0, .aload_n 0, 1), (1, .iload_n 1, 1), (2, .iload_n 2, 1), (3, .invokevirtual 210, 3), (6, .ifCond .eq 21, 3), (9, .aload_n 0, 1), (10, .iload_n 1, 1), (11, .iload_n 3, 1), (12, .invokevirtual 210, 3), (15, .ifCond .eq 12, 3), (18, .iload_n 2, 1), (19, .iload_n 3, 1), (20, .if_icmp .eq 7, 3), (23, .iconst 1, 1), (24, .goto 4, 3), (27, .iconst 0, 1), (28, .ireturn, 1)]
theorem ddX11_areTwo_0 : (dtX11_areTwo_0.all fun e => decide (decode mX11_areTwo.2.1 e.1 = .ok (e.2.1, e.2.2))) = true := by decide +kernel
theorem daX11_areTwo_0 (j : Nat) {pc n : Nat} {i : Instr} (h : dtX11_areTwo_0[j]? = some (pc, i, n)) : decode mX11_areTwo.2.1 pc = .ok (i, n) := dec_of (c := mX11_areTwo.2.1) ddX11_areTwo_0 h
def fX11_areTwo (v0 v1 v2 v3 : Int) (μ : Mm) : Option Int :=
  chk (KD v0 = 11) (
  (fX11_isPlace v0 v1 v2 μ).bind fun r2 =>
  if r2 = 0 then
    some 0
  else
    (fX11_isPlace v0 v1 v3 μ).bind fun r4 =>
    if r4 = 0 then
      some 0
    else
      if v2 = v3 then
        some 0
      else
        some 1)
set_option maxRecDepth 20000 in
theorem gX11_areTwo_0 (l : Launch) {F : FI} {v0 v1 v2 v3 : Int} {μ : Mm} {t : Int} (h : fX11_areTwo v0 v1 v2 v3 μ = some t) (hK : F.1 = [(0, t)] ∧ F.2.1 = μ) : GM l mX11_areTwo F 0 0 0 [(0, (3, v0)), (1, (0, v1)), (2, (0, v2)), (3, (0, v3))] [] μ := by
  unfold fX11_areTwo at h
  refine GM_aload_n (pc := 0) 0 rfl (daX11_areTwo_0 0 rfl) rfl ?_
  refine GM_iload_n (pc := 1) 1 rfl (daX11_areTwo_0 1 rfl) rfl ?_
  refine GM_iload_n (pc := 2) 2 rfl (daX11_areTwo_0 2 rfl) rfl ?_
  obtain ⟨hc1, h⟩ := chk_inv h
  obtain ⟨r2, hf2, h⟩ := Option.bind_eq_some_iff.mp h
  refine GM_callV0 (pc := 3) [(0, v1), (0, v2)] (tX11_isPlace l hf2) cwX11_isPlace 11 (Nat.le_of_ble_eq_true rfl) rfl kv_X11_isPlace ke_X11_isPlace km_X11_210 hc1 ⟨Nat.le_of_ble_eq_true rfl, Nat.le_of_ble_eq_true rfl⟩ (Nat.le_of_ble_eq_true rfl) (Nat.le_of_ble_eq_true rfl) (daX11_areTwo_0 3 rfl) ?_
  refine GM_if_eq (pc := 6) 27 (daX11_areTwo_0 4 rfl) rfl (fun c3 => ?_) (fun c3 => ?_)
  · skip
    rw [if_pos c3] at h
    refine GM_iconst (pc := 27) 0 (daX11_areTwo_0 15 rfl) rfl (R32_b rfl) ?_
    cases h
    exact GM_zret (pc := 28) (daX11_areTwo_0 16 rfl) rfl (Or.inl rfl) hK
  · skip
    rw [if_neg c3] at h
    refine GM_aload_n (pc := 9) 0 rfl (daX11_areTwo_0 5 rfl) rfl ?_
    refine GM_iload_n (pc := 10) 1 rfl (daX11_areTwo_0 6 rfl) rfl ?_
    refine GM_iload_n (pc := 11) 3 rfl (daX11_areTwo_0 7 rfl) rfl ?_
    obtain ⟨r4, hf4, h⟩ := Option.bind_eq_some_iff.mp h
    refine GM_callV0 (pc := 12) [(0, v1), (0, v3)] (tX11_isPlace l hf4) cwX11_isPlace 11 (Nat.le_of_ble_eq_true rfl) rfl kv_X11_isPlace ke_X11_isPlace km_X11_210 hc1 ⟨Nat.le_of_ble_eq_true rfl, Nat.le_of_ble_eq_true rfl⟩ (Nat.le_of_ble_eq_true rfl) (Nat.le_of_ble_eq_true rfl) (daX11_areTwo_0 8 rfl) ?_
    refine GM_if_eq (pc := 15) 27 (daX11_areTwo_0 9 rfl) rfl (fun c5 => ?_) (fun c5 => ?_)
    · skip
      rw [if_pos c5] at h
      refine GM_iconst (pc := 27) 0 (daX11_areTwo_0 15 rfl) rfl (R32_b rfl) ?_
      cases h
      exact GM_zret (pc := 28) (daX11_areTwo_0 16 rfl) rfl (Or.inl rfl) hK
    · skip
      rw [if_neg c5] at h
      refine GM_iload_n (pc := 18) 2 rfl (daX11_areTwo_0 10 rfl) rfl ?_
      refine GM_iload_n (pc := 19) 3 rfl (daX11_areTwo_0 11 rfl) rfl ?_
      refine GM_icmp_eq (pc := 20) 27 (daX11_areTwo_0 12 rfl) rfl (fun c6 => ?_) (fun c6 => ?_)
      · skip
        rw [if_pos c6] at h
        refine GM_iconst (pc := 27) 0 (daX11_areTwo_0 15 rfl) rfl (R32_b rfl) ?_
        cases h
        exact GM_zret (pc := 28) (daX11_areTwo_0 16 rfl) rfl (Or.inl rfl) hK
      · skip
        rw [if_neg c6] at h
        refine GM_iconst (pc := 23) 1 (daX11_areTwo_0 13 rfl) rfl (R32_b rfl) ?_
        refine GM_goto (pc := 24) 28 (daX11_areTwo_0 14 rfl) rfl ?_
        cases h
        exact GM_zret (pc := 28) (daX11_areTwo_0 16 rfl) rfl (Or.inr rfl) hK
theorem tX11_areTwo (l : Launch) {v0 v1 v2 v3 : Int} {μ : Mm} {t : Int} (h : fX11_areTwo v0 v1 v2 v3 μ = some t) : Ct l yX11_areTwo mX11_areTwo [(3, v0), (0, v1), (0, v2), (0, v3)] μ ([(0, t)], μ, 0, 0) :=
  Ct_of (by decide +kernel) rfl rfl (Nat.le_of_ble_eq_true rfl) (fun _ _ _ => trivial) (gX11_areTwo_0 l h ⟨rfl, rfl⟩)
def mX11_rise : MI := (RX11, cX11_rise, 4, (some .int), "rise", 4, 89, fun _ _ _ => True)
theorem cwX11_rise : CWd yX11_rise mX11_rise 3 := ⟨ki_X11, kk_X11_rise, ⟨by decide, by decide⟩, rfl⟩
def dtX11_rise_0 : List (Nat × Instr × Nat) := [(0, .aload_n 0, 1), (1, .iload_n 1, 1), (2, .iload_n 2, 1), (3, .iload_n 3, 1), (4, .invokevirtual 241, 3), (7, .ifCond .eq 17, 3), (10, .aload_n 0, 1), (11, .iconst 0, 1), (12, .iload_n 1, 1), (13, .invokestatic 204, 3), (16, .iload_n 2, 1), (17, .iload_n 3, 1), (18, .invokevirtual 223, 3), (21, .goto 6, 3), (24, .sipush (-10000), 3), (27, .ireturn, 1)]
theorem ddX11_rise_0 : (dtX11_rise_0.all fun e => decide (decode mX11_rise.2.1 e.1 = .ok (e.2.1, e.2.2))) = true := by decide +kernel
theorem daX11_rise_0 (j : Nat) {pc n : Nat} {i : Instr} (h : dtX11_rise_0[j]? = some (pc, i, n)) : decode mX11_rise.2.1 pc = .ok (i, n) := dec_of (c := mX11_rise.2.1) ddX11_rise_0 h
def fX11_rise (v0 v1 v2 v3 : Int) (μ : Mm) : Option Int :=
  chk (KD v0 = 11) (
  (fX11_areTwo v0 v1 v2 v3 μ).bind fun r2 =>
  if r2 = 0 then
    some (-10000)
  else
    (fX11_placeOf 0 v1).bind fun r4 =>
    (fX11_riseOf v0 r4 v2 v3 μ).bind fun r5 =>
    some r5)
set_option maxRecDepth 20000 in
theorem gX11_rise_0 (l : Launch) {F : FI} {v0 v1 v2 v3 : Int} {μ : Mm} {t : Int} (h : fX11_rise v0 v1 v2 v3 μ = some t) (hK : F.1 = [(0, t)] ∧ F.2.1 = μ) : GM l mX11_rise F 0 0 0 [(0, (3, v0)), (1, (0, v1)), (2, (0, v2)), (3, (0, v3))] [] μ := by
  unfold fX11_rise at h
  refine GM_aload_n (pc := 0) 0 rfl (daX11_rise_0 0 rfl) rfl ?_
  refine GM_iload_n (pc := 1) 1 rfl (daX11_rise_0 1 rfl) rfl ?_
  refine GM_iload_n (pc := 2) 2 rfl (daX11_rise_0 2 rfl) rfl ?_
  refine GM_iload_n (pc := 3) 3 rfl (daX11_rise_0 3 rfl) rfl ?_
  obtain ⟨hc1, h⟩ := chk_inv h
  obtain ⟨r2, hf2, h⟩ := Option.bind_eq_some_iff.mp h
  refine GM_callV0 (pc := 4) [(0, v1), (0, v2), (0, v3)] (tX11_areTwo l hf2) cwX11_areTwo 11 (Nat.le_of_ble_eq_true rfl) rfl kv_X11_areTwo ke_X11_areTwo km_X11_241 hc1 ⟨Nat.le_of_ble_eq_true rfl, Nat.le_of_ble_eq_true rfl⟩ (Nat.le_of_ble_eq_true rfl) (Nat.le_of_ble_eq_true rfl) (daX11_rise_0 4 rfl) ?_
  refine GM_if_eq (pc := 7) 24 (daX11_rise_0 5 rfl) rfl (fun c3 => ?_) (fun c3 => ?_)
  · skip
    rw [if_pos c3] at h
    refine GM_sipush (pc := 24) (-10000) (daX11_rise_0 14 rfl) rfl (R32_b rfl) ?_
    cases h
    exact GM_iret (pc := 27) (daX11_rise_0 15 rfl) rfl hK
  · skip
    rw [if_neg c3] at h
    refine GM_aload_n (pc := 10) 0 rfl (daX11_rise_0 6 rfl) rfl ?_
    refine GM_iconst (pc := 11) 0 (daX11_rise_0 7 rfl) rfl (R32_b rfl) ?_
    refine GM_iload_n (pc := 12) 1 rfl (daX11_rise_0 8 rfl) rfl ?_
    obtain ⟨r4, hf4, h⟩ := Option.bind_eq_some_iff.mp h
    refine GM_callS0 (pc := 13) [(0, 0), (0, v1)] (tX11_placeOf l hf4) cwX11_placeOf ks_X11_placeOf km_X11_204 ⟨Nat.le_of_ble_eq_true rfl, Nat.le_of_ble_eq_true rfl⟩ (Nat.le_of_ble_eq_true rfl) (Nat.le_of_ble_eq_true rfl) (daX11_rise_0 9 rfl) ?_
    refine GM_iload_n (pc := 16) 2 rfl (daX11_rise_0 10 rfl) rfl ?_
    refine GM_iload_n (pc := 17) 3 rfl (daX11_rise_0 11 rfl) rfl ?_
    obtain ⟨r5, hf5, h⟩ := Option.bind_eq_some_iff.mp h
    refine GM_callV0 (pc := 18) [(0, r4), (0, v2), (0, v3)] (tX11_riseOf l hf5) cwX11_riseOf 11 (Nat.le_of_ble_eq_true rfl) rfl kv_X11_riseOf ke_X11_riseOf km_X11_223 hc1 ⟨Nat.le_of_ble_eq_true rfl, Nat.le_of_ble_eq_true rfl⟩ (Nat.le_of_ble_eq_true rfl) (Nat.le_of_ble_eq_true rfl) (daX11_rise_0 12 rfl) ?_
    refine GM_goto (pc := 21) 27 (daX11_rise_0 13 rfl) rfl ?_
    cases h
    exact GM_iret (pc := 27) (daX11_rise_0 15 rfl) rfl hK
theorem tX11_rise (l : Launch) {v0 v1 v2 v3 : Int} {μ : Mm} {t : Int} (h : fX11_rise v0 v1 v2 v3 μ = some t) : Ct l yX11_rise mX11_rise [(3, v0), (0, v1), (0, v2), (0, v3)] μ ([(0, t)], μ, 0, 0) :=
  Ct_of (by decide +kernel) rfl rfl (Nat.le_of_ble_eq_true rfl) (fun _ _ _ => trivial) (gX11_rise_0 l h ⟨rfl, rfl⟩)
def mX11_seen : MI := (RX11, cX11_seen, 4, (some .int), "seen", 5, 127, fun _ _ _ => True)
theorem cwX11_seen : CWd yX11_seen mX11_seen 3 := ⟨ki_X11, kk_X11_seen, ⟨by decide, by decide⟩, rfl⟩
def dtX11_seen_0 : List (Nat × Instr × Nat) := [(0, .aload_n 0, 1), (1, .iload_n 1, 1), (2, .iload_n 2, 1), (3, .iload_n 3, 1), (4, .invokevirtual 241, 3), (7, .ifCond .ne 7, 3), (10, .iconst (-1), 1), (11, .goto 22, 3), (14, .aload_n 0, 1), (15, .iconst 0, 1), (16, .iload_n 1, 1), (17, .invokestatic 204, 3), (20, .iload_n 2, 1), (21, .iload_n 3, 1), (22, .invokevirtual 244, 3), (25, .ifCond .eq 7, 3), (28, .iconst 1, 1), (29, .goto 4, 3), (32, .iconst 0, 1), (33, .ireturn, 1)]
theorem ddX11_seen_0 : (dtX11_seen_0.all fun e => decide (decode mX11_seen.2.1 e.1 = .ok (e.2.1, e.2.2))) = true := by decide +kernel
theorem daX11_seen_0 (j : Nat) {pc n : Nat} {i : Instr} (h : dtX11_seen_0[j]? = some (pc, i, n)) : decode mX11_seen.2.1 pc = .ok (i, n) := dec_of (c := mX11_seen.2.1) ddX11_seen_0 h
def fX11_seen (v0 v1 v2 v3 : Int) (μ : Mm) : Option Int :=
  chk (KD v0 = 11) (
  (fX11_areTwo v0 v1 v2 v3 μ).bind fun r2 =>
  if r2 = 0 then
    some (-1)
  else
    (fX11_placeOf 0 v1).bind fun r4 =>
    (fX11_isSeen v0 r4 v2 v3 μ).bind fun r5 =>
    if r5 = 0 then
      some 0
    else
      some 1)
set_option maxRecDepth 20000 in
theorem gX11_seen_0 (l : Launch) {F : FI} {v0 v1 v2 v3 : Int} {μ : Mm} {t : Int} (h : fX11_seen v0 v1 v2 v3 μ = some t) (hK : F.1 = [(0, t)] ∧ F.2.1 = μ) : GM l mX11_seen F 0 0 0 [(0, (3, v0)), (1, (0, v1)), (2, (0, v2)), (3, (0, v3))] [] μ := by
  unfold fX11_seen at h
  refine GM_aload_n (pc := 0) 0 rfl (daX11_seen_0 0 rfl) rfl ?_
  refine GM_iload_n (pc := 1) 1 rfl (daX11_seen_0 1 rfl) rfl ?_
  refine GM_iload_n (pc := 2) 2 rfl (daX11_seen_0 2 rfl) rfl ?_
  refine GM_iload_n (pc := 3) 3 rfl (daX11_seen_0 3 rfl) rfl ?_
  obtain ⟨hc1, h⟩ := chk_inv h
  obtain ⟨r2, hf2, h⟩ := Option.bind_eq_some_iff.mp h
  refine GM_callV0 (pc := 4) [(0, v1), (0, v2), (0, v3)] (tX11_areTwo l hf2) cwX11_areTwo 11 (Nat.le_of_ble_eq_true rfl) rfl kv_X11_areTwo ke_X11_areTwo km_X11_241 hc1 ⟨Nat.le_of_ble_eq_true rfl, Nat.le_of_ble_eq_true rfl⟩ (Nat.le_of_ble_eq_true rfl) (Nat.le_of_ble_eq_true rfl) (daX11_seen_0 4 rfl) ?_
  refine GM_if_ne (pc := 7) 14 (daX11_seen_0 5 rfl) rfl (fun c3 => ?_) (fun c3 => ?_)
  · skip
    rw [if_neg c3] at h
    refine GM_aload_n (pc := 14) 0 rfl (daX11_seen_0 8 rfl) rfl ?_
    refine GM_iconst (pc := 15) 0 (daX11_seen_0 9 rfl) rfl (R32_b rfl) ?_
    refine GM_iload_n (pc := 16) 1 rfl (daX11_seen_0 10 rfl) rfl ?_
    obtain ⟨r4, hf4, h⟩ := Option.bind_eq_some_iff.mp h
    refine GM_callS0 (pc := 17) [(0, 0), (0, v1)] (tX11_placeOf l hf4) cwX11_placeOf ks_X11_placeOf km_X11_204 ⟨Nat.le_of_ble_eq_true rfl, Nat.le_of_ble_eq_true rfl⟩ (Nat.le_of_ble_eq_true rfl) (Nat.le_of_ble_eq_true rfl) (daX11_seen_0 11 rfl) ?_
    refine GM_iload_n (pc := 20) 2 rfl (daX11_seen_0 12 rfl) rfl ?_
    refine GM_iload_n (pc := 21) 3 rfl (daX11_seen_0 13 rfl) rfl ?_
    obtain ⟨r5, hf5, h⟩ := Option.bind_eq_some_iff.mp h
    refine GM_callV0 (pc := 22) [(0, r4), (0, v2), (0, v3)] (tX11_isSeen l hf5) cwX11_isSeen 11 (Nat.le_of_ble_eq_true rfl) rfl kv_X11_isSeen ke_X11_isSeen km_X11_244 hc1 ⟨Nat.le_of_ble_eq_true rfl, Nat.le_of_ble_eq_true rfl⟩ (Nat.le_of_ble_eq_true rfl) (Nat.le_of_ble_eq_true rfl) (daX11_seen_0 14 rfl) ?_
    refine GM_if_eq (pc := 25) 32 (daX11_seen_0 15 rfl) rfl (fun c6 => ?_) (fun c6 => ?_)
    · skip
      rw [if_pos c6] at h
      refine GM_iconst (pc := 32) 0 (daX11_seen_0 18 rfl) rfl (R32_b rfl) ?_
      cases h
      exact GM_iret (pc := 33) (daX11_seen_0 19 rfl) rfl hK
    · skip
      rw [if_neg c6] at h
      refine GM_iconst (pc := 28) 1 (daX11_seen_0 16 rfl) rfl (R32_b rfl) ?_
      refine GM_goto (pc := 29) 33 (daX11_seen_0 17 rfl) rfl ?_
      cases h
      exact GM_iret (pc := 33) (daX11_seen_0 19 rfl) rfl hK
  · skip
    rw [if_pos c3] at h
    refine GM_iconst (pc := 10) (-1) (daX11_seen_0 6 rfl) rfl (R32_b rfl) ?_
    refine GM_goto (pc := 11) 33 (daX11_seen_0 7 rfl) rfl ?_
    cases h
    exact GM_iret (pc := 33) (daX11_seen_0 19 rfl) rfl hK
theorem tX11_seen (l : Launch) {v0 v1 v2 v3 : Int} {μ : Mm} {t : Int} (h : fX11_seen v0 v1 v2 v3 μ = some t) : Ct l yX11_seen mX11_seen [(3, v0), (0, v1), (0, v2), (0, v3)] μ ([(0, t)], μ, 0, 0) :=
  Ct_of (by decide +kernel) rfl rfl (Nat.le_of_ble_eq_true rfl) (fun _ _ _ => trivial) (gX11_seen_0 l h ⟨rfl, rfl⟩)
def mX11_ray : MI := (RX11, cX11_ray, 4, (some .int), "ray", 6, 150, fun _ _ _ => True)
theorem cwX11_ray : CWd yX11_ray mX11_ray 3 := ⟨ki_X11, kk_X11_ray, ⟨by decide, by decide⟩, rfl⟩
def dtX11_ray_0 : List (Nat × Instr × Nat) := [(0, .aload_n 0, 1), (1, .iload_n 1, 1), (2, .iload_n 2, 1), (3, .invokevirtual 210, 3), (6, .ifCond .ne 5, 3), (9, .iconst (-1), 1), (10, .ireturn, 1), (11, .aload_n 0, 1), (12, .iconst 0, 1), (13, .iload_n 1, 1), (14, .invokestatic 204, 3), (17, .iload_n 2, 1), (18, .invokevirtual 235, 3), (21, .iload_n 3, 1), (22, .iconst (-1), 1), (23, .if_icmp .ne 10, 3), (26, .aload_n 0, 1), (27, .getfield 229, 3), (30, .goto 27, 3), (33, .iload_n 3, 1), (34, .iconst 0, 1), (35, .aload_n 0, 1), (36, .getfield 229, 3), (39, .iconst 1, 1), (40, .isub, 1), (41, .invokestatic 147, 3), (44, .ifCond .eq 12, 3), (47, .aload_n 0, 1), (48, .getfield 26, 3), (51, .iload_n 3, 1), (52, .iaload, 1), (53, .goto 4, 3), (56, .iconst (-1), 1), (57, .ireturn, 1)]
theorem ddX11_ray_0 : (dtX11_ray_0.all fun e => decide (decode mX11_ray.2.1 e.1 = .ok (e.2.1, e.2.2))) = true := by decide +kernel
theorem daX11_ray_0 (j : Nat) {pc n : Nat} {i : Instr} (h : dtX11_ray_0[j]? = some (pc, i, n)) : decode mX11_ray.2.1 pc = .ok (i, n) := dec_of (c := mX11_ray.2.1) ddX11_ray_0 h
def fX11_ray (v0 v1 v2 v3 : Int) (μ : Mm) : Option (Int × Mm) :=
  chk (KD v0 = 11) (
  (fX11_isPlace v0 v1 v2 μ).bind fun r2 =>
  if r2 = 0 then
    some ((-1), μ)
  else
    (fX11_placeOf 0 v1).bind fun r4 =>
    (fX11_looks v0 r4 v2 μ).bind fun μ5 =>
    if v3 = (-1) then
      some (μ5 v0 14, μ5)
    else
      if isIn v3 0 (w32 ((μ5 v0 14) - 1)) = 0 then
        some ((-1), μ5)
      else
        chk (KD (μ5 v0 15) = 12 ∧ 0 ≤ v3 ∧ v3 < LN (μ5 v0 15)) (
        some (μ5 (μ5 v0 15) v3, μ5)))
set_option maxRecDepth 20000 in
theorem gX11_ray_0 (l : Launch) {F : FI} {v0 v1 v2 v3 : Int} {μ : Mm} {t : (Int × Mm)} (h : fX11_ray v0 v1 v2 v3 μ = some t) (hK : F.1 = [(0, t.1)] ∧ F.2.1 = t.2) : GM l mX11_ray F 0 0 0 [(0, (3, v0)), (1, (0, v1)), (2, (0, v2)), (3, (0, v3))] [] μ := by
  unfold fX11_ray at h
  refine GM_aload_n (pc := 0) 0 rfl (daX11_ray_0 0 rfl) rfl ?_
  refine GM_iload_n (pc := 1) 1 rfl (daX11_ray_0 1 rfl) rfl ?_
  refine GM_iload_n (pc := 2) 2 rfl (daX11_ray_0 2 rfl) rfl ?_
  obtain ⟨hc1, h⟩ := chk_inv h
  obtain ⟨r2, hf2, h⟩ := Option.bind_eq_some_iff.mp h
  refine GM_callV0 (pc := 3) [(0, v1), (0, v2)] (tX11_isPlace l hf2) cwX11_isPlace 11 (Nat.le_of_ble_eq_true rfl) rfl kv_X11_isPlace ke_X11_isPlace km_X11_210 hc1 ⟨Nat.le_of_ble_eq_true rfl, Nat.le_of_ble_eq_true rfl⟩ (Nat.le_of_ble_eq_true rfl) (Nat.le_of_ble_eq_true rfl) (daX11_ray_0 3 rfl) ?_
  refine GM_if_ne (pc := 6) 11 (daX11_ray_0 4 rfl) rfl (fun c3 => ?_) (fun c3 => ?_)
  · skip
    rw [if_neg c3] at h
    refine GM_aload_n (pc := 11) 0 rfl (daX11_ray_0 7 rfl) rfl ?_
    refine GM_iconst (pc := 12) 0 (daX11_ray_0 8 rfl) rfl (R32_b rfl) ?_
    refine GM_iload_n (pc := 13) 1 rfl (daX11_ray_0 9 rfl) rfl ?_
    obtain ⟨r4, hf4, h⟩ := Option.bind_eq_some_iff.mp h
    refine GM_callS0 (pc := 14) [(0, 0), (0, v1)] (tX11_placeOf l hf4) cwX11_placeOf ks_X11_placeOf km_X11_204 ⟨Nat.le_of_ble_eq_true rfl, Nat.le_of_ble_eq_true rfl⟩ (Nat.le_of_ble_eq_true rfl) (Nat.le_of_ble_eq_true rfl) (daX11_ray_0 10 rfl) ?_
    refine GM_iload_n (pc := 17) 2 rfl (daX11_ray_0 11 rfl) rfl ?_
    obtain ⟨μ5, hf5, h⟩ := Option.bind_eq_some_iff.mp h
    refine GM_callV0 (pc := 18) [(0, r4), (0, v2)] (tX11_looks l hf5) cwX11_looks 11 (Nat.le_of_ble_eq_true rfl) rfl kv_X11_looks ke_X11_looks km_X11_235 hc1 ⟨Nat.le_of_ble_eq_true rfl, Nat.le_of_ble_eq_true rfl⟩ (Nat.le_of_ble_eq_true rfl) (Nat.le_of_ble_eq_true rfl) (daX11_ray_0 12 rfl) ?_
    refine GM_iload_n (pc := 21) 3 rfl (daX11_ray_0 13 rfl) rfl ?_
    refine GM_iconst (pc := 22) (-1) (daX11_ray_0 14 rfl) rfl (R32_b rfl) ?_
    refine GM_icmp_ne (pc := 23) 33 (daX11_ray_0 15 rfl) rfl (fun c6 => ?_) (fun c6 => ?_)
    · skip
      rw [if_neg c6] at h
      refine GM_iload_n (pc := 33) 3 rfl (daX11_ray_0 19 rfl) rfl ?_
      refine GM_iconst (pc := 34) 0 (daX11_ray_0 20 rfl) rfl (R32_b rfl) ?_
      refine GM_aload_n (pc := 35) 0 rfl (daX11_ray_0 21 rfl) rfl ?_
      refine GM_getf (pc := 36) 11 14 0 14 kf_X11_229 (Nat.le_of_ble_eq_true rfl) (Nat.le_of_ble_eq_true rfl) rfl (daX11_ray_0 22 rfl) hc1 rfl ?_
      refine GM_iconst (pc := 39) 1 (daX11_ray_0 23 rfl) rfl (R32_b rfl) ?_
      refine GM_isub (pc := 40) (daX11_ray_0 24 rfl) ?_
      refine GM_callS0 (pc := 41) [(0, v3), (0, 0), (0, w32 ((μ5 v0 14) - 1))] (tX11_isIn l (fX11_isIn_eq v3 0 (w32 ((μ5 v0 14) - 1)))) cwX11_isIn ks_X11_isIn km_X11_147 ⟨Nat.le_of_ble_eq_true rfl, Nat.le_of_ble_eq_true rfl⟩ (Nat.le_of_ble_eq_true rfl) (Nat.le_of_ble_eq_true rfl) (daX11_ray_0 25 rfl) ?_
      refine GM_if_eq (pc := 44) 56 (daX11_ray_0 26 rfl) rfl (fun c7 => ?_) (fun c7 => ?_)
      · skip
        rw [if_pos c7] at h
        refine GM_iconst (pc := 56) (-1) (daX11_ray_0 32 rfl) rfl (R32_b rfl) ?_
        cases h
        exact GM_iret (pc := 57) (daX11_ray_0 33 rfl) rfl hK
      · skip
        rw [if_neg c7] at h
        refine GM_aload_n (pc := 47) 0 rfl (daX11_ray_0 27 rfl) rfl ?_
        refine GM_getf (pc := 48) 11 15 3 15 kf_X11_26 (Nat.le_of_ble_eq_true rfl) (Nat.le_of_ble_eq_true rfl) rfl (daX11_ray_0 28 rfl) hc1 rfl ?_
        refine GM_iload_n (pc := 51) 3 rfl (daX11_ray_0 29 rfl) rfl ?_
        obtain ⟨hc8, h⟩ := chk_inv h
        refine GM_iald (pc := 52) (daX11_ray_0 30 rfl) hc8.1 hc8.2.1 hc8.2.2 ?_
        refine GM_goto (pc := 53) 57 (daX11_ray_0 31 rfl) rfl ?_
        cases h
        exact GM_iret (pc := 57) (daX11_ray_0 33 rfl) rfl hK
    · skip
      rw [if_pos c6] at h
      refine GM_aload_n (pc := 26) 0 rfl (daX11_ray_0 16 rfl) rfl ?_
      refine GM_getf (pc := 27) 11 14 0 14 kf_X11_229 (Nat.le_of_ble_eq_true rfl) (Nat.le_of_ble_eq_true rfl) rfl (daX11_ray_0 17 rfl) hc1 rfl ?_
      refine GM_goto (pc := 30) 57 (daX11_ray_0 18 rfl) rfl ?_
      cases h
      exact GM_iret (pc := 57) (daX11_ray_0 33 rfl) rfl hK
  · skip
    rw [if_pos c3] at h
    refine GM_iconst (pc := 9) (-1) (daX11_ray_0 5 rfl) rfl (R32_b rfl) ?_
    cases h
    exact GM_iret (pc := 10) (daX11_ray_0 6 rfl) rfl hK
theorem tX11_ray (l : Launch) {v0 v1 v2 v3 : Int} {μ : Mm} {t : (Int × Mm)} (h : fX11_ray v0 v1 v2 v3 μ = some t) : Ct l yX11_ray mX11_ray [(3, v0), (0, v1), (0, v2), (0, v3)] μ ([(0, t.1)], t.2, 0, 0) :=
  Ct_of (by decide +kernel) rfl rfl (Nat.le_of_ble_eq_true rfl) (fun _ _ _ => trivial) (gX11_ray_0 l h ⟨rfl, rfl⟩)
def mX11_hump : MI := (RX11, cX11_hump, 4, (some .int), "hump", 7, 175, fun _ _ _ => True)
theorem cwX11_hump : CWd yX11_hump mX11_hump 3 := ⟨ki_X11, kk_X11_hump, ⟨by decide, by decide⟩, rfl⟩
def dtX11_hump_0 : List (Nat × Instr × Nat) := [(0, .aload_n 0, 1), (1, .iload_n 1, 1), (2, .iload_n 2, 1), (3, .invokevirtual 210, 3), (6, .ifCond .ne 5, 3), (9, .iconst (-1), 1), (10, .ireturn, 1), (11, .aload_n 0, 1), (12, .iconst 0, 1), (13, .iload_n 1, 1), (14, .invokestatic 204, 3), (17, .iload_n 2, 1), (18, .invokevirtual 238, 3), (21, .iload_n 3, 1), (22, .iconst (-1), 1), (23, .if_icmp .ne 12, 3), (26, .aload_n 0, 1), (27, .getfield 29, 3), (30, .iload_n 2, 1), (31, .iaload, 1), (32, .goto 34, 3), (35, .iload_n 3, 1), (36, .iconst 0, 1), (37, .aload_n 0, 1), (38, .getfield 29, 3), (41, .iload_n 2, 1), (42, .iaload, 1), (43, .iconst 1, 1), (44, .isub, 1), (45, .invokestatic 147, 3), (48, .ifCond .eq 17, 3), (51, .aload_n 0, 1), (52, .getfield 32, 3), (55, .bipush 64, 2), (57, .iload_n 2, 1), (58, .imul, 1), (59, .iload_n 3, 1), (60, .iadd, 1), (61, .iaload, 1), (62, .goto 4, 3), (65, .iconst (-1), 1), (66, .ireturn, 1)]
theorem ddX11_hump_0 : (dtX11_hump_0.all fun e => decide (decode mX11_hump.2.1 e.1 = .ok (e.2.1, e.2.2))) = true := by decide +kernel
theorem daX11_hump_0 (j : Nat) {pc n : Nat} {i : Instr} (h : dtX11_hump_0[j]? = some (pc, i, n)) : decode mX11_hump.2.1 pc = .ok (i, n) := dec_of (c := mX11_hump.2.1) ddX11_hump_0 h
def fX11_hump (v0 v1 v2 v3 : Int) (μ : Mm) : Option (Int × Mm) :=
  chk (KD v0 = 11) (
  (fX11_isPlace v0 v1 v2 μ).bind fun r2 =>
  if r2 = 0 then
    some ((-1), μ)
  else
    (fX11_placeOf 0 v1).bind fun r4 =>
    (fX11_surveyAt v0 r4 v2 μ).bind fun μ5 =>
    if v3 = (-1) then
      chk (KD (μ5 v0 16) = 12 ∧ 0 ≤ v2 ∧ v2 < LN (μ5 v0 16)) (
      some (μ5 (μ5 v0 16) v2, μ5))
    else
      chk (KD (μ5 v0 16) = 12 ∧ 0 ≤ v2 ∧ v2 < LN (μ5 v0 16)) (
      if isIn v3 0 (w32 ((μ5 (μ5 v0 16) v2) - 1)) = 0 then
        some ((-1), μ5)
      else
        chk (KD (μ5 v0 17) = 12 ∧ 0 ≤ w32 ((w32 (64 * v2)) + v3) ∧ w32 ((w32 (64 * v2)) + v3) < LN (μ5 v0 17)) (
        some (μ5 (μ5 v0 17) (w32 ((w32 (64 * v2)) + v3)), μ5))))
set_option maxRecDepth 20000 in
theorem gX11_hump_0 (l : Launch) {F : FI} {v0 v1 v2 v3 : Int} {μ : Mm} {t : (Int × Mm)} (h : fX11_hump v0 v1 v2 v3 μ = some t) (hK : F.1 = [(0, t.1)] ∧ F.2.1 = t.2) : GM l mX11_hump F 0 0 0 [(0, (3, v0)), (1, (0, v1)), (2, (0, v2)), (3, (0, v3))] [] μ := by
  unfold fX11_hump at h
  refine GM_aload_n (pc := 0) 0 rfl (daX11_hump_0 0 rfl) rfl ?_
  refine GM_iload_n (pc := 1) 1 rfl (daX11_hump_0 1 rfl) rfl ?_
  refine GM_iload_n (pc := 2) 2 rfl (daX11_hump_0 2 rfl) rfl ?_
  obtain ⟨hc1, h⟩ := chk_inv h
  obtain ⟨r2, hf2, h⟩ := Option.bind_eq_some_iff.mp h
  refine GM_callV0 (pc := 3) [(0, v1), (0, v2)] (tX11_isPlace l hf2) cwX11_isPlace 11 (Nat.le_of_ble_eq_true rfl) rfl kv_X11_isPlace ke_X11_isPlace km_X11_210 hc1 ⟨Nat.le_of_ble_eq_true rfl, Nat.le_of_ble_eq_true rfl⟩ (Nat.le_of_ble_eq_true rfl) (Nat.le_of_ble_eq_true rfl) (daX11_hump_0 3 rfl) ?_
  refine GM_if_ne (pc := 6) 11 (daX11_hump_0 4 rfl) rfl (fun c3 => ?_) (fun c3 => ?_)
  · skip
    rw [if_neg c3] at h
    refine GM_aload_n (pc := 11) 0 rfl (daX11_hump_0 7 rfl) rfl ?_
    refine GM_iconst (pc := 12) 0 (daX11_hump_0 8 rfl) rfl (R32_b rfl) ?_
    refine GM_iload_n (pc := 13) 1 rfl (daX11_hump_0 9 rfl) rfl ?_
    obtain ⟨r4, hf4, h⟩ := Option.bind_eq_some_iff.mp h
    refine GM_callS0 (pc := 14) [(0, 0), (0, v1)] (tX11_placeOf l hf4) cwX11_placeOf ks_X11_placeOf km_X11_204 ⟨Nat.le_of_ble_eq_true rfl, Nat.le_of_ble_eq_true rfl⟩ (Nat.le_of_ble_eq_true rfl) (Nat.le_of_ble_eq_true rfl) (daX11_hump_0 10 rfl) ?_
    refine GM_iload_n (pc := 17) 2 rfl (daX11_hump_0 11 rfl) rfl ?_
    obtain ⟨μ5, hf5, h⟩ := Option.bind_eq_some_iff.mp h
    refine GM_callV0 (pc := 18) [(0, r4), (0, v2)] (tX11_surveyAt l hf5) cwX11_surveyAt 11 (Nat.le_of_ble_eq_true rfl) rfl kv_X11_surveyAt ke_X11_surveyAt km_X11_238 hc1 ⟨Nat.le_of_ble_eq_true rfl, Nat.le_of_ble_eq_true rfl⟩ (Nat.le_of_ble_eq_true rfl) (Nat.le_of_ble_eq_true rfl) (daX11_hump_0 12 rfl) ?_
    refine GM_iload_n (pc := 21) 3 rfl (daX11_hump_0 13 rfl) rfl ?_
    refine GM_iconst (pc := 22) (-1) (daX11_hump_0 14 rfl) rfl (R32_b rfl) ?_
    refine GM_icmp_ne (pc := 23) 35 (daX11_hump_0 15 rfl) rfl (fun c6 => ?_) (fun c6 => ?_)
    · skip
      rw [if_neg c6] at h
      refine GM_iload_n (pc := 35) 3 rfl (daX11_hump_0 21 rfl) rfl ?_
      refine GM_iconst (pc := 36) 0 (daX11_hump_0 22 rfl) rfl (R32_b rfl) ?_
      refine GM_aload_n (pc := 37) 0 rfl (daX11_hump_0 23 rfl) rfl ?_
      refine GM_getf (pc := 38) 11 16 3 16 kf_X11_29 (Nat.le_of_ble_eq_true rfl) (Nat.le_of_ble_eq_true rfl) rfl (daX11_hump_0 24 rfl) hc1 rfl ?_
      refine GM_iload_n (pc := 41) 2 rfl (daX11_hump_0 25 rfl) rfl ?_
      obtain ⟨hc7, h⟩ := chk_inv h
      refine GM_iald (pc := 42) (daX11_hump_0 26 rfl) hc7.1 hc7.2.1 hc7.2.2 ?_
      refine GM_iconst (pc := 43) 1 (daX11_hump_0 27 rfl) rfl (R32_b rfl) ?_
      refine GM_isub (pc := 44) (daX11_hump_0 28 rfl) ?_
      refine GM_callS0 (pc := 45) [(0, v3), (0, 0), (0, w32 ((μ5 (μ5 v0 16) v2) - 1))] (tX11_isIn l (fX11_isIn_eq v3 0 (w32 ((μ5 (μ5 v0 16) v2) - 1)))) cwX11_isIn ks_X11_isIn km_X11_147 ⟨Nat.le_of_ble_eq_true rfl, Nat.le_of_ble_eq_true rfl⟩ (Nat.le_of_ble_eq_true rfl) (Nat.le_of_ble_eq_true rfl) (daX11_hump_0 29 rfl) ?_
      refine GM_if_eq (pc := 48) 65 (daX11_hump_0 30 rfl) rfl (fun c8 => ?_) (fun c8 => ?_)
      · skip
        rw [if_pos c8] at h
        refine GM_iconst (pc := 65) (-1) (daX11_hump_0 40 rfl) rfl (R32_b rfl) ?_
        cases h
        exact GM_iret (pc := 66) (daX11_hump_0 41 rfl) rfl hK
      · skip
        rw [if_neg c8] at h
        refine GM_aload_n (pc := 51) 0 rfl (daX11_hump_0 31 rfl) rfl ?_
        refine GM_getf (pc := 52) 11 17 3 17 kf_X11_32 (Nat.le_of_ble_eq_true rfl) (Nat.le_of_ble_eq_true rfl) rfl (daX11_hump_0 32 rfl) hc1 rfl ?_
        refine GM_bipush (pc := 55) 64 (daX11_hump_0 33 rfl) rfl (R32_b rfl) ?_
        refine GM_iload_n (pc := 57) 2 rfl (daX11_hump_0 34 rfl) rfl ?_
        refine GM_imul (pc := 58) (daX11_hump_0 35 rfl) ?_
        refine GM_iload_n (pc := 59) 3 rfl (daX11_hump_0 36 rfl) rfl ?_
        refine GM_iadd (pc := 60) (daX11_hump_0 37 rfl) ?_
        obtain ⟨hc9, h⟩ := chk_inv h
        refine GM_iald (pc := 61) (daX11_hump_0 38 rfl) hc9.1 hc9.2.1 hc9.2.2 ?_
        refine GM_goto (pc := 62) 66 (daX11_hump_0 39 rfl) rfl ?_
        cases h
        exact GM_iret (pc := 66) (daX11_hump_0 41 rfl) rfl hK
    · skip
      rw [if_pos c6] at h
      refine GM_aload_n (pc := 26) 0 rfl (daX11_hump_0 16 rfl) rfl ?_
      refine GM_getf (pc := 27) 11 16 3 16 kf_X11_29 (Nat.le_of_ble_eq_true rfl) (Nat.le_of_ble_eq_true rfl) rfl (daX11_hump_0 17 rfl) hc1 rfl ?_
      refine GM_iload_n (pc := 30) 2 rfl (daX11_hump_0 18 rfl) rfl ?_
      obtain ⟨hc10, h⟩ := chk_inv h
      refine GM_iald (pc := 31) (daX11_hump_0 19 rfl) hc10.1 hc10.2.1 hc10.2.2 ?_
      refine GM_goto (pc := 32) 66 (daX11_hump_0 20 rfl) rfl ?_
      cases h
      exact GM_iret (pc := 66) (daX11_hump_0 41 rfl) rfl hK
  · skip
    rw [if_pos c3] at h
    refine GM_iconst (pc := 9) (-1) (daX11_hump_0 5 rfl) rfl (R32_b rfl) ?_
    cases h
    exact GM_iret (pc := 10) (daX11_hump_0 6 rfl) rfl hK
theorem tX11_hump (l : Launch) {v0 v1 v2 v3 : Int} {μ : Mm} {t : (Int × Mm)} (h : fX11_hump v0 v1 v2 v3 μ = some t) : Ct l yX11_hump mX11_hump [(3, v0), (0, v1), (0, v2), (0, v3)] μ ([(0, t.1)], t.2, 0, 0) :=
  Ct_of (by decide +kernel) rfl rfl (Nat.le_of_ble_eq_true rfl) (fun _ _ _ => trivial) (gX11_hump_0 l h ⟨rfl, rfl⟩)
def mX11_steeper : MI := (RX11, cX11_steeper, 7, (some .int), "steeper", 7, 175, fun _ _ _ => True)
theorem cwX11_steeper : CWd yX11_steeper mX11_steeper 4 := ⟨ki_X11, kk_X11_steeper, ⟨by decide, by decide⟩, rfl⟩
def dtX11_steeper_0 : List (Nat × Instr × Nat) := [(0, .aload_n 0, 1), (1, .iload_n 1, 1), (2, .iload_n 2, 1), (3, .invokevirtual 210, 3), (6, .ifCond .ne 6, 3), (9, .bipush (-2), 2), (11, .ireturn, 1), (12, .aload_n 0, 1), (13, .iconst 0, 1), (14, .iload_n 1, 1), (15, .invokestatic 204, 3), (18, .iload_n 2, 1), (19, .invokevirtual 238, 3), (22, .iload_n 3, 1), (23, .iconst 0, 1), (24, .aload_n 0, 1), (25, .getfield 29, 3), (28, .iload_n 2, 1), (29, .iaload, 1), (30, .iconst 1, 1), (31, .isub, 1), (32, .invokestatic 147, 3), (35, .ifCond .eq 20, 3), (38, .iload 4, 2), (40, .iconst 0, 1), (41, .aload_n 0, 1), (42, .getfield 29, 3), (45, .iload_n 2, 1), (46, .iaload, 1), (47, .iconst 1, 1), (48, .isub, 1), (49, .invokestatic 147, 3), (52, .ifCond .ne 6, 3), (55, .bipush (-2), 2), (57, .ireturn, 1), (58, .aload_n 0, 1), (59, .iconst 0, 1), (60, .iload_n 1, 1), (61, .invokestatic 204, 3), (64, .iload_n 2, 1), (65, .aload_n 0, 1), (66, .getfield 32, 3), (69, .bipush 64, 2), (71, .iload_n 2, 1), (72, .imul, 1), (73, .iload_n 3, 1), (74, .iadd, 1), (75, .iaload, 1), (76, .aload_n 0, 1), (77, .getfield 32, 3), (80, .bipush 64, 2), (82, .iload_n 2, 1), (83, .imul, 1), (84, .iload 4, 2), (86, .iadd, 1), (87, .iaload, 1), (88, .invokevirtual 226, 3), (91, .lstore 5, 2), (93, .lload 5, 2), (95, .lconst 0, 1), (96, .lcmp, 1), (97, .ifCond .le 7, 3), (100, .iconst 1, 1), (101, .goto 15, 3)]
theorem ddX11_steeper_0 : (dtX11_steeper_0.all fun e => decide (decode mX11_steeper.2.1 e.1 = .ok (e.2.1, e.2.2))) = true := by decide +kernel
theorem daX11_steeper_0 (j : Nat) {pc n : Nat} {i : Instr} (h : dtX11_steeper_0[j]? = some (pc, i, n)) : decode mX11_steeper.2.1 pc = .ok (i, n) := dec_of (c := mX11_steeper.2.1) ddX11_steeper_0 h
def dtX11_steeper_1 : List (Nat × Instr × Nat) := [(104, .lload 5, 2), (106, .lconst 0, 1), (107, .lcmp, 1), (108, .ifCond .ge 7, 3), (111, .iconst (-1), 1), (112, .goto 4, 3), (115, .iconst 0, 1), (116, .ireturn, 1)]
theorem ddX11_steeper_1 : (dtX11_steeper_1.all fun e => decide (decode mX11_steeper.2.1 e.1 = .ok (e.2.1, e.2.2))) = true := by decide +kernel
theorem daX11_steeper_1 (j : Nat) {pc n : Nat} {i : Instr} (h : dtX11_steeper_1[j]? = some (pc, i, n)) : decode mX11_steeper.2.1 pc = .ok (i, n) := dec_of (c := mX11_steeper.2.1) ddX11_steeper_1 h
def fX11_steeper (v0 v1 v2 v3 v4 : Int) (μ : Mm) : Option (Int × Mm) :=
  chk (KD v0 = 11) (
  (fX11_isPlace v0 v1 v2 μ).bind fun r2 =>
  if r2 = 0 then
    some ((-2), μ)
  else
    (fX11_placeOf 0 v1).bind fun r4 =>
    (fX11_surveyAt v0 r4 v2 μ).bind fun μ5 =>
    chk (KD (μ5 v0 16) = 12 ∧ 0 ≤ v2 ∧ v2 < LN (μ5 v0 16)) (
    if isIn v3 0 (w32 ((μ5 (μ5 v0 16) v2) - 1)) = 0 then
      some ((-2), μ5)
    else
      if isIn v4 0 (w32 ((μ5 (μ5 v0 16) v2) - 1)) = 0 then
        some ((-2), μ5)
      else
        (fX11_placeOf 0 v1).bind fun r9 =>
        chk (KD (μ5 v0 17) = 12 ∧ 0 ≤ w32 ((w32 (64 * v2)) + v3) ∧ w32 ((w32 (64 * v2)) + v3) < LN (μ5 v0 17)) (
        chk (0 ≤ w32 ((w32 (64 * v2)) + v4) ∧ w32 ((w32 (64 * v2)) + v4) < LN (μ5 v0 17)) (
        (fX11_steep v0 r9 v2 (μ5 (μ5 v0 17) (w32 ((w32 (64 * v2)) + v3))) (μ5 (μ5 v0 17) (w32 ((w32 (64 * v2)) + v4))) μ5).bind fun r12 =>
        if r12 ≤ 0 then
          if 0 ≤ r12 then
            some (0, μ5)
          else
            some ((-1), μ5)
        else
          some (1, μ5)))))
set_option maxRecDepth 20000 in
theorem gX11_steeper_0 (l : Launch) {F : FI} {v0 v1 v2 v3 v4 : Int} {μ : Mm} {t : (Int × Mm)} (h : fX11_steeper v0 v1 v2 v3 v4 μ = some t) (hK : F.1 = [(0, t.1)] ∧ F.2.1 = t.2) : GM l mX11_steeper F 0 0 0 [(0, (3, v0)), (1, (0, v1)), (2, (0, v2)), (3, (0, v3)), (4, (0, v4))] [] μ := by
  unfold fX11_steeper at h
  refine GM_aload_n (pc := 0) 0 rfl (daX11_steeper_0 0 rfl) rfl ?_
  refine GM_iload_n (pc := 1) 1 rfl (daX11_steeper_0 1 rfl) rfl ?_
  refine GM_iload_n (pc := 2) 2 rfl (daX11_steeper_0 2 rfl) rfl ?_
  obtain ⟨hc1, h⟩ := chk_inv h
  obtain ⟨r2, hf2, h⟩ := Option.bind_eq_some_iff.mp h
  refine GM_callV0 (pc := 3) [(0, v1), (0, v2)] (tX11_isPlace l hf2) cwX11_isPlace 11 (Nat.le_of_ble_eq_true rfl) rfl kv_X11_isPlace ke_X11_isPlace km_X11_210 hc1 ⟨Nat.le_of_ble_eq_true rfl, Nat.le_of_ble_eq_true rfl⟩ (Nat.le_of_ble_eq_true rfl) (Nat.le_of_ble_eq_true rfl) (daX11_steeper_0 3 rfl) ?_
  refine GM_if_ne (pc := 6) 12 (daX11_steeper_0 4 rfl) rfl (fun c3 => ?_) (fun c3 => ?_)
  · skip
    rw [if_neg c3] at h
    refine GM_aload_n (pc := 12) 0 rfl (daX11_steeper_0 7 rfl) rfl ?_
    refine GM_iconst (pc := 13) 0 (daX11_steeper_0 8 rfl) rfl (R32_b rfl) ?_
    refine GM_iload_n (pc := 14) 1 rfl (daX11_steeper_0 9 rfl) rfl ?_
    obtain ⟨r4, hf4, h⟩ := Option.bind_eq_some_iff.mp h
    refine GM_callS0 (pc := 15) [(0, 0), (0, v1)] (tX11_placeOf l hf4) cwX11_placeOf ks_X11_placeOf km_X11_204 ⟨Nat.le_of_ble_eq_true rfl, Nat.le_of_ble_eq_true rfl⟩ (Nat.le_of_ble_eq_true rfl) (Nat.le_of_ble_eq_true rfl) (daX11_steeper_0 10 rfl) ?_
    refine GM_iload_n (pc := 18) 2 rfl (daX11_steeper_0 11 rfl) rfl ?_
    obtain ⟨μ5, hf5, h⟩ := Option.bind_eq_some_iff.mp h
    refine GM_callV0 (pc := 19) [(0, r4), (0, v2)] (tX11_surveyAt l hf5) cwX11_surveyAt 11 (Nat.le_of_ble_eq_true rfl) rfl kv_X11_surveyAt ke_X11_surveyAt km_X11_238 hc1 ⟨Nat.le_of_ble_eq_true rfl, Nat.le_of_ble_eq_true rfl⟩ (Nat.le_of_ble_eq_true rfl) (Nat.le_of_ble_eq_true rfl) (daX11_steeper_0 12 rfl) ?_
    refine GM_iload_n (pc := 22) 3 rfl (daX11_steeper_0 13 rfl) rfl ?_
    refine GM_iconst (pc := 23) 0 (daX11_steeper_0 14 rfl) rfl (R32_b rfl) ?_
    refine GM_aload_n (pc := 24) 0 rfl (daX11_steeper_0 15 rfl) rfl ?_
    refine GM_getf (pc := 25) 11 16 3 16 kf_X11_29 (Nat.le_of_ble_eq_true rfl) (Nat.le_of_ble_eq_true rfl) rfl (daX11_steeper_0 16 rfl) hc1 rfl ?_
    refine GM_iload_n (pc := 28) 2 rfl (daX11_steeper_0 17 rfl) rfl ?_
    obtain ⟨hc6, h⟩ := chk_inv h
    refine GM_iald (pc := 29) (daX11_steeper_0 18 rfl) hc6.1 hc6.2.1 hc6.2.2 ?_
    refine GM_iconst (pc := 30) 1 (daX11_steeper_0 19 rfl) rfl (R32_b rfl) ?_
    refine GM_isub (pc := 31) (daX11_steeper_0 20 rfl) ?_
    refine GM_callS0 (pc := 32) [(0, v3), (0, 0), (0, w32 ((μ5 (μ5 v0 16) v2) - 1))] (tX11_isIn l (fX11_isIn_eq v3 0 (w32 ((μ5 (μ5 v0 16) v2) - 1)))) cwX11_isIn ks_X11_isIn km_X11_147 ⟨Nat.le_of_ble_eq_true rfl, Nat.le_of_ble_eq_true rfl⟩ (Nat.le_of_ble_eq_true rfl) (Nat.le_of_ble_eq_true rfl) (daX11_steeper_0 21 rfl) ?_
    refine GM_if_eq (pc := 35) 55 (daX11_steeper_0 22 rfl) rfl (fun c7 => ?_) (fun c7 => ?_)
    · skip
      rw [if_pos c7] at h
      refine GM_bipush (pc := 55) (-2) (daX11_steeper_0 33 rfl) rfl (R32_b rfl) ?_
      cases h
      exact GM_iret (pc := 57) (daX11_steeper_0 34 rfl) rfl hK
    · skip
      rw [if_neg c7] at h
      refine GM_iload (pc := 38) 4 rfl (daX11_steeper_0 23 rfl) ?_
      refine GM_iconst (pc := 40) 0 (daX11_steeper_0 24 rfl) rfl (R32_b rfl) ?_
      refine GM_aload_n (pc := 41) 0 rfl (daX11_steeper_0 25 rfl) rfl ?_
      refine GM_getf (pc := 42) 11 16 3 16 kf_X11_29 (Nat.le_of_ble_eq_true rfl) (Nat.le_of_ble_eq_true rfl) rfl (daX11_steeper_0 26 rfl) hc1 rfl ?_
      refine GM_iload_n (pc := 45) 2 rfl (daX11_steeper_0 27 rfl) rfl ?_
      refine GM_iald (pc := 46) (daX11_steeper_0 28 rfl) hc6.1 hc6.2.1 hc6.2.2 ?_
      refine GM_iconst (pc := 47) 1 (daX11_steeper_0 29 rfl) rfl (R32_b rfl) ?_
      refine GM_isub (pc := 48) (daX11_steeper_0 30 rfl) ?_
      refine GM_callS0 (pc := 49) [(0, v4), (0, 0), (0, w32 ((μ5 (μ5 v0 16) v2) - 1))] (tX11_isIn l (fX11_isIn_eq v4 0 (w32 ((μ5 (μ5 v0 16) v2) - 1)))) cwX11_isIn ks_X11_isIn km_X11_147 ⟨Nat.le_of_ble_eq_true rfl, Nat.le_of_ble_eq_true rfl⟩ (Nat.le_of_ble_eq_true rfl) (Nat.le_of_ble_eq_true rfl) (daX11_steeper_0 31 rfl) ?_
      refine GM_if_ne (pc := 52) 58 (daX11_steeper_0 32 rfl) rfl (fun c8 => ?_) (fun c8 => ?_)
      · skip
        rw [if_neg c8] at h
        refine GM_aload_n (pc := 58) 0 rfl (daX11_steeper_0 35 rfl) rfl ?_
        refine GM_iconst (pc := 59) 0 (daX11_steeper_0 36 rfl) rfl (R32_b rfl) ?_
        refine GM_iload_n (pc := 60) 1 rfl (daX11_steeper_0 37 rfl) rfl ?_
        obtain ⟨r9, hf9, h⟩ := Option.bind_eq_some_iff.mp h
        refine GM_callS0 (pc := 61) [(0, 0), (0, v1)] (tX11_placeOf l hf9) cwX11_placeOf ks_X11_placeOf km_X11_204 ⟨Nat.le_of_ble_eq_true rfl, Nat.le_of_ble_eq_true rfl⟩ (Nat.le_of_ble_eq_true rfl) (Nat.le_of_ble_eq_true rfl) (daX11_steeper_0 38 rfl) ?_
        refine GM_iload_n (pc := 64) 2 rfl (daX11_steeper_0 39 rfl) rfl ?_
        refine GM_aload_n (pc := 65) 0 rfl (daX11_steeper_0 40 rfl) rfl ?_
        refine GM_getf (pc := 66) 11 17 3 17 kf_X11_32 (Nat.le_of_ble_eq_true rfl) (Nat.le_of_ble_eq_true rfl) rfl (daX11_steeper_0 41 rfl) hc1 rfl ?_
        refine GM_bipush (pc := 69) 64 (daX11_steeper_0 42 rfl) rfl (R32_b rfl) ?_
        refine GM_iload_n (pc := 71) 2 rfl (daX11_steeper_0 43 rfl) rfl ?_
        refine GM_imul (pc := 72) (daX11_steeper_0 44 rfl) ?_
        refine GM_iload_n (pc := 73) 3 rfl (daX11_steeper_0 45 rfl) rfl ?_
        refine GM_iadd (pc := 74) (daX11_steeper_0 46 rfl) ?_
        obtain ⟨hc10, h⟩ := chk_inv h
        refine GM_iald (pc := 75) (daX11_steeper_0 47 rfl) hc10.1 hc10.2.1 hc10.2.2 ?_
        refine GM_aload_n (pc := 76) 0 rfl (daX11_steeper_0 48 rfl) rfl ?_
        refine GM_getf (pc := 77) 11 17 3 17 kf_X11_32 (Nat.le_of_ble_eq_true rfl) (Nat.le_of_ble_eq_true rfl) rfl (daX11_steeper_0 49 rfl) hc1 rfl ?_
        refine GM_bipush (pc := 80) 64 (daX11_steeper_0 50 rfl) rfl (R32_b rfl) ?_
        refine GM_iload_n (pc := 82) 2 rfl (daX11_steeper_0 51 rfl) rfl ?_
        refine GM_imul (pc := 83) (daX11_steeper_0 52 rfl) ?_
        refine GM_iload (pc := 84) 4 rfl (daX11_steeper_0 53 rfl) ?_
        refine GM_iadd (pc := 86) (daX11_steeper_0 54 rfl) ?_
        obtain ⟨hc11, h⟩ := chk_inv h
        refine GM_iald (pc := 87) (daX11_steeper_0 55 rfl) hc10.1 hc11.1 hc11.2 ?_
        obtain ⟨r12, hf12, h⟩ := Option.bind_eq_some_iff.mp h
        refine GM_callV0 (pc := 88) [(0, r9), (0, v2), (0, μ5 (μ5 v0 17) (w32 ((w32 (64 * v2)) + v3))), (0, μ5 (μ5 v0 17) (w32 ((w32 (64 * v2)) + v4)))] (tX11_steep l hf12) cwX11_steep 11 (Nat.le_of_ble_eq_true rfl) rfl kv_X11_steep ke_X11_steep km_X11_226 hc1 ⟨Nat.le_of_ble_eq_true rfl, Nat.le_of_ble_eq_true rfl⟩ (Nat.le_of_ble_eq_true rfl) (Nat.le_of_ble_eq_true rfl) (daX11_steeper_0 56 rfl) ?_
        refine GM_lstore (L' := [(5, (2, r12)), (0, (3, v0)), (1, (0, v1)), (2, (0, v2)), (3, (0, v3)), (4, (0, v4))]) (pc := 91) (daX11_steeper_0 57 rfl) (Nat.le_of_ble_eq_true rfl) rfl ?_
        refine GM_lload (pc := 93) 0 rfl (daX11_steeper_0 58 rfl) ?_
        refine GM_lconst (pc := 95) 0 (daX11_steeper_0 59 rfl) rfl (R64_b rfl) ?_
        refine GM_lcmp (pc := 96) (daX11_steeper_0 60 rfl) ?_
        refine GM_if_le (pc := 97) 104 (daX11_steeper_0 61 rfl) rfl (fun c13 => ?_) (fun c13 => ?_)
        · skip
          have c13 := lcmp_le.mp c13
          rw [if_pos c13] at h
          refine GM_lload (pc := 104) 0 rfl (daX11_steeper_1 0 rfl) ?_
          refine GM_lconst (pc := 106) 0 (daX11_steeper_1 1 rfl) rfl (R64_b rfl) ?_
          refine GM_lcmp (pc := 107) (daX11_steeper_1 2 rfl) ?_
          refine GM_if_ge (pc := 108) 115 (daX11_steeper_1 3 rfl) rfl (fun c14 => ?_) (fun c14 => ?_)
          · skip
            have c14 := lcmp_ge.mp c14
            rw [if_pos c14] at h
            refine GM_iconst (pc := 115) 0 (daX11_steeper_1 6 rfl) rfl (R32_b rfl) ?_
            cases h
            exact GM_iret (pc := 116) (daX11_steeper_1 7 rfl) rfl hK
          · skip
            have c14 := (not_congr lcmp_ge).mp c14
            rw [if_neg c14] at h
            refine GM_iconst (pc := 111) (-1) (daX11_steeper_1 4 rfl) rfl (R32_b rfl) ?_
            refine GM_goto (pc := 112) 116 (daX11_steeper_1 5 rfl) rfl ?_
            cases h
            exact GM_iret (pc := 116) (daX11_steeper_1 7 rfl) rfl hK
        · skip
          have c13 := (not_congr lcmp_le).mp c13
          rw [if_neg c13] at h
          refine GM_iconst (pc := 100) 1 (daX11_steeper_0 62 rfl) rfl (R32_b rfl) ?_
          refine GM_goto (pc := 101) 116 (daX11_steeper_0 63 rfl) rfl ?_
          cases h
          exact GM_iret (pc := 116) (daX11_steeper_1 7 rfl) rfl hK
      · skip
        rw [if_pos c8] at h
        refine GM_bipush (pc := 55) (-2) (daX11_steeper_0 33 rfl) rfl (R32_b rfl) ?_
        cases h
        exact GM_iret (pc := 57) (daX11_steeper_0 34 rfl) rfl hK
  · skip
    rw [if_pos c3] at h
    refine GM_bipush (pc := 9) (-2) (daX11_steeper_0 5 rfl) rfl (R32_b rfl) ?_
    cases h
    exact GM_iret (pc := 11) (daX11_steeper_0 6 rfl) rfl hK
theorem tX11_steeper (l : Launch) {v0 v1 v2 v3 v4 : Int} {μ : Mm} {t : (Int × Mm)} (h : fX11_steeper v0 v1 v2 v3 v4 μ = some t) : Ct l yX11_steeper mX11_steeper [(3, v0), (0, v1), (0, v2), (0, v3), (0, v4)] μ ([(0, t.1)], t.2, 0, 0) :=
  Ct_of (by decide +kernel) rfl rfl (Nat.le_of_ble_eq_true rfl) (fun _ _ _ => trivial) (gX11_steeper_0 l h ⟨rfl, rfl⟩)
def mX11_canBe : MI := (RX11, cX11_canBe, 3, (some .boolean), "canBe", 0, 0, fun _ _ _ => True)
theorem cwX11_canBe : CWd yX11_canBe mX11_canBe 2 := ⟨ki_X11, kk_X11_canBe, ⟨by decide, by decide⟩, rfl⟩
def dtX11_canBe_0 : List (Nat × Instr × Nat) := [(0, .aload_n 0, 1), (1, .getfield 29, 3), (4, .iload_n 2, 1), (5, .iaload, 1), (6, .ifCond .le 49, 3), (9, .aload_n 0, 1), (10, .getfield 7, 3), (13, .iload_n 1, 1), (14, .iaload, 1), (15, .aload_n 0, 1), (16, .getfield 29, 3), (19, .iload_n 2, 1), (20, .iaload, 1), (21, .if_icmp .eq 30, 3), (24, .aload_n 0, 1), (25, .getfield 7, 3), (28, .iload_n 1, 1), (29, .iaload, 1), (30, .aload_n 0, 1), (31, .getfield 29, 3), (34, .iload_n 2, 1), (35, .iaload, 1), (36, .if_icmp .ge 19, 3), (39, .aload_n 0, 1), (40, .getfield 7, 3), (43, .iload_n 1, 1), (44, .iconst 3, 1), (45, .iadd, 1), (46, .iaload, 1), (47, .iconst 1, 1), (48, .if_icmp .ne 7, 3), (51, .iconst 1, 1), (52, .goto 4, 3), (55, .iconst 0, 1), (56, .ireturn, 1)]
theorem ddX11_canBe_0 : (dtX11_canBe_0.all fun e => decide (decode mX11_canBe.2.1 e.1 = .ok (e.2.1, e.2.2))) = true := by decide +kernel
theorem daX11_canBe_0 (j : Nat) {pc n : Nat} {i : Instr} (h : dtX11_canBe_0[j]? = some (pc, i, n)) : decode mX11_canBe.2.1 pc = .ok (i, n) := dec_of (c := mX11_canBe.2.1) ddX11_canBe_0 h
def fX11_canBe (v0 v1 v2 : Int) (μ : Mm) : Option Int :=
  chk (KD v0 = 11) (
  chk (KD (μ v0 16) = 12 ∧ 0 ≤ v2 ∧ v2 < LN (μ v0 16)) (
  if μ (μ v0 16) v2 ≤ 0 then
    some 0
  else
    chk (KD (μ v0 0) = 12 ∧ 0 ≤ v1 ∧ v1 < LN (μ v0 0)) (
    if μ (μ v0 0) v1 = μ (μ v0 16) v2 then
      some 1
    else
      if μ (μ v0 16) v2 ≤ μ (μ v0 0) v1 then
        some 0
      else
        chk (0 ≤ w32 (v1 + 3) ∧ w32 (v1 + 3) < LN (μ v0 0)) (
        if μ (μ v0 0) (w32 (v1 + 3)) = 1 then
          some 1
        else
          some 0))))
set_option maxRecDepth 20000 in
theorem gX11_canBe_0 (l : Launch) {F : FI} {v0 v1 v2 : Int} {μ : Mm} {t : Int} (h : fX11_canBe v0 v1 v2 μ = some t) (hK : F.1 = [(0, t)] ∧ F.2.1 = μ) : GM l mX11_canBe F 0 0 0 [(0, (3, v0)), (1, (0, v1)), (2, (0, v2))] [] μ := by
  unfold fX11_canBe at h
  refine GM_aload_n (pc := 0) 0 rfl (daX11_canBe_0 0 rfl) rfl ?_
  obtain ⟨hc1, h⟩ := chk_inv h
  refine GM_getf (pc := 1) 11 16 3 16 kf_X11_29 (Nat.le_of_ble_eq_true rfl) (Nat.le_of_ble_eq_true rfl) rfl (daX11_canBe_0 1 rfl) hc1 rfl ?_
  refine GM_iload_n (pc := 4) 2 rfl (daX11_canBe_0 2 rfl) rfl ?_
  obtain ⟨hc2, h⟩ := chk_inv h
  refine GM_iald (pc := 5) (daX11_canBe_0 3 rfl) hc2.1 hc2.2.1 hc2.2.2 ?_
  refine GM_if_le (pc := 6) 55 (daX11_canBe_0 4 rfl) rfl (fun c3 => ?_) (fun c3 => ?_)
  · skip
    rw [if_pos c3] at h
    refine GM_iconst (pc := 55) 0 (daX11_canBe_0 33 rfl) rfl (R32_b rfl) ?_
    cases h
    exact GM_zret (pc := 56) (daX11_canBe_0 34 rfl) rfl (Or.inl rfl) hK
  · skip
    rw [if_neg c3] at h
    refine GM_aload_n (pc := 9) 0 rfl (daX11_canBe_0 5 rfl) rfl ?_
    refine GM_getf (pc := 10) 11 0 3 0 kf_X11_7 (Nat.le_of_ble_eq_true rfl) (Nat.le_of_ble_eq_true rfl) rfl (daX11_canBe_0 6 rfl) hc1 rfl ?_
    refine GM_iload_n (pc := 13) 1 rfl (daX11_canBe_0 7 rfl) rfl ?_
    obtain ⟨hc4, h⟩ := chk_inv h
    refine GM_iald (pc := 14) (daX11_canBe_0 8 rfl) hc4.1 hc4.2.1 hc4.2.2 ?_
    refine GM_aload_n (pc := 15) 0 rfl (daX11_canBe_0 9 rfl) rfl ?_
    refine GM_getf (pc := 16) 11 16 3 16 kf_X11_29 (Nat.le_of_ble_eq_true rfl) (Nat.le_of_ble_eq_true rfl) rfl (daX11_canBe_0 10 rfl) hc1 rfl ?_
    refine GM_iload_n (pc := 19) 2 rfl (daX11_canBe_0 11 rfl) rfl ?_
    refine GM_iald (pc := 20) (daX11_canBe_0 12 rfl) hc2.1 hc2.2.1 hc2.2.2 ?_
    refine GM_icmp_eq (pc := 21) 51 (daX11_canBe_0 13 rfl) rfl (fun c5 => ?_) (fun c5 => ?_)
    · skip
      rw [if_pos c5] at h
      refine GM_iconst (pc := 51) 1 (daX11_canBe_0 31 rfl) rfl (R32_b rfl) ?_
      refine GM_goto (pc := 52) 56 (daX11_canBe_0 32 rfl) rfl ?_
      cases h
      exact GM_zret (pc := 56) (daX11_canBe_0 34 rfl) rfl (Or.inr rfl) hK
    · skip
      rw [if_neg c5] at h
      refine GM_aload_n (pc := 24) 0 rfl (daX11_canBe_0 14 rfl) rfl ?_
      refine GM_getf (pc := 25) 11 0 3 0 kf_X11_7 (Nat.le_of_ble_eq_true rfl) (Nat.le_of_ble_eq_true rfl) rfl (daX11_canBe_0 15 rfl) hc1 rfl ?_
      refine GM_iload_n (pc := 28) 1 rfl (daX11_canBe_0 16 rfl) rfl ?_
      refine GM_iald (pc := 29) (daX11_canBe_0 17 rfl) hc4.1 hc4.2.1 hc4.2.2 ?_
      refine GM_aload_n (pc := 30) 0 rfl (daX11_canBe_0 18 rfl) rfl ?_
      refine GM_getf (pc := 31) 11 16 3 16 kf_X11_29 (Nat.le_of_ble_eq_true rfl) (Nat.le_of_ble_eq_true rfl) rfl (daX11_canBe_0 19 rfl) hc1 rfl ?_
      refine GM_iload_n (pc := 34) 2 rfl (daX11_canBe_0 20 rfl) rfl ?_
      refine GM_iald (pc := 35) (daX11_canBe_0 21 rfl) hc2.1 hc2.2.1 hc2.2.2 ?_
      refine GM_icmp_ge (pc := 36) 55 (daX11_canBe_0 22 rfl) rfl (fun c6 => ?_) (fun c6 => ?_)
      · skip
        rw [if_pos c6] at h
        refine GM_iconst (pc := 55) 0 (daX11_canBe_0 33 rfl) rfl (R32_b rfl) ?_
        cases h
        exact GM_zret (pc := 56) (daX11_canBe_0 34 rfl) rfl (Or.inl rfl) hK
      · skip
        rw [if_neg c6] at h
        refine GM_aload_n (pc := 39) 0 rfl (daX11_canBe_0 23 rfl) rfl ?_
        refine GM_getf (pc := 40) 11 0 3 0 kf_X11_7 (Nat.le_of_ble_eq_true rfl) (Nat.le_of_ble_eq_true rfl) rfl (daX11_canBe_0 24 rfl) hc1 rfl ?_
        refine GM_iload_n (pc := 43) 1 rfl (daX11_canBe_0 25 rfl) rfl ?_
        refine GM_iconst (pc := 44) 3 (daX11_canBe_0 26 rfl) rfl (R32_b rfl) ?_
        refine GM_iadd (pc := 45) (daX11_canBe_0 27 rfl) ?_
        obtain ⟨hc7, h⟩ := chk_inv h
        refine GM_iald (pc := 46) (daX11_canBe_0 28 rfl) hc4.1 hc7.1 hc7.2 ?_
        refine GM_iconst (pc := 47) 1 (daX11_canBe_0 29 rfl) rfl (R32_b rfl) ?_
        refine GM_icmp_ne (pc := 48) 55 (daX11_canBe_0 30 rfl) rfl (fun c8 => ?_) (fun c8 => ?_)
        · skip
          rw [if_neg c8] at h
          refine GM_iconst (pc := 55) 0 (daX11_canBe_0 33 rfl) rfl (R32_b rfl) ?_
          cases h
          exact GM_zret (pc := 56) (daX11_canBe_0 34 rfl) rfl (Or.inl rfl) hK
        · skip
          rw [if_pos c8] at h
          refine GM_iconst (pc := 51) 1 (daX11_canBe_0 31 rfl) rfl (R32_b rfl) ?_
          refine GM_goto (pc := 52) 56 (daX11_canBe_0 32 rfl) rfl ?_
          cases h
          exact GM_zret (pc := 56) (daX11_canBe_0 34 rfl) rfl (Or.inr rfl) hK
theorem tX11_canBe (l : Launch) {v0 v1 v2 : Int} {μ : Mm} {t : Int} (h : fX11_canBe v0 v1 v2 μ = some t) : Ct l yX11_canBe mX11_canBe [(3, v0), (0, v1), (0, v2)] μ ([(0, t)], μ, 0, 0) :=
  Ct_of (by decide +kernel) rfl rfl (Nat.le_of_ble_eq_true rfl) (fun _ _ _ => trivial) (gX11_canBe_0 l h ⟨rfl, rfl⟩)
def mX11_hillOf : MI := (RX11, cX11_hillOf, 7, (some .int), "hillOf", 0, 0, fun _ _ _ => True)
theorem cwX11_hillOf : CWd yX11_hillOf mX11_hillOf 4 := ⟨ki_X11, kk_X11_hillOf, ⟨by decide, by decide⟩, rfl⟩
def dtX11_hillOf_0 : List (Nat × Instr × Nat) := [(0, .aload_n 0, 1), (1, .getfield 29, 3), (4, .iload_n 2, 1), (5, .iaload, 1), (6, .istore 5, 2), (8, .aload_n 0, 1), (9, .getfield 7, 3), (12, .iload_n 1, 1), (13, .iconst 4, 1), (14, .iadd, 1), (15, .iaload, 1), (16, .iconst 1, 1), (17, .if_icmp .ne 13, 3), (20, .iload_n 3, 1), (21, .iload 4, 2), (23, .isub, 1), (24, .iload 5, 2), (26, .iadd, 1), (27, .goto 7, 3), (30, .iload_n 3, 1), (31, .iload 4, 2), (33, .iadd, 1), (34, .istore 6, 2), (36, .aload_n 0, 1), (37, .getfield 32, 3), (40, .bipush 64, 2), (42, .iload_n 2, 1), (43, .imul, 1), (44, .iload 6, 2), (46, .iload 5, 2), (48, .irem, 1), (49, .iadd, 1), (50, .iaload, 1), (51, .ireturn, 1)]
theorem ddX11_hillOf_0 : (dtX11_hillOf_0.all fun e => decide (decode mX11_hillOf.2.1 e.1 = .ok (e.2.1, e.2.2))) = true := by decide +kernel
theorem daX11_hillOf_0 (j : Nat) {pc n : Nat} {i : Instr} (h : dtX11_hillOf_0[j]? = some (pc, i, n)) : decode mX11_hillOf.2.1 pc = .ok (i, n) := dec_of (c := mX11_hillOf.2.1) ddX11_hillOf_0 h
def jX11_hillOf_34 (v0 v2 v5 s0 : Int) (μ : Mm) : Option Int :=
  chk (KD v0 = 11) (
  chk (v5 ≠ 0) (
  chk (KD (μ v0 17) = 12 ∧ 0 ≤ w32 ((w32 (64 * v2)) + (s0.tmod v5)) ∧ w32 ((w32 (64 * v2)) + (s0.tmod v5)) < LN (μ v0 17)) (
  some (μ (μ v0 17) (w32 ((w32 (64 * v2)) + (s0.tmod v5)))))))
def fX11_hillOf (v0 v1 v2 v3 v4 : Int) (μ : Mm) : Option Int :=
  chk (KD v0 = 11) (
  chk (KD (μ v0 16) = 12 ∧ 0 ≤ v2 ∧ v2 < LN (μ v0 16)) (
  chk (KD (μ v0 0) = 12 ∧ 0 ≤ w32 (v1 + 4) ∧ w32 (v1 + 4) < LN (μ v0 0)) (
  if μ (μ v0 0) (w32 (v1 + 4)) = 1 then
    jX11_hillOf_34 v0 v2 (μ (μ v0 16) v2) (w32 ((w32 (v3 - v4)) + (μ (μ v0 16) v2))) μ
  else
    jX11_hillOf_34 v0 v2 (μ (μ v0 16) v2) (w32 (v3 + v4)) μ)))
set_option maxRecDepth 20000 in
theorem gX11_hillOf_34 (l : Launch) {F : FI} {v0 v2 v5 s0 : Int} {μ : Mm} {t : Int} (h : jX11_hillOf_34 v0 v2 v5 s0 μ = some t) (hK : F.1 = [(0, t)] ∧ F.2.1 = μ) : GM l mX11_hillOf F 0 0 34 [(0, (3, v0)), (2, (0, v2)), (5, (0, v5))] [(0, s0)] μ := by
  unfold jX11_hillOf_34 at h
  refine GM_istore (L' := [(6, (0, s0)), (0, (3, v0)), (2, (0, v2)), (5, (0, v5))]) (pc := 34) (daX11_hillOf_0 22 rfl) (Nat.le_of_ble_eq_true rfl) rfl ?_
  refine GM_aload_n (pc := 36) 1 rfl (daX11_hillOf_0 23 rfl) rfl ?_
  obtain ⟨hc1, h⟩ := chk_inv h
  refine GM_getf (pc := 37) 11 17 3 17 kf_X11_32 (Nat.le_of_ble_eq_true rfl) (Nat.le_of_ble_eq_true rfl) rfl (daX11_hillOf_0 24 rfl) hc1 rfl ?_
  refine GM_bipush (pc := 40) 64 (daX11_hillOf_0 25 rfl) rfl (R32_b rfl) ?_
  refine GM_iload_n (pc := 42) 2 rfl (daX11_hillOf_0 26 rfl) rfl ?_
  refine GM_imul (pc := 43) (daX11_hillOf_0 27 rfl) ?_
  refine GM_iload (pc := 44) 0 rfl (daX11_hillOf_0 28 rfl) ?_
  refine GM_iload (pc := 46) 3 rfl (daX11_hillOf_0 29 rfl) ?_
  obtain ⟨hc2, h⟩ := chk_inv h
  refine GM_irem (pc := 48) (daX11_hillOf_0 30 rfl) hc2 ?_
  refine GM_iadd (pc := 49) (daX11_hillOf_0 31 rfl) ?_
  obtain ⟨hc3, h⟩ := chk_inv h
  refine GM_iald (pc := 50) (daX11_hillOf_0 32 rfl) hc3.1 hc3.2.1 hc3.2.2 ?_
  cases h
  exact GM_iret (pc := 51) (daX11_hillOf_0 33 rfl) rfl hK
set_option maxRecDepth 20000 in
theorem gX11_hillOf_0 (l : Launch) {F : FI} {v0 v1 v2 v3 v4 : Int} {μ : Mm} {t : Int} (h : fX11_hillOf v0 v1 v2 v3 v4 μ = some t) (hK : F.1 = [(0, t)] ∧ F.2.1 = μ) : GM l mX11_hillOf F 0 0 0 [(0, (3, v0)), (1, (0, v1)), (2, (0, v2)), (3, (0, v3)), (4, (0, v4))] [] μ := by
  unfold fX11_hillOf at h
  refine GM_aload_n (pc := 0) 0 rfl (daX11_hillOf_0 0 rfl) rfl ?_
  obtain ⟨hc4, h⟩ := chk_inv h
  refine GM_getf (pc := 1) 11 16 3 16 kf_X11_29 (Nat.le_of_ble_eq_true rfl) (Nat.le_of_ble_eq_true rfl) rfl (daX11_hillOf_0 1 rfl) hc4 rfl ?_
  refine GM_iload_n (pc := 4) 2 rfl (daX11_hillOf_0 2 rfl) rfl ?_
  obtain ⟨hc5, h⟩ := chk_inv h
  refine GM_iald (pc := 5) (daX11_hillOf_0 3 rfl) hc5.1 hc5.2.1 hc5.2.2 ?_
  refine GM_istore (L' := [(5, (0, μ (μ v0 16) v2)), (0, (3, v0)), (1, (0, v1)), (2, (0, v2)), (3, (0, v3)), (4, (0, v4))]) (pc := 6) (daX11_hillOf_0 4 rfl) (Nat.le_of_ble_eq_true rfl) rfl ?_
  refine GM_aload_n (pc := 8) 1 rfl (daX11_hillOf_0 5 rfl) rfl ?_
  refine GM_getf (pc := 9) 11 0 3 0 kf_X11_7 (Nat.le_of_ble_eq_true rfl) (Nat.le_of_ble_eq_true rfl) rfl (daX11_hillOf_0 6 rfl) hc4 rfl ?_
  refine GM_iload_n (pc := 12) 2 rfl (daX11_hillOf_0 7 rfl) rfl ?_
  refine GM_iconst (pc := 13) 4 (daX11_hillOf_0 8 rfl) rfl (R32_b rfl) ?_
  refine GM_iadd (pc := 14) (daX11_hillOf_0 9 rfl) ?_
  obtain ⟨hc6, h⟩ := chk_inv h
  refine GM_iald (pc := 15) (daX11_hillOf_0 10 rfl) hc6.1 hc6.2.1 hc6.2.2 ?_
  refine GM_iconst (pc := 16) 1 (daX11_hillOf_0 11 rfl) rfl (R32_b rfl) ?_
  refine GM_icmp_ne (pc := 17) 30 (daX11_hillOf_0 12 rfl) rfl (fun c7 => ?_) (fun c7 => ?_)
  · skip
    rw [if_neg c7] at h
    refine GM_iload_n (pc := 30) 4 rfl (daX11_hillOf_0 19 rfl) rfl ?_
    refine GM_iload (pc := 31) 5 rfl (daX11_hillOf_0 20 rfl) ?_
    refine GM_iadd (pc := 33) (daX11_hillOf_0 21 rfl) ?_
    refine GM_pick [1, 3, 0] rfl ?_
    exact gX11_hillOf_34 l h hK
  · skip
    rw [if_pos c7] at h
    refine GM_iload_n (pc := 20) 4 rfl (daX11_hillOf_0 13 rfl) rfl ?_
    refine GM_iload (pc := 21) 5 rfl (daX11_hillOf_0 14 rfl) ?_
    refine GM_isub (pc := 23) (daX11_hillOf_0 15 rfl) ?_
    refine GM_iload (pc := 24) 0 rfl (daX11_hillOf_0 16 rfl) ?_
    refine GM_iadd (pc := 26) (daX11_hillOf_0 17 rfl) ?_
    refine GM_goto (pc := 27) 34 (daX11_hillOf_0 18 rfl) rfl ?_
    refine GM_pick [1, 3, 0] rfl ?_
    exact gX11_hillOf_34 l h hK
theorem tX11_hillOf (l : Launch) {v0 v1 v2 v3 v4 : Int} {μ : Mm} {t : Int} (h : fX11_hillOf v0 v1 v2 v3 v4 μ = some t) : Ct l yX11_hillOf mX11_hillOf [(3, v0), (0, v1), (0, v2), (0, v3), (0, v4)] μ ([(0, t)], μ, 0, 0) :=
  Ct_of (by decide +kernel) rfl rfl (Nat.le_of_ble_eq_true rfl) (fun _ _ _ => trivial) (gX11_hillOf_0 l h ⟨rfl, rfl⟩)
def mX11_areRight : MI := (RX11, cX11_areRight, 21, (some .boolean), "areRight", 4, 99, fun _ _ _ => True)
theorem cwX11_areRight : CWd yX11_areRight mX11_areRight 6 := ⟨ki_X11, kk_X11_areRight, ⟨by decide, by decide⟩, rfl⟩
def dtX11_areRight_0 : List (Nat × Instr × Nat) := [(0, .aload_n 0, 1), (1, .iload_n 2, 1), (2, .iload_n 3, 1), (3, .iload 4, 2), (5, .iload 6, 2), (7, .invokevirtual 247, 3), (10, .istore 7, 2), (12, .aload_n 0, 1), (13, .iload_n 2, 1), (14, .iload_n 3, 1), (15, .iload 4, 2), (17, .iload 5, 2), (19, .invokevirtual 247, 3), (22, .istore 8, 2), (24, .aload_n 0, 1), (25, .getfield 7, 3), (28, .iload_n 2, 1), (29, .bipush 7, 2), (31, .iadd, 1), (32, .iload 6, 2), (34, .iadd, 1), (35, .iaload, 1), (36, .istore 9, 2), (38, .aload_n 0, 1), (39, .getfield 7, 3), (42, .iload_n 2, 1), (43, .bipush 7, 2), (45, .iadd, 1), (46, .iload 5, 2), (48, .iadd, 1), (49, .iaload, 1), (50, .istore 10, 2), (52, .aload_n 0, 1), (53, .getfield 7, 3), (56, .iload_n 2, 1), (57, .iconst 2, 1), (58, .iadd, 1), (59, .iaload, 1), (60, .ifCond .ne 77, 3), (63, .iload 9, 2), (65, .iload 10, 2), (67, .isub, 1), (68, .aload_n 0, 1), (69, .getfield 7, 3), (72, .iload_n 2, 1), (73, .iconst 1, 1), (74, .iadd, 1), (75, .iaload, 1), (76, .if_icmp .le 24, 3), (79, .aload_n 0, 1), (80, .iload_n 1, 1), (81, .iload_n 3, 1), (82, .iload 7, 2), (84, .iload 8, 2), (86, .invokevirtual 226, 3), (89, .lconst 0, 1), (90, .lcmp, 1), (91, .ifCond .le 7, 3), (94, .iconst 1, 1), (95, .goto 4, 3), (98, .iconst 0, 1), (99, .ireturn, 1), (100, .iload 10, 2), (102, .iload 9, 2)]
theorem ddX11_areRight_0 : (dtX11_areRight_0.all fun e => decide (decode mX11_areRight.2.1 e.1 = .ok (e.2.1, e.2.2))) = true := by decide +kernel
theorem daX11_areRight_0 (j : Nat) {pc n : Nat} {i : Instr} (h : dtX11_areRight_0[j]? = some (pc, i, n)) : decode mX11_areRight.2.1 pc = .ok (i, n) := dec_of (c := mX11_areRight.2.1) ddX11_areRight_0 h
def dtX11_areRight_1 : List (Nat × Instr × Nat) := [(104, .isub, 1), (105, .aload_n 0, 1), (106, .getfield 7, 3), (109, .iload_n 2, 1), (110, .iconst 1, 1), (111, .iadd, 1), (112, .iaload, 1), (113, .if_icmp .le 18, 3), (116, .aload_n 0, 1), (117, .iload_n 1, 1), (118, .iload_n 3, 1), (119, .iload 7, 2), (121, .iload 8, 2), (123, .invokevirtual 226, 3), (126, .lconst 0, 1), (127, .lcmp, 1), (128, .ifCond .ge 7, 3), (131, .iconst 1, 1), (132, .goto 4, 3), (135, .iconst 0, 1), (136, .ireturn, 1), (137, .aload_n 0, 1), (138, .iload_n 1, 1), (139, .iload_n 3, 1), (140, .iload 7, 2), (142, .invokevirtual 223, 3), (145, .i2l, 1), (146, .lstore 11, 2), (148, .aload_n 0, 1), (149, .iload_n 1, 1), (150, .iload_n 3, 1), (151, .iload 8, 2), (153, .invokevirtual 223, 3), (156, .i2l, 1), (157, .lstore 13, 2), (159, .lload 11, 2), (161, .lconst 0, 1), (162, .lcmp, 1), (163, .ifCond .le 10, 3), (166, .lload 13, 2), (168, .lconst 0, 1), (169, .lcmp, 1), (170, .ifCond .gt 5, 3), (173, .iconst 0, 1), (174, .ireturn, 1), (175, .iload 9, 2), (177, .iload 9, 2), (179, .imul, 1), (180, .i2l, 1), (181, .lload 13, 2), (183, .lmul, 1), (184, .lload 13, 2), (186, .lmul, 1), (187, .aload_n 0, 1), (188, .iload_n 1, 1), (189, .iload_n 3, 1), (190, .iload 7, 2), (192, .invokevirtual 220, 3), (195, .i2l, 1), (196, .lmul, 1), (197, .lstore 15, 2), (199, .iload 10, 2), (201, .iload 10, 2), (203, .imul, 1)]
theorem ddX11_areRight_1 : (dtX11_areRight_1.all fun e => decide (decode mX11_areRight.2.1 e.1 = .ok (e.2.1, e.2.2))) = true := by decide +kernel
theorem daX11_areRight_1 (j : Nat) {pc n : Nat} {i : Instr} (h : dtX11_areRight_1[j]? = some (pc, i, n)) : decode mX11_areRight.2.1 pc = .ok (i, n) := dec_of (c := mX11_areRight.2.1) ddX11_areRight_1 h
def dtX11_areRight_2 : List (Nat × Instr × Nat) := [(204, .i2l, 1), (205, .lload 11, 2), (207, .lmul, 1), (208, .lload 11, 2), (210, .lmul, 1), (211, .aload_n 0, 1), (212, .iload_n 1, 1), (213, .iload_n 3, 1), (214, .iload 8, 2), (216, .invokevirtual 220, 3), (219, .i2l, 1), (220, .lmul, 1), (221, .lstore 17, 2), (223, .lload 15, 2), (225, .lload 17, 2), (227, .lcmp, 1), (228, .ifCond .ge 11, 3), (231, .lload 17, 2), (233, .lload 15, 2), (235, .lsub, 1), (236, .goto 8, 3), (239, .lload 15, 2), (241, .lload 17, 2), (243, .lsub, 1), (244, .lstore 19, 2), (246, .lload 19, 2), (248, .ldc2_w 251, 3), (251, .lmul, 1), (252, .aload_n 0, 1), (253, .getfield 7, 3), (256, .iload_n 2, 1), (257, .iconst 1, 1), (258, .iadd, 1), (259, .iaload, 1), (260, .i2l, 1), (261, .lload 17, 2), (263, .lmul, 1), (264, .lcmp, 1), (265, .ifCond .gt 7, 3), (268, .iconst 1, 1), (269, .goto 4, 3), (272, .iconst 0, 1), (273, .ireturn, 1)]
theorem ddX11_areRight_2 : (dtX11_areRight_2.all fun e => decide (decode mX11_areRight.2.1 e.1 = .ok (e.2.1, e.2.2))) = true := by decide +kernel
theorem daX11_areRight_2 (j : Nat) {pc n : Nat} {i : Instr} (h : dtX11_areRight_2[j]? = some (pc, i, n)) : decode mX11_areRight.2.1 pc = .ok (i, n) := dec_of (c := mX11_areRight.2.1) ddX11_areRight_2 h
def jX11_areRight_244 (v0 v2 v17 s0 : Int) (μ : Mm) : Option Int :=
  chk (KD v0 = 11) (
  chk (KD (μ v0 0) = 12 ∧ 0 ≤ w32 (v2 + 1) ∧ w32 (v2 + 1) < LN (μ v0 0)) (
  if w64 ((μ (μ v0 0) (w32 (v2 + 1))) * v17) < w64 (s0 * 100) then
    some 0
  else
    some 1))
def fX11_areRight (v0 v1 v2 v3 v4 v5 v6 : Int) (μ : Mm) : Option Int :=
  chk (KD v0 = 11) (
  (fX11_hillOf v0 v2 v3 v4 v6 μ).bind fun r5 =>
  (fX11_hillOf v0 v2 v3 v4 v5 μ).bind fun r6 =>
  chk (KD (μ v0 0) = 12 ∧ 0 ≤ w32 ((w32 (v2 + 7)) + v6) ∧ w32 ((w32 (v2 + 7)) + v6) < LN (μ v0 0)) (
  lt (μ (μ v0 0) (w32 ((w32 (v2 + 7)) + v6))) fun y8 =>
  chk (0 ≤ w32 ((w32 (v2 + 7)) + v5) ∧ w32 ((w32 (v2 + 7)) + v5) < LN (μ v0 0)) (
  lt (μ (μ v0 0) (w32 ((w32 (v2 + 7)) + v5))) fun y10 =>
  chk (0 ≤ w32 (v2 + 2) ∧ w32 (v2 + 2) < LN (μ v0 0)) (
  if μ (μ v0 0) (w32 (v2 + 2)) = 0 then
    chk (0 ≤ w32 (v2 + 1) ∧ w32 (v2 + 1) < LN (μ v0 0)) (
    if w32 (y8 - y10) ≤ μ (μ v0 0) (w32 (v2 + 1)) then
      if w32 (y10 - y8) ≤ μ (μ v0 0) (w32 (v2 + 1)) then
        some 1
      else
        (fX11_steep v0 v1 v3 r5 r6 μ).bind fun r25 =>
        if 0 ≤ r25 then
          some 0
        else
          some 1
    else
      (fX11_steep v0 v1 v3 r5 r6 μ).bind fun r27 =>
      if r27 ≤ 0 then
        some 0
      else
        some 1)
  else
    (fX11_riseOf v0 v1 v3 r5 μ).bind fun r13 =>
    (fX11_riseOf v0 v1 v3 r6 μ).bind fun r14 =>
    if r13 ≤ 0 then
      some 0
    else
      if 0 < r14 then
        (fX11_farOf v0 v1 v3 r5 μ).bind fun r17 =>
        lt (w64 ((w64 ((w64 ((w32 (y8 * y8)) * r14)) * r14)) * r17)) fun y18 =>
        (fX11_farOf v0 v1 v3 r6 μ).bind fun r19 =>
        lt (w64 ((w64 ((w64 ((w32 (y10 * y10)) * r13)) * r13)) * r19)) fun y20 =>
        if y20 ≤ y18 then
          jX11_areRight_244 v0 v2 y20 (w64 (y18 - y20)) μ
        else
          jX11_areRight_244 v0 v2 y20 (w64 (y20 - y18)) μ
      else
        some 0))))
set_option maxRecDepth 20000 in
theorem gX11_areRight_244 (l : Launch) {F : FI} {v0 v2 v17 s0 : Int} {μ : Mm} {t : Int} (h : jX11_areRight_244 v0 v2 v17 s0 μ = some t) (hK : F.1 = [(0, t)] ∧ F.2.1 = μ) : GM l mX11_areRight F 0 0 244 [(0, (3, v0)), (2, (0, v2)), (17, (2, v17))] [(2, s0)] μ := by
  unfold jX11_areRight_244 at h
  refine GM_lstore (L' := [(19, (2, s0)), (0, (3, v0)), (2, (0, v2)), (17, (2, v17))]) (pc := 244) (daX11_areRight_2 24 rfl) (Nat.le_of_ble_eq_true rfl) rfl ?_
  refine GM_lload (pc := 246) 0 rfl (daX11_areRight_2 25 rfl) ?_
  refine GM_ldc2 (pc := 248) 100 kq_X11_251 (daX11_areRight_2 26 rfl) (R64_b rfl) ?_
  refine GM_lmul (pc := 251) (daX11_areRight_2 27 rfl) ?_
  refine GM_aload_n (pc := 252) 1 rfl (daX11_areRight_2 28 rfl) rfl ?_
  obtain ⟨hc1, h⟩ := chk_inv h
  refine GM_getf (pc := 253) 11 0 3 0 kf_X11_7 (Nat.le_of_ble_eq_true rfl) (Nat.le_of_ble_eq_true rfl) rfl (daX11_areRight_2 29 rfl) hc1 rfl ?_
  refine GM_iload_n (pc := 256) 2 rfl (daX11_areRight_2 30 rfl) rfl ?_
  refine GM_iconst (pc := 257) 1 (daX11_areRight_2 31 rfl) rfl (R32_b rfl) ?_
  refine GM_iadd (pc := 258) (daX11_areRight_2 32 rfl) ?_
  obtain ⟨hc2, h⟩ := chk_inv h
  refine GM_iald (pc := 259) (daX11_areRight_2 33 rfl) hc2.1 hc2.2.1 hc2.2.2 ?_
  refine GM_i2l (pc := 260) (daX11_areRight_2 34 rfl) ?_
  refine GM_lload (pc := 261) 3 rfl (daX11_areRight_2 35 rfl) ?_
  refine GM_lmul (pc := 263) (daX11_areRight_2 36 rfl) ?_
  refine GM_lcmp (pc := 264) (daX11_areRight_2 37 rfl) ?_
  refine GM_if_gt (pc := 265) 272 (daX11_areRight_2 38 rfl) rfl (fun c3 => ?_) (fun c3 => ?_)
  · skip
    have c3 := lcmp_gt.mp c3
    rw [if_pos c3] at h
    refine GM_iconst (pc := 272) 0 (daX11_areRight_2 41 rfl) rfl (R32_b rfl) ?_
    cases h
    exact GM_zret (pc := 273) (daX11_areRight_2 42 rfl) rfl (Or.inl rfl) hK
  · skip
    have c3 := (not_congr lcmp_gt).mp c3
    rw [if_neg c3] at h
    refine GM_iconst (pc := 268) 1 (daX11_areRight_2 39 rfl) rfl (R32_b rfl) ?_
    refine GM_goto (pc := 269) 273 (daX11_areRight_2 40 rfl) rfl ?_
    cases h
    exact GM_zret (pc := 273) (daX11_areRight_2 42 rfl) rfl (Or.inr rfl) hK
set_option maxRecDepth 20000 in
theorem gX11_areRight_0 (l : Launch) {F : FI} {v0 v1 v2 v3 v4 v5 v6 : Int} {μ : Mm} {t : Int} (h : fX11_areRight v0 v1 v2 v3 v4 v5 v6 μ = some t) (hK : F.1 = [(0, t)] ∧ F.2.1 = μ) : GM l mX11_areRight F 0 0 0 [(0, (3, v0)), (1, (0, v1)), (2, (0, v2)), (3, (0, v3)), (4, (0, v4)), (5, (0, v5)), (6, (0, v6))] [] μ := by
  unfold fX11_areRight at h
  refine GM_aload_n (pc := 0) 0 rfl (daX11_areRight_0 0 rfl) rfl ?_
  refine GM_iload_n (pc := 1) 2 rfl (daX11_areRight_0 1 rfl) rfl ?_
  refine GM_iload_n (pc := 2) 3 rfl (daX11_areRight_0 2 rfl) rfl ?_
  refine GM_iload (pc := 3) 4 rfl (daX11_areRight_0 3 rfl) ?_
  refine GM_iload (pc := 5) 6 rfl (daX11_areRight_0 4 rfl) ?_
  obtain ⟨hc4, h⟩ := chk_inv h
  obtain ⟨r5, hf5, h⟩ := Option.bind_eq_some_iff.mp h
  refine GM_callV0 (pc := 7) [(0, v2), (0, v3), (0, v4), (0, v6)] (tX11_hillOf l hf5) cwX11_hillOf 11 (Nat.le_of_ble_eq_true rfl) rfl kv_X11_hillOf ke_X11_hillOf km_X11_247 hc4 ⟨Nat.le_of_ble_eq_true rfl, Nat.le_of_ble_eq_true rfl⟩ (Nat.le_of_ble_eq_true rfl) (Nat.le_of_ble_eq_true rfl) (daX11_areRight_0 5 rfl) ?_
  refine GM_istore (L' := [(7, (0, r5)), (0, (3, v0)), (1, (0, v1)), (2, (0, v2)), (3, (0, v3)), (4, (0, v4)), (5, (0, v5)), (6, (0, v6))]) (pc := 10) (daX11_areRight_0 6 rfl) (Nat.le_of_ble_eq_true rfl) rfl ?_
  refine GM_aload_n (pc := 12) 1 rfl (daX11_areRight_0 7 rfl) rfl ?_
  refine GM_iload_n (pc := 13) 3 rfl (daX11_areRight_0 8 rfl) rfl ?_
  refine GM_iload_n (pc := 14) 4 rfl (daX11_areRight_0 9 rfl) rfl ?_
  refine GM_iload (pc := 15) 5 rfl (daX11_areRight_0 10 rfl) ?_
  refine GM_iload (pc := 17) 6 rfl (daX11_areRight_0 11 rfl) ?_
  obtain ⟨r6, hf6, h⟩ := Option.bind_eq_some_iff.mp h
  refine GM_callV0 (pc := 19) [(0, v2), (0, v3), (0, v4), (0, v5)] (tX11_hillOf l hf6) cwX11_hillOf 11 (Nat.le_of_ble_eq_true rfl) rfl kv_X11_hillOf ke_X11_hillOf km_X11_247 hc4 ⟨Nat.le_of_ble_eq_true rfl, Nat.le_of_ble_eq_true rfl⟩ (Nat.le_of_ble_eq_true rfl) (Nat.le_of_ble_eq_true rfl) (daX11_areRight_0 12 rfl) ?_
  refine GM_istore (L' := [(8, (0, r6)), (7, (0, r5)), (0, (3, v0)), (1, (0, v1)), (2, (0, v2)), (3, (0, v3)), (4, (0, v4)), (5, (0, v5)), (6, (0, v6))]) (pc := 22) (daX11_areRight_0 13 rfl) (Nat.le_of_ble_eq_true rfl) rfl ?_
  refine GM_aload_n (pc := 24) 2 rfl (daX11_areRight_0 14 rfl) rfl ?_
  refine GM_getf (pc := 25) 11 0 3 0 kf_X11_7 (Nat.le_of_ble_eq_true rfl) (Nat.le_of_ble_eq_true rfl) rfl (daX11_areRight_0 15 rfl) hc4 rfl ?_
  refine GM_iload_n (pc := 28) 4 rfl (daX11_areRight_0 16 rfl) rfl ?_
  refine GM_bipush (pc := 29) 7 (daX11_areRight_0 17 rfl) rfl (R32_b rfl) ?_
  refine GM_iadd (pc := 31) (daX11_areRight_0 18 rfl) ?_
  refine GM_iload (pc := 32) 8 rfl (daX11_areRight_0 19 rfl) ?_
  refine GM_iadd (pc := 34) (daX11_areRight_0 20 rfl) ?_
  obtain ⟨hc7, h⟩ := chk_inv h
  refine GM_iald (pc := 35) (daX11_areRight_0 21 rfl) hc7.1 hc7.2.1 hc7.2.2 ?_
  obtain ⟨y8, hy8, h⟩ := lt_inv h
  refine GM_top hy8 ?_
  refine GM_istore (L' := [(9, (0, y8)), (8, (0, r6)), (7, (0, r5)), (0, (3, v0)), (1, (0, v1)), (2, (0, v2)), (3, (0, v3)), (4, (0, v4)), (5, (0, v5)), (6, (0, v6))]) (pc := 36) (daX11_areRight_0 22 rfl) (Nat.le_of_ble_eq_true rfl) rfl ?_
  refine GM_aload_n (pc := 38) 3 rfl (daX11_areRight_0 23 rfl) rfl ?_
  refine GM_getf (pc := 39) 11 0 3 0 kf_X11_7 (Nat.le_of_ble_eq_true rfl) (Nat.le_of_ble_eq_true rfl) rfl (daX11_areRight_0 24 rfl) hc4 rfl ?_
  refine GM_iload_n (pc := 42) 5 rfl (daX11_areRight_0 25 rfl) rfl ?_
  refine GM_bipush (pc := 43) 7 (daX11_areRight_0 26 rfl) rfl (R32_b rfl) ?_
  refine GM_iadd (pc := 45) (daX11_areRight_0 27 rfl) ?_
  refine GM_iload (pc := 46) 8 rfl (daX11_areRight_0 28 rfl) ?_
  refine GM_iadd (pc := 48) (daX11_areRight_0 29 rfl) ?_
  obtain ⟨hc9, h⟩ := chk_inv h
  refine GM_iald (pc := 49) (daX11_areRight_0 30 rfl) hc7.1 hc9.1 hc9.2 ?_
  obtain ⟨y10, hy10, h⟩ := lt_inv h
  refine GM_top hy10 ?_
  refine GM_istore (L' := [(10, (0, y10)), (9, (0, y8)), (8, (0, r6)), (7, (0, r5)), (0, (3, v0)), (1, (0, v1)), (2, (0, v2)), (3, (0, v3)), (4, (0, v4)), (5, (0, v5)), (6, (0, v6))]) (pc := 50) (daX11_areRight_0 31 rfl) (Nat.le_of_ble_eq_true rfl) rfl ?_
  refine GM_aload_n (pc := 52) 4 rfl (daX11_areRight_0 32 rfl) rfl ?_
  refine GM_getf (pc := 53) 11 0 3 0 kf_X11_7 (Nat.le_of_ble_eq_true rfl) (Nat.le_of_ble_eq_true rfl) rfl (daX11_areRight_0 33 rfl) hc4 rfl ?_
  refine GM_iload_n (pc := 56) 6 rfl (daX11_areRight_0 34 rfl) rfl ?_
  refine GM_iconst (pc := 57) 2 (daX11_areRight_0 35 rfl) rfl (R32_b rfl) ?_
  refine GM_iadd (pc := 58) (daX11_areRight_0 36 rfl) ?_
  obtain ⟨hc11, h⟩ := chk_inv h
  refine GM_iald (pc := 59) (daX11_areRight_0 37 rfl) hc7.1 hc11.1 hc11.2 ?_
  refine GM_if_ne (pc := 60) 137 (daX11_areRight_0 38 rfl) rfl (fun c12 => ?_) (fun c12 => ?_)
  · skip
    rw [if_neg c12] at h
    refine GM_aload_n (pc := 137) 4 rfl (daX11_areRight_1 21 rfl) rfl ?_
    refine GM_iload_n (pc := 138) 5 rfl (daX11_areRight_1 22 rfl) rfl ?_
    refine GM_iload_n (pc := 139) 7 rfl (daX11_areRight_1 23 rfl) rfl ?_
    refine GM_iload (pc := 140) 3 rfl (daX11_areRight_1 24 rfl) ?_
    obtain ⟨r13, hf13, h⟩ := Option.bind_eq_some_iff.mp h
    refine GM_callV0 (pc := 142) [(0, v1), (0, v3), (0, r5)] (tX11_riseOf l hf13) cwX11_riseOf 11 (Nat.le_of_ble_eq_true rfl) rfl kv_X11_riseOf ke_X11_riseOf km_X11_223 hc4 ⟨Nat.le_of_ble_eq_true rfl, Nat.le_of_ble_eq_true rfl⟩ (Nat.le_of_ble_eq_true rfl) (Nat.le_of_ble_eq_true rfl) (daX11_areRight_1 25 rfl) ?_
    refine GM_i2l (pc := 145) (daX11_areRight_1 26 rfl) ?_
    refine GM_lstore (L' := [(11, (2, r13)), (10, (0, y10)), (9, (0, y8)), (8, (0, r6)), (7, (0, r5)), (0, (3, v0)), (1, (0, v1)), (2, (0, v2)), (3, (0, v3)), (4, (0, v4)), (5, (0, v5)), (6, (0, v6))]) (pc := 146) (daX11_areRight_1 27 rfl) (Nat.le_of_ble_eq_true rfl) rfl ?_
    refine GM_aload_n (pc := 148) 5 rfl (daX11_areRight_1 28 rfl) rfl ?_
    refine GM_iload_n (pc := 149) 6 rfl (daX11_areRight_1 29 rfl) rfl ?_
    refine GM_iload_n (pc := 150) 8 rfl (daX11_areRight_1 30 rfl) rfl ?_
    refine GM_iload (pc := 151) 3 rfl (daX11_areRight_1 31 rfl) ?_
    obtain ⟨r14, hf14, h⟩ := Option.bind_eq_some_iff.mp h
    refine GM_callV0 (pc := 153) [(0, v1), (0, v3), (0, r6)] (tX11_riseOf l hf14) cwX11_riseOf 11 (Nat.le_of_ble_eq_true rfl) rfl kv_X11_riseOf ke_X11_riseOf km_X11_223 hc4 ⟨Nat.le_of_ble_eq_true rfl, Nat.le_of_ble_eq_true rfl⟩ (Nat.le_of_ble_eq_true rfl) (Nat.le_of_ble_eq_true rfl) (daX11_areRight_1 32 rfl) ?_
    refine GM_i2l (pc := 156) (daX11_areRight_1 33 rfl) ?_
    refine GM_lstore (L' := [(13, (2, r14)), (11, (2, r13)), (10, (0, y10)), (9, (0, y8)), (8, (0, r6)), (7, (0, r5)), (0, (3, v0)), (1, (0, v1)), (2, (0, v2)), (3, (0, v3)), (4, (0, v4)), (5, (0, v5)), (6, (0, v6))]) (pc := 157) (daX11_areRight_1 34 rfl) (Nat.le_of_ble_eq_true rfl) rfl ?_
    refine GM_lload (pc := 159) 1 rfl (daX11_areRight_1 35 rfl) ?_
    refine GM_lconst (pc := 161) 0 (daX11_areRight_1 36 rfl) rfl (R64_b rfl) ?_
    refine GM_lcmp (pc := 162) (daX11_areRight_1 37 rfl) ?_
    refine GM_if_le (pc := 163) 173 (daX11_areRight_1 38 rfl) rfl (fun c15 => ?_) (fun c15 => ?_)
    · skip
      have c15 := lcmp_le.mp c15
      rw [if_pos c15] at h
      refine GM_iconst (pc := 173) 0 (daX11_areRight_1 43 rfl) rfl (R32_b rfl) ?_
      cases h
      exact GM_zret (pc := 174) (daX11_areRight_1 44 rfl) rfl (Or.inl rfl) hK
    · skip
      have c15 := (not_congr lcmp_le).mp c15
      rw [if_neg c15] at h
      refine GM_lload (pc := 166) 0 rfl (daX11_areRight_1 39 rfl) ?_
      refine GM_lconst (pc := 168) 0 (daX11_areRight_1 40 rfl) rfl (R64_b rfl) ?_
      refine GM_lcmp (pc := 169) (daX11_areRight_1 41 rfl) ?_
      refine GM_if_gt (pc := 170) 175 (daX11_areRight_1 42 rfl) rfl (fun c16 => ?_) (fun c16 => ?_)
      · skip
        have c16 := lcmp_gt.mp c16
        rw [if_pos c16] at h
        refine GM_iload (pc := 175) 3 rfl (daX11_areRight_1 45 rfl) ?_
        refine GM_iload (pc := 177) 3 rfl (daX11_areRight_1 46 rfl) ?_
        refine GM_imul (pc := 179) (daX11_areRight_1 47 rfl) ?_
        refine GM_i2l (pc := 180) (daX11_areRight_1 48 rfl) ?_
        refine GM_lload (pc := 181) 0 rfl (daX11_areRight_1 49 rfl) ?_
        refine GM_lmul (pc := 183) (daX11_areRight_1 50 rfl) ?_
        refine GM_lload (pc := 184) 0 rfl (daX11_areRight_1 51 rfl) ?_
        refine GM_lmul (pc := 186) (daX11_areRight_1 52 rfl) ?_
        refine GM_aload_n (pc := 187) 6 rfl (daX11_areRight_1 53 rfl) rfl ?_
        refine GM_iload_n (pc := 188) 7 rfl (daX11_areRight_1 54 rfl) rfl ?_
        refine GM_iload_n (pc := 189) 9 rfl (daX11_areRight_1 55 rfl) rfl ?_
        refine GM_iload (pc := 190) 5 rfl (daX11_areRight_1 56 rfl) ?_
        obtain ⟨r17, hf17, h⟩ := Option.bind_eq_some_iff.mp h
        refine GM_callV0 (pc := 192) [(0, v1), (0, v3), (0, r5)] (tX11_farOf l hf17) cwX11_farOf 11 (Nat.le_of_ble_eq_true rfl) rfl kv_X11_farOf ke_X11_farOf km_X11_220 hc4 ⟨Nat.le_of_ble_eq_true rfl, Nat.le_of_ble_eq_true rfl⟩ (Nat.le_of_ble_eq_true rfl) (Nat.le_of_ble_eq_true rfl) (daX11_areRight_1 57 rfl) ?_
        refine GM_i2l (pc := 195) (daX11_areRight_1 58 rfl) ?_
        refine GM_lmul (pc := 196) (daX11_areRight_1 59 rfl) ?_
        obtain ⟨y18, hy18, h⟩ := lt_inv h
        refine GM_top hy18 ?_
        refine GM_lstore (L' := [(15, (2, y18)), (13, (2, r14)), (11, (2, r13)), (10, (0, y10)), (9, (0, y8)), (8, (0, r6)), (7, (0, r5)), (0, (3, v0)), (1, (0, v1)), (2, (0, v2)), (3, (0, v3)), (4, (0, v4)), (5, (0, v5)), (6, (0, v6))]) (pc := 197) (daX11_areRight_1 60 rfl) (Nat.le_of_ble_eq_true rfl) rfl ?_
        refine GM_iload (pc := 199) 3 rfl (daX11_areRight_1 61 rfl) ?_
        refine GM_iload (pc := 201) 3 rfl (daX11_areRight_1 62 rfl) ?_
        refine GM_imul (pc := 203) (daX11_areRight_1 63 rfl) ?_
        refine GM_i2l (pc := 204) (daX11_areRight_2 0 rfl) ?_
        refine GM_lload (pc := 205) 2 rfl (daX11_areRight_2 1 rfl) ?_
        refine GM_lmul (pc := 207) (daX11_areRight_2 2 rfl) ?_
        refine GM_lload (pc := 208) 2 rfl (daX11_areRight_2 3 rfl) ?_
        refine GM_lmul (pc := 210) (daX11_areRight_2 4 rfl) ?_
        refine GM_aload_n (pc := 211) 7 rfl (daX11_areRight_2 5 rfl) rfl ?_
        refine GM_iload_n (pc := 212) 8 rfl (daX11_areRight_2 6 rfl) rfl ?_
        refine GM_iload_n (pc := 213) 10 rfl (daX11_areRight_2 7 rfl) rfl ?_
        refine GM_iload (pc := 214) 5 rfl (daX11_areRight_2 8 rfl) ?_
        obtain ⟨r19, hf19, h⟩ := Option.bind_eq_some_iff.mp h
        refine GM_callV0 (pc := 216) [(0, v1), (0, v3), (0, r6)] (tX11_farOf l hf19) cwX11_farOf 11 (Nat.le_of_ble_eq_true rfl) rfl kv_X11_farOf ke_X11_farOf km_X11_220 hc4 ⟨Nat.le_of_ble_eq_true rfl, Nat.le_of_ble_eq_true rfl⟩ (Nat.le_of_ble_eq_true rfl) (Nat.le_of_ble_eq_true rfl) (daX11_areRight_2 9 rfl) ?_
        refine GM_i2l (pc := 219) (daX11_areRight_2 10 rfl) ?_
        refine GM_lmul (pc := 220) (daX11_areRight_2 11 rfl) ?_
        obtain ⟨y20, hy20, h⟩ := lt_inv h
        refine GM_top hy20 ?_
        refine GM_lstore (L' := [(17, (2, y20)), (15, (2, y18)), (13, (2, r14)), (11, (2, r13)), (10, (0, y10)), (9, (0, y8)), (8, (0, r6)), (7, (0, r5)), (0, (3, v0)), (1, (0, v1)), (2, (0, v2)), (3, (0, v3)), (4, (0, v4)), (5, (0, v5)), (6, (0, v6))]) (pc := 221) (daX11_areRight_2 12 rfl) (Nat.le_of_ble_eq_true rfl) rfl ?_
        refine GM_lload (pc := 223) 1 rfl (daX11_areRight_2 13 rfl) ?_
        refine GM_lload (pc := 225) 0 rfl (daX11_areRight_2 14 rfl) ?_
        refine GM_lcmp (pc := 227) (daX11_areRight_2 15 rfl) ?_
        refine GM_if_ge (pc := 228) 239 (daX11_areRight_2 16 rfl) rfl (fun c21 => ?_) (fun c21 => ?_)
        · skip
          have c21 := lcmp_ge.mp c21
          rw [if_pos c21] at h
          refine GM_lload (pc := 239) 1 rfl (daX11_areRight_2 21 rfl) ?_
          refine GM_lload (pc := 241) 0 rfl (daX11_areRight_2 22 rfl) ?_
          refine GM_lsub (pc := 243) (daX11_areRight_2 23 rfl) ?_
          refine GM_pick [8, 10, 0] rfl ?_
          exact gX11_areRight_244 l h hK
        · skip
          have c21 := (not_congr lcmp_ge).mp c21
          rw [if_neg c21] at h
          refine GM_lload (pc := 231) 0 rfl (daX11_areRight_2 17 rfl) ?_
          refine GM_lload (pc := 233) 1 rfl (daX11_areRight_2 18 rfl) ?_
          refine GM_lsub (pc := 235) (daX11_areRight_2 19 rfl) ?_
          refine GM_goto (pc := 236) 244 (daX11_areRight_2 20 rfl) rfl ?_
          refine GM_pick [8, 10, 0] rfl ?_
          exact gX11_areRight_244 l h hK
      · skip
        have c16 := (not_congr lcmp_gt).mp c16
        rw [if_neg c16] at h
        refine GM_iconst (pc := 173) 0 (daX11_areRight_1 43 rfl) rfl (R32_b rfl) ?_
        cases h
        exact GM_zret (pc := 174) (daX11_areRight_1 44 rfl) rfl (Or.inl rfl) hK
  · skip
    rw [if_pos c12] at h
    refine GM_iload (pc := 63) 1 rfl (daX11_areRight_0 39 rfl) ?_
    refine GM_iload (pc := 65) 0 rfl (daX11_areRight_0 40 rfl) ?_
    refine GM_isub (pc := 67) (daX11_areRight_0 41 rfl) ?_
    refine GM_aload_n (pc := 68) 4 rfl (daX11_areRight_0 42 rfl) rfl ?_
    refine GM_getf (pc := 69) 11 0 3 0 kf_X11_7 (Nat.le_of_ble_eq_true rfl) (Nat.le_of_ble_eq_true rfl) rfl (daX11_areRight_0 43 rfl) hc4 rfl ?_
    refine GM_iload_n (pc := 72) 6 rfl (daX11_areRight_0 44 rfl) rfl ?_
    refine GM_iconst (pc := 73) 1 (daX11_areRight_0 45 rfl) rfl (R32_b rfl) ?_
    refine GM_iadd (pc := 74) (daX11_areRight_0 46 rfl) ?_
    obtain ⟨hc22, h⟩ := chk_inv h
    refine GM_iald (pc := 75) (daX11_areRight_0 47 rfl) hc7.1 hc22.1 hc22.2 ?_
    refine GM_icmp_le (pc := 76) 100 (daX11_areRight_0 48 rfl) rfl (fun c23 => ?_) (fun c23 => ?_)
    · skip
      rw [if_pos c23] at h
      refine GM_iload (pc := 100) 0 rfl (daX11_areRight_0 62 rfl) ?_
      refine GM_iload (pc := 102) 1 rfl (daX11_areRight_0 63 rfl) ?_
      refine GM_isub (pc := 104) (daX11_areRight_1 0 rfl) ?_
      refine GM_aload_n (pc := 105) 4 rfl (daX11_areRight_1 1 rfl) rfl ?_
      refine GM_getf (pc := 106) 11 0 3 0 kf_X11_7 (Nat.le_of_ble_eq_true rfl) (Nat.le_of_ble_eq_true rfl) rfl (daX11_areRight_1 2 rfl) hc4 rfl ?_
      refine GM_iload_n (pc := 109) 6 rfl (daX11_areRight_1 3 rfl) rfl ?_
      refine GM_iconst (pc := 110) 1 (daX11_areRight_1 4 rfl) rfl (R32_b rfl) ?_
      refine GM_iadd (pc := 111) (daX11_areRight_1 5 rfl) ?_
      refine GM_iald (pc := 112) (daX11_areRight_1 6 rfl) hc7.1 hc22.1 hc22.2 ?_
      refine GM_icmp_le (pc := 113) 131 (daX11_areRight_1 7 rfl) rfl (fun c24 => ?_) (fun c24 => ?_)
      · skip
        rw [if_pos c24] at h
        refine GM_iconst (pc := 131) 1 (daX11_areRight_1 17 rfl) rfl (R32_b rfl) ?_
        refine GM_goto (pc := 132) 136 (daX11_areRight_1 18 rfl) rfl ?_
        cases h
        exact GM_zret (pc := 136) (daX11_areRight_1 20 rfl) rfl (Or.inr rfl) hK
      · skip
        rw [if_neg c24] at h
        refine GM_aload_n (pc := 116) 4 rfl (daX11_areRight_1 8 rfl) rfl ?_
        refine GM_iload_n (pc := 117) 5 rfl (daX11_areRight_1 9 rfl) rfl ?_
        refine GM_iload_n (pc := 118) 7 rfl (daX11_areRight_1 10 rfl) rfl ?_
        refine GM_iload (pc := 119) 3 rfl (daX11_areRight_1 11 rfl) ?_
        refine GM_iload (pc := 121) 2 rfl (daX11_areRight_1 12 rfl) ?_
        obtain ⟨r25, hf25, h⟩ := Option.bind_eq_some_iff.mp h
        refine GM_callV0 (pc := 123) [(0, v1), (0, v3), (0, r5), (0, r6)] (tX11_steep l hf25) cwX11_steep 11 (Nat.le_of_ble_eq_true rfl) rfl kv_X11_steep ke_X11_steep km_X11_226 hc4 ⟨Nat.le_of_ble_eq_true rfl, Nat.le_of_ble_eq_true rfl⟩ (Nat.le_of_ble_eq_true rfl) (Nat.le_of_ble_eq_true rfl) (daX11_areRight_1 13 rfl) ?_
        refine GM_lconst (pc := 126) 0 (daX11_areRight_1 14 rfl) rfl (R64_b rfl) ?_
        refine GM_lcmp (pc := 127) (daX11_areRight_1 15 rfl) ?_
        refine GM_if_ge (pc := 128) 135 (daX11_areRight_1 16 rfl) rfl (fun c26 => ?_) (fun c26 => ?_)
        · skip
          have c26 := lcmp_ge.mp c26
          rw [if_pos c26] at h
          refine GM_iconst (pc := 135) 0 (daX11_areRight_1 19 rfl) rfl (R32_b rfl) ?_
          cases h
          exact GM_zret (pc := 136) (daX11_areRight_1 20 rfl) rfl (Or.inl rfl) hK
        · skip
          have c26 := (not_congr lcmp_ge).mp c26
          rw [if_neg c26] at h
          refine GM_iconst (pc := 131) 1 (daX11_areRight_1 17 rfl) rfl (R32_b rfl) ?_
          refine GM_goto (pc := 132) 136 (daX11_areRight_1 18 rfl) rfl ?_
          cases h
          exact GM_zret (pc := 136) (daX11_areRight_1 20 rfl) rfl (Or.inr rfl) hK
    · skip
      rw [if_neg c23] at h
      refine GM_aload_n (pc := 79) 4 rfl (daX11_areRight_0 49 rfl) rfl ?_
      refine GM_iload_n (pc := 80) 5 rfl (daX11_areRight_0 50 rfl) rfl ?_
      refine GM_iload_n (pc := 81) 7 rfl (daX11_areRight_0 51 rfl) rfl ?_
      refine GM_iload (pc := 82) 3 rfl (daX11_areRight_0 52 rfl) ?_
      refine GM_iload (pc := 84) 2 rfl (daX11_areRight_0 53 rfl) ?_
      obtain ⟨r27, hf27, h⟩ := Option.bind_eq_some_iff.mp h
      refine GM_callV0 (pc := 86) [(0, v1), (0, v3), (0, r5), (0, r6)] (tX11_steep l hf27) cwX11_steep 11 (Nat.le_of_ble_eq_true rfl) rfl kv_X11_steep ke_X11_steep km_X11_226 hc4 ⟨Nat.le_of_ble_eq_true rfl, Nat.le_of_ble_eq_true rfl⟩ (Nat.le_of_ble_eq_true rfl) (Nat.le_of_ble_eq_true rfl) (daX11_areRight_0 54 rfl) ?_
      refine GM_lconst (pc := 89) 0 (daX11_areRight_0 55 rfl) rfl (R64_b rfl) ?_
      refine GM_lcmp (pc := 90) (daX11_areRight_0 56 rfl) ?_
      refine GM_if_le (pc := 91) 98 (daX11_areRight_0 57 rfl) rfl (fun c28 => ?_) (fun c28 => ?_)
      · skip
        have c28 := lcmp_le.mp c28
        rw [if_pos c28] at h
        refine GM_iconst (pc := 98) 0 (daX11_areRight_0 60 rfl) rfl (R32_b rfl) ?_
        cases h
        exact GM_zret (pc := 99) (daX11_areRight_0 61 rfl) rfl (Or.inl rfl) hK
      · skip
        have c28 := (not_congr lcmp_le).mp c28
        rw [if_neg c28] at h
        refine GM_iconst (pc := 94) 1 (daX11_areRight_0 58 rfl) rfl (R32_b rfl) ?_
        refine GM_goto (pc := 95) 99 (daX11_areRight_0 59 rfl) rfl ?_
        cases h
        exact GM_zret (pc := 99) (daX11_areRight_0 61 rfl) rfl (Or.inr rfl) hK
theorem tX11_areRight (l : Launch) {v0 v1 v2 v3 v4 v5 v6 : Int} {μ : Mm} {t : Int} (h : fX11_areRight v0 v1 v2 v3 v4 v5 v6 μ = some t) : Ct l yX11_areRight mX11_areRight [(3, v0), (0, v1), (0, v2), (0, v3), (0, v4), (0, v5), (0, v6)] μ ([(0, t)], μ, 0, 0) :=
  Ct_of (by decide +kernel) rfl rfl (Nat.le_of_ble_eq_true rfl) (fun _ _ _ => trivial) (gX11_areRight_0 l h ⟨rfl, rfl⟩)
def mX11_isTower : MI := (RX11, cX11_isTower, 7, (some .boolean), "isTower", 1, 22, fun _ _ _ => True)
theorem cwX11_isTower : CWd yX11_isTower mX11_isTower 3 := ⟨ki_X11, kk_X11_isTower, ⟨by decide, by decide⟩, rfl⟩
def dtX11_isTower_0 : List (Nat × Instr × Nat) := [(0, .iconst 0, 1), (1, .istore 4, 2), (3, .iconst 0, 1), (4, .istore 5, 2), (6, .iload 5, 2), (8, .aload_n 0, 1), (9, .getfield 7, 3), (12, .iload_n 1, 1), (13, .iconst 5, 1), (14, .iadd, 1), (15, .iaload, 1), (16, .if_icmp .ge 82, 3), (19, .iload_n 1, 1), (20, .sipush 150, 3), (23, .iadd, 1), (24, .iconst 4, 1), (25, .iload 5, 2), (27, .imul, 1), (28, .iadd, 1), (29, .istore 6, 2), (31, .iload 4, 2), (33, .ifCond .ne 52, 3), (36, .aload_n 0, 1), (37, .getfield 7, 3), (40, .iload 6, 2), (42, .iaload, 1), (43, .iconst 1, 1), (44, .if_icmp .ne 45, 3), (47, .aload_n 0, 1), (48, .getfield 7, 3), (51, .iload 6, 2), (53, .iconst 1, 1), (54, .iadd, 1), (55, .iaload, 1), (56, .iload_n 2, 1), (57, .if_icmp .ne 32, 3), (60, .iload_n 3, 1), (61, .aload_n 0, 1), (62, .getfield 7, 3), (65, .iload 6, 2), (67, .iconst 2, 1), (68, .iadd, 1), (69, .iaload, 1), (70, .aload_n 0, 1), (71, .getfield 7, 3), (74, .iload 6, 2), (76, .iconst 3, 1), (77, .iadd, 1), (78, .iaload, 1), (79, .invokestatic 147, 3), (82, .ifCond .eq 7, 3), (85, .iconst 1, 1), (86, .goto 4, 3), (89, .iconst 0, 1), (90, .istore 4, 2), (92, .iinc 5 1, 3), (95, .goto (-89), 3), (98, .iload 4, 2), (100, .ireturn, 1)]
theorem ddX11_isTower_0 : (dtX11_isTower_0.all fun e => decide (decode mX11_isTower.2.1 e.1 = .ok (e.2.1, e.2.2))) = true := by decide +kernel
theorem daX11_isTower_0 (j : Nat) {pc n : Nat} {i : Instr} (h : dtX11_isTower_0[j]? = some (pc, i, n)) : decode mX11_isTower.2.1 pc = .ok (i, n) := dec_of (c := mX11_isTower.2.1) ddX11_isTower_0 h
def zX11_isTower_6 (l : Launch) (F : FI) (v0 v1 v2 v3 : Int) (μ : Mm) (k n : Nat) : (Int × Int) ⊕ Int → Prop
  | .inl (v4, v5) => GM l mX11_isTower F k n 6 [(0, (3, v0)), (1, (0, v1)), (2, (0, v2)), (3, (0, v3)), (4, (0, v4)), (5, (0, v5))] [] μ
  | .inr v4 => GM l mX11_isTower F k n 98 [(4, (0, v4))] [] μ
def sX11_isTower_6 (v0 v1 v2 v3 : Int) (μ : Mm) : (Int × Int) → Option ((Int × Int) ⊕ Int) := fun (v4, v5) =>
  chk (KD v0 = 11) (
  chk (KD (μ v0 0) = 12 ∧ 0 ≤ w32 (v1 + 5) ∧ w32 (v1 + 5) < LN (μ v0 0)) (
  if μ (μ v0 0) (w32 (v1 + 5)) ≤ v5 then
    some (.inr v4)
  else
    lt (w32 ((w32 (v1 + 150)) + (w32 (4 * v5)))) fun y4 =>
    if v4 = 0 then
      chk (0 ≤ y4 ∧ y4 < LN (μ v0 0)) (
      if μ (μ v0 0) y4 = 1 then
        chk (0 ≤ w32 (y4 + 1) ∧ w32 (y4 + 1) < LN (μ v0 0)) (
        if μ (μ v0 0) (w32 (y4 + 1)) = v2 then
          chk (0 ≤ w32 (y4 + 2) ∧ w32 (y4 + 2) < LN (μ v0 0)) (
          chk (0 ≤ w32 (y4 + 3) ∧ w32 (y4 + 3) < LN (μ v0 0)) (
          if isIn v3 (μ (μ v0 0) (w32 (y4 + 2))) (μ (μ v0 0) (w32 (y4 + 3))) = 0 then
            some (.inl (0, w32 (v5 + 1)))
          else
            some (.inl (1, w32 (v5 + 1)))))
        else
          some (.inl (0, w32 (v5 + 1))))
      else
        some (.inl (0, w32 (v5 + 1))))
    else
      some (.inl (1, w32 (v5 + 1)))))
def fX11_isTower (v0 v1 v2 v3 : Int) (μ : Mm) : Option Int :=
  (lop (sX11_isTower_6 v0 v1 v2 v3 μ) FU (0, 0)).bind fun v4_14 =>
    chk ((v4_14 = 0 ∨ v4_14 = 1)) (
    some v4_14)
set_option maxRecDepth 20000 in
theorem qX11_isTower_6 (l : Launch) (F : FI) (v0 v1 v2 v3 : Int) (μ : Mm) (k n : Nat) : ∀ (q : (Int × Int)) (t : ((Int × Int) ⊕ Int)), sX11_isTower_6 v0 v1 v2 v3 μ q = some t → zX11_isTower_6 l F v0 v1 v2 v3 μ k n t → zX11_isTower_6 l F v0 v1 v2 v3 μ k n (.inl q) := by
  intro q t h hK
  obtain ⟨v4, v5⟩ := q
  unfold sX11_isTower_6 at h
  try dsimp only at h
  show GM l mX11_isTower F k n 6 [(0, (3, v0)), (1, (0, v1)), (2, (0, v2)), (3, (0, v3)), (4, (0, v4)), (5, (0, v5))] [] μ
  refine GM_iload (pc := 6) 5 rfl (daX11_isTower_0 4 rfl) ?_
  refine GM_aload_n (pc := 8) 0 rfl (daX11_isTower_0 5 rfl) rfl ?_
  obtain ⟨hc1, h⟩ := chk_inv h
  refine GM_getf (pc := 9) 11 0 3 0 kf_X11_7 (Nat.le_of_ble_eq_true rfl) (Nat.le_of_ble_eq_true rfl) rfl (daX11_isTower_0 6 rfl) hc1 rfl ?_
  refine GM_iload_n (pc := 12) 1 rfl (daX11_isTower_0 7 rfl) rfl ?_
  refine GM_iconst (pc := 13) 5 (daX11_isTower_0 8 rfl) rfl (R32_b rfl) ?_
  refine GM_iadd (pc := 14) (daX11_isTower_0 9 rfl) ?_
  obtain ⟨hc2, h⟩ := chk_inv h
  refine GM_iald (pc := 15) (daX11_isTower_0 10 rfl) hc2.1 hc2.2.1 hc2.2.2 ?_
  refine GM_icmp_ge (pc := 16) 98 (daX11_isTower_0 11 rfl) rfl (fun c3 => ?_) (fun c3 => ?_)
  · skip
    rw [if_pos c3] at h
    refine GM_pick [4] rfl ?_
    cases h
    exact hK
  · skip
    rw [if_neg c3] at h
    refine GM_iload_n (pc := 19) 1 rfl (daX11_isTower_0 12 rfl) rfl ?_
    refine GM_sipush (pc := 20) 150 (daX11_isTower_0 13 rfl) rfl (R32_b rfl) ?_
    refine GM_iadd (pc := 23) (daX11_isTower_0 14 rfl) ?_
    refine GM_iconst (pc := 24) 4 (daX11_isTower_0 15 rfl) rfl (R32_b rfl) ?_
    refine GM_iload (pc := 25) 5 rfl (daX11_isTower_0 16 rfl) ?_
    refine GM_imul (pc := 27) (daX11_isTower_0 17 rfl) ?_
    refine GM_iadd (pc := 28) (daX11_isTower_0 18 rfl) ?_
    obtain ⟨y4, hy4, h⟩ := lt_inv h
    refine GM_top hy4 ?_
    refine GM_istore (L' := [(6, (0, y4)), (0, (3, v0)), (1, (0, v1)), (2, (0, v2)), (3, (0, v3)), (4, (0, v4)), (5, (0, v5))]) (pc := 29) (daX11_isTower_0 19 rfl) (Nat.le_of_ble_eq_true rfl) rfl ?_
    refine GM_iload (pc := 31) 5 rfl (daX11_isTower_0 20 rfl) ?_
    refine GM_if_ne (pc := 33) 85 (daX11_isTower_0 21 rfl) rfl (fun c5 => ?_) (fun c5 => ?_)
    · skip
      rw [if_neg c5] at h
      refine GM_iconst (pc := 85) 1 (daX11_isTower_0 51 rfl) rfl (R32_b rfl) ?_
      refine GM_goto (pc := 86) 90 (daX11_isTower_0 52 rfl) rfl ?_
      refine GM_istore (L' := [(4, (0, 1)), (6, (0, y4)), (0, (3, v0)), (1, (0, v1)), (2, (0, v2)), (3, (0, v3)), (5, (0, v5))]) (pc := 90) (daX11_isTower_0 54 rfl) (Nat.le_of_ble_eq_true rfl) rfl ?_
      refine GM_iinc (L' := [(5, (0, w32 (v5 + 1))), (4, (0, 1)), (6, (0, y4)), (0, (3, v0)), (1, (0, v1)), (2, (0, v2)), (3, (0, v3))]) (pc := 92) 6 rfl (daX11_isTower_0 55 rfl) (Nat.le_of_ble_eq_true rfl) rfl ?_
      refine GM_goto (pc := 95) 6 (daX11_isTower_0 56 rfl) rfl ?_
      refine GM_pick [3, 4, 5, 6, 1, 0] rfl ?_
      cases h
      exact hK
    · skip
      rw [if_pos c5] at h
      refine GM_aload_n (pc := 36) 1 rfl (daX11_isTower_0 22 rfl) rfl ?_
      refine GM_getf (pc := 37) 11 0 3 0 kf_X11_7 (Nat.le_of_ble_eq_true rfl) (Nat.le_of_ble_eq_true rfl) rfl (daX11_isTower_0 23 rfl) hc1 rfl ?_
      refine GM_iload (pc := 40) 0 rfl (daX11_isTower_0 24 rfl) ?_
      obtain ⟨hc6, h⟩ := chk_inv h
      refine GM_iald (pc := 42) (daX11_isTower_0 25 rfl) hc2.1 hc6.1 hc6.2 ?_
      refine GM_iconst (pc := 43) 1 (daX11_isTower_0 26 rfl) rfl (R32_b rfl) ?_
      refine GM_icmp_ne (pc := 44) 89 (daX11_isTower_0 27 rfl) rfl (fun c7 => ?_) (fun c7 => ?_)
      · skip
        rw [if_neg c7] at h
        refine GM_iconst (pc := 89) 0 (daX11_isTower_0 53 rfl) rfl (R32_b rfl) ?_
        refine GM_istore (L' := [(4, (0, 0)), (6, (0, y4)), (0, (3, v0)), (1, (0, v1)), (2, (0, v2)), (3, (0, v3)), (5, (0, v5))]) (pc := 90) (daX11_isTower_0 54 rfl) (Nat.le_of_ble_eq_true rfl) rfl ?_
        refine GM_iinc (L' := [(5, (0, w32 (v5 + 1))), (4, (0, 0)), (6, (0, y4)), (0, (3, v0)), (1, (0, v1)), (2, (0, v2)), (3, (0, v3))]) (pc := 92) 6 rfl (daX11_isTower_0 55 rfl) (Nat.le_of_ble_eq_true rfl) rfl ?_
        refine GM_goto (pc := 95) 6 (daX11_isTower_0 56 rfl) rfl ?_
        refine GM_pick [3, 4, 5, 6, 1, 0] rfl ?_
        cases h
        exact hK
      · skip
        rw [if_pos c7] at h
        refine GM_aload_n (pc := 47) 1 rfl (daX11_isTower_0 28 rfl) rfl ?_
        refine GM_getf (pc := 48) 11 0 3 0 kf_X11_7 (Nat.le_of_ble_eq_true rfl) (Nat.le_of_ble_eq_true rfl) rfl (daX11_isTower_0 29 rfl) hc1 rfl ?_
        refine GM_iload (pc := 51) 0 rfl (daX11_isTower_0 30 rfl) ?_
        refine GM_iconst (pc := 53) 1 (daX11_isTower_0 31 rfl) rfl (R32_b rfl) ?_
        refine GM_iadd (pc := 54) (daX11_isTower_0 32 rfl) ?_
        obtain ⟨hc8, h⟩ := chk_inv h
        refine GM_iald (pc := 55) (daX11_isTower_0 33 rfl) hc2.1 hc8.1 hc8.2 ?_
        refine GM_iload_n (pc := 56) 3 rfl (daX11_isTower_0 34 rfl) rfl ?_
        refine GM_icmp_ne (pc := 57) 89 (daX11_isTower_0 35 rfl) rfl (fun c9 => ?_) (fun c9 => ?_)
        · skip
          rw [if_neg c9] at h
          refine GM_iconst (pc := 89) 0 (daX11_isTower_0 53 rfl) rfl (R32_b rfl) ?_
          refine GM_istore (L' := [(4, (0, 0)), (6, (0, y4)), (0, (3, v0)), (1, (0, v1)), (2, (0, v2)), (3, (0, v3)), (5, (0, v5))]) (pc := 90) (daX11_isTower_0 54 rfl) (Nat.le_of_ble_eq_true rfl) rfl ?_
          refine GM_iinc (L' := [(5, (0, w32 (v5 + 1))), (4, (0, 0)), (6, (0, y4)), (0, (3, v0)), (1, (0, v1)), (2, (0, v2)), (3, (0, v3))]) (pc := 92) 6 rfl (daX11_isTower_0 55 rfl) (Nat.le_of_ble_eq_true rfl) rfl ?_
          refine GM_goto (pc := 95) 6 (daX11_isTower_0 56 rfl) rfl ?_
          refine GM_pick [3, 4, 5, 6, 1, 0] rfl ?_
          cases h
          exact hK
        · skip
          rw [if_pos c9] at h
          refine GM_iload_n (pc := 60) 4 rfl (daX11_isTower_0 36 rfl) rfl ?_
          refine GM_aload_n (pc := 61) 1 rfl (daX11_isTower_0 37 rfl) rfl ?_
          refine GM_getf (pc := 62) 11 0 3 0 kf_X11_7 (Nat.le_of_ble_eq_true rfl) (Nat.le_of_ble_eq_true rfl) rfl (daX11_isTower_0 38 rfl) hc1 rfl ?_
          refine GM_iload (pc := 65) 0 rfl (daX11_isTower_0 39 rfl) ?_
          refine GM_iconst (pc := 67) 2 (daX11_isTower_0 40 rfl) rfl (R32_b rfl) ?_
          refine GM_iadd (pc := 68) (daX11_isTower_0 41 rfl) ?_
          obtain ⟨hc10, h⟩ := chk_inv h
          refine GM_iald (pc := 69) (daX11_isTower_0 42 rfl) hc2.1 hc10.1 hc10.2 ?_
          refine GM_aload_n (pc := 70) 1 rfl (daX11_isTower_0 43 rfl) rfl ?_
          refine GM_getf (pc := 71) 11 0 3 0 kf_X11_7 (Nat.le_of_ble_eq_true rfl) (Nat.le_of_ble_eq_true rfl) rfl (daX11_isTower_0 44 rfl) hc1 rfl ?_
          refine GM_iload (pc := 74) 0 rfl (daX11_isTower_0 45 rfl) ?_
          refine GM_iconst (pc := 76) 3 (daX11_isTower_0 46 rfl) rfl (R32_b rfl) ?_
          refine GM_iadd (pc := 77) (daX11_isTower_0 47 rfl) ?_
          obtain ⟨hc11, h⟩ := chk_inv h
          refine GM_iald (pc := 78) (daX11_isTower_0 48 rfl) hc2.1 hc11.1 hc11.2 ?_
          refine GM_callS0 (pc := 79) [(0, v3), (0, μ (μ v0 0) (w32 (y4 + 2))), (0, μ (μ v0 0) (w32 (y4 + 3)))] (tX11_isIn l (fX11_isIn_eq v3 (μ (μ v0 0) (w32 (y4 + 2))) (μ (μ v0 0) (w32 (y4 + 3))))) cwX11_isIn ks_X11_isIn km_X11_147 ⟨Nat.le_of_ble_eq_true rfl, Nat.le_of_ble_eq_true rfl⟩ (Nat.le_of_ble_eq_true rfl) (Nat.le_of_ble_eq_true rfl) (daX11_isTower_0 49 rfl) ?_
          refine GM_if_eq (pc := 82) 89 (daX11_isTower_0 50 rfl) rfl (fun c12 => ?_) (fun c12 => ?_)
          · skip
            rw [if_pos c12] at h
            refine GM_iconst (pc := 89) 0 (daX11_isTower_0 53 rfl) rfl (R32_b rfl) ?_
            refine GM_istore (L' := [(4, (0, 0)), (6, (0, y4)), (0, (3, v0)), (1, (0, v1)), (2, (0, v2)), (3, (0, v3)), (5, (0, v5))]) (pc := 90) (daX11_isTower_0 54 rfl) (Nat.le_of_ble_eq_true rfl) rfl ?_
            refine GM_iinc (L' := [(5, (0, w32 (v5 + 1))), (4, (0, 0)), (6, (0, y4)), (0, (3, v0)), (1, (0, v1)), (2, (0, v2)), (3, (0, v3))]) (pc := 92) 6 rfl (daX11_isTower_0 55 rfl) (Nat.le_of_ble_eq_true rfl) rfl ?_
            refine GM_goto (pc := 95) 6 (daX11_isTower_0 56 rfl) rfl ?_
            refine GM_pick [3, 4, 5, 6, 1, 0] rfl ?_
            cases h
            exact hK
          · skip
            rw [if_neg c12] at h
            refine GM_iconst (pc := 85) 1 (daX11_isTower_0 51 rfl) rfl (R32_b rfl) ?_
            refine GM_goto (pc := 86) 90 (daX11_isTower_0 52 rfl) rfl ?_
            refine GM_istore (L' := [(4, (0, 1)), (6, (0, y4)), (0, (3, v0)), (1, (0, v1)), (2, (0, v2)), (3, (0, v3)), (5, (0, v5))]) (pc := 90) (daX11_isTower_0 54 rfl) (Nat.le_of_ble_eq_true rfl) rfl ?_
            refine GM_iinc (L' := [(5, (0, w32 (v5 + 1))), (4, (0, 1)), (6, (0, y4)), (0, (3, v0)), (1, (0, v1)), (2, (0, v2)), (3, (0, v3))]) (pc := 92) 6 rfl (daX11_isTower_0 55 rfl) (Nat.le_of_ble_eq_true rfl) rfl ?_
            refine GM_goto (pc := 95) 6 (daX11_isTower_0 56 rfl) rfl ?_
            refine GM_pick [3, 4, 5, 6, 1, 0] rfl ?_
            cases h
            exact hK
set_option maxRecDepth 20000 in
theorem gX11_isTower_0 (l : Launch) {F : FI} {v0 v1 v2 v3 : Int} {μ : Mm} {t : Int} (h : fX11_isTower v0 v1 v2 v3 μ = some t) (hK : F.1 = [(0, t)] ∧ F.2.1 = μ) : GM l mX11_isTower F 0 0 0 [(0, (3, v0)), (1, (0, v1)), (2, (0, v2)), (3, (0, v3))] [] μ := by
  unfold fX11_isTower at h
  refine GM_iconst (pc := 0) 0 (daX11_isTower_0 0 rfl) rfl (R32_b rfl) ?_
  refine GM_istore (L' := [(4, (0, 0)), (0, (3, v0)), (1, (0, v1)), (2, (0, v2)), (3, (0, v3))]) (pc := 1) (daX11_isTower_0 1 rfl) (Nat.le_of_ble_eq_true rfl) rfl ?_
  refine GM_iconst (pc := 3) 0 (daX11_isTower_0 2 rfl) rfl (R32_b rfl) ?_
  refine GM_istore (L' := [(5, (0, 0)), (4, (0, 0)), (0, (3, v0)), (1, (0, v1)), (2, (0, v2)), (3, (0, v3))]) (pc := 4) (daX11_isTower_0 3 rfl) (Nat.le_of_ble_eq_true rfl) rfl ?_
  refine GM_pick [2, 3, 4, 5, 1, 0] rfl ?_
  obtain ⟨x13, hqx13, h⟩ := Option.bind_eq_some_iff.mp h
  refine lop_ind (zX11_isTower_6 l F v0 v1 v2 v3 μ 0 0) (qX11_isTower_6 l F v0 v1 v2 v3 μ 0 0) FU _ x13 hqx13 ?_
  obtain ⟨v4_14, hqq⟩ : ∃ z, z = x13 := ⟨x13, rfl⟩
  subst hqq
  show GM l mX11_isTower F 0 0 98 [(4, (0, v4_14))] [] μ
  refine GM_iload (pc := 98) 0 rfl (daX11_isTower_0 57 rfl) ?_
  obtain ⟨hc15, h⟩ := chk_inv h
  cases h
  exact GM_zret (pc := 100) (daX11_isTower_0 58 rfl) rfl hc15 hK
theorem tX11_isTower (l : Launch) {v0 v1 v2 v3 : Int} {μ : Mm} {t : Int} (h : fX11_isTower v0 v1 v2 v3 μ = some t) : Ct l yX11_isTower mX11_isTower [(3, v0), (0, v1), (0, v2), (0, v3)] μ ([(0, t)], μ, 0, 0) :=
  Ct_of (by decide +kernel) rfl rfl (Nat.le_of_ble_eq_true rfl) (fun _ _ _ => trivial) (gX11_isTower_0 l h ⟨rfl, rfl⟩)
def mX11_isBetween : MI := (RX11, cX11_isBetween, 11, (some .boolean), "isBetween", 1, 25, fun _ _ _ => True)
theorem cwX11_isBetween : CWd yX11_isBetween mX11_isBetween 5 := ⟨ki_X11, kk_X11_isBetween, ⟨by decide, by decide⟩, rfl⟩
def dtX11_isBetween_0 : List (Nat × Instr × Nat) := [(0, .aload_n 0, 1), (1, .iload_n 1, 1), (2, .iload_n 2, 1), (3, .iload 4, 2), (5, .invokevirtual 213, 3), (8, .istore 6, 2), (10, .aload_n 0, 1), (11, .iload_n 1, 1), (12, .iload_n 2, 1), (13, .iload 4, 2), (15, .invokevirtual 217, 3), (18, .istore 7, 2), (20, .aload_n 0, 1), (21, .iload_n 1, 1), (22, .iload_n 2, 1), (23, .iload_n 3, 1), (24, .invokevirtual 213, 3), (27, .aload_n 0, 1), (28, .iload_n 1, 1), (29, .iload_n 2, 1), (30, .iload_n 3, 1), (31, .invokevirtual 217, 3), (34, .iload 6, 2), (36, .iload 7, 2), (38, .invokestatic 81, 3), (41, .istore 8, 2), (43, .iload 6, 2), (45, .iload 7, 2), (47, .aload_n 0, 1), (48, .iload_n 1, 1), (49, .iload_n 2, 1), (50, .iload 5, 2), (52, .invokevirtual 213, 3), (55, .aload_n 0, 1), (56, .iload_n 1, 1), (57, .iload_n 2, 1), (58, .iload 5, 2), (60, .invokevirtual 217, 3), (63, .invokestatic 81, 3), (66, .istore 9, 2), (68, .aload_n 0, 1), (69, .iload_n 1, 1), (70, .iload_n 2, 1), (71, .iload_n 3, 1), (72, .invokevirtual 213, 3), (75, .aload_n 0, 1), (76, .iload_n 1, 1), (77, .iload_n 2, 1), (78, .iload_n 3, 1), (79, .invokevirtual 217, 3), (82, .aload_n 0, 1), (83, .iload_n 1, 1), (84, .iload_n 2, 1), (85, .iload 5, 2), (87, .invokevirtual 213, 3), (90, .aload_n 0, 1), (91, .iload_n 1, 1), (92, .iload_n 2, 1), (93, .iload 5, 2), (95, .invokevirtual 217, 3), (98, .invokestatic 81, 3), (101, .istore 10, 2), (103, .iload 10, 2), (105, .ifCond .eq 21, 3)]
theorem ddX11_isBetween_0 : (dtX11_isBetween_0.all fun e => decide (decode mX11_isBetween.2.1 e.1 = .ok (e.2.1, e.2.2))) = true := by decide +kernel
theorem daX11_isBetween_0 (j : Nat) {pc n : Nat} {i : Instr} (h : dtX11_isBetween_0[j]? = some (pc, i, n)) : decode mX11_isBetween.2.1 pc = .ok (i, n) := dec_of (c := mX11_isBetween.2.1) ddX11_isBetween_0 h
def dtX11_isBetween_1 : List (Nat × Instr × Nat) := [(108, .iload 8, 2), (110, .ifCond .eq 12, 3), (113, .iload 9, 2), (115, .ifCond .eq 7, 3), (118, .iconst 1, 1), (119, .goto 22, 3), (122, .iconst 0, 1), (123, .goto 18, 3), (126, .iload 8, 2), (128, .ifCond .ne 8, 3), (131, .iload 9, 2), (133, .ifCond .eq 7, 3), (136, .iconst 1, 1), (137, .goto 4, 3), (140, .iconst 0, 1), (141, .ireturn, 1)]
theorem ddX11_isBetween_1 : (dtX11_isBetween_1.all fun e => decide (decode mX11_isBetween.2.1 e.1 = .ok (e.2.1, e.2.2))) = true := by decide +kernel
theorem daX11_isBetween_1 (j : Nat) {pc n : Nat} {i : Instr} (h : dtX11_isBetween_1[j]? = some (pc, i, n)) : decode mX11_isBetween.2.1 pc = .ok (i, n) := dec_of (c := mX11_isBetween.2.1) ddX11_isBetween_1 h
def fX11_isBetween (v0 v1 v2 v3 v4 v5 : Int) (μ : Mm) : Option Int :=
  chk (KD v0 = 11) (
  (fX11_eastOf v0 v1 v2 v4 μ).bind fun r2 =>
  (fX11_southOf v0 v1 v2 v4 μ).bind fun r3 =>
  (fX11_eastOf v0 v1 v2 v3 μ).bind fun r4 =>
  (fX11_southOf v0 v1 v2 v3 μ).bind fun r5 =>
  (fX11_isEarlier r4 r5 r2 r3).bind fun r6 =>
  (fX11_eastOf v0 v1 v2 v5 μ).bind fun r7 =>
  (fX11_southOf v0 v1 v2 v5 μ).bind fun r8 =>
  (fX11_isEarlier r2 r3 r7 r8).bind fun r9 =>
  (fX11_eastOf v0 v1 v2 v3 μ).bind fun r10 =>
  (fX11_southOf v0 v1 v2 v3 μ).bind fun r11 =>
  (fX11_eastOf v0 v1 v2 v5 μ).bind fun r12 =>
  (fX11_southOf v0 v1 v2 v5 μ).bind fun r13 =>
  (fX11_isEarlier r10 r11 r12 r13).bind fun r14 =>
  if r14 = 0 then
    if r6 = 0 then
      if r9 = 0 then
        some 0
      else
        some 1
    else
      some 1
  else
    if r6 = 0 then
      some 0
    else
      if r9 = 0 then
        some 0
      else
        some 1)
set_option maxRecDepth 20000 in
theorem gX11_isBetween_0 (l : Launch) {F : FI} {v0 v1 v2 v3 v4 v5 : Int} {μ : Mm} {t : Int} (h : fX11_isBetween v0 v1 v2 v3 v4 v5 μ = some t) (hK : F.1 = [(0, t)] ∧ F.2.1 = μ) : GM l mX11_isBetween F 0 0 0 [(0, (3, v0)), (1, (0, v1)), (2, (0, v2)), (3, (0, v3)), (4, (0, v4)), (5, (0, v5))] [] μ := by
  unfold fX11_isBetween at h
  refine GM_aload_n (pc := 0) 0 rfl (daX11_isBetween_0 0 rfl) rfl ?_
  refine GM_iload_n (pc := 1) 1 rfl (daX11_isBetween_0 1 rfl) rfl ?_
  refine GM_iload_n (pc := 2) 2 rfl (daX11_isBetween_0 2 rfl) rfl ?_
  refine GM_iload (pc := 3) 4 rfl (daX11_isBetween_0 3 rfl) ?_
  obtain ⟨hc1, h⟩ := chk_inv h
  obtain ⟨r2, hf2, h⟩ := Option.bind_eq_some_iff.mp h
  refine GM_callV0 (pc := 5) [(0, v1), (0, v2), (0, v4)] (tX11_eastOf l hf2) cwX11_eastOf 11 (Nat.le_of_ble_eq_true rfl) rfl kv_X11_eastOf ke_X11_eastOf km_X11_213 hc1 ⟨Nat.le_of_ble_eq_true rfl, Nat.le_of_ble_eq_true rfl⟩ (Nat.le_of_ble_eq_true rfl) (Nat.le_of_ble_eq_true rfl) (daX11_isBetween_0 4 rfl) ?_
  refine GM_istore (L' := [(6, (0, r2)), (0, (3, v0)), (1, (0, v1)), (2, (0, v2)), (3, (0, v3)), (4, (0, v4)), (5, (0, v5))]) (pc := 8) (daX11_isBetween_0 5 rfl) (Nat.le_of_ble_eq_true rfl) rfl ?_
  refine GM_aload_n (pc := 10) 1 rfl (daX11_isBetween_0 6 rfl) rfl ?_
  refine GM_iload_n (pc := 11) 2 rfl (daX11_isBetween_0 7 rfl) rfl ?_
  refine GM_iload_n (pc := 12) 3 rfl (daX11_isBetween_0 8 rfl) rfl ?_
  refine GM_iload (pc := 13) 5 rfl (daX11_isBetween_0 9 rfl) ?_
  obtain ⟨r3, hf3, h⟩ := Option.bind_eq_some_iff.mp h
  refine GM_callV0 (pc := 15) [(0, v1), (0, v2), (0, v4)] (tX11_southOf l hf3) cwX11_southOf 11 (Nat.le_of_ble_eq_true rfl) rfl kv_X11_southOf ke_X11_southOf km_X11_217 hc1 ⟨Nat.le_of_ble_eq_true rfl, Nat.le_of_ble_eq_true rfl⟩ (Nat.le_of_ble_eq_true rfl) (Nat.le_of_ble_eq_true rfl) (daX11_isBetween_0 10 rfl) ?_
  refine GM_istore (L' := [(7, (0, r3)), (6, (0, r2)), (0, (3, v0)), (1, (0, v1)), (2, (0, v2)), (3, (0, v3)), (4, (0, v4)), (5, (0, v5))]) (pc := 18) (daX11_isBetween_0 11 rfl) (Nat.le_of_ble_eq_true rfl) rfl ?_
  refine GM_aload_n (pc := 20) 2 rfl (daX11_isBetween_0 12 rfl) rfl ?_
  refine GM_iload_n (pc := 21) 3 rfl (daX11_isBetween_0 13 rfl) rfl ?_
  refine GM_iload_n (pc := 22) 4 rfl (daX11_isBetween_0 14 rfl) rfl ?_
  refine GM_iload_n (pc := 23) 5 rfl (daX11_isBetween_0 15 rfl) rfl ?_
  obtain ⟨r4, hf4, h⟩ := Option.bind_eq_some_iff.mp h
  refine GM_callV0 (pc := 24) [(0, v1), (0, v2), (0, v3)] (tX11_eastOf l hf4) cwX11_eastOf 11 (Nat.le_of_ble_eq_true rfl) rfl kv_X11_eastOf ke_X11_eastOf km_X11_213 hc1 ⟨Nat.le_of_ble_eq_true rfl, Nat.le_of_ble_eq_true rfl⟩ (Nat.le_of_ble_eq_true rfl) (Nat.le_of_ble_eq_true rfl) (daX11_isBetween_0 16 rfl) ?_
  refine GM_aload_n (pc := 27) 2 rfl (daX11_isBetween_0 17 rfl) rfl ?_
  refine GM_iload_n (pc := 28) 3 rfl (daX11_isBetween_0 18 rfl) rfl ?_
  refine GM_iload_n (pc := 29) 4 rfl (daX11_isBetween_0 19 rfl) rfl ?_
  refine GM_iload_n (pc := 30) 5 rfl (daX11_isBetween_0 20 rfl) rfl ?_
  obtain ⟨r5, hf5, h⟩ := Option.bind_eq_some_iff.mp h
  refine GM_callV0 (pc := 31) [(0, v1), (0, v2), (0, v3)] (tX11_southOf l hf5) cwX11_southOf 11 (Nat.le_of_ble_eq_true rfl) rfl kv_X11_southOf ke_X11_southOf km_X11_217 hc1 ⟨Nat.le_of_ble_eq_true rfl, Nat.le_of_ble_eq_true rfl⟩ (Nat.le_of_ble_eq_true rfl) (Nat.le_of_ble_eq_true rfl) (daX11_isBetween_0 21 rfl) ?_
  refine GM_iload (pc := 34) 1 rfl (daX11_isBetween_0 22 rfl) ?_
  refine GM_iload (pc := 36) 0 rfl (daX11_isBetween_0 23 rfl) ?_
  obtain ⟨r6, hf6, h⟩ := Option.bind_eq_some_iff.mp h
  refine GM_callS0 (pc := 38) [(0, r4), (0, r5), (0, r2), (0, r3)] (tX11_isEarlier l hf6) cwX11_isEarlier ks_X11_isEarlier km_X11_81 ⟨Nat.le_of_ble_eq_true rfl, Nat.le_of_ble_eq_true rfl⟩ (Nat.le_of_ble_eq_true rfl) (Nat.le_of_ble_eq_true rfl) (daX11_isBetween_0 24 rfl) ?_
  refine GM_istore (L' := [(8, (0, r6)), (7, (0, r3)), (6, (0, r2)), (0, (3, v0)), (1, (0, v1)), (2, (0, v2)), (3, (0, v3)), (4, (0, v4)), (5, (0, v5))]) (pc := 41) (daX11_isBetween_0 25 rfl) (Nat.le_of_ble_eq_true rfl) rfl ?_
  refine GM_iload (pc := 43) 2 rfl (daX11_isBetween_0 26 rfl) ?_
  refine GM_iload (pc := 45) 1 rfl (daX11_isBetween_0 27 rfl) ?_
  refine GM_aload_n (pc := 47) 3 rfl (daX11_isBetween_0 28 rfl) rfl ?_
  refine GM_iload_n (pc := 48) 4 rfl (daX11_isBetween_0 29 rfl) rfl ?_
  refine GM_iload_n (pc := 49) 5 rfl (daX11_isBetween_0 30 rfl) rfl ?_
  refine GM_iload (pc := 50) 8 rfl (daX11_isBetween_0 31 rfl) ?_
  obtain ⟨r7, hf7, h⟩ := Option.bind_eq_some_iff.mp h
  refine GM_callV0 (pc := 52) [(0, v1), (0, v2), (0, v5)] (tX11_eastOf l hf7) cwX11_eastOf 11 (Nat.le_of_ble_eq_true rfl) rfl kv_X11_eastOf ke_X11_eastOf km_X11_213 hc1 ⟨Nat.le_of_ble_eq_true rfl, Nat.le_of_ble_eq_true rfl⟩ (Nat.le_of_ble_eq_true rfl) (Nat.le_of_ble_eq_true rfl) (daX11_isBetween_0 32 rfl) ?_
  refine GM_aload_n (pc := 55) 3 rfl (daX11_isBetween_0 33 rfl) rfl ?_
  refine GM_iload_n (pc := 56) 4 rfl (daX11_isBetween_0 34 rfl) rfl ?_
  refine GM_iload_n (pc := 57) 5 rfl (daX11_isBetween_0 35 rfl) rfl ?_
  refine GM_iload (pc := 58) 8 rfl (daX11_isBetween_0 36 rfl) ?_
  obtain ⟨r8, hf8, h⟩ := Option.bind_eq_some_iff.mp h
  refine GM_callV0 (pc := 60) [(0, v1), (0, v2), (0, v5)] (tX11_southOf l hf8) cwX11_southOf 11 (Nat.le_of_ble_eq_true rfl) rfl kv_X11_southOf ke_X11_southOf km_X11_217 hc1 ⟨Nat.le_of_ble_eq_true rfl, Nat.le_of_ble_eq_true rfl⟩ (Nat.le_of_ble_eq_true rfl) (Nat.le_of_ble_eq_true rfl) (daX11_isBetween_0 37 rfl) ?_
  obtain ⟨r9, hf9, h⟩ := Option.bind_eq_some_iff.mp h
  refine GM_callS0 (pc := 63) [(0, r2), (0, r3), (0, r7), (0, r8)] (tX11_isEarlier l hf9) cwX11_isEarlier ks_X11_isEarlier km_X11_81 ⟨Nat.le_of_ble_eq_true rfl, Nat.le_of_ble_eq_true rfl⟩ (Nat.le_of_ble_eq_true rfl) (Nat.le_of_ble_eq_true rfl) (daX11_isBetween_0 38 rfl) ?_
  refine GM_istore (L' := [(9, (0, r9)), (8, (0, r6)), (7, (0, r3)), (6, (0, r2)), (0, (3, v0)), (1, (0, v1)), (2, (0, v2)), (3, (0, v3)), (4, (0, v4)), (5, (0, v5))]) (pc := 66) (daX11_isBetween_0 39 rfl) (Nat.le_of_ble_eq_true rfl) rfl ?_
  refine GM_aload_n (pc := 68) 4 rfl (daX11_isBetween_0 40 rfl) rfl ?_
  refine GM_iload_n (pc := 69) 5 rfl (daX11_isBetween_0 41 rfl) rfl ?_
  refine GM_iload_n (pc := 70) 6 rfl (daX11_isBetween_0 42 rfl) rfl ?_
  refine GM_iload_n (pc := 71) 7 rfl (daX11_isBetween_0 43 rfl) rfl ?_
  obtain ⟨r10, hf10, h⟩ := Option.bind_eq_some_iff.mp h
  refine GM_callV0 (pc := 72) [(0, v1), (0, v2), (0, v3)] (tX11_eastOf l hf10) cwX11_eastOf 11 (Nat.le_of_ble_eq_true rfl) rfl kv_X11_eastOf ke_X11_eastOf km_X11_213 hc1 ⟨Nat.le_of_ble_eq_true rfl, Nat.le_of_ble_eq_true rfl⟩ (Nat.le_of_ble_eq_true rfl) (Nat.le_of_ble_eq_true rfl) (daX11_isBetween_0 44 rfl) ?_
  refine GM_aload_n (pc := 75) 4 rfl (daX11_isBetween_0 45 rfl) rfl ?_
  refine GM_iload_n (pc := 76) 5 rfl (daX11_isBetween_0 46 rfl) rfl ?_
  refine GM_iload_n (pc := 77) 6 rfl (daX11_isBetween_0 47 rfl) rfl ?_
  refine GM_iload_n (pc := 78) 7 rfl (daX11_isBetween_0 48 rfl) rfl ?_
  obtain ⟨r11, hf11, h⟩ := Option.bind_eq_some_iff.mp h
  refine GM_callV0 (pc := 79) [(0, v1), (0, v2), (0, v3)] (tX11_southOf l hf11) cwX11_southOf 11 (Nat.le_of_ble_eq_true rfl) rfl kv_X11_southOf ke_X11_southOf km_X11_217 hc1 ⟨Nat.le_of_ble_eq_true rfl, Nat.le_of_ble_eq_true rfl⟩ (Nat.le_of_ble_eq_true rfl) (Nat.le_of_ble_eq_true rfl) (daX11_isBetween_0 49 rfl) ?_
  refine GM_aload_n (pc := 82) 4 rfl (daX11_isBetween_0 50 rfl) rfl ?_
  refine GM_iload_n (pc := 83) 5 rfl (daX11_isBetween_0 51 rfl) rfl ?_
  refine GM_iload_n (pc := 84) 6 rfl (daX11_isBetween_0 52 rfl) rfl ?_
  refine GM_iload (pc := 85) 9 rfl (daX11_isBetween_0 53 rfl) ?_
  obtain ⟨r12, hf12, h⟩ := Option.bind_eq_some_iff.mp h
  refine GM_callV0 (pc := 87) [(0, v1), (0, v2), (0, v5)] (tX11_eastOf l hf12) cwX11_eastOf 11 (Nat.le_of_ble_eq_true rfl) rfl kv_X11_eastOf ke_X11_eastOf km_X11_213 hc1 ⟨Nat.le_of_ble_eq_true rfl, Nat.le_of_ble_eq_true rfl⟩ (Nat.le_of_ble_eq_true rfl) (Nat.le_of_ble_eq_true rfl) (daX11_isBetween_0 54 rfl) ?_
  refine GM_aload_n (pc := 90) 4 rfl (daX11_isBetween_0 55 rfl) rfl ?_
  refine GM_iload_n (pc := 91) 5 rfl (daX11_isBetween_0 56 rfl) rfl ?_
  refine GM_iload_n (pc := 92) 6 rfl (daX11_isBetween_0 57 rfl) rfl ?_
  refine GM_iload (pc := 93) 9 rfl (daX11_isBetween_0 58 rfl) ?_
  obtain ⟨r13, hf13, h⟩ := Option.bind_eq_some_iff.mp h
  refine GM_callV0 (pc := 95) [(0, v1), (0, v2), (0, v5)] (tX11_southOf l hf13) cwX11_southOf 11 (Nat.le_of_ble_eq_true rfl) rfl kv_X11_southOf ke_X11_southOf km_X11_217 hc1 ⟨Nat.le_of_ble_eq_true rfl, Nat.le_of_ble_eq_true rfl⟩ (Nat.le_of_ble_eq_true rfl) (Nat.le_of_ble_eq_true rfl) (daX11_isBetween_0 59 rfl) ?_
  obtain ⟨r14, hf14, h⟩ := Option.bind_eq_some_iff.mp h
  refine GM_callS0 (pc := 98) [(0, r10), (0, r11), (0, r12), (0, r13)] (tX11_isEarlier l hf14) cwX11_isEarlier ks_X11_isEarlier km_X11_81 ⟨Nat.le_of_ble_eq_true rfl, Nat.le_of_ble_eq_true rfl⟩ (Nat.le_of_ble_eq_true rfl) (Nat.le_of_ble_eq_true rfl) (daX11_isBetween_0 60 rfl) ?_
  refine GM_istore (L' := [(10, (0, r14)), (9, (0, r9)), (8, (0, r6)), (7, (0, r3)), (6, (0, r2)), (0, (3, v0)), (1, (0, v1)), (2, (0, v2)), (3, (0, v3)), (4, (0, v4)), (5, (0, v5))]) (pc := 101) (daX11_isBetween_0 61 rfl) (Nat.le_of_ble_eq_true rfl) rfl ?_
  refine GM_iload (pc := 103) 0 rfl (daX11_isBetween_0 62 rfl) ?_
  refine GM_if_eq (pc := 105) 126 (daX11_isBetween_0 63 rfl) rfl (fun c15 => ?_) (fun c15 => ?_)
  · skip
    rw [if_pos c15] at h
    refine GM_iload (pc := 126) 2 rfl (daX11_isBetween_1 8 rfl) ?_
    refine GM_if_ne (pc := 128) 136 (daX11_isBetween_1 9 rfl) rfl (fun c16 => ?_) (fun c16 => ?_)
    · skip
      rw [if_neg c16] at h
      refine GM_iconst (pc := 136) 1 (daX11_isBetween_1 12 rfl) rfl (R32_b rfl) ?_
      refine GM_goto (pc := 137) 141 (daX11_isBetween_1 13 rfl) rfl ?_
      cases h
      exact GM_zret (pc := 141) (daX11_isBetween_1 15 rfl) rfl (Or.inr rfl) hK
    · skip
      rw [if_pos c16] at h
      refine GM_iload (pc := 131) 1 rfl (daX11_isBetween_1 10 rfl) ?_
      refine GM_if_eq (pc := 133) 140 (daX11_isBetween_1 11 rfl) rfl (fun c17 => ?_) (fun c17 => ?_)
      · skip
        rw [if_pos c17] at h
        refine GM_iconst (pc := 140) 0 (daX11_isBetween_1 14 rfl) rfl (R32_b rfl) ?_
        cases h
        exact GM_zret (pc := 141) (daX11_isBetween_1 15 rfl) rfl (Or.inl rfl) hK
      · skip
        rw [if_neg c17] at h
        refine GM_iconst (pc := 136) 1 (daX11_isBetween_1 12 rfl) rfl (R32_b rfl) ?_
        refine GM_goto (pc := 137) 141 (daX11_isBetween_1 13 rfl) rfl ?_
        cases h
        exact GM_zret (pc := 141) (daX11_isBetween_1 15 rfl) rfl (Or.inr rfl) hK
  · skip
    rw [if_neg c15] at h
    refine GM_iload (pc := 108) 2 rfl (daX11_isBetween_1 0 rfl) ?_
    refine GM_if_eq (pc := 110) 122 (daX11_isBetween_1 1 rfl) rfl (fun c18 => ?_) (fun c18 => ?_)
    · skip
      rw [if_pos c18] at h
      refine GM_iconst (pc := 122) 0 (daX11_isBetween_1 6 rfl) rfl (R32_b rfl) ?_
      refine GM_goto (pc := 123) 141 (daX11_isBetween_1 7 rfl) rfl ?_
      cases h
      exact GM_zret (pc := 141) (daX11_isBetween_1 15 rfl) rfl (Or.inl rfl) hK
    · skip
      rw [if_neg c18] at h
      refine GM_iload (pc := 113) 1 rfl (daX11_isBetween_1 2 rfl) ?_
      refine GM_if_eq (pc := 115) 122 (daX11_isBetween_1 3 rfl) rfl (fun c19 => ?_) (fun c19 => ?_)
      · skip
        rw [if_pos c19] at h
        refine GM_iconst (pc := 122) 0 (daX11_isBetween_1 6 rfl) rfl (R32_b rfl) ?_
        refine GM_goto (pc := 123) 141 (daX11_isBetween_1 7 rfl) rfl ?_
        cases h
        exact GM_zret (pc := 141) (daX11_isBetween_1 15 rfl) rfl (Or.inl rfl) hK
      · skip
        rw [if_neg c19] at h
        refine GM_iconst (pc := 118) 1 (daX11_isBetween_1 4 rfl) rfl (R32_b rfl) ?_
        refine GM_goto (pc := 119) 141 (daX11_isBetween_1 5 rfl) rfl ?_
        cases h
        exact GM_zret (pc := 141) (daX11_isBetween_1 15 rfl) rfl (Or.inr rfl) hK
theorem tX11_isBetween (l : Launch) {v0 v1 v2 v3 v4 v5 : Int} {μ : Mm} {t : Int} (h : fX11_isBetween v0 v1 v2 v3 v4 v5 μ = some t) : Ct l yX11_isBetween mX11_isBetween [(3, v0), (0, v1), (0, v2), (0, v3), (0, v4), (0, v5)] μ ([(0, t)], μ, 0, 0) :=
  Ct_of (by decide +kernel) rfl rfl (Nat.le_of_ble_eq_true rfl) (fun _ _ _ => trivial) (gX11_isBetween_0 l h ⟨rfl, rfl⟩)
def mX11_isLake : MI := (RX11, cX11_isLake, 9, (some .boolean), "isLake", 5, 127, fun _ _ _ => True)
theorem cwX11_isLake : CWd yX11_isLake mX11_isLake 4 := ⟨ki_X11, kk_X11_isLake, ⟨by decide, by decide⟩, rfl⟩
def dtX11_isLake_0 : List (Nat × Instr × Nat) := [(0, .iconst 0, 1), (1, .istore 5, 2), (3, .iconst 0, 1), (4, .istore 6, 2), (6, .iload 6, 2), (8, .aload_n 0, 1), (9, .getfield 7, 3), (12, .iload_n 1, 1), (13, .iconst 5, 1), (14, .iadd, 1), (15, .iaload, 1), (16, .if_icmp .ge 85, 3), (19, .iload_n 1, 1), (20, .sipush 150, 3), (23, .iadd, 1), (24, .iconst 4, 1), (25, .iload 6, 2), (27, .imul, 1), (28, .iadd, 1), (29, .istore 7, 2), (31, .aload_n 0, 1), (32, .getfield 7, 3), (35, .iload 7, 2), (37, .iconst 1, 1), (38, .iadd, 1), (39, .iaload, 1), (40, .istore 8, 2), (42, .iload 5, 2), (44, .ifCond .ne 44, 3), (47, .aload_n 0, 1), (48, .getfield 7, 3), (51, .iload 7, 2), (53, .iaload, 1), (54, .ifCond .ne 38, 3), (57, .iload 8, 2), (59, .iload_n 2, 1), (60, .if_icmp .eq 32, 3), (63, .aload_n 0, 1), (64, .iload_n 1, 1), (65, .iload_n 2, 1), (66, .iload 8, 2), (68, .invokevirtual 244, 3), (71, .ifCond .eq 21, 3), (74, .aload_n 0, 1), (75, .iload_n 1, 1), (76, .iload_n 2, 1), (77, .iload_n 3, 1), (78, .iload 8, 2), (80, .iload 4, 2), (82, .invokevirtual 253, 3), (85, .ifCond .eq 7, 3), (88, .iconst 1, 1), (89, .goto 4, 3), (92, .iconst 0, 1), (93, .istore 5, 2), (95, .iinc 6 1, 3), (98, .goto (-92), 3), (101, .iload 5, 2), (103, .ireturn, 1)]
theorem ddX11_isLake_0 : (dtX11_isLake_0.all fun e => decide (decode mX11_isLake.2.1 e.1 = .ok (e.2.1, e.2.2))) = true := by decide +kernel
theorem daX11_isLake_0 (j : Nat) {pc n : Nat} {i : Instr} (h : dtX11_isLake_0[j]? = some (pc, i, n)) : decode mX11_isLake.2.1 pc = .ok (i, n) := dec_of (c := mX11_isLake.2.1) ddX11_isLake_0 h
def zX11_isLake_6 (l : Launch) (F : FI) (v0 v1 v2 v3 v4 : Int) (μ : Mm) (k n : Nat) : (Int × Int) ⊕ Int → Prop
  | .inl (v5, v6) => GM l mX11_isLake F k n 6 [(0, (3, v0)), (1, (0, v1)), (2, (0, v2)), (3, (0, v3)), (4, (0, v4)), (5, (0, v5)), (6, (0, v6))] [] μ
  | .inr v5 => GM l mX11_isLake F k n 101 [(5, (0, v5))] [] μ
def sX11_isLake_6 (v0 v1 v2 v3 v4 : Int) (μ : Mm) : (Int × Int) → Option ((Int × Int) ⊕ Int) := fun (v5, v6) =>
  chk (KD v0 = 11) (
  chk (KD (μ v0 0) = 12 ∧ 0 ≤ w32 (v1 + 5) ∧ w32 (v1 + 5) < LN (μ v0 0)) (
  if μ (μ v0 0) (w32 (v1 + 5)) ≤ v6 then
    some (.inr v5)
  else
    lt (w32 ((w32 (v1 + 150)) + (w32 (4 * v6)))) fun y4 =>
    chk (0 ≤ w32 (y4 + 1) ∧ w32 (y4 + 1) < LN (μ v0 0)) (
    lt (μ (μ v0 0) (w32 (y4 + 1))) fun y6 =>
    if v5 = 0 then
      chk (0 ≤ y4 ∧ y4 < LN (μ v0 0)) (
      if μ (μ v0 0) y4 = 0 then
        if y6 = v2 then
          some (.inl (0, w32 (v6 + 1)))
        else
          (fX11_isSeen v0 v1 v2 y6 μ).bind fun r11 =>
          if r11 = 0 then
            some (.inl (0, w32 (v6 + 1)))
          else
            (fX11_isBetween v0 v1 v2 v3 y6 v4 μ).bind fun r13 =>
            if r13 = 0 then
              some (.inl (0, w32 (v6 + 1)))
            else
              some (.inl (1, w32 (v6 + 1)))
      else
        some (.inl (0, w32 (v6 + 1))))
    else
      some (.inl (1, w32 (v6 + 1))))))
def fX11_isLake (v0 v1 v2 v3 v4 : Int) (μ : Mm) : Option Int :=
  (lop (sX11_isLake_6 v0 v1 v2 v3 v4 μ) FU (0, 0)).bind fun v5_16 =>
    chk ((v5_16 = 0 ∨ v5_16 = 1)) (
    some v5_16)
set_option maxRecDepth 20000 in
theorem qX11_isLake_6 (l : Launch) (F : FI) (v0 v1 v2 v3 v4 : Int) (μ : Mm) (k n : Nat) : ∀ (q : (Int × Int)) (t : ((Int × Int) ⊕ Int)), sX11_isLake_6 v0 v1 v2 v3 v4 μ q = some t → zX11_isLake_6 l F v0 v1 v2 v3 v4 μ k n t → zX11_isLake_6 l F v0 v1 v2 v3 v4 μ k n (.inl q) := by
  intro q t h hK
  obtain ⟨v5, v6⟩ := q
  unfold sX11_isLake_6 at h
  try dsimp only at h
  show GM l mX11_isLake F k n 6 [(0, (3, v0)), (1, (0, v1)), (2, (0, v2)), (3, (0, v3)), (4, (0, v4)), (5, (0, v5)), (6, (0, v6))] [] μ
  refine GM_iload (pc := 6) 6 rfl (daX11_isLake_0 4 rfl) ?_
  refine GM_aload_n (pc := 8) 0 rfl (daX11_isLake_0 5 rfl) rfl ?_
  obtain ⟨hc1, h⟩ := chk_inv h
  refine GM_getf (pc := 9) 11 0 3 0 kf_X11_7 (Nat.le_of_ble_eq_true rfl) (Nat.le_of_ble_eq_true rfl) rfl (daX11_isLake_0 6 rfl) hc1 rfl ?_
  refine GM_iload_n (pc := 12) 1 rfl (daX11_isLake_0 7 rfl) rfl ?_
  refine GM_iconst (pc := 13) 5 (daX11_isLake_0 8 rfl) rfl (R32_b rfl) ?_
  refine GM_iadd (pc := 14) (daX11_isLake_0 9 rfl) ?_
  obtain ⟨hc2, h⟩ := chk_inv h
  refine GM_iald (pc := 15) (daX11_isLake_0 10 rfl) hc2.1 hc2.2.1 hc2.2.2 ?_
  refine GM_icmp_ge (pc := 16) 101 (daX11_isLake_0 11 rfl) rfl (fun c3 => ?_) (fun c3 => ?_)
  · skip
    rw [if_pos c3] at h
    refine GM_pick [5] rfl ?_
    cases h
    exact hK
  · skip
    rw [if_neg c3] at h
    refine GM_iload_n (pc := 19) 1 rfl (daX11_isLake_0 12 rfl) rfl ?_
    refine GM_sipush (pc := 20) 150 (daX11_isLake_0 13 rfl) rfl (R32_b rfl) ?_
    refine GM_iadd (pc := 23) (daX11_isLake_0 14 rfl) ?_
    refine GM_iconst (pc := 24) 4 (daX11_isLake_0 15 rfl) rfl (R32_b rfl) ?_
    refine GM_iload (pc := 25) 6 rfl (daX11_isLake_0 16 rfl) ?_
    refine GM_imul (pc := 27) (daX11_isLake_0 17 rfl) ?_
    refine GM_iadd (pc := 28) (daX11_isLake_0 18 rfl) ?_
    obtain ⟨y4, hy4, h⟩ := lt_inv h
    refine GM_top hy4 ?_
    refine GM_istore (L' := [(7, (0, y4)), (0, (3, v0)), (1, (0, v1)), (2, (0, v2)), (3, (0, v3)), (4, (0, v4)), (5, (0, v5)), (6, (0, v6))]) (pc := 29) (daX11_isLake_0 19 rfl) (Nat.le_of_ble_eq_true rfl) rfl ?_
    refine GM_aload_n (pc := 31) 1 rfl (daX11_isLake_0 20 rfl) rfl ?_
    refine GM_getf (pc := 32) 11 0 3 0 kf_X11_7 (Nat.le_of_ble_eq_true rfl) (Nat.le_of_ble_eq_true rfl) rfl (daX11_isLake_0 21 rfl) hc1 rfl ?_
    refine GM_iload (pc := 35) 0 rfl (daX11_isLake_0 22 rfl) ?_
    refine GM_iconst (pc := 37) 1 (daX11_isLake_0 23 rfl) rfl (R32_b rfl) ?_
    refine GM_iadd (pc := 38) (daX11_isLake_0 24 rfl) ?_
    obtain ⟨hc5, h⟩ := chk_inv h
    refine GM_iald (pc := 39) (daX11_isLake_0 25 rfl) hc2.1 hc5.1 hc5.2 ?_
    obtain ⟨y6, hy6, h⟩ := lt_inv h
    refine GM_top hy6 ?_
    refine GM_istore (L' := [(8, (0, y6)), (7, (0, y4)), (0, (3, v0)), (1, (0, v1)), (2, (0, v2)), (3, (0, v3)), (4, (0, v4)), (5, (0, v5)), (6, (0, v6))]) (pc := 40) (daX11_isLake_0 26 rfl) (Nat.le_of_ble_eq_true rfl) rfl ?_
    refine GM_iload (pc := 42) 7 rfl (daX11_isLake_0 27 rfl) ?_
    refine GM_if_ne (pc := 44) 88 (daX11_isLake_0 28 rfl) rfl (fun c7 => ?_) (fun c7 => ?_)
    · skip
      rw [if_neg c7] at h
      refine GM_iconst (pc := 88) 1 (daX11_isLake_0 51 rfl) rfl (R32_b rfl) ?_
      refine GM_goto (pc := 89) 93 (daX11_isLake_0 52 rfl) rfl ?_
      refine GM_istore (L' := [(5, (0, 1)), (8, (0, y6)), (7, (0, y4)), (0, (3, v0)), (1, (0, v1)), (2, (0, v2)), (3, (0, v3)), (4, (0, v4)), (6, (0, v6))]) (pc := 93) (daX11_isLake_0 54 rfl) (Nat.le_of_ble_eq_true rfl) rfl ?_
      refine GM_iinc (L' := [(6, (0, w32 (v6 + 1))), (5, (0, 1)), (8, (0, y6)), (7, (0, y4)), (0, (3, v0)), (1, (0, v1)), (2, (0, v2)), (3, (0, v3)), (4, (0, v4))]) (pc := 95) 8 rfl (daX11_isLake_0 55 rfl) (Nat.le_of_ble_eq_true rfl) rfl ?_
      refine GM_goto (pc := 98) 6 (daX11_isLake_0 56 rfl) rfl ?_
      refine GM_pick [4, 5, 6, 7, 8, 1, 0] rfl ?_
      cases h
      exact hK
    · skip
      rw [if_pos c7] at h
      refine GM_aload_n (pc := 47) 2 rfl (daX11_isLake_0 29 rfl) rfl ?_
      refine GM_getf (pc := 48) 11 0 3 0 kf_X11_7 (Nat.le_of_ble_eq_true rfl) (Nat.le_of_ble_eq_true rfl) rfl (daX11_isLake_0 30 rfl) hc1 rfl ?_
      refine GM_iload (pc := 51) 1 rfl (daX11_isLake_0 31 rfl) ?_
      obtain ⟨hc8, h⟩ := chk_inv h
      refine GM_iald (pc := 53) (daX11_isLake_0 32 rfl) hc2.1 hc8.1 hc8.2 ?_
      refine GM_if_ne (pc := 54) 92 (daX11_isLake_0 33 rfl) rfl (fun c9 => ?_) (fun c9 => ?_)
      · skip
        rw [if_neg c9] at h
        refine GM_iconst (pc := 92) 0 (daX11_isLake_0 53 rfl) rfl (R32_b rfl) ?_
        refine GM_istore (L' := [(5, (0, 0)), (8, (0, y6)), (7, (0, y4)), (0, (3, v0)), (1, (0, v1)), (2, (0, v2)), (3, (0, v3)), (4, (0, v4)), (6, (0, v6))]) (pc := 93) (daX11_isLake_0 54 rfl) (Nat.le_of_ble_eq_true rfl) rfl ?_
        refine GM_iinc (L' := [(6, (0, w32 (v6 + 1))), (5, (0, 0)), (8, (0, y6)), (7, (0, y4)), (0, (3, v0)), (1, (0, v1)), (2, (0, v2)), (3, (0, v3)), (4, (0, v4))]) (pc := 95) 8 rfl (daX11_isLake_0 55 rfl) (Nat.le_of_ble_eq_true rfl) rfl ?_
        refine GM_goto (pc := 98) 6 (daX11_isLake_0 56 rfl) rfl ?_
        refine GM_pick [4, 5, 6, 7, 8, 1, 0] rfl ?_
        cases h
        exact hK
      · skip
        rw [if_pos c9] at h
        refine GM_iload (pc := 57) 0 rfl (daX11_isLake_0 34 rfl) ?_
        refine GM_iload_n (pc := 59) 4 rfl (daX11_isLake_0 35 rfl) rfl ?_
        refine GM_icmp_eq (pc := 60) 92 (daX11_isLake_0 36 rfl) rfl (fun c10 => ?_) (fun c10 => ?_)
        · skip
          rw [if_pos c10] at h
          refine GM_iconst (pc := 92) 0 (daX11_isLake_0 53 rfl) rfl (R32_b rfl) ?_
          refine GM_istore (L' := [(5, (0, 0)), (8, (0, y6)), (7, (0, y4)), (0, (3, v0)), (1, (0, v1)), (2, (0, v2)), (3, (0, v3)), (4, (0, v4)), (6, (0, v6))]) (pc := 93) (daX11_isLake_0 54 rfl) (Nat.le_of_ble_eq_true rfl) rfl ?_
          refine GM_iinc (L' := [(6, (0, w32 (v6 + 1))), (5, (0, 0)), (8, (0, y6)), (7, (0, y4)), (0, (3, v0)), (1, (0, v1)), (2, (0, v2)), (3, (0, v3)), (4, (0, v4))]) (pc := 95) 8 rfl (daX11_isLake_0 55 rfl) (Nat.le_of_ble_eq_true rfl) rfl ?_
          refine GM_goto (pc := 98) 6 (daX11_isLake_0 56 rfl) rfl ?_
          refine GM_pick [4, 5, 6, 7, 8, 1, 0] rfl ?_
          cases h
          exact hK
        · skip
          rw [if_neg c10] at h
          refine GM_aload_n (pc := 63) 2 rfl (daX11_isLake_0 37 rfl) rfl ?_
          refine GM_iload_n (pc := 64) 3 rfl (daX11_isLake_0 38 rfl) rfl ?_
          refine GM_iload_n (pc := 65) 4 rfl (daX11_isLake_0 39 rfl) rfl ?_
          refine GM_iload (pc := 66) 0 rfl (daX11_isLake_0 40 rfl) ?_
          obtain ⟨r11, hf11, h⟩ := Option.bind_eq_some_iff.mp h
          refine GM_callV0 (pc := 68) [(0, v1), (0, v2), (0, y6)] (tX11_isSeen l hf11) cwX11_isSeen 11 (Nat.le_of_ble_eq_true rfl) rfl kv_X11_isSeen ke_X11_isSeen km_X11_244 hc1 ⟨Nat.le_of_ble_eq_true rfl, Nat.le_of_ble_eq_true rfl⟩ (Nat.le_of_ble_eq_true rfl) (Nat.le_of_ble_eq_true rfl) (daX11_isLake_0 41 rfl) ?_
          refine GM_if_eq (pc := 71) 92 (daX11_isLake_0 42 rfl) rfl (fun c12 => ?_) (fun c12 => ?_)
          · skip
            rw [if_pos c12] at h
            refine GM_iconst (pc := 92) 0 (daX11_isLake_0 53 rfl) rfl (R32_b rfl) ?_
            refine GM_istore (L' := [(5, (0, 0)), (8, (0, y6)), (7, (0, y4)), (0, (3, v0)), (1, (0, v1)), (2, (0, v2)), (3, (0, v3)), (4, (0, v4)), (6, (0, v6))]) (pc := 93) (daX11_isLake_0 54 rfl) (Nat.le_of_ble_eq_true rfl) rfl ?_
            refine GM_iinc (L' := [(6, (0, w32 (v6 + 1))), (5, (0, 0)), (8, (0, y6)), (7, (0, y4)), (0, (3, v0)), (1, (0, v1)), (2, (0, v2)), (3, (0, v3)), (4, (0, v4))]) (pc := 95) 8 rfl (daX11_isLake_0 55 rfl) (Nat.le_of_ble_eq_true rfl) rfl ?_
            refine GM_goto (pc := 98) 6 (daX11_isLake_0 56 rfl) rfl ?_
            refine GM_pick [4, 5, 6, 7, 8, 1, 0] rfl ?_
            cases h
            exact hK
          · skip
            rw [if_neg c12] at h
            refine GM_aload_n (pc := 74) 2 rfl (daX11_isLake_0 43 rfl) rfl ?_
            refine GM_iload_n (pc := 75) 3 rfl (daX11_isLake_0 44 rfl) rfl ?_
            refine GM_iload_n (pc := 76) 4 rfl (daX11_isLake_0 45 rfl) rfl ?_
            refine GM_iload_n (pc := 77) 5 rfl (daX11_isLake_0 46 rfl) rfl ?_
            refine GM_iload (pc := 78) 0 rfl (daX11_isLake_0 47 rfl) ?_
            refine GM_iload (pc := 80) 6 rfl (daX11_isLake_0 48 rfl) ?_
            obtain ⟨r13, hf13, h⟩ := Option.bind_eq_some_iff.mp h
            refine GM_callV0 (pc := 82) [(0, v1), (0, v2), (0, v3), (0, y6), (0, v4)] (tX11_isBetween l hf13) cwX11_isBetween 11 (Nat.le_of_ble_eq_true rfl) rfl kv_X11_isBetween ke_X11_isBetween km_X11_253 hc1 ⟨Nat.le_of_ble_eq_true rfl, Nat.le_of_ble_eq_true rfl⟩ (Nat.le_of_ble_eq_true rfl) (Nat.le_of_ble_eq_true rfl) (daX11_isLake_0 49 rfl) ?_
            refine GM_if_eq (pc := 85) 92 (daX11_isLake_0 50 rfl) rfl (fun c14 => ?_) (fun c14 => ?_)
            · skip
              rw [if_pos c14] at h
              refine GM_iconst (pc := 92) 0 (daX11_isLake_0 53 rfl) rfl (R32_b rfl) ?_
              refine GM_istore (L' := [(5, (0, 0)), (8, (0, y6)), (7, (0, y4)), (0, (3, v0)), (1, (0, v1)), (2, (0, v2)), (3, (0, v3)), (4, (0, v4)), (6, (0, v6))]) (pc := 93) (daX11_isLake_0 54 rfl) (Nat.le_of_ble_eq_true rfl) rfl ?_
              refine GM_iinc (L' := [(6, (0, w32 (v6 + 1))), (5, (0, 0)), (8, (0, y6)), (7, (0, y4)), (0, (3, v0)), (1, (0, v1)), (2, (0, v2)), (3, (0, v3)), (4, (0, v4))]) (pc := 95) 8 rfl (daX11_isLake_0 55 rfl) (Nat.le_of_ble_eq_true rfl) rfl ?_
              refine GM_goto (pc := 98) 6 (daX11_isLake_0 56 rfl) rfl ?_
              refine GM_pick [4, 5, 6, 7, 8, 1, 0] rfl ?_
              cases h
              exact hK
            · skip
              rw [if_neg c14] at h
              refine GM_iconst (pc := 88) 1 (daX11_isLake_0 51 rfl) rfl (R32_b rfl) ?_
              refine GM_goto (pc := 89) 93 (daX11_isLake_0 52 rfl) rfl ?_
              refine GM_istore (L' := [(5, (0, 1)), (8, (0, y6)), (7, (0, y4)), (0, (3, v0)), (1, (0, v1)), (2, (0, v2)), (3, (0, v3)), (4, (0, v4)), (6, (0, v6))]) (pc := 93) (daX11_isLake_0 54 rfl) (Nat.le_of_ble_eq_true rfl) rfl ?_
              refine GM_iinc (L' := [(6, (0, w32 (v6 + 1))), (5, (0, 1)), (8, (0, y6)), (7, (0, y4)), (0, (3, v0)), (1, (0, v1)), (2, (0, v2)), (3, (0, v3)), (4, (0, v4))]) (pc := 95) 8 rfl (daX11_isLake_0 55 rfl) (Nat.le_of_ble_eq_true rfl) rfl ?_
              refine GM_goto (pc := 98) 6 (daX11_isLake_0 56 rfl) rfl ?_
              refine GM_pick [4, 5, 6, 7, 8, 1, 0] rfl ?_
              cases h
              exact hK
set_option maxRecDepth 20000 in
theorem gX11_isLake_0 (l : Launch) {F : FI} {v0 v1 v2 v3 v4 : Int} {μ : Mm} {t : Int} (h : fX11_isLake v0 v1 v2 v3 v4 μ = some t) (hK : F.1 = [(0, t)] ∧ F.2.1 = μ) : GM l mX11_isLake F 0 0 0 [(0, (3, v0)), (1, (0, v1)), (2, (0, v2)), (3, (0, v3)), (4, (0, v4))] [] μ := by
  unfold fX11_isLake at h
  refine GM_iconst (pc := 0) 0 (daX11_isLake_0 0 rfl) rfl (R32_b rfl) ?_
  refine GM_istore (L' := [(5, (0, 0)), (0, (3, v0)), (1, (0, v1)), (2, (0, v2)), (3, (0, v3)), (4, (0, v4))]) (pc := 1) (daX11_isLake_0 1 rfl) (Nat.le_of_ble_eq_true rfl) rfl ?_
  refine GM_iconst (pc := 3) 0 (daX11_isLake_0 2 rfl) rfl (R32_b rfl) ?_
  refine GM_istore (L' := [(6, (0, 0)), (5, (0, 0)), (0, (3, v0)), (1, (0, v1)), (2, (0, v2)), (3, (0, v3)), (4, (0, v4))]) (pc := 4) (daX11_isLake_0 3 rfl) (Nat.le_of_ble_eq_true rfl) rfl ?_
  refine GM_pick [2, 3, 4, 5, 6, 1, 0] rfl ?_
  obtain ⟨x15, hqx15, h⟩ := Option.bind_eq_some_iff.mp h
  refine lop_ind (zX11_isLake_6 l F v0 v1 v2 v3 v4 μ 0 0) (qX11_isLake_6 l F v0 v1 v2 v3 v4 μ 0 0) FU _ x15 hqx15 ?_
  obtain ⟨v5_16, hqq⟩ : ∃ z, z = x15 := ⟨x15, rfl⟩
  subst hqq
  show GM l mX11_isLake F 0 0 101 [(5, (0, v5_16))] [] μ
  refine GM_iload (pc := 101) 0 rfl (daX11_isLake_0 57 rfl) ?_
  obtain ⟨hc17, h⟩ := chk_inv h
  cases h
  exact GM_zret (pc := 103) (daX11_isLake_0 58 rfl) rfl hc17 hK
theorem tX11_isLake (l : Launch) {v0 v1 v2 v3 v4 : Int} {μ : Mm} {t : Int} (h : fX11_isLake v0 v1 v2 v3 v4 μ = some t) : Ct l yX11_isLake mX11_isLake [(3, v0), (0, v1), (0, v2), (0, v3), (0, v4)] μ ([(0, t)], μ, 0, 0) :=
  Ct_of (by decide +kernel) rfl rfl (Nat.le_of_ble_eq_true rfl) (fun _ _ _ => trivial) (gX11_isLake_0 l h ⟨rfl, rfl⟩)
def mX11_isMarked : MI := (RX11, cX11_isMarked, 10, (some .boolean), "isMarked", 6, 155, fun _ _ _ => True)
theorem cwX11_isMarked : CWd yX11_isMarked mX11_isMarked 6 := ⟨ki_X11, kk_X11_isMarked, ⟨by decide, by decide⟩, rfl⟩
def dtX11_isMarked_0 : List (Nat × Instr × Nat) := [(0, .aload_n 0, 1), (1, .getfield 7, 3), (4, .iload_n 2, 1), (5, .bipush 19, 2), (7, .iadd, 1), (8, .iload 5, 2), (10, .iadd, 1), (11, .iaload, 1), (12, .istore 7, 2), (14, .aload_n 0, 1), (15, .iload_n 2, 1), (16, .iload_n 3, 1), (17, .iload 4, 2), (19, .iload 5, 2), (21, .invokevirtual 247, 3), (24, .istore 8, 2), (26, .iload 7, 2), (28, .iconst 2, 1), (29, .iand, 1), (30, .ifCond .eq 15, 3), (33, .aload_n 0, 1), (34, .iload_n 1, 1), (35, .iload 8, 2), (37, .iload 6, 2), (39, .invokevirtual 257, 3), (42, .ifCond .eq 22, 3), (45, .iload 7, 2), (47, .iconst 4, 1), (48, .iand, 1), (49, .ifCond .eq 17, 3), (52, .aload_n 0, 1), (53, .iload_n 1, 1), (54, .iload 8, 2), (56, .iload 6, 2), (58, .invokevirtual 257, 3), (61, .ifCond .eq 5, 3), (64, .iconst 0, 1), (65, .ireturn, 1), (66, .iload 7, 2), (68, .iconst 1, 1), (69, .iand, 1), (70, .ifCond .eq 8, 3), (73, .iload 5, 2), (75, .ifCond .ne 5, 3), (78, .iconst 1, 1), (79, .ireturn, 1), (80, .aload_n 0, 1), (81, .iload_n 2, 1), (82, .iload_n 3, 1), (83, .iload 4, 2), (85, .iload 5, 2), (87, .iconst 1, 1), (88, .isub, 1), (89, .invokevirtual 247, 3), (92, .istore 9, 2), (94, .aload_n 0, 1), (95, .getfield 7, 3), (98, .iload_n 2, 1), (99, .iconst 4, 1), (100, .iadd, 1), (101, .iaload, 1), (102, .iconst 1, 1), (103, .if_icmp .ne 16, 3), (106, .aload_n 0, 1)]
theorem ddX11_isMarked_0 : (dtX11_isMarked_0.all fun e => decide (decode mX11_isMarked.2.1 e.1 = .ok (e.2.1, e.2.2))) = true := by decide +kernel
theorem daX11_isMarked_0 (j : Nat) {pc n : Nat} {i : Instr} (h : dtX11_isMarked_0[j]? = some (pc, i, n)) : decode mX11_isMarked.2.1 pc = .ok (i, n) := dec_of (c := mX11_isMarked.2.1) ddX11_isMarked_0 h
def dtX11_isMarked_1 : List (Nat × Instr × Nat) := [(107, .iload_n 1, 1), (108, .iload_n 3, 1), (109, .iload 8, 2), (111, .iload 9, 2), (113, .invokevirtual 260, 3), (116, .goto 13, 3), (119, .aload_n 0, 1), (120, .iload_n 1, 1), (121, .iload_n 3, 1), (122, .iload 9, 2), (124, .iload 8, 2), (126, .invokevirtual 260, 3), (129, .ireturn, 1)]
theorem ddX11_isMarked_1 : (dtX11_isMarked_1.all fun e => decide (decode mX11_isMarked.2.1 e.1 = .ok (e.2.1, e.2.2))) = true := by decide +kernel
theorem daX11_isMarked_1 (j : Nat) {pc n : Nat} {i : Instr} (h : dtX11_isMarked_1[j]? = some (pc, i, n)) : decode mX11_isMarked.2.1 pc = .ok (i, n) := dec_of (c := mX11_isMarked.2.1) ddX11_isMarked_1 h
def jX11_isMarked_66 (v0 v1 v2 v3 v4 v5 v7 v8 : Int) (μ : Mm) : Option Int :=
  if iand v7 1 = 0 then
    some 1
  else
    if v5 = 0 then
      some 1
    else
      chk (KD v0 = 11) (
      (fX11_hillOf v0 v2 v3 v4 (w32 (v5 - 1)) μ).bind fun r4 =>
      chk (KD (μ v0 0) = 12 ∧ 0 ≤ w32 (v2 + 4) ∧ w32 (v2 + 4) < LN (μ v0 0)) (
      if μ (μ v0 0) (w32 (v2 + 4)) = 1 then
        (fX11_isLake v0 v1 v3 v8 r4 μ).bind fun r9 =>
        chk ((r9 = 0 ∨ r9 = 1)) (
        some r9)
      else
        (fX11_isLake v0 v1 v3 r4 v8 μ).bind fun r7 =>
        chk ((r7 = 0 ∨ r7 = 1)) (
        some r7)))
def jX11_isMarked_45 (v0 v1 v2 v3 v4 v5 v6 v7 v8 : Int) (μ : Mm) : Option Int :=
  if iand v7 4 = 0 then
    jX11_isMarked_66 v0 v1 v2 v3 v4 v5 v7 v8 μ
  else
    chk (KD v0 = 11) (
    (fX11_isTower v0 v1 v8 v6 μ).bind fun r13 =>
    if r13 = 0 then
      jX11_isMarked_66 v0 v1 v2 v3 v4 v5 v7 v8 μ
    else
      some 0)
def fX11_isMarked (v0 v1 v2 v3 v4 v5 v6 : Int) (μ : Mm) : Option Int :=
  chk (KD v0 = 11) (
  chk (KD (μ v0 0) = 12 ∧ 0 ≤ w32 ((w32 (v2 + 19)) + v5) ∧ w32 ((w32 (v2 + 19)) + v5) < LN (μ v0 0)) (
  lt (μ (μ v0 0) (w32 ((w32 (v2 + 19)) + v5))) fun y17 =>
  (fX11_hillOf v0 v2 v3 v4 v5 μ).bind fun r18 =>
  if iand y17 2 = 0 then
    jX11_isMarked_45 v0 v1 v2 v3 v4 v5 v6 y17 r18 μ
  else
    (fX11_isTower v0 v1 r18 v6 μ).bind fun r20 =>
    if r20 = 0 then
      some 0
    else
      jX11_isMarked_45 v0 v1 v2 v3 v4 v5 v6 y17 r18 μ))
set_option maxRecDepth 20000 in
theorem gX11_isMarked_66 (l : Launch) {F : FI} {v0 v1 v2 v3 v4 v5 v7 v8 : Int} {μ : Mm} {t : Int} (h : jX11_isMarked_66 v0 v1 v2 v3 v4 v5 v7 v8 μ = some t) (hK : F.1 = [(0, t)] ∧ F.2.1 = μ) : GM l mX11_isMarked F 0 0 66 [(0, (3, v0)), (1, (0, v1)), (2, (0, v2)), (3, (0, v3)), (4, (0, v4)), (5, (0, v5)), (7, (0, v7)), (8, (0, v8))] [] μ := by
  unfold jX11_isMarked_66 at h
  refine GM_iload (pc := 66) 6 rfl (daX11_isMarked_0 38 rfl) ?_
  refine GM_iconst (pc := 68) 1 (daX11_isMarked_0 39 rfl) rfl (R32_b rfl) ?_
  refine GM_iand (pc := 69) (daX11_isMarked_0 40 rfl) ?_
  refine GM_if_eq (pc := 70) 78 (daX11_isMarked_0 41 rfl) rfl (fun c1 => ?_) (fun c1 => ?_)
  · skip
    rw [if_pos c1] at h
    refine GM_iconst (pc := 78) 1 (daX11_isMarked_0 44 rfl) rfl (R32_b rfl) ?_
    cases h
    exact GM_zret (pc := 79) (daX11_isMarked_0 45 rfl) rfl (Or.inr rfl) hK
  · skip
    rw [if_neg c1] at h
    refine GM_iload (pc := 73) 5 rfl (daX11_isMarked_0 42 rfl) ?_
    refine GM_if_ne (pc := 75) 80 (daX11_isMarked_0 43 rfl) rfl (fun c2 => ?_) (fun c2 => ?_)
    · skip
      rw [if_neg c2] at h
      refine GM_aload_n (pc := 80) 0 rfl (daX11_isMarked_0 46 rfl) rfl ?_
      refine GM_iload_n (pc := 81) 2 rfl (daX11_isMarked_0 47 rfl) rfl ?_
      refine GM_iload_n (pc := 82) 3 rfl (daX11_isMarked_0 48 rfl) rfl ?_
      refine GM_iload (pc := 83) 4 rfl (daX11_isMarked_0 49 rfl) ?_
      refine GM_iload (pc := 85) 5 rfl (daX11_isMarked_0 50 rfl) ?_
      refine GM_iconst (pc := 87) 1 (daX11_isMarked_0 51 rfl) rfl (R32_b rfl) ?_
      refine GM_isub (pc := 88) (daX11_isMarked_0 52 rfl) ?_
      obtain ⟨hc3, h⟩ := chk_inv h
      obtain ⟨r4, hf4, h⟩ := Option.bind_eq_some_iff.mp h
      refine GM_callV0 (pc := 89) [(0, v2), (0, v3), (0, v4), (0, w32 (v5 - 1))] (tX11_hillOf l hf4) cwX11_hillOf 11 (Nat.le_of_ble_eq_true rfl) rfl kv_X11_hillOf ke_X11_hillOf km_X11_247 hc3 ⟨Nat.le_of_ble_eq_true rfl, Nat.le_of_ble_eq_true rfl⟩ (Nat.le_of_ble_eq_true rfl) (Nat.le_of_ble_eq_true rfl) (daX11_isMarked_0 53 rfl) ?_
      refine GM_istore (L' := [(9, (0, r4)), (0, (3, v0)), (1, (0, v1)), (2, (0, v2)), (3, (0, v3)), (4, (0, v4)), (5, (0, v5)), (7, (0, v7)), (8, (0, v8))]) (pc := 92) (daX11_isMarked_0 54 rfl) (Nat.le_of_ble_eq_true rfl) rfl ?_
      refine GM_aload_n (pc := 94) 1 rfl (daX11_isMarked_0 55 rfl) rfl ?_
      refine GM_getf (pc := 95) 11 0 3 0 kf_X11_7 (Nat.le_of_ble_eq_true rfl) (Nat.le_of_ble_eq_true rfl) rfl (daX11_isMarked_0 56 rfl) hc3 rfl ?_
      refine GM_iload_n (pc := 98) 3 rfl (daX11_isMarked_0 57 rfl) rfl ?_
      refine GM_iconst (pc := 99) 4 (daX11_isMarked_0 58 rfl) rfl (R32_b rfl) ?_
      refine GM_iadd (pc := 100) (daX11_isMarked_0 59 rfl) ?_
      obtain ⟨hc5, h⟩ := chk_inv h
      refine GM_iald (pc := 101) (daX11_isMarked_0 60 rfl) hc5.1 hc5.2.1 hc5.2.2 ?_
      refine GM_iconst (pc := 102) 1 (daX11_isMarked_0 61 rfl) rfl (R32_b rfl) ?_
      refine GM_icmp_ne (pc := 103) 119 (daX11_isMarked_0 62 rfl) rfl (fun c6 => ?_) (fun c6 => ?_)
      · skip
        rw [if_neg c6] at h
        refine GM_aload_n (pc := 119) 1 rfl (daX11_isMarked_1 6 rfl) rfl ?_
        refine GM_iload_n (pc := 120) 2 rfl (daX11_isMarked_1 7 rfl) rfl ?_
        refine GM_iload_n (pc := 121) 4 rfl (daX11_isMarked_1 8 rfl) rfl ?_
        refine GM_iload (pc := 122) 0 rfl (daX11_isMarked_1 9 rfl) ?_
        refine GM_iload (pc := 124) 8 rfl (daX11_isMarked_1 10 rfl) ?_
        obtain ⟨r7, hf7, h⟩ := Option.bind_eq_some_iff.mp h
        refine GM_callV0 (pc := 126) [(0, v1), (0, v3), (0, r4), (0, v8)] (tX11_isLake l hf7) cwX11_isLake 11 (Nat.le_of_ble_eq_true rfl) rfl kv_X11_isLake ke_X11_isLake km_X11_260 hc3 ⟨Nat.le_of_ble_eq_true rfl, Nat.le_of_ble_eq_true rfl⟩ (Nat.le_of_ble_eq_true rfl) (Nat.le_of_ble_eq_true rfl) (daX11_isMarked_1 11 rfl) ?_
        obtain ⟨hc8, h⟩ := chk_inv h
        cases h
        exact GM_zret (pc := 129) (daX11_isMarked_1 12 rfl) rfl hc8 hK
      · skip
        rw [if_pos c6] at h
        refine GM_aload_n (pc := 106) 1 rfl (daX11_isMarked_0 63 rfl) rfl ?_
        refine GM_iload_n (pc := 107) 2 rfl (daX11_isMarked_1 0 rfl) rfl ?_
        refine GM_iload_n (pc := 108) 4 rfl (daX11_isMarked_1 1 rfl) rfl ?_
        refine GM_iload (pc := 109) 8 rfl (daX11_isMarked_1 2 rfl) ?_
        refine GM_iload (pc := 111) 0 rfl (daX11_isMarked_1 3 rfl) ?_
        obtain ⟨r9, hf9, h⟩ := Option.bind_eq_some_iff.mp h
        refine GM_callV0 (pc := 113) [(0, v1), (0, v3), (0, v8), (0, r4)] (tX11_isLake l hf9) cwX11_isLake 11 (Nat.le_of_ble_eq_true rfl) rfl kv_X11_isLake ke_X11_isLake km_X11_260 hc3 ⟨Nat.le_of_ble_eq_true rfl, Nat.le_of_ble_eq_true rfl⟩ (Nat.le_of_ble_eq_true rfl) (Nat.le_of_ble_eq_true rfl) (daX11_isMarked_1 4 rfl) ?_
        refine GM_goto (pc := 116) 129 (daX11_isMarked_1 5 rfl) rfl ?_
        obtain ⟨hc10, h⟩ := chk_inv h
        cases h
        exact GM_zret (pc := 129) (daX11_isMarked_1 12 rfl) rfl hc10 hK
    · skip
      rw [if_pos c2] at h
      refine GM_iconst (pc := 78) 1 (daX11_isMarked_0 44 rfl) rfl (R32_b rfl) ?_
      cases h
      exact GM_zret (pc := 79) (daX11_isMarked_0 45 rfl) rfl (Or.inr rfl) hK
set_option maxRecDepth 20000 in
theorem gX11_isMarked_45 (l : Launch) {F : FI} {v0 v1 v2 v3 v4 v5 v6 v7 v8 : Int} {μ : Mm} {t : Int} (h : jX11_isMarked_45 v0 v1 v2 v3 v4 v5 v6 v7 v8 μ = some t) (hK : F.1 = [(0, t)] ∧ F.2.1 = μ) : GM l mX11_isMarked F 0 0 45 [(0, (3, v0)), (1, (0, v1)), (2, (0, v2)), (3, (0, v3)), (4, (0, v4)), (5, (0, v5)), (6, (0, v6)), (7, (0, v7)), (8, (0, v8))] [] μ := by
  unfold jX11_isMarked_45 at h
  refine GM_iload (pc := 45) 7 rfl (daX11_isMarked_0 26 rfl) ?_
  refine GM_iconst (pc := 47) 4 (daX11_isMarked_0 27 rfl) rfl (R32_b rfl) ?_
  refine GM_iand (pc := 48) (daX11_isMarked_0 28 rfl) ?_
  refine GM_if_eq (pc := 49) 66 (daX11_isMarked_0 29 rfl) rfl (fun c11 => ?_) (fun c11 => ?_)
  · skip
    rw [if_pos c11] at h
    refine GM_pick [0, 1, 2, 3, 4, 5, 7, 8] rfl ?_
    exact gX11_isMarked_66 l h hK
  · skip
    rw [if_neg c11] at h
    refine GM_aload_n (pc := 52) 0 rfl (daX11_isMarked_0 30 rfl) rfl ?_
    refine GM_iload_n (pc := 53) 1 rfl (daX11_isMarked_0 31 rfl) rfl ?_
    refine GM_iload (pc := 54) 8 rfl (daX11_isMarked_0 32 rfl) ?_
    refine GM_iload (pc := 56) 6 rfl (daX11_isMarked_0 33 rfl) ?_
    obtain ⟨hc12, h⟩ := chk_inv h
    obtain ⟨r13, hf13, h⟩ := Option.bind_eq_some_iff.mp h
    refine GM_callV0 (pc := 58) [(0, v1), (0, v8), (0, v6)] (tX11_isTower l hf13) cwX11_isTower 11 (Nat.le_of_ble_eq_true rfl) rfl kv_X11_isTower ke_X11_isTower km_X11_257 hc12 ⟨Nat.le_of_ble_eq_true rfl, Nat.le_of_ble_eq_true rfl⟩ (Nat.le_of_ble_eq_true rfl) (Nat.le_of_ble_eq_true rfl) (daX11_isMarked_0 34 rfl) ?_
    refine GM_if_eq (pc := 61) 66 (daX11_isMarked_0 35 rfl) rfl (fun c14 => ?_) (fun c14 => ?_)
    · skip
      rw [if_pos c14] at h
      refine GM_pick [0, 1, 2, 3, 4, 5, 7, 8] rfl ?_
      exact gX11_isMarked_66 l h hK
    · skip
      rw [if_neg c14] at h
      refine GM_iconst (pc := 64) 0 (daX11_isMarked_0 36 rfl) rfl (R32_b rfl) ?_
      cases h
      exact GM_zret (pc := 65) (daX11_isMarked_0 37 rfl) rfl (Or.inl rfl) hK
set_option maxRecDepth 20000 in
theorem gX11_isMarked_0 (l : Launch) {F : FI} {v0 v1 v2 v3 v4 v5 v6 : Int} {μ : Mm} {t : Int} (h : fX11_isMarked v0 v1 v2 v3 v4 v5 v6 μ = some t) (hK : F.1 = [(0, t)] ∧ F.2.1 = μ) : GM l mX11_isMarked F 0 0 0 [(0, (3, v0)), (1, (0, v1)), (2, (0, v2)), (3, (0, v3)), (4, (0, v4)), (5, (0, v5)), (6, (0, v6))] [] μ := by
  unfold fX11_isMarked at h
  refine GM_aload_n (pc := 0) 0 rfl (daX11_isMarked_0 0 rfl) rfl ?_
  obtain ⟨hc15, h⟩ := chk_inv h
  refine GM_getf (pc := 1) 11 0 3 0 kf_X11_7 (Nat.le_of_ble_eq_true rfl) (Nat.le_of_ble_eq_true rfl) rfl (daX11_isMarked_0 1 rfl) hc15 rfl ?_
  refine GM_iload_n (pc := 4) 2 rfl (daX11_isMarked_0 2 rfl) rfl ?_
  refine GM_bipush (pc := 5) 19 (daX11_isMarked_0 3 rfl) rfl (R32_b rfl) ?_
  refine GM_iadd (pc := 7) (daX11_isMarked_0 4 rfl) ?_
  refine GM_iload (pc := 8) 5 rfl (daX11_isMarked_0 5 rfl) ?_
  refine GM_iadd (pc := 10) (daX11_isMarked_0 6 rfl) ?_
  obtain ⟨hc16, h⟩ := chk_inv h
  refine GM_iald (pc := 11) (daX11_isMarked_0 7 rfl) hc16.1 hc16.2.1 hc16.2.2 ?_
  obtain ⟨y17, hy17, h⟩ := lt_inv h
  refine GM_top hy17 ?_
  refine GM_istore (L' := [(7, (0, y17)), (0, (3, v0)), (1, (0, v1)), (2, (0, v2)), (3, (0, v3)), (4, (0, v4)), (5, (0, v5)), (6, (0, v6))]) (pc := 12) (daX11_isMarked_0 8 rfl) (Nat.le_of_ble_eq_true rfl) rfl ?_
  refine GM_aload_n (pc := 14) 1 rfl (daX11_isMarked_0 9 rfl) rfl ?_
  refine GM_iload_n (pc := 15) 3 rfl (daX11_isMarked_0 10 rfl) rfl ?_
  refine GM_iload_n (pc := 16) 4 rfl (daX11_isMarked_0 11 rfl) rfl ?_
  refine GM_iload (pc := 17) 5 rfl (daX11_isMarked_0 12 rfl) ?_
  refine GM_iload (pc := 19) 6 rfl (daX11_isMarked_0 13 rfl) ?_
  obtain ⟨r18, hf18, h⟩ := Option.bind_eq_some_iff.mp h
  refine GM_callV0 (pc := 21) [(0, v2), (0, v3), (0, v4), (0, v5)] (tX11_hillOf l hf18) cwX11_hillOf 11 (Nat.le_of_ble_eq_true rfl) rfl kv_X11_hillOf ke_X11_hillOf km_X11_247 hc15 ⟨Nat.le_of_ble_eq_true rfl, Nat.le_of_ble_eq_true rfl⟩ (Nat.le_of_ble_eq_true rfl) (Nat.le_of_ble_eq_true rfl) (daX11_isMarked_0 14 rfl) ?_
  refine GM_istore (L' := [(8, (0, r18)), (7, (0, y17)), (0, (3, v0)), (1, (0, v1)), (2, (0, v2)), (3, (0, v3)), (4, (0, v4)), (5, (0, v5)), (6, (0, v6))]) (pc := 24) (daX11_isMarked_0 15 rfl) (Nat.le_of_ble_eq_true rfl) rfl ?_
  refine GM_iload (pc := 26) 1 rfl (daX11_isMarked_0 16 rfl) ?_
  refine GM_iconst (pc := 28) 2 (daX11_isMarked_0 17 rfl) rfl (R32_b rfl) ?_
  refine GM_iand (pc := 29) (daX11_isMarked_0 18 rfl) ?_
  refine GM_if_eq (pc := 30) 45 (daX11_isMarked_0 19 rfl) rfl (fun c19 => ?_) (fun c19 => ?_)
  · skip
    rw [if_pos c19] at h
    refine GM_pick [2, 3, 4, 5, 6, 7, 8, 1, 0] rfl ?_
    exact gX11_isMarked_45 l h hK
  · skip
    rw [if_neg c19] at h
    refine GM_aload_n (pc := 33) 2 rfl (daX11_isMarked_0 20 rfl) rfl ?_
    refine GM_iload_n (pc := 34) 3 rfl (daX11_isMarked_0 21 rfl) rfl ?_
    refine GM_iload (pc := 35) 0 rfl (daX11_isMarked_0 22 rfl) ?_
    refine GM_iload (pc := 37) 8 rfl (daX11_isMarked_0 23 rfl) ?_
    obtain ⟨r20, hf20, h⟩ := Option.bind_eq_some_iff.mp h
    refine GM_callV0 (pc := 39) [(0, v1), (0, r18), (0, v6)] (tX11_isTower l hf20) cwX11_isTower 11 (Nat.le_of_ble_eq_true rfl) rfl kv_X11_isTower ke_X11_isTower km_X11_257 hc15 ⟨Nat.le_of_ble_eq_true rfl, Nat.le_of_ble_eq_true rfl⟩ (Nat.le_of_ble_eq_true rfl) (Nat.le_of_ble_eq_true rfl) (daX11_isMarked_0 24 rfl) ?_
    refine GM_if_eq (pc := 42) 64 (daX11_isMarked_0 25 rfl) rfl (fun c21 => ?_) (fun c21 => ?_)
    · skip
      rw [if_pos c21] at h
      refine GM_iconst (pc := 64) 0 (daX11_isMarked_0 36 rfl) rfl (R32_b rfl) ?_
      cases h
      exact GM_zret (pc := 65) (daX11_isMarked_0 37 rfl) rfl (Or.inl rfl) hK
    · skip
      rw [if_neg c21] at h
      refine GM_pick [2, 3, 4, 5, 6, 7, 8, 1, 0] rfl ?_
      exact gX11_isMarked_45 l h hK
theorem tX11_isMarked (l : Launch) {v0 v1 v2 v3 v4 v5 v6 : Int} {μ : Mm} {t : Int} (h : fX11_isMarked v0 v1 v2 v3 v4 v5 v6 μ = some t) : Ct l yX11_isMarked mX11_isMarked [(3, v0), (0, v1), (0, v2), (0, v3), (0, v4), (0, v5), (0, v6)] μ ([(0, t)], μ, 0, 0) :=
  Ct_of (by decide +kernel) rfl rfl (Nat.le_of_ble_eq_true rfl) (fun _ _ _ => trivial) (gX11_isMarked_0 l h ⟨rfl, rfl⟩)
def mX11_firstIn : MI := (RX11, cX11_firstIn, 9, (some .int), "firstIn", 7, 184, fun _ _ _ => True)
theorem cwX11_firstIn : CWd yX11_firstIn mX11_firstIn 5 := ⟨ki_X11, kk_X11_firstIn, ⟨by decide, by decide⟩, rfl⟩
def dtX11_firstIn_0 : List (Nat × Instr × Nat) := [(0, .aload_n 0, 1), (1, .iload_n 2, 1), (2, .iload_n 3, 1), (3, .invokevirtual 263, 3), (6, .ifCond .ne 5, 3), (9, .iconst 0, 1), (10, .ireturn, 1), (11, .iconst 0, 1), (12, .istore 6, 2), (14, .iload 6, 2), (16, .aload_n 0, 1), (17, .getfield 7, 3), (20, .iload_n 2, 1), (21, .iaload, 1), (22, .if_icmp .ge 68, 3), (25, .aload_n 0, 1), (26, .iload_n 1, 1), (27, .iload_n 2, 1), (28, .iload_n 3, 1), (29, .iload 4, 2), (31, .iload 6, 2), (33, .iload 5, 2), (35, .invokevirtual 266, 3), (38, .istore 7, 2), (40, .iconst 0, 1), (41, .istore 8, 2), (43, .iload 8, 2), (45, .iload 6, 2), (47, .if_icmp .ge 29, 3), (50, .iload 7, 2), (52, .ifCond .eq 24, 3), (55, .aload_n 0, 1), (56, .iload_n 1, 1), (57, .iload_n 2, 1), (58, .iload_n 3, 1), (59, .iload 4, 2), (61, .iload 8, 2), (63, .iload 6, 2), (65, .invokevirtual 270, 3), (68, .istore 7, 2), (70, .iinc 8 1, 3), (73, .goto (-30), 3), (76, .iload 7, 2), (78, .ifCond .ne 6, 3), (81, .iload 6, 2), (83, .ireturn, 1), (84, .iinc 6 1, 3), (87, .goto (-73), 3), (90, .aload_n 0, 1), (91, .getfield 7, 3), (94, .iload_n 2, 1), (95, .iaload, 1), (96, .ireturn, 1)]
theorem ddX11_firstIn_0 : (dtX11_firstIn_0.all fun e => decide (decode mX11_firstIn.2.1 e.1 = .ok (e.2.1, e.2.2))) = true := by decide +kernel
theorem daX11_firstIn_0 (j : Nat) {pc n : Nat} {i : Instr} (h : dtX11_firstIn_0[j]? = some (pc, i, n)) : decode mX11_firstIn.2.1 pc = .ok (i, n) := dec_of (c := mX11_firstIn.2.1) ddX11_firstIn_0 h
def zX11_firstIn_43 (l : Launch) (F : FI) (v0 v1 v2 v3 v4 v5 v6 : Int) (μ : Mm) (k n : Nat) : (Int × Int) ⊕ Int → Prop
  | .inl (v7, v8) => GM l mX11_firstIn F k n 43 [(0, (3, v0)), (1, (0, v1)), (2, (0, v2)), (3, (0, v3)), (4, (0, v4)), (5, (0, v5)), (6, (0, v6)), (7, (0, v7)), (8, (0, v8))] [] μ
  | .inr v7 => GM l mX11_firstIn F k n 76 [(0, (3, v0)), (1, (0, v1)), (2, (0, v2)), (3, (0, v3)), (4, (0, v4)), (5, (0, v5)), (6, (0, v6)), (7, (0, v7))] [] μ
def sX11_firstIn_43 (v0 v1 v2 v3 v4 v5 v6 : Int) (μ : Mm) : (Int × Int) → Option ((Int × Int) ⊕ Int) := fun (v7, v8) =>
  if v6 ≤ v8 then
    some (.inr v7)
  else
    if v7 = 0 then
      some (.inr v7)
    else
      chk (KD v0 = 11) (
      (fX11_areRight v0 v1 v2 v3 v4 v8 v6 μ).bind fun r4 =>
      some (.inl (r4, w32 (v8 + 1))))
def zX11_firstIn_14 (l : Launch) (F : FI) (v0 v1 v2 v3 v4 v5 : Int) (μ : Mm) (k n : Nat) : Int ⊕ (Unit ⊕ Int) → Prop
  | .inl v6 => GM l mX11_firstIn F k n 14 [(0, (3, v0)), (1, (0, v1)), (2, (0, v2)), (3, (0, v3)), (4, (0, v4)), (5, (0, v5)), (6, (0, v6))] [] μ
  | .inr (.inl ()) => GM l mX11_firstIn F k n 90 [(0, (3, v0)), (2, (0, v2))] [] μ
  | .inr (.inr v6) => GM l mX11_firstIn F k n 81 [(6, (0, v6))] [] μ
def sX11_firstIn_14 (v0 v1 v2 v3 v4 v5 : Int) (μ : Mm) : Int → Option (Int ⊕ (Unit ⊕ Int)) := fun v6 =>
  chk (KD v0 = 11) (
  chk (KD (μ v0 0) = 12 ∧ 0 ≤ v2 ∧ v2 < LN (μ v0 0)) (
  if μ (μ v0 0) v2 ≤ v6 then
    some (.inr (.inl ()))
  else
    (fX11_isMarked v0 v1 v2 v3 v4 v6 v5 μ).bind fun r8 =>
    (lop (sX11_firstIn_43 v0 v1 v2 v3 v4 v5 v6 μ) FU (r8, 0)).bind fun v7_10 =>
      if v7_10 = 0 then
        some (.inr (.inr v6))
      else
        some (.inl (w32 (v6 + 1)))))
def fX11_firstIn (v0 v1 v2 v3 v4 v5 : Int) (μ : Mm) : Option Int :=
  chk (KD v0 = 11) (
  (fX11_canBe v0 v2 v3 μ).bind fun r13 =>
  if r13 = 0 then
    some 0
  else
    (lop (sX11_firstIn_14 v0 v1 v2 v3 v4 v5 μ) FU 0).bind fun x15 =>
      match x15 with
      | (.inl ()) =>
          chk (KD (μ v0 0) = 12 ∧ 0 ≤ v2 ∧ v2 < LN (μ v0 0)) (
          some (μ (μ v0 0) v2))
      | (.inr v6_17) =>
          some v6_17)
set_option maxRecDepth 20000 in
theorem qX11_firstIn_43 (l : Launch) (F : FI) (v0 v1 v2 v3 v4 v5 v6 : Int) (μ : Mm) (k n : Nat) : ∀ (q : (Int × Int)) (t : ((Int × Int) ⊕ Int)), sX11_firstIn_43 v0 v1 v2 v3 v4 v5 v6 μ q = some t → zX11_firstIn_43 l F v0 v1 v2 v3 v4 v5 v6 μ k n t → zX11_firstIn_43 l F v0 v1 v2 v3 v4 v5 v6 μ k n (.inl q) := by
  intro q t h hK
  obtain ⟨v7, v8⟩ := q
  unfold sX11_firstIn_43 at h
  try dsimp only at h
  show GM l mX11_firstIn F k n 43 [(0, (3, v0)), (1, (0, v1)), (2, (0, v2)), (3, (0, v3)), (4, (0, v4)), (5, (0, v5)), (6, (0, v6)), (7, (0, v7)), (8, (0, v8))] [] μ
  refine GM_iload (pc := 43) 8 rfl (daX11_firstIn_0 26 rfl) ?_
  refine GM_iload (pc := 45) 6 rfl (daX11_firstIn_0 27 rfl) ?_
  refine GM_icmp_ge (pc := 47) 76 (daX11_firstIn_0 28 rfl) rfl (fun c1 => ?_) (fun c1 => ?_)
  · skip
    rw [if_pos c1] at h
    refine GM_pick [0, 1, 2, 3, 4, 5, 6, 7] rfl ?_
    cases h
    exact hK
  · skip
    rw [if_neg c1] at h
    refine GM_iload (pc := 50) 7 rfl (daX11_firstIn_0 29 rfl) ?_
    refine GM_if_eq (pc := 52) 76 (daX11_firstIn_0 30 rfl) rfl (fun c2 => ?_) (fun c2 => ?_)
    · skip
      rw [if_pos c2] at h
      refine GM_pick [0, 1, 2, 3, 4, 5, 6, 7] rfl ?_
      cases h
      exact hK
    · skip
      rw [if_neg c2] at h
      refine GM_aload_n (pc := 55) 0 rfl (daX11_firstIn_0 31 rfl) rfl ?_
      refine GM_iload_n (pc := 56) 1 rfl (daX11_firstIn_0 32 rfl) rfl ?_
      refine GM_iload_n (pc := 57) 2 rfl (daX11_firstIn_0 33 rfl) rfl ?_
      refine GM_iload_n (pc := 58) 3 rfl (daX11_firstIn_0 34 rfl) rfl ?_
      refine GM_iload (pc := 59) 4 rfl (daX11_firstIn_0 35 rfl) ?_
      refine GM_iload (pc := 61) 8 rfl (daX11_firstIn_0 36 rfl) ?_
      refine GM_iload (pc := 63) 6 rfl (daX11_firstIn_0 37 rfl) ?_
      obtain ⟨hc3, h⟩ := chk_inv h
      obtain ⟨r4, hf4, h⟩ := Option.bind_eq_some_iff.mp h
      refine GM_callV0 (pc := 65) [(0, v1), (0, v2), (0, v3), (0, v4), (0, v8), (0, v6)] (tX11_areRight l hf4) cwX11_areRight 11 (Nat.le_of_ble_eq_true rfl) rfl kv_X11_areRight ke_X11_areRight km_X11_270 hc3 ⟨Nat.le_of_ble_eq_true rfl, Nat.le_of_ble_eq_true rfl⟩ (Nat.le_of_ble_eq_true rfl) (Nat.le_of_ble_eq_true rfl) (daX11_firstIn_0 38 rfl) ?_
      refine GM_istore (L' := [(7, (0, r4)), (0, (3, v0)), (1, (0, v1)), (2, (0, v2)), (3, (0, v3)), (4, (0, v4)), (5, (0, v5)), (6, (0, v6)), (8, (0, v8))]) (pc := 68) (daX11_firstIn_0 39 rfl) (Nat.le_of_ble_eq_true rfl) rfl ?_
      refine GM_iinc (L' := [(8, (0, w32 (v8 + 1))), (7, (0, r4)), (0, (3, v0)), (1, (0, v1)), (2, (0, v2)), (3, (0, v3)), (4, (0, v4)), (5, (0, v5)), (6, (0, v6))]) (pc := 70) 8 rfl (daX11_firstIn_0 40 rfl) (Nat.le_of_ble_eq_true rfl) rfl ?_
      refine GM_goto (pc := 73) 43 (daX11_firstIn_0 41 rfl) rfl ?_
      refine GM_pick [2, 3, 4, 5, 6, 7, 8, 1, 0] rfl ?_
      cases h
      exact hK
set_option maxRecDepth 20000 in
theorem qX11_firstIn_14 (l : Launch) (F : FI) (v0 v1 v2 v3 v4 v5 : Int) (μ : Mm) (k n : Nat) : ∀ (q : Int) (t : (Int ⊕ (Unit ⊕ Int))), sX11_firstIn_14 v0 v1 v2 v3 v4 v5 μ q = some t → zX11_firstIn_14 l F v0 v1 v2 v3 v4 v5 μ k n t → zX11_firstIn_14 l F v0 v1 v2 v3 v4 v5 μ k n (.inl q) := by
  intro q t h hK
  obtain ⟨v6, hqq⟩ : ∃ z, z = q := ⟨q, rfl⟩
  subst hqq
  unfold sX11_firstIn_14 at h
  try dsimp only at h
  show GM l mX11_firstIn F k n 14 [(0, (3, v0)), (1, (0, v1)), (2, (0, v2)), (3, (0, v3)), (4, (0, v4)), (5, (0, v5)), (6, (0, v6))] [] μ
  refine GM_iload (pc := 14) 6 rfl (daX11_firstIn_0 9 rfl) ?_
  refine GM_aload_n (pc := 16) 0 rfl (daX11_firstIn_0 10 rfl) rfl ?_
  obtain ⟨hc5, h⟩ := chk_inv h
  refine GM_getf (pc := 17) 11 0 3 0 kf_X11_7 (Nat.le_of_ble_eq_true rfl) (Nat.le_of_ble_eq_true rfl) rfl (daX11_firstIn_0 11 rfl) hc5 rfl ?_
  refine GM_iload_n (pc := 20) 2 rfl (daX11_firstIn_0 12 rfl) rfl ?_
  obtain ⟨hc6, h⟩ := chk_inv h
  refine GM_iald (pc := 21) (daX11_firstIn_0 13 rfl) hc6.1 hc6.2.1 hc6.2.2 ?_
  refine GM_icmp_ge (pc := 22) 90 (daX11_firstIn_0 14 rfl) rfl (fun c7 => ?_) (fun c7 => ?_)
  · skip
    rw [if_pos c7] at h
    refine GM_pick [0, 2] rfl ?_
    cases h
    exact hK
  · skip
    rw [if_neg c7] at h
    refine GM_aload_n (pc := 25) 0 rfl (daX11_firstIn_0 15 rfl) rfl ?_
    refine GM_iload_n (pc := 26) 1 rfl (daX11_firstIn_0 16 rfl) rfl ?_
    refine GM_iload_n (pc := 27) 2 rfl (daX11_firstIn_0 17 rfl) rfl ?_
    refine GM_iload_n (pc := 28) 3 rfl (daX11_firstIn_0 18 rfl) rfl ?_
    refine GM_iload (pc := 29) 4 rfl (daX11_firstIn_0 19 rfl) ?_
    refine GM_iload (pc := 31) 6 rfl (daX11_firstIn_0 20 rfl) ?_
    refine GM_iload (pc := 33) 5 rfl (daX11_firstIn_0 21 rfl) ?_
    obtain ⟨r8, hf8, h⟩ := Option.bind_eq_some_iff.mp h
    refine GM_callV0 (pc := 35) [(0, v1), (0, v2), (0, v3), (0, v4), (0, v6), (0, v5)] (tX11_isMarked l hf8) cwX11_isMarked 11 (Nat.le_of_ble_eq_true rfl) rfl kv_X11_isMarked ke_X11_isMarked km_X11_266 hc5 ⟨Nat.le_of_ble_eq_true rfl, Nat.le_of_ble_eq_true rfl⟩ (Nat.le_of_ble_eq_true rfl) (Nat.le_of_ble_eq_true rfl) (daX11_firstIn_0 22 rfl) ?_
    refine GM_istore (L' := [(7, (0, r8)), (0, (3, v0)), (1, (0, v1)), (2, (0, v2)), (3, (0, v3)), (4, (0, v4)), (5, (0, v5)), (6, (0, v6))]) (pc := 38) (daX11_firstIn_0 23 rfl) (Nat.le_of_ble_eq_true rfl) rfl ?_
    refine GM_iconst (pc := 40) 0 (daX11_firstIn_0 24 rfl) rfl (R32_b rfl) ?_
    refine GM_istore (L' := [(8, (0, 0)), (7, (0, r8)), (0, (3, v0)), (1, (0, v1)), (2, (0, v2)), (3, (0, v3)), (4, (0, v4)), (5, (0, v5)), (6, (0, v6))]) (pc := 41) (daX11_firstIn_0 25 rfl) (Nat.le_of_ble_eq_true rfl) rfl ?_
    refine GM_pick [2, 3, 4, 5, 6, 7, 8, 1, 0] rfl ?_
    obtain ⟨x9, hqx9, h⟩ := Option.bind_eq_some_iff.mp h
    refine lop_ind (zX11_firstIn_43 l F v0 v1 v2 v3 v4 v5 v6 μ k n) (qX11_firstIn_43 l F v0 v1 v2 v3 v4 v5 v6 μ k n) FU _ x9 hqx9 ?_
    obtain ⟨v7_10, hqq⟩ : ∃ z, z = x9 := ⟨x9, rfl⟩
    subst hqq
    show GM l mX11_firstIn F k n 76 [(0, (3, v0)), (1, (0, v1)), (2, (0, v2)), (3, (0, v3)), (4, (0, v4)), (5, (0, v5)), (6, (0, v6)), (7, (0, v7_10))] [] μ
    refine GM_iload (pc := 76) 7 rfl (daX11_firstIn_0 42 rfl) ?_
    refine GM_if_ne (pc := 78) 84 (daX11_firstIn_0 43 rfl) rfl (fun c11 => ?_) (fun c11 => ?_)
    · skip
      rw [if_neg c11] at h
      refine GM_iinc (L' := [(6, (0, w32 (v6 + 1))), (0, (3, v0)), (1, (0, v1)), (2, (0, v2)), (3, (0, v3)), (4, (0, v4)), (5, (0, v5)), (7, (0, v7_10))]) (pc := 84) 6 rfl (daX11_firstIn_0 46 rfl) (Nat.le_of_ble_eq_true rfl) rfl ?_
      refine GM_goto (pc := 87) 14 (daX11_firstIn_0 47 rfl) rfl ?_
      refine GM_pick [1, 2, 3, 4, 5, 6, 0] rfl ?_
      cases h
      exact hK
    · skip
      rw [if_pos c11] at h
      refine GM_pick [6] rfl ?_
      cases h
      exact hK
set_option maxRecDepth 20000 in
theorem gX11_firstIn_0 (l : Launch) {F : FI} {v0 v1 v2 v3 v4 v5 : Int} {μ : Mm} {t : Int} (h : fX11_firstIn v0 v1 v2 v3 v4 v5 μ = some t) (hK : F.1 = [(0, t)] ∧ F.2.1 = μ) : GM l mX11_firstIn F 0 0 0 [(0, (3, v0)), (1, (0, v1)), (2, (0, v2)), (3, (0, v3)), (4, (0, v4)), (5, (0, v5))] [] μ := by
  unfold fX11_firstIn at h
  refine GM_aload_n (pc := 0) 0 rfl (daX11_firstIn_0 0 rfl) rfl ?_
  refine GM_iload_n (pc := 1) 2 rfl (daX11_firstIn_0 1 rfl) rfl ?_
  refine GM_iload_n (pc := 2) 3 rfl (daX11_firstIn_0 2 rfl) rfl ?_
  obtain ⟨hc12, h⟩ := chk_inv h
  obtain ⟨r13, hf13, h⟩ := Option.bind_eq_some_iff.mp h
  refine GM_callV0 (pc := 3) [(0, v2), (0, v3)] (tX11_canBe l hf13) cwX11_canBe 11 (Nat.le_of_ble_eq_true rfl) rfl kv_X11_canBe ke_X11_canBe km_X11_263 hc12 ⟨Nat.le_of_ble_eq_true rfl, Nat.le_of_ble_eq_true rfl⟩ (Nat.le_of_ble_eq_true rfl) (Nat.le_of_ble_eq_true rfl) (daX11_firstIn_0 3 rfl) ?_
  refine GM_if_ne (pc := 6) 11 (daX11_firstIn_0 4 rfl) rfl (fun c14 => ?_) (fun c14 => ?_)
  · skip
    rw [if_neg c14] at h
    refine GM_iconst (pc := 11) 0 (daX11_firstIn_0 7 rfl) rfl (R32_b rfl) ?_
    refine GM_istore (L' := [(6, (0, 0)), (0, (3, v0)), (1, (0, v1)), (2, (0, v2)), (3, (0, v3)), (4, (0, v4)), (5, (0, v5))]) (pc := 12) (daX11_firstIn_0 8 rfl) (Nat.le_of_ble_eq_true rfl) rfl ?_
    refine GM_pick [1, 2, 3, 4, 5, 6, 0] rfl ?_
    obtain ⟨x15, hqx15, h⟩ := Option.bind_eq_some_iff.mp h
    refine lop_ind (zX11_firstIn_14 l F v0 v1 v2 v3 v4 v5 μ 0 0) (qX11_firstIn_14 l F v0 v1 v2 v3 v4 v5 μ 0 0) FU _ x15 hqx15 ?_
    rcases x15 with _ | v6_17
    · dsimp only at h
      show GM l mX11_firstIn F 0 0 90 [(0, (3, v0)), (2, (0, v2))] [] μ
      refine GM_aload_n (pc := 90) 0 rfl (daX11_firstIn_0 48 rfl) rfl ?_
      refine GM_getf (pc := 91) 11 0 3 0 kf_X11_7 (Nat.le_of_ble_eq_true rfl) (Nat.le_of_ble_eq_true rfl) rfl (daX11_firstIn_0 49 rfl) hc12 rfl ?_
      refine GM_iload_n (pc := 94) 1 rfl (daX11_firstIn_0 50 rfl) rfl ?_
      obtain ⟨hc18, h⟩ := chk_inv h
      refine GM_iald (pc := 95) (daX11_firstIn_0 51 rfl) hc18.1 hc18.2.1 hc18.2.2 ?_
      cases h
      exact GM_iret (pc := 96) (daX11_firstIn_0 52 rfl) rfl hK
    · dsimp only at h
      show GM l mX11_firstIn F 0 0 81 [(6, (0, v6_17))] [] μ
      refine GM_iload (pc := 81) 0 rfl (daX11_firstIn_0 44 rfl) ?_
      cases h
      exact GM_iret (pc := 83) (daX11_firstIn_0 45 rfl) rfl hK
  · skip
    rw [if_pos c14] at h
    refine GM_iconst (pc := 9) 0 (daX11_firstIn_0 5 rfl) rfl (R32_b rfl) ?_
    cases h
    exact GM_iret (pc := 10) (daX11_firstIn_0 6 rfl) rfl hK
theorem tX11_firstIn (l : Launch) {v0 v1 v2 v3 v4 v5 : Int} {μ : Mm} {t : Int} (h : fX11_firstIn v0 v1 v2 v3 v4 v5 μ = some t) : Ct l yX11_firstIn mX11_firstIn [(3, v0), (0, v1), (0, v2), (0, v3), (0, v4), (0, v5)] μ ([(0, t)], μ, 0, 0) :=
  Ct_of (by decide +kernel) rfl rfl (Nat.le_of_ble_eq_true rfl) (fun _ _ _ => trivial) (gX11_firstIn_0 l h ⟨rfl, rfl⟩)
def mX11_nextYear : MI := (RX11, cX11_nextYear, 6, (some .int), "nextYear", 0, 0, fun _ _ _ => True)
theorem cwX11_nextYear : CWd yX11_nextYear mX11_nextYear 2 := ⟨ki_X11, kk_X11_nextYear, ⟨by decide, by decide⟩, rfl⟩
def dtX11_nextYear_0 : List (Nat × Instr × Nat) := [(0, .bipush 100, 2), (2, .istore_n 3, 1), (3, .iconst 0, 1), (4, .istore 4, 2), (6, .iload 4, 2), (8, .aload_n 0, 1), (9, .getfield 7, 3), (12, .iload_n 1, 1), (13, .iconst 5, 1), (14, .iadd, 1), (15, .iaload, 1), (16, .if_icmp .ge 121, 3), (19, .iload_n 1, 1), (20, .sipush 150, 3), (23, .iadd, 1), (24, .iconst 4, 1), (25, .iload 4, 2), (27, .imul, 1), (28, .iadd, 1), (29, .istore 5, 2), (31, .aload_n 0, 1), (32, .getfield 7, 3), (35, .iload 5, 2), (37, .iaload, 1), (38, .iconst 1, 1), (39, .if_icmp .ne 39, 3), (42, .aload_n 0, 1), (43, .getfield 7, 3), (46, .iload 5, 2), (48, .iconst 2, 1), (49, .iadd, 1), (50, .iaload, 1), (51, .iload_n 2, 1), (52, .if_icmp .le 26, 3), (55, .aload_n 0, 1), (56, .getfield 7, 3), (59, .iload 5, 2), (61, .iconst 2, 1), (62, .iadd, 1), (63, .iaload, 1), (64, .iload_n 3, 1), (65, .if_icmp .ge 13, 3), (68, .aload_n 0, 1), (69, .getfield 7, 3), (72, .iload 5, 2), (74, .iconst 2, 1), (75, .iadd, 1), (76, .iaload, 1), (77, .istore_n 3, 1), (78, .aload_n 0, 1), (79, .getfield 7, 3), (82, .iload 5, 2), (84, .iaload, 1), (85, .iconst 1, 1), (86, .if_icmp .ne 45, 3), (89, .aload_n 0, 1), (90, .getfield 7, 3), (93, .iload 5, 2), (95, .iconst 3, 1), (96, .iadd, 1), (97, .iaload, 1), (98, .iconst 1, 1), (99, .iadd, 1), (100, .iload_n 2, 1)]
theorem ddX11_nextYear_0 : (dtX11_nextYear_0.all fun e => decide (decode mX11_nextYear.2.1 e.1 = .ok (e.2.1, e.2.2))) = true := by decide +kernel
theorem daX11_nextYear_0 (j : Nat) {pc n : Nat} {i : Instr} (h : dtX11_nextYear_0[j]? = some (pc, i, n)) : decode mX11_nextYear.2.1 pc = .ok (i, n) := dec_of (c := mX11_nextYear.2.1) ddX11_nextYear_0 h
def dtX11_nextYear_1 : List (Nat × Instr × Nat) := [(101, .if_icmp .le 30, 3), (104, .aload_n 0, 1), (105, .getfield 7, 3), (108, .iload 5, 2), (110, .iconst 3, 1), (111, .iadd, 1), (112, .iaload, 1), (113, .iconst 1, 1), (114, .iadd, 1), (115, .iload_n 3, 1), (116, .if_icmp .ge 15, 3), (119, .aload_n 0, 1), (120, .getfield 7, 3), (123, .iload 5, 2), (125, .iconst 3, 1), (126, .iadd, 1), (127, .iaload, 1), (128, .iconst 1, 1), (129, .iadd, 1), (130, .istore_n 3, 1), (131, .iinc 4 1, 3), (134, .goto (-128), 3), (137, .iload_n 3, 1), (138, .ireturn, 1)]
theorem ddX11_nextYear_1 : (dtX11_nextYear_1.all fun e => decide (decode mX11_nextYear.2.1 e.1 = .ok (e.2.1, e.2.2))) = true := by decide +kernel
theorem daX11_nextYear_1 (j : Nat) {pc n : Nat} {i : Instr} (h : dtX11_nextYear_1[j]? = some (pc, i, n)) : decode mX11_nextYear.2.1 pc = .ok (i, n) := dec_of (c := mX11_nextYear.2.1) ddX11_nextYear_1 h
def jX11_nextYear_78 (v0 v1 v2 v3 v4 v5 : Int) (μ : Mm) : Option ((Int × Int) ⊕ Int) :=
  chk (KD v0 = 11) (
  chk (KD (μ v0 0) = 12 ∧ 0 ≤ v5 ∧ v5 < LN (μ v0 0)) (
  if μ (μ v0 0) v5 = 1 then
    chk (0 ≤ w32 (v5 + 3) ∧ w32 (v5 + 3) < LN (μ v0 0)) (
    if w32 ((μ (μ v0 0) (w32 (v5 + 3))) + 1) ≤ v2 then
      some (.inl (v3, w32 (v4 + 1)))
    else
      if v3 ≤ w32 ((μ (μ v0 0) (w32 (v5 + 3))) + 1) then
        some (.inl (v3, w32 (v4 + 1)))
      else
        lt (w32 ((μ (μ v0 0) (w32 (v5 + 3))) + 1)) fun y7 =>
        some (.inl (y7, w32 (v4 + 1))))
  else
    some (.inl (v3, w32 (v4 + 1)))))
def zX11_nextYear_6 (l : Launch) (F : FI) (v0 v1 v2 : Int) (μ : Mm) (k n : Nat) : (Int × Int) ⊕ Int → Prop
  | .inl (v3, v4) => GM l mX11_nextYear F k n 6 [(0, (3, v0)), (1, (0, v1)), (2, (0, v2)), (3, (0, v3)), (4, (0, v4))] [] μ
  | .inr v3 => GM l mX11_nextYear F k n 137 [(3, (0, v3))] [] μ
def sX11_nextYear_6 (v0 v1 v2 : Int) (μ : Mm) : (Int × Int) → Option ((Int × Int) ⊕ Int) := fun (v3, v4) =>
  chk (KD v0 = 11) (
  chk (KD (μ v0 0) = 12 ∧ 0 ≤ w32 (v1 + 5) ∧ w32 (v1 + 5) < LN (μ v0 0)) (
  if μ (μ v0 0) (w32 (v1 + 5)) ≤ v4 then
    some (.inr v3)
  else
    lt (w32 ((w32 (v1 + 150)) + (w32 (4 * v4)))) fun y11 =>
    chk (0 ≤ y11 ∧ y11 < LN (μ v0 0)) (
    if μ (μ v0 0) y11 = 1 then
      chk (0 ≤ w32 (y11 + 2) ∧ w32 (y11 + 2) < LN (μ v0 0)) (
      if μ (μ v0 0) (w32 (y11 + 2)) ≤ v2 then
        jX11_nextYear_78 v0 v1 v2 v3 v4 y11 μ
      else
        if v3 ≤ μ (μ v0 0) (w32 (y11 + 2)) then
          jX11_nextYear_78 v0 v1 v2 v3 v4 y11 μ
        else
          lt (μ (μ v0 0) (w32 (y11 + 2))) fun y17 =>
          jX11_nextYear_78 v0 v1 v2 y17 v4 y11 μ)
    else
      jX11_nextYear_78 v0 v1 v2 v3 v4 y11 μ)))
def fX11_nextYear (v0 v1 v2 : Int) (μ : Mm) : Option Int :=
  (lop (sX11_nextYear_6 v0 v1 v2 μ) FU (100, 0)).bind fun v3_19 =>
    some v3_19
set_option maxRecDepth 20000 in
theorem gX11_nextYear_78 (l : Launch) {F : FI} {v0 v1 v2 v3 v4 v5 : Int} {μ : Mm} {t : ((Int × Int) ⊕ Int)} {k n : Nat} (h : jX11_nextYear_78 v0 v1 v2 v3 v4 v5 μ = some t) (hK : zX11_nextYear_6 l F v0 v1 v2 μ k n t) : GM l mX11_nextYear F k n 78 [(0, (3, v0)), (1, (0, v1)), (2, (0, v2)), (3, (0, v3)), (4, (0, v4)), (5, (0, v5))] [] μ := by
  unfold jX11_nextYear_78 at h
  refine GM_aload_n (pc := 78) 0 rfl (daX11_nextYear_0 49 rfl) rfl ?_
  obtain ⟨hc1, h⟩ := chk_inv h
  refine GM_getf (pc := 79) 11 0 3 0 kf_X11_7 (Nat.le_of_ble_eq_true rfl) (Nat.le_of_ble_eq_true rfl) rfl (daX11_nextYear_0 50 rfl) hc1 rfl ?_
  refine GM_iload (pc := 82) 5 rfl (daX11_nextYear_0 51 rfl) ?_
  obtain ⟨hc2, h⟩ := chk_inv h
  refine GM_iald (pc := 84) (daX11_nextYear_0 52 rfl) hc2.1 hc2.2.1 hc2.2.2 ?_
  refine GM_iconst (pc := 85) 1 (daX11_nextYear_0 53 rfl) rfl (R32_b rfl) ?_
  refine GM_icmp_ne (pc := 86) 131 (daX11_nextYear_0 54 rfl) rfl (fun c3 => ?_) (fun c3 => ?_)
  · skip
    rw [if_neg c3] at h
    refine GM_iinc (L' := [(4, (0, w32 (v4 + 1))), (0, (3, v0)), (1, (0, v1)), (2, (0, v2)), (3, (0, v3)), (5, (0, v5))]) (pc := 131) 4 rfl (daX11_nextYear_1 20 rfl) (Nat.le_of_ble_eq_true rfl) rfl ?_
    refine GM_goto (pc := 134) 6 (daX11_nextYear_1 21 rfl) rfl ?_
    refine GM_pick [1, 2, 3, 4, 0] rfl ?_
    cases h
    exact hK
  · skip
    rw [if_pos c3] at h
    refine GM_aload_n (pc := 89) 0 rfl (daX11_nextYear_0 55 rfl) rfl ?_
    refine GM_getf (pc := 90) 11 0 3 0 kf_X11_7 (Nat.le_of_ble_eq_true rfl) (Nat.le_of_ble_eq_true rfl) rfl (daX11_nextYear_0 56 rfl) hc1 rfl ?_
    refine GM_iload (pc := 93) 5 rfl (daX11_nextYear_0 57 rfl) ?_
    refine GM_iconst (pc := 95) 3 (daX11_nextYear_0 58 rfl) rfl (R32_b rfl) ?_
    refine GM_iadd (pc := 96) (daX11_nextYear_0 59 rfl) ?_
    obtain ⟨hc4, h⟩ := chk_inv h
    refine GM_iald (pc := 97) (daX11_nextYear_0 60 rfl) hc2.1 hc4.1 hc4.2 ?_
    refine GM_iconst (pc := 98) 1 (daX11_nextYear_0 61 rfl) rfl (R32_b rfl) ?_
    refine GM_iadd (pc := 99) (daX11_nextYear_0 62 rfl) ?_
    refine GM_iload_n (pc := 100) 2 rfl (daX11_nextYear_0 63 rfl) rfl ?_
    refine GM_icmp_le (pc := 101) 131 (daX11_nextYear_1 0 rfl) rfl (fun c5 => ?_) (fun c5 => ?_)
    · skip
      rw [if_pos c5] at h
      refine GM_iinc (L' := [(4, (0, w32 (v4 + 1))), (0, (3, v0)), (1, (0, v1)), (2, (0, v2)), (3, (0, v3)), (5, (0, v5))]) (pc := 131) 4 rfl (daX11_nextYear_1 20 rfl) (Nat.le_of_ble_eq_true rfl) rfl ?_
      refine GM_goto (pc := 134) 6 (daX11_nextYear_1 21 rfl) rfl ?_
      refine GM_pick [1, 2, 3, 4, 0] rfl ?_
      cases h
      exact hK
    · skip
      rw [if_neg c5] at h
      refine GM_aload_n (pc := 104) 0 rfl (daX11_nextYear_1 1 rfl) rfl ?_
      refine GM_getf (pc := 105) 11 0 3 0 kf_X11_7 (Nat.le_of_ble_eq_true rfl) (Nat.le_of_ble_eq_true rfl) rfl (daX11_nextYear_1 2 rfl) hc1 rfl ?_
      refine GM_iload (pc := 108) 5 rfl (daX11_nextYear_1 3 rfl) ?_
      refine GM_iconst (pc := 110) 3 (daX11_nextYear_1 4 rfl) rfl (R32_b rfl) ?_
      refine GM_iadd (pc := 111) (daX11_nextYear_1 5 rfl) ?_
      refine GM_iald (pc := 112) (daX11_nextYear_1 6 rfl) hc2.1 hc4.1 hc4.2 ?_
      refine GM_iconst (pc := 113) 1 (daX11_nextYear_1 7 rfl) rfl (R32_b rfl) ?_
      refine GM_iadd (pc := 114) (daX11_nextYear_1 8 rfl) ?_
      refine GM_iload_n (pc := 115) 3 rfl (daX11_nextYear_1 9 rfl) rfl ?_
      refine GM_icmp_ge (pc := 116) 131 (daX11_nextYear_1 10 rfl) rfl (fun c6 => ?_) (fun c6 => ?_)
      · skip
        rw [if_pos c6] at h
        refine GM_iinc (L' := [(4, (0, w32 (v4 + 1))), (0, (3, v0)), (1, (0, v1)), (2, (0, v2)), (3, (0, v3)), (5, (0, v5))]) (pc := 131) 4 rfl (daX11_nextYear_1 20 rfl) (Nat.le_of_ble_eq_true rfl) rfl ?_
        refine GM_goto (pc := 134) 6 (daX11_nextYear_1 21 rfl) rfl ?_
        refine GM_pick [1, 2, 3, 4, 0] rfl ?_
        cases h
        exact hK
      · skip
        rw [if_neg c6] at h
        refine GM_aload_n (pc := 119) 0 rfl (daX11_nextYear_1 11 rfl) rfl ?_
        refine GM_getf (pc := 120) 11 0 3 0 kf_X11_7 (Nat.le_of_ble_eq_true rfl) (Nat.le_of_ble_eq_true rfl) rfl (daX11_nextYear_1 12 rfl) hc1 rfl ?_
        refine GM_iload (pc := 123) 5 rfl (daX11_nextYear_1 13 rfl) ?_
        refine GM_iconst (pc := 125) 3 (daX11_nextYear_1 14 rfl) rfl (R32_b rfl) ?_
        refine GM_iadd (pc := 126) (daX11_nextYear_1 15 rfl) ?_
        refine GM_iald (pc := 127) (daX11_nextYear_1 16 rfl) hc2.1 hc4.1 hc4.2 ?_
        refine GM_iconst (pc := 128) 1 (daX11_nextYear_1 17 rfl) rfl (R32_b rfl) ?_
        refine GM_iadd (pc := 129) (daX11_nextYear_1 18 rfl) ?_
        obtain ⟨y7, hy7, h⟩ := lt_inv h
        refine GM_top hy7 ?_
        refine GM_istore_n (L' := [(3, (0, y7)), (0, (3, v0)), (1, (0, v1)), (2, (0, v2)), (4, (0, v4)), (5, (0, v5))]) (pc := 130) (daX11_nextYear_1 19 rfl) rfl (Nat.le_of_ble_eq_true rfl) rfl ?_
        refine GM_iinc (L' := [(4, (0, w32 (v4 + 1))), (3, (0, y7)), (0, (3, v0)), (1, (0, v1)), (2, (0, v2)), (5, (0, v5))]) (pc := 131) 4 rfl (daX11_nextYear_1 20 rfl) (Nat.le_of_ble_eq_true rfl) rfl ?_
        refine GM_goto (pc := 134) 6 (daX11_nextYear_1 21 rfl) rfl ?_
        refine GM_pick [2, 3, 4, 1, 0] rfl ?_
        cases h
        exact hK
set_option maxRecDepth 20000 in
theorem qX11_nextYear_6 (l : Launch) (F : FI) (v0 v1 v2 : Int) (μ : Mm) (k n : Nat) : ∀ (q : (Int × Int)) (t : ((Int × Int) ⊕ Int)), sX11_nextYear_6 v0 v1 v2 μ q = some t → zX11_nextYear_6 l F v0 v1 v2 μ k n t → zX11_nextYear_6 l F v0 v1 v2 μ k n (.inl q) := by
  intro q t h hK
  obtain ⟨v3, v4⟩ := q
  unfold sX11_nextYear_6 at h
  try dsimp only at h
  show GM l mX11_nextYear F k n 6 [(0, (3, v0)), (1, (0, v1)), (2, (0, v2)), (3, (0, v3)), (4, (0, v4))] [] μ
  refine GM_iload (pc := 6) 4 rfl (daX11_nextYear_0 4 rfl) ?_
  refine GM_aload_n (pc := 8) 0 rfl (daX11_nextYear_0 5 rfl) rfl ?_
  obtain ⟨hc8, h⟩ := chk_inv h
  refine GM_getf (pc := 9) 11 0 3 0 kf_X11_7 (Nat.le_of_ble_eq_true rfl) (Nat.le_of_ble_eq_true rfl) rfl (daX11_nextYear_0 6 rfl) hc8 rfl ?_
  refine GM_iload_n (pc := 12) 1 rfl (daX11_nextYear_0 7 rfl) rfl ?_
  refine GM_iconst (pc := 13) 5 (daX11_nextYear_0 8 rfl) rfl (R32_b rfl) ?_
  refine GM_iadd (pc := 14) (daX11_nextYear_0 9 rfl) ?_
  obtain ⟨hc9, h⟩ := chk_inv h
  refine GM_iald (pc := 15) (daX11_nextYear_0 10 rfl) hc9.1 hc9.2.1 hc9.2.2 ?_
  refine GM_icmp_ge (pc := 16) 137 (daX11_nextYear_0 11 rfl) rfl (fun c10 => ?_) (fun c10 => ?_)
  · skip
    rw [if_pos c10] at h
    refine GM_pick [3] rfl ?_
    cases h
    exact hK
  · skip
    rw [if_neg c10] at h
    refine GM_iload_n (pc := 19) 1 rfl (daX11_nextYear_0 12 rfl) rfl ?_
    refine GM_sipush (pc := 20) 150 (daX11_nextYear_0 13 rfl) rfl (R32_b rfl) ?_
    refine GM_iadd (pc := 23) (daX11_nextYear_0 14 rfl) ?_
    refine GM_iconst (pc := 24) 4 (daX11_nextYear_0 15 rfl) rfl (R32_b rfl) ?_
    refine GM_iload (pc := 25) 4 rfl (daX11_nextYear_0 16 rfl) ?_
    refine GM_imul (pc := 27) (daX11_nextYear_0 17 rfl) ?_
    refine GM_iadd (pc := 28) (daX11_nextYear_0 18 rfl) ?_
    obtain ⟨y11, hy11, h⟩ := lt_inv h
    refine GM_top hy11 ?_
    refine GM_istore (L' := [(5, (0, y11)), (0, (3, v0)), (1, (0, v1)), (2, (0, v2)), (3, (0, v3)), (4, (0, v4))]) (pc := 29) (daX11_nextYear_0 19 rfl) (Nat.le_of_ble_eq_true rfl) rfl ?_
    refine GM_aload_n (pc := 31) 1 rfl (daX11_nextYear_0 20 rfl) rfl ?_
    refine GM_getf (pc := 32) 11 0 3 0 kf_X11_7 (Nat.le_of_ble_eq_true rfl) (Nat.le_of_ble_eq_true rfl) rfl (daX11_nextYear_0 21 rfl) hc8 rfl ?_
    refine GM_iload (pc := 35) 0 rfl (daX11_nextYear_0 22 rfl) ?_
    obtain ⟨hc12, h⟩ := chk_inv h
    refine GM_iald (pc := 37) (daX11_nextYear_0 23 rfl) hc9.1 hc12.1 hc12.2 ?_
    refine GM_iconst (pc := 38) 1 (daX11_nextYear_0 24 rfl) rfl (R32_b rfl) ?_
    refine GM_icmp_ne (pc := 39) 78 (daX11_nextYear_0 25 rfl) rfl (fun c13 => ?_) (fun c13 => ?_)
    · skip
      rw [if_neg c13] at h
      refine GM_pick [1, 2, 3, 4, 5, 0] rfl ?_
      exact gX11_nextYear_78 l h hK
    · skip
      rw [if_pos c13] at h
      refine GM_aload_n (pc := 42) 1 rfl (daX11_nextYear_0 26 rfl) rfl ?_
      refine GM_getf (pc := 43) 11 0 3 0 kf_X11_7 (Nat.le_of_ble_eq_true rfl) (Nat.le_of_ble_eq_true rfl) rfl (daX11_nextYear_0 27 rfl) hc8 rfl ?_
      refine GM_iload (pc := 46) 0 rfl (daX11_nextYear_0 28 rfl) ?_
      refine GM_iconst (pc := 48) 2 (daX11_nextYear_0 29 rfl) rfl (R32_b rfl) ?_
      refine GM_iadd (pc := 49) (daX11_nextYear_0 30 rfl) ?_
      obtain ⟨hc14, h⟩ := chk_inv h
      refine GM_iald (pc := 50) (daX11_nextYear_0 31 rfl) hc9.1 hc14.1 hc14.2 ?_
      refine GM_iload_n (pc := 51) 3 rfl (daX11_nextYear_0 32 rfl) rfl ?_
      refine GM_icmp_le (pc := 52) 78 (daX11_nextYear_0 33 rfl) rfl (fun c15 => ?_) (fun c15 => ?_)
      · skip
        rw [if_pos c15] at h
        refine GM_pick [1, 2, 3, 4, 5, 0] rfl ?_
        exact gX11_nextYear_78 l h hK
      · skip
        rw [if_neg c15] at h
        refine GM_aload_n (pc := 55) 1 rfl (daX11_nextYear_0 34 rfl) rfl ?_
        refine GM_getf (pc := 56) 11 0 3 0 kf_X11_7 (Nat.le_of_ble_eq_true rfl) (Nat.le_of_ble_eq_true rfl) rfl (daX11_nextYear_0 35 rfl) hc8 rfl ?_
        refine GM_iload (pc := 59) 0 rfl (daX11_nextYear_0 36 rfl) ?_
        refine GM_iconst (pc := 61) 2 (daX11_nextYear_0 37 rfl) rfl (R32_b rfl) ?_
        refine GM_iadd (pc := 62) (daX11_nextYear_0 38 rfl) ?_
        refine GM_iald (pc := 63) (daX11_nextYear_0 39 rfl) hc9.1 hc14.1 hc14.2 ?_
        refine GM_iload_n (pc := 64) 4 rfl (daX11_nextYear_0 40 rfl) rfl ?_
        refine GM_icmp_ge (pc := 65) 78 (daX11_nextYear_0 41 rfl) rfl (fun c16 => ?_) (fun c16 => ?_)
        · skip
          rw [if_pos c16] at h
          refine GM_pick [1, 2, 3, 4, 5, 0] rfl ?_
          exact gX11_nextYear_78 l h hK
        · skip
          rw [if_neg c16] at h
          refine GM_aload_n (pc := 68) 1 rfl (daX11_nextYear_0 42 rfl) rfl ?_
          refine GM_getf (pc := 69) 11 0 3 0 kf_X11_7 (Nat.le_of_ble_eq_true rfl) (Nat.le_of_ble_eq_true rfl) rfl (daX11_nextYear_0 43 rfl) hc8 rfl ?_
          refine GM_iload (pc := 72) 0 rfl (daX11_nextYear_0 44 rfl) ?_
          refine GM_iconst (pc := 74) 2 (daX11_nextYear_0 45 rfl) rfl (R32_b rfl) ?_
          refine GM_iadd (pc := 75) (daX11_nextYear_0 46 rfl) ?_
          refine GM_iald (pc := 76) (daX11_nextYear_0 47 rfl) hc9.1 hc14.1 hc14.2 ?_
          obtain ⟨y17, hy17, h⟩ := lt_inv h
          refine GM_top hy17 ?_
          refine GM_istore_n (L' := [(3, (0, y17)), (5, (0, y11)), (0, (3, v0)), (1, (0, v1)), (2, (0, v2)), (4, (0, v4))]) (pc := 77) (daX11_nextYear_0 48 rfl) rfl (Nat.le_of_ble_eq_true rfl) rfl ?_
          refine GM_pick [2, 3, 4, 0, 5, 1] rfl ?_
          exact gX11_nextYear_78 l h hK
set_option maxRecDepth 20000 in
theorem gX11_nextYear_0 (l : Launch) {F : FI} {v0 v1 v2 : Int} {μ : Mm} {t : Int} (h : fX11_nextYear v0 v1 v2 μ = some t) (hK : F.1 = [(0, t)] ∧ F.2.1 = μ) : GM l mX11_nextYear F 0 0 0 [(0, (3, v0)), (1, (0, v1)), (2, (0, v2))] [] μ := by
  unfold fX11_nextYear at h
  refine GM_bipush (pc := 0) 100 (daX11_nextYear_0 0 rfl) rfl (R32_b rfl) ?_
  refine GM_istore_n (L' := [(3, (0, 100)), (0, (3, v0)), (1, (0, v1)), (2, (0, v2))]) (pc := 2) (daX11_nextYear_0 1 rfl) rfl (Nat.le_of_ble_eq_true rfl) rfl ?_
  refine GM_iconst (pc := 3) 0 (daX11_nextYear_0 2 rfl) rfl (R32_b rfl) ?_
  refine GM_istore (L' := [(4, (0, 0)), (3, (0, 100)), (0, (3, v0)), (1, (0, v1)), (2, (0, v2))]) (pc := 4) (daX11_nextYear_0 3 rfl) (Nat.le_of_ble_eq_true rfl) rfl ?_
  refine GM_pick [2, 3, 4, 1, 0] rfl ?_
  obtain ⟨x18, hqx18, h⟩ := Option.bind_eq_some_iff.mp h
  refine lop_ind (zX11_nextYear_6 l F v0 v1 v2 μ 0 0) (qX11_nextYear_6 l F v0 v1 v2 μ 0 0) FU _ x18 hqx18 ?_
  obtain ⟨v3_19, hqq⟩ : ∃ z, z = x18 := ⟨x18, rfl⟩
  subst hqq
  show GM l mX11_nextYear F 0 0 137 [(3, (0, v3_19))] [] μ
  refine GM_iload_n (pc := 137) 0 rfl (daX11_nextYear_1 22 rfl) rfl ?_
  cases h
  exact GM_iret (pc := 138) (daX11_nextYear_1 23 rfl) rfl hK
theorem tX11_nextYear (l : Launch) {v0 v1 v2 : Int} {μ : Mm} {t : Int} (h : fX11_nextYear v0 v1 v2 μ = some t) : Ct l yX11_nextYear mX11_nextYear [(3, v0), (0, v1), (0, v2)] μ ([(0, t)], μ, 0, 0) :=
  Ct_of (by decide +kernel) rfl rfl (Nat.le_of_ble_eq_true rfl) (fun _ _ _ => trivial) (gX11_nextYear_0 l h ⟨rfl, rfl⟩)
