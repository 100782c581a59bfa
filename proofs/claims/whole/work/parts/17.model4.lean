def mX11_drawn : MI := (RX11, cX11_drawn, 2, (some .int), "drawn", 0, 0, fun _ _ _ => True)
theorem cwX11_drawn : CWd yX11_drawn mX11_drawn 1 := ⟨ki_X11, kk_X11_drawn, ⟨by decide, by decide⟩, rfl⟩
def dtX11_drawn_0 : List (Nat × Instr × Nat) := [(0, .aload_n 0, 1), (1, .aload_n 0, 1), (2, .getfield 355, 3), (5, .ldc_w 358, 3), (8, .imul, 1), (9, .sipush 12345, 3), (12, .iadd, 1), (13, .putfield 355, 3), (16, .aload_n 0, 1), (17, .getfield 355, 3), (20, .bipush 16, 2), (22, .iushr, 1), (23, .iload_n 1, 1), (24, .irem, 1), (25, .ireturn, 1)]
theorem ddX11_drawn_0 : (dtX11_drawn_0.all fun e => decide (decode mX11_drawn.2.1 e.1 = .ok (e.2.1, e.2.2))) = true := by decide +kernel
theorem daX11_drawn_0 (j : Nat) {pc n : Nat} {i : Instr} (h : dtX11_drawn_0[j]? = some (pc, i, n)) : decode mX11_drawn.2.1 pc = .ok (i, n) := dec_of (c := mX11_drawn.2.1) ddX11_drawn_0 h
def fX11_drawn (v0 v1 : Int) (μ : Mm) : Option (Int × Mm) :=
  chk (KD v0 = 11) (
  lm (mst μ v0 29 (w32 ((w32 ((μ v0 29) * 1103515245)) + 12345))) fun μ2 =>
  chk (v1 ≠ 0) (
  some ((iushr (μ2 v0 29) 16).tmod v1, μ2)))
set_option maxRecDepth 20000 in
theorem gX11_drawn_0 (l : Launch) {F : FI} {v0 v1 : Int} {μ : Mm} {t : (Int × Mm)} (h : fX11_drawn v0 v1 μ = some t) (hK : F.1 = [(0, t.1)] ∧ F.2.1 = t.2) : GM l mX11_drawn F 0 0 0 [(0, (3, v0)), (1, (0, v1))] [] μ := by
  unfold fX11_drawn at h
  refine GM_aload_n (pc := 0) 0 rfl (daX11_drawn_0 0 rfl) rfl ?_
  refine GM_aload_n (pc := 1) 0 rfl (daX11_drawn_0 1 rfl) rfl ?_
  obtain ⟨hc1, h⟩ := chk_inv h
  refine GM_getf (pc := 2) 11 29 0 29 kf_X11_355 (Nat.le_of_ble_eq_true rfl) (Nat.le_of_ble_eq_true rfl) rfl (daX11_drawn_0 2 rfl) hc1 rfl ?_
  refine GM_ldcw (pc := 5) 1103515245 kq_X11_358 (daX11_drawn_0 3 rfl) (R32_b rfl) ?_
  refine GM_imul (pc := 8) (daX11_drawn_0 4 rfl) ?_
  refine GM_sipush (pc := 9) 12345 (daX11_drawn_0 5 rfl) rfl (R32_b rfl) ?_
  refine GM_iadd (pc := 12) (daX11_drawn_0 6 rfl) ?_
  obtain ⟨μ2, hμ2, h⟩ := lm_inv h
  refine GM_putf (pc := 13) 11 29 0 kf_X11_355 (Nat.le_of_ble_eq_true rfl) (Nat.le_of_ble_eq_true rfl) rfl rfl (daX11_drawn_0 7 rfl) hc1 (fun q => absurd q (by decide)) ?_
  refine GM_mem hμ2 ?_
  refine GM_aload_n (pc := 16) 0 rfl (daX11_drawn_0 8 rfl) rfl ?_
  refine GM_getf (pc := 17) 11 29 0 29 kf_X11_355 (Nat.le_of_ble_eq_true rfl) (Nat.le_of_ble_eq_true rfl) rfl (daX11_drawn_0 9 rfl) hc1 rfl ?_
  refine GM_bipush (pc := 20) 16 (daX11_drawn_0 10 rfl) rfl (R32_b rfl) ?_
  refine GM_iushr (pc := 22) (daX11_drawn_0 11 rfl) ?_
  refine GM_iload_n (pc := 23) 1 rfl (daX11_drawn_0 12 rfl) rfl ?_
  obtain ⟨hc3, h⟩ := chk_inv h
  refine GM_irem (pc := 24) (daX11_drawn_0 13 rfl) hc3 ?_
  cases h
  exact GM_iret (pc := 25) (daX11_drawn_0 14 rfl) rfl hK
theorem tX11_drawn (l : Launch) {v0 v1 : Int} {μ : Mm} {t : (Int × Mm)} (h : fX11_drawn v0 v1 μ = some t) : Ct l yX11_drawn mX11_drawn [(3, v0), (0, v1)] μ ([(0, t.1)], t.2, 0, 0) :=
  Ct_of (by decide +kernel) rfl rfl (Nat.le_of_ble_eq_true rfl) (fun _ _ _ => trivial) (gX11_drawn_0 l h ⟨rfl, rfl⟩)
def mX11_scrawls : MI := (RX11, cX11_scrawls, 10, none, "scrawls", 5, 127, fun _ _ _ => True)
theorem cwX11_scrawls : CWd yX11_scrawls mX11_scrawls 7 := ⟨ki_X11, kk_X11_scrawls, ⟨by decide, by decide⟩, rfl⟩
def dtX11_scrawls_0 : List (Nat × Instr × Nat) := [(0, .aload_n 0, 1), (1, .iload_n 1, 1), (2, .iload_n 2, 1), (3, .iload_n 3, 1), (4, .iload 4, 2), (6, .iload 7, 2), (8, .invokevirtual 348, 3), (11, .aload_n 0, 1), (12, .iload 5, 2), (14, .putfield 355, 3), (17, .iconst 0, 1), (18, .istore 8, 2), (20, .iload 8, 2), (22, .iload 4, 2), (24, .if_icmp .ge 78, 3), (27, .bipush 10, 2), (29, .aload_n 0, 1), (30, .getfield 7, 3), (33, .iload 7, 2), (35, .bipush 7, 2), (37, .iadd, 1), (38, .iload 8, 2), (40, .iadd, 1), (41, .iaload, 1), (42, .imul, 1), (43, .aload_n 0, 1), (44, .iconst 2, 1), (45, .iload 6, 2), (47, .imul, 1), (48, .iconst 1, 1), (49, .iadd, 1), (50, .invokevirtual 359, 3), (53, .iadd, 1), (54, .iload 6, 2), (56, .isub, 1), (57, .istore 9, 2), (59, .aload_n 0, 1), (60, .getfield 7, 3), (63, .iload 7, 2), (65, .bipush 7, 2), (67, .iadd, 1), (68, .iload 8, 2), (70, .iadd, 1), (71, .iload 9, 2), (73, .iconst 1, 1), (74, .if_icmp .ge 7, 3), (77, .iconst 1, 1), (78, .goto 17, 3), (81, .iload 9, 2), (83, .bipush 99, 2), (85, .if_icmp .le 8, 3), (88, .bipush 99, 2), (90, .goto 5, 3), (93, .iload 9, 2), (95, .iastore, 1), (96, .iinc 8 1, 3), (99, .goto (-79), 3), (102, .aload_n 0, 1), (103, .getfield 7, 3), (106, .iload 7, 2), (108, .iconst 1, 1), (109, .iadd, 1), (110, .iconst 2, 1), (111, .iload 6, 2)]
theorem ddX11_scrawls_0 : (dtX11_scrawls_0.all fun e => decide (decode mX11_scrawls.2.1 e.1 = .ok (e.2.1, e.2.2))) = true := by decide +kernel
theorem daX11_scrawls_0 (j : Nat) {pc n : Nat} {i : Instr} (h : dtX11_scrawls_0[j]? = some (pc, i, n)) : decode mX11_scrawls.2.1 pc = .ok (i, n) := dec_of (c := mX11_scrawls.2.1) ddX11_scrawls_0 h
def dtX11_scrawls_1 : List (Nat × Instr × Nat) := [(113, .imul, 1), (114, .iastore, 1), (115, .return_, 1)]
theorem ddX11_scrawls_1 : (dtX11_scrawls_1.all fun e => decide (decode mX11_scrawls.2.1 e.1 = .ok (e.2.1, e.2.2))) = true := by decide +kernel
theorem daX11_scrawls_1 (j : Nat) {pc n : Nat} {i : Instr} (h : dtX11_scrawls_1[j]? = some (pc, i, n)) : decode mX11_scrawls.2.1 pc = .ok (i, n) := dec_of (c := mX11_scrawls.2.1) ddX11_scrawls_1 h
def zX11_scrawls_20 (l : Launch) (F : FI) (v0 v4 v6 v7 : Int) (k n : Nat) : (Int × Mm) ⊕ Mm → Prop
  | .inl (v8, μ) => GM l mX11_scrawls F k n 20 [(0, (3, v0)), (4, (0, v4)), (6, (0, v6)), (7, (0, v7)), (8, (0, v8))] [] μ
  | .inr μ => GM l mX11_scrawls F k n 102 [(0, (3, v0)), (6, (0, v6)), (7, (0, v7))] [] μ
def sX11_scrawls_20 (v0 v4 v6 v7 : Int) : (Int × Mm) → Option ((Int × Mm) ⊕ Mm) := fun (v8, μ) =>
  if v4 ≤ v8 then
    some (.inr μ)
  else
    chk (KD v0 = 11) (
    chk (KD (μ v0 0) = 12 ∧ 0 ≤ w32 ((w32 (v7 + 7)) + v8) ∧ w32 ((w32 (v7 + 7)) + v8) < LN (μ v0 0)) (
    (fX11_drawn v0 (w32 ((w32 (2 * v6)) + 1)) μ).bind fun (r4, μ4) =>
    lt (w32 ((w32 ((w32 (10 * (μ (μ v0 0) (w32 ((w32 (v7 + 7)) + v8))))) + r4)) - v6)) fun y5 =>
    if 1 ≤ y5 then
      if y5 ≤ 99 then
        chk (KD (μ4 v0 0) = 12 ∧ w32 ((w32 (v7 + 7)) + v8) < LN (μ4 v0 0)) (
        lm (mst μ4 (μ4 v0 0) (w32 ((w32 (v7 + 7)) + v8)) y5) fun μ9 =>
        some (.inl (w32 (v8 + 1), μ9)))
      else
        chk (KD (μ4 v0 0) = 12 ∧ w32 ((w32 (v7 + 7)) + v8) < LN (μ4 v0 0)) (
        lm (mst μ4 (μ4 v0 0) (w32 ((w32 (v7 + 7)) + v8)) 99) fun μ11 =>
        some (.inl (w32 (v8 + 1), μ11)))
    else
      chk (KD (μ4 v0 0) = 12 ∧ w32 ((w32 (v7 + 7)) + v8) < LN (μ4 v0 0)) (
      lm (mst μ4 (μ4 v0 0) (w32 ((w32 (v7 + 7)) + v8)) 1) fun μ13 =>
      some (.inl (w32 (v8 + 1), μ13)))))
def fX11_scrawls (v0 v1 v2 v3 v4 v5 v6 v7 : Int) (μ : Mm) : Option Mm :=
  chk (KD v0 = 11) (
  (fX11_draws v0 v1 v2 v3 v4 v7 μ).bind fun μ15 =>
  lm (mst μ15 v0 29 v5) fun μ16 =>
  (lop (sX11_scrawls_20 v0 v4 v6 v7) FU (0, μ16)).bind fun μ_18 =>
    chk (KD (μ_18 v0 0) = 12 ∧ 0 ≤ w32 (v7 + 1) ∧ w32 (v7 + 1) < LN (μ_18 v0 0)) (
    lm (mst μ_18 (μ_18 v0 0) (w32 (v7 + 1)) (w32 (2 * v6))) fun μ20 =>
    some μ20))
set_option maxRecDepth 20000 in
theorem qX11_scrawls_20 (l : Launch) (F : FI) (v0 v4 v6 v7 : Int) (k n : Nat) : ∀ (q : (Int × Mm)) (t : ((Int × Mm) ⊕ Mm)), sX11_scrawls_20 v0 v4 v6 v7 q = some t → zX11_scrawls_20 l F v0 v4 v6 v7 k n t → zX11_scrawls_20 l F v0 v4 v6 v7 k n (.inl q) := by
  intro q t h hK
  obtain ⟨v8, μ⟩ := q
  unfold sX11_scrawls_20 at h
  try dsimp only at h
  show GM l mX11_scrawls F k n 20 [(0, (3, v0)), (4, (0, v4)), (6, (0, v6)), (7, (0, v7)), (8, (0, v8))] [] μ
  refine GM_iload (pc := 20) 4 rfl (daX11_scrawls_0 12 rfl) ?_
  refine GM_iload (pc := 22) 1 rfl (daX11_scrawls_0 13 rfl) ?_
  refine GM_icmp_ge (pc := 24) 102 (daX11_scrawls_0 14 rfl) rfl (fun c1 => ?_) (fun c1 => ?_)
  · skip
    rw [if_pos c1] at h
    refine GM_pick [0, 2, 3] rfl ?_
    cases h
    exact hK
  · skip
    rw [if_neg c1] at h
    refine GM_bipush (pc := 27) 10 (daX11_scrawls_0 15 rfl) rfl (R32_b rfl) ?_
    refine GM_aload_n (pc := 29) 0 rfl (daX11_scrawls_0 16 rfl) rfl ?_
    obtain ⟨hc2, h⟩ := chk_inv h
    refine GM_getf (pc := 30) 11 0 3 0 kf_X11_7 (Nat.le_of_ble_eq_true rfl) (Nat.le_of_ble_eq_true rfl) rfl (daX11_scrawls_0 17 rfl) hc2 rfl ?_
    refine GM_iload (pc := 33) 3 rfl (daX11_scrawls_0 18 rfl) ?_
    refine GM_bipush (pc := 35) 7 (daX11_scrawls_0 19 rfl) rfl (R32_b rfl) ?_
    refine GM_iadd (pc := 37) (daX11_scrawls_0 20 rfl) ?_
    refine GM_iload (pc := 38) 4 rfl (daX11_scrawls_0 21 rfl) ?_
    refine GM_iadd (pc := 40) (daX11_scrawls_0 22 rfl) ?_
    obtain ⟨hc3, h⟩ := chk_inv h
    refine GM_iald (pc := 41) (daX11_scrawls_0 23 rfl) hc3.1 hc3.2.1 hc3.2.2 ?_
    refine GM_imul (pc := 42) (daX11_scrawls_0 24 rfl) ?_
    refine GM_aload_n (pc := 43) 0 rfl (daX11_scrawls_0 25 rfl) rfl ?_
    refine GM_iconst (pc := 44) 2 (daX11_scrawls_0 26 rfl) rfl (R32_b rfl) ?_
    refine GM_iload (pc := 45) 2 rfl (daX11_scrawls_0 27 rfl) ?_
    refine GM_imul (pc := 47) (daX11_scrawls_0 28 rfl) ?_
    refine GM_iconst (pc := 48) 1 (daX11_scrawls_0 29 rfl) rfl (R32_b rfl) ?_
    refine GM_iadd (pc := 49) (daX11_scrawls_0 30 rfl) ?_
    obtain ⟨⟨r4, μ4⟩, hf4, h⟩ := Option.bind_eq_some_iff.mp h
    dsimp only at h
    refine GM_callV0 (pc := 50) [(0, w32 ((w32 (2 * v6)) + 1))] (tX11_drawn l hf4) cwX11_drawn 11 (Nat.le_of_ble_eq_true rfl) rfl kv_X11_drawn ke_X11_drawn km_X11_359 hc2 ⟨Nat.le_of_ble_eq_true rfl, Nat.le_of_ble_eq_true rfl⟩ (Nat.le_of_ble_eq_true rfl) (Nat.le_of_ble_eq_true rfl) (daX11_scrawls_0 31 rfl) ?_
    refine GM_iadd (pc := 53) (daX11_scrawls_0 32 rfl) ?_
    refine GM_iload (pc := 54) 2 rfl (daX11_scrawls_0 33 rfl) ?_
    refine GM_isub (pc := 56) (daX11_scrawls_0 34 rfl) ?_
    obtain ⟨y5, hy5, h⟩ := lt_inv h
    refine GM_top hy5 ?_
    refine GM_istore (L' := [(9, (0, y5)), (0, (3, v0)), (4, (0, v4)), (6, (0, v6)), (7, (0, v7)), (8, (0, v8))]) (pc := 57) (daX11_scrawls_0 35 rfl) (Nat.le_of_ble_eq_true rfl) rfl ?_
    refine GM_aload_n (pc := 59) 1 rfl (daX11_scrawls_0 36 rfl) rfl ?_
    refine GM_getf (pc := 60) 11 0 3 0 kf_X11_7 (Nat.le_of_ble_eq_true rfl) (Nat.le_of_ble_eq_true rfl) rfl (daX11_scrawls_0 37 rfl) hc2 rfl ?_
    refine GM_iload (pc := 63) 4 rfl (daX11_scrawls_0 38 rfl) ?_
    refine GM_bipush (pc := 65) 7 (daX11_scrawls_0 39 rfl) rfl (R32_b rfl) ?_
    refine GM_iadd (pc := 67) (daX11_scrawls_0 40 rfl) ?_
    refine GM_iload (pc := 68) 5 rfl (daX11_scrawls_0 41 rfl) ?_
    refine GM_iadd (pc := 70) (daX11_scrawls_0 42 rfl) ?_
    refine GM_iload (pc := 71) 0 rfl (daX11_scrawls_0 43 rfl) ?_
    refine GM_iconst (pc := 73) 1 (daX11_scrawls_0 44 rfl) rfl (R32_b rfl) ?_
    refine GM_icmp_ge (pc := 74) 81 (daX11_scrawls_0 45 rfl) rfl (fun c6 => ?_) (fun c6 => ?_)
    · skip
      rw [if_pos c6] at h
      refine GM_iload (pc := 81) 0 rfl (daX11_scrawls_0 48 rfl) ?_
      refine GM_bipush (pc := 83) 99 (daX11_scrawls_0 49 rfl) rfl (R32_b rfl) ?_
      refine GM_icmp_le (pc := 85) 93 (daX11_scrawls_0 50 rfl) rfl (fun c7 => ?_) (fun c7 => ?_)
      · skip
        rw [if_pos c7] at h
        refine GM_iload (pc := 93) 0 rfl (daX11_scrawls_0 53 rfl) ?_
        obtain ⟨hc8, h⟩ := chk_inv h
        obtain ⟨μ9, hμ9, h⟩ := lm_inv h
        refine GM_iast (pc := 95) (daX11_scrawls_0 54 rfl) hc8.1 hc3.2.1 hc8.2 ?_
        refine GM_mem hμ9 ?_
        refine GM_iinc (L' := [(8, (0, w32 (v8 + 1))), (9, (0, y5)), (0, (3, v0)), (4, (0, v4)), (6, (0, v6)), (7, (0, v7))]) (pc := 96) 5 rfl (daX11_scrawls_0 55 rfl) (Nat.le_of_ble_eq_true rfl) rfl ?_
        refine GM_goto (pc := 99) 20 (daX11_scrawls_0 56 rfl) rfl ?_
        refine GM_pick [2, 3, 4, 5, 0] rfl ?_
        cases h
        exact hK
      · skip
        rw [if_neg c7] at h
        refine GM_bipush (pc := 88) 99 (daX11_scrawls_0 51 rfl) rfl (R32_b rfl) ?_
        refine GM_goto (pc := 90) 95 (daX11_scrawls_0 52 rfl) rfl ?_
        obtain ⟨hc10, h⟩ := chk_inv h
        obtain ⟨μ11, hμ11, h⟩ := lm_inv h
        refine GM_iast (pc := 95) (daX11_scrawls_0 54 rfl) hc10.1 hc3.2.1 hc10.2 ?_
        refine GM_mem hμ11 ?_
        refine GM_iinc (L' := [(8, (0, w32 (v8 + 1))), (9, (0, y5)), (0, (3, v0)), (4, (0, v4)), (6, (0, v6)), (7, (0, v7))]) (pc := 96) 5 rfl (daX11_scrawls_0 55 rfl) (Nat.le_of_ble_eq_true rfl) rfl ?_
        refine GM_goto (pc := 99) 20 (daX11_scrawls_0 56 rfl) rfl ?_
        refine GM_pick [2, 3, 4, 5, 0] rfl ?_
        cases h
        exact hK
    · skip
      rw [if_neg c6] at h
      refine GM_iconst (pc := 77) 1 (daX11_scrawls_0 46 rfl) rfl (R32_b rfl) ?_
      refine GM_goto (pc := 78) 95 (daX11_scrawls_0 47 rfl) rfl ?_
      obtain ⟨hc12, h⟩ := chk_inv h
      obtain ⟨μ13, hμ13, h⟩ := lm_inv h
      refine GM_iast (pc := 95) (daX11_scrawls_0 54 rfl) hc12.1 hc3.2.1 hc12.2 ?_
      refine GM_mem hμ13 ?_
      refine GM_iinc (L' := [(8, (0, w32 (v8 + 1))), (9, (0, y5)), (0, (3, v0)), (4, (0, v4)), (6, (0, v6)), (7, (0, v7))]) (pc := 96) 5 rfl (daX11_scrawls_0 55 rfl) (Nat.le_of_ble_eq_true rfl) rfl ?_
      refine GM_goto (pc := 99) 20 (daX11_scrawls_0 56 rfl) rfl ?_
      refine GM_pick [2, 3, 4, 5, 0] rfl ?_
      cases h
      exact hK
set_option maxRecDepth 20000 in
theorem gX11_scrawls_0 (l : Launch) {F : FI} {v0 v1 v2 v3 v4 v5 v6 v7 : Int} {μ : Mm} {t : Mm} (h : fX11_scrawls v0 v1 v2 v3 v4 v5 v6 v7 μ = some t) (hK : F.1 = [] ∧ F.2.1 = t) : GM l mX11_scrawls F 0 0 0 [(0, (3, v0)), (1, (0, v1)), (2, (0, v2)), (3, (0, v3)), (4, (0, v4)), (5, (0, v5)), (6, (0, v6)), (7, (0, v7))] [] μ := by
  unfold fX11_scrawls at h
  refine GM_aload_n (pc := 0) 0 rfl (daX11_scrawls_0 0 rfl) rfl ?_
  refine GM_iload_n (pc := 1) 1 rfl (daX11_scrawls_0 1 rfl) rfl ?_
  refine GM_iload_n (pc := 2) 2 rfl (daX11_scrawls_0 2 rfl) rfl ?_
  refine GM_iload_n (pc := 3) 3 rfl (daX11_scrawls_0 3 rfl) rfl ?_
  refine GM_iload (pc := 4) 4 rfl (daX11_scrawls_0 4 rfl) ?_
  refine GM_iload (pc := 6) 7 rfl (daX11_scrawls_0 5 rfl) ?_
  obtain ⟨hc14, h⟩ := chk_inv h
  obtain ⟨μ15, hf15, h⟩ := Option.bind_eq_some_iff.mp h
  refine GM_callV0 (pc := 8) [(0, v1), (0, v2), (0, v3), (0, v4), (0, v7)] (tX11_draws l hf15) cwX11_draws 11 (Nat.le_of_ble_eq_true rfl) rfl kv_X11_draws ke_X11_draws km_X11_348 hc14 ⟨Nat.le_of_ble_eq_true rfl, Nat.le_of_ble_eq_true rfl⟩ (Nat.le_of_ble_eq_true rfl) (Nat.le_of_ble_eq_true rfl) (daX11_scrawls_0 6 rfl) ?_
  refine GM_aload_n (pc := 11) 0 rfl (daX11_scrawls_0 7 rfl) rfl ?_
  refine GM_iload (pc := 12) 5 rfl (daX11_scrawls_0 8 rfl) ?_
  obtain ⟨μ16, hμ16, h⟩ := lm_inv h
  refine GM_putf (pc := 14) 11 29 0 kf_X11_355 (Nat.le_of_ble_eq_true rfl) (Nat.le_of_ble_eq_true rfl) rfl rfl (daX11_scrawls_0 9 rfl) hc14 (fun q => absurd q (by decide)) ?_
  refine GM_mem hμ16 ?_
  refine GM_iconst (pc := 17) 0 (daX11_scrawls_0 10 rfl) rfl (R32_b rfl) ?_
  refine GM_istore (L' := [(8, (0, 0)), (0, (3, v0)), (1, (0, v1)), (2, (0, v2)), (3, (0, v3)), (4, (0, v4)), (5, (0, v5)), (6, (0, v6)), (7, (0, v7))]) (pc := 18) (daX11_scrawls_0 11 rfl) (Nat.le_of_ble_eq_true rfl) rfl ?_
  refine GM_pick [1, 5, 7, 8, 0] rfl ?_
  obtain ⟨x17, hqx17, h⟩ := Option.bind_eq_some_iff.mp h
  refine lop_ind (zX11_scrawls_20 l F v0 v4 v6 v7 0 0) (qX11_scrawls_20 l F v0 v4 v6 v7 0 0) FU _ x17 hqx17 ?_
  obtain ⟨μ_18, hqq⟩ : ∃ z, z = x17 := ⟨x17, rfl⟩
  subst hqq
  show GM l mX11_scrawls F 0 0 102 [(0, (3, v0)), (6, (0, v6)), (7, (0, v7))] [] μ_18
  refine GM_aload_n (pc := 102) 0 rfl (daX11_scrawls_0 57 rfl) rfl ?_
  refine GM_getf (pc := 103) 11 0 3 0 kf_X11_7 (Nat.le_of_ble_eq_true rfl) (Nat.le_of_ble_eq_true rfl) rfl (daX11_scrawls_0 58 rfl) hc14 rfl ?_
  refine GM_iload (pc := 106) 2 rfl (daX11_scrawls_0 59 rfl) ?_
  refine GM_iconst (pc := 108) 1 (daX11_scrawls_0 60 rfl) rfl (R32_b rfl) ?_
  refine GM_iadd (pc := 109) (daX11_scrawls_0 61 rfl) ?_
  refine GM_iconst (pc := 110) 2 (daX11_scrawls_0 62 rfl) rfl (R32_b rfl) ?_
  refine GM_iload (pc := 111) 1 rfl (daX11_scrawls_0 63 rfl) ?_
  refine GM_imul (pc := 113) (daX11_scrawls_1 0 rfl) ?_
  obtain ⟨hc19, h⟩ := chk_inv h
  obtain ⟨μ20, hμ20, h⟩ := lm_inv h
  refine GM_iast (pc := 114) (daX11_scrawls_1 1 rfl) hc19.1 hc19.2.1 hc19.2.2 ?_
  refine GM_mem hμ20 ?_
  cases h
  exact GM_vret (pc := 115) (daX11_scrawls_1 2 rfl) rfl hK
theorem tX11_scrawls (l : Launch) {v0 v1 v2 v3 v4 v5 v6 v7 : Int} {μ : Mm} {t : Mm} (h : fX11_scrawls v0 v1 v2 v3 v4 v5 v6 v7 μ = some t) : Ct l yX11_scrawls mX11_scrawls [(3, v0), (0, v1), (0, v2), (0, v3), (0, v4), (0, v5), (0, v6), (0, v7)] μ ([], t, 0, 0) :=
  Ct_of (by decide +kernel) rfl rfl (Nat.le_of_ble_eq_true rfl) (fun _ _ _ => trivial) (gX11_scrawls_0 l h ⟨rfl, rfl⟩)
def mX11_scrawl : MI := (RX11, cX11_scrawl, 9, (some .int), "scrawl", 8, 200, fun _ _ _ => True)
theorem cwX11_scrawl : CWd yX11_scrawl mX11_scrawl 7 := ⟨ki_X11, kk_X11_scrawl, ⟨by decide, by decide⟩, rfl⟩
def dtX11_scrawl_0 : List (Nat × Instr × Nat) := [(0, .aload_n 0, 1), (1, .iconst 1, 1), (2, .iload 7, 2), (4, .invokevirtual 186, 3), (7, .ifCond .eq 28, 3), (10, .iload 6, 2), (12, .iconst 0, 1), (13, .bipush 20, 2), (15, .invokestatic 147, 3), (18, .ifCond .eq 17, 3), (21, .aload_n 0, 1), (22, .iload_n 1, 1), (23, .iload_n 2, 1), (24, .iload_n 3, 1), (25, .iload 4, 2), (27, .bipush 9, 2), (29, .invokevirtual 345, 3), (32, .ifCond .ne 5, 3), (35, .iconst (-1), 1), (36, .ireturn, 1), (37, .aload_n 0, 1), (38, .iconst 1, 1), (39, .iload 7, 2), (41, .invokevirtual 201, 3), (44, .istore 8, 2), (46, .aload_n 0, 1), (47, .iconst 0, 1), (48, .iload_n 1, 1), (49, .invokestatic 204, 3), (52, .iload_n 2, 1), (53, .iload_n 3, 1), (54, .iload 4, 2), (56, .iload 5, 2), (58, .iload 6, 2), (60, .iconst 1, 1), (61, .iload 8, 2), (63, .invokestatic 204, 3), (66, .invokevirtual 362, 3), (69, .iload 8, 2), (71, .ireturn, 1)]
theorem ddX11_scrawl_0 : (dtX11_scrawl_0.all fun e => decide (decode mX11_scrawl.2.1 e.1 = .ok (e.2.1, e.2.2))) = true := by decide +kernel
theorem daX11_scrawl_0 (j : Nat) {pc n : Nat} {i : Instr} (h : dtX11_scrawl_0[j]? = some (pc, i, n)) : decode mX11_scrawl.2.1 pc = .ok (i, n) := dec_of (c := mX11_scrawl.2.1) ddX11_scrawl_0 h
def fX11_scrawl (v0 v1 v2 v3 v4 v5 v6 v7 : Int) (μ : Mm) : Option (Int × Mm) :=
  chk (KD v0 = 11) (
  (fX11_isFree v0 1 v7 μ).bind fun r2 =>
  if r2 = 0 then
    some ((-1), μ)
  else
    if isIn v6 0 20 = 0 then
      some ((-1), μ)
    else
      (fX11_canDraw v0 v1 v2 v3 v4 9 μ).bind fun (r5, μ5) =>
      if r5 = 0 then
        some ((-1), μ5)
      else
        (fX11_keeps v0 1 v7 μ5).bind fun (r7, μ7) =>
        (fX11_placeOf 0 v1).bind fun r8 =>
        (fX11_placeOf 1 r7).bind fun r9 =>
        (fX11_scrawls v0 r8 v2 v3 v4 v5 v6 r9 μ7).bind fun μ10 =>
        some (r7, μ10))
set_option maxRecDepth 20000 in
theorem gX11_scrawl_0 (l : Launch) {F : FI} {v0 v1 v2 v3 v4 v5 v6 v7 : Int} {μ : Mm} {t : (Int × Mm)} (h : fX11_scrawl v0 v1 v2 v3 v4 v5 v6 v7 μ = some t) (hK : F.1 = [(0, t.1)] ∧ F.2.1 = t.2) : GM l mX11_scrawl F 0 0 0 [(0, (3, v0)), (1, (0, v1)), (2, (0, v2)), (3, (0, v3)), (4, (0, v4)), (5, (0, v5)), (6, (0, v6)), (7, (0, v7))] [] μ := by
  unfold fX11_scrawl at h
  refine GM_aload_n (pc := 0) 0 rfl (daX11_scrawl_0 0 rfl) rfl ?_
  refine GM_iconst (pc := 1) 1 (daX11_scrawl_0 1 rfl) rfl (R32_b rfl) ?_
  refine GM_iload (pc := 2) 7 rfl (daX11_scrawl_0 2 rfl) ?_
  obtain ⟨hc1, h⟩ := chk_inv h
  obtain ⟨r2, hf2, h⟩ := Option.bind_eq_some_iff.mp h
  refine GM_callV0 (pc := 4) [(0, 1), (0, v7)] (tX11_isFree l hf2) cwX11_isFree 11 (Nat.le_of_ble_eq_true rfl) rfl kv_X11_isFree ke_X11_isFree km_X11_186 hc1 ⟨Nat.le_of_ble_eq_true rfl, Nat.le_of_ble_eq_true rfl⟩ (Nat.le_of_ble_eq_true rfl) (Nat.le_of_ble_eq_true rfl) (daX11_scrawl_0 3 rfl) ?_
  refine GM_if_eq (pc := 7) 35 (daX11_scrawl_0 4 rfl) rfl (fun c3 => ?_) (fun c3 => ?_)
  · skip
    rw [if_pos c3] at h
    refine GM_iconst (pc := 35) (-1) (daX11_scrawl_0 18 rfl) rfl (R32_b rfl) ?_
    cases h
    exact GM_iret (pc := 36) (daX11_scrawl_0 19 rfl) rfl hK
  · skip
    rw [if_neg c3] at h
    refine GM_iload (pc := 10) 6 rfl (daX11_scrawl_0 5 rfl) ?_
    refine GM_iconst (pc := 12) 0 (daX11_scrawl_0 6 rfl) rfl (R32_b rfl) ?_
    refine GM_bipush (pc := 13) 20 (daX11_scrawl_0 7 rfl) rfl (R32_b rfl) ?_
    refine GM_callS0 (pc := 15) [(0, v6), (0, 0), (0, 20)] (tX11_isIn l (fX11_isIn_eq v6 0 20)) cwX11_isIn ks_X11_isIn km_X11_147 ⟨Nat.le_of_ble_eq_true rfl, Nat.le_of_ble_eq_true rfl⟩ (Nat.le_of_ble_eq_true rfl) (Nat.le_of_ble_eq_true rfl) (daX11_scrawl_0 8 rfl) ?_
    refine GM_if_eq (pc := 18) 35 (daX11_scrawl_0 9 rfl) rfl (fun c4 => ?_) (fun c4 => ?_)
    · skip
      rw [if_pos c4] at h
      refine GM_iconst (pc := 35) (-1) (daX11_scrawl_0 18 rfl) rfl (R32_b rfl) ?_
      cases h
      exact GM_iret (pc := 36) (daX11_scrawl_0 19 rfl) rfl hK
    · skip
      rw [if_neg c4] at h
      refine GM_aload_n (pc := 21) 0 rfl (daX11_scrawl_0 10 rfl) rfl ?_
      refine GM_iload_n (pc := 22) 1 rfl (daX11_scrawl_0 11 rfl) rfl ?_
      refine GM_iload_n (pc := 23) 2 rfl (daX11_scrawl_0 12 rfl) rfl ?_
      refine GM_iload_n (pc := 24) 3 rfl (daX11_scrawl_0 13 rfl) rfl ?_
      refine GM_iload (pc := 25) 4 rfl (daX11_scrawl_0 14 rfl) ?_
      refine GM_bipush (pc := 27) 9 (daX11_scrawl_0 15 rfl) rfl (R32_b rfl) ?_
      obtain ⟨⟨r5, μ5⟩, hf5, h⟩ := Option.bind_eq_some_iff.mp h
      dsimp only at h
      refine GM_callV0 (pc := 29) [(0, v1), (0, v2), (0, v3), (0, v4), (0, 9)] (tX11_canDraw l hf5) cwX11_canDraw 11 (Nat.le_of_ble_eq_true rfl) rfl kv_X11_canDraw ke_X11_canDraw km_X11_345 hc1 ⟨Nat.le_of_ble_eq_true rfl, Nat.le_of_ble_eq_true rfl⟩ (Nat.le_of_ble_eq_true rfl) (Nat.le_of_ble_eq_true rfl) (daX11_scrawl_0 16 rfl) ?_
      refine GM_if_ne (pc := 32) 37 (daX11_scrawl_0 17 rfl) rfl (fun c6 => ?_) (fun c6 => ?_)
      · skip
        rw [if_neg c6] at h
        refine GM_aload_n (pc := 37) 0 rfl (daX11_scrawl_0 20 rfl) rfl ?_
        refine GM_iconst (pc := 38) 1 (daX11_scrawl_0 21 rfl) rfl (R32_b rfl) ?_
        refine GM_iload (pc := 39) 7 rfl (daX11_scrawl_0 22 rfl) ?_
        obtain ⟨⟨r7, μ7⟩, hf7, h⟩ := Option.bind_eq_some_iff.mp h
        dsimp only at h
        refine GM_callV0 (pc := 41) [(0, 1), (0, v7)] (tX11_keeps l hf7) cwX11_keeps 11 (Nat.le_of_ble_eq_true rfl) rfl kv_X11_keeps ke_X11_keeps km_X11_201 hc1 ⟨Nat.le_of_ble_eq_true rfl, Nat.le_of_ble_eq_true rfl⟩ (Nat.le_of_ble_eq_true rfl) (Nat.le_of_ble_eq_true rfl) (daX11_scrawl_0 23 rfl) ?_
        refine GM_istore (L' := [(8, (0, r7)), (0, (3, v0)), (1, (0, v1)), (2, (0, v2)), (3, (0, v3)), (4, (0, v4)), (5, (0, v5)), (6, (0, v6)), (7, (0, v7))]) (pc := 44) (daX11_scrawl_0 24 rfl) (Nat.le_of_ble_eq_true rfl) rfl ?_
        refine GM_aload_n (pc := 46) 1 rfl (daX11_scrawl_0 25 rfl) rfl ?_
        refine GM_iconst (pc := 47) 0 (daX11_scrawl_0 26 rfl) rfl (R32_b rfl) ?_
        refine GM_iload_n (pc := 48) 2 rfl (daX11_scrawl_0 27 rfl) rfl ?_
        obtain ⟨r8, hf8, h⟩ := Option.bind_eq_some_iff.mp h
        refine GM_callS0 (pc := 49) [(0, 0), (0, v1)] (tX11_placeOf l hf8) cwX11_placeOf ks_X11_placeOf km_X11_204 ⟨Nat.le_of_ble_eq_true rfl, Nat.le_of_ble_eq_true rfl⟩ (Nat.le_of_ble_eq_true rfl) (Nat.le_of_ble_eq_true rfl) (daX11_scrawl_0 28 rfl) ?_
        refine GM_iload_n (pc := 52) 3 rfl (daX11_scrawl_0 29 rfl) rfl ?_
        refine GM_iload_n (pc := 53) 4 rfl (daX11_scrawl_0 30 rfl) rfl ?_
        refine GM_iload (pc := 54) 5 rfl (daX11_scrawl_0 31 rfl) ?_
        refine GM_iload (pc := 56) 6 rfl (daX11_scrawl_0 32 rfl) ?_
        refine GM_iload (pc := 58) 7 rfl (daX11_scrawl_0 33 rfl) ?_
        refine GM_iconst (pc := 60) 1 (daX11_scrawl_0 34 rfl) rfl (R32_b rfl) ?_
        refine GM_iload (pc := 61) 0 rfl (daX11_scrawl_0 35 rfl) ?_
        obtain ⟨r9, hf9, h⟩ := Option.bind_eq_some_iff.mp h
        refine GM_callS0 (pc := 63) [(0, 1), (0, r7)] (tX11_placeOf l hf9) cwX11_placeOf ks_X11_placeOf km_X11_204 ⟨Nat.le_of_ble_eq_true rfl, Nat.le_of_ble_eq_true rfl⟩ (Nat.le_of_ble_eq_true rfl) (Nat.le_of_ble_eq_true rfl) (daX11_scrawl_0 36 rfl) ?_
        obtain ⟨μ10, hf10, h⟩ := Option.bind_eq_some_iff.mp h
        refine GM_callV0 (pc := 66) [(0, r8), (0, v2), (0, v3), (0, v4), (0, v5), (0, v6), (0, r9)] (tX11_scrawls l hf10) cwX11_scrawls 11 (Nat.le_of_ble_eq_true rfl) rfl kv_X11_scrawls ke_X11_scrawls km_X11_362 hc1 ⟨Nat.le_of_ble_eq_true rfl, Nat.le_of_ble_eq_true rfl⟩ (Nat.le_of_ble_eq_true rfl) (Nat.le_of_ble_eq_true rfl) (daX11_scrawl_0 37 rfl) ?_
        refine GM_iload (pc := 69) 0 rfl (daX11_scrawl_0 38 rfl) ?_
        cases h
        exact GM_iret (pc := 71) (daX11_scrawl_0 39 rfl) rfl hK
      · skip
        rw [if_pos c6] at h
        refine GM_iconst (pc := 35) (-1) (daX11_scrawl_0 18 rfl) rfl (R32_b rfl) ?_
        cases h
        exact GM_iret (pc := 36) (daX11_scrawl_0 19 rfl) rfl hK
theorem tX11_scrawl (l : Launch) {v0 v1 v2 v3 v4 v5 v6 v7 : Int} {μ : Mm} {t : (Int × Mm)} (h : fX11_scrawl v0 v1 v2 v3 v4 v5 v6 v7 μ = some t) : Ct l yX11_scrawl mX11_scrawl [(3, v0), (0, v1), (0, v2), (0, v3), (0, v4), (0, v5), (0, v6), (0, v7)] μ ([(0, t.1)], t.2, 0, 0) :=
  Ct_of (by decide +kernel) rfl rfl (Nat.le_of_ble_eq_true rfl) (fun _ _ _ => trivial) (gX11_scrawl_0 l h ⟨rfl, rfl⟩)
def mX11_found : MI := (RX11, cX11_found, 13, (some .int), "found", 12, 313, fun _ _ _ => True)
theorem cwX11_found : CWd yX11_found mX11_found 8 := ⟨ki_X11, kk_X11_found, ⟨by decide, by decide⟩, rfl⟩
def dtX11_found_0 : List (Nat × Instr × Nat) := [(0, .iload 6, 2), (2, .iconst 0, 1), (3, .bipush 20, 2), (5, .invokestatic 147, 3), (8, .ifCond .eq 28, 3), (11, .iload 7, 2), (13, .iconst 1, 1), (14, .bipush 8, 2), (16, .invokestatic 147, 3), (19, .ifCond .eq 17, 3), (22, .aload_n 0, 1), (23, .iload_n 1, 1), (24, .iload_n 2, 1), (25, .iload_n 3, 1), (26, .iload 4, 2), (28, .bipush 9, 2), (30, .invokevirtual 345, 3), (33, .ifCond .ne 5, 3), (36, .iconst (-1), 1), (37, .ireturn, 1), (38, .iconst 0, 1), (39, .iload_n 1, 1), (40, .invokestatic 204, 3), (43, .istore 9, 2), (45, .aload_n 0, 1), (46, .iload 9, 2), (48, .invokevirtual 295, 3), (51, .iconst 0, 1), (52, .istore 10, 2), (54, .iconst 0, 1), (55, .istore 11, 2), (57, .iload 11, 2), (59, .iload 7, 2), (61, .if_icmp .ge 80, 3), (64, .aload_n 0, 1), (65, .iload 9, 2), (67, .iload_n 2, 1), (68, .iload_n 3, 1), (69, .iload 4, 2), (71, .iload 5, 2), (73, .iload 11, 2), (75, .iadd, 1), (76, .iload 6, 2), (78, .sipush 4960, 3), (81, .invokevirtual 362, 3), (84, .aload_n 0, 1), (85, .iload 9, 2), (87, .sipush 4960, 3), (90, .iload_n 2, 1), (91, .iconst (-1), 1), (92, .invokevirtual 289, 3), (95, .ifCond .lt 7, 3), (98, .iconst 1, 1), (99, .goto 4, 3), (102, .iconst 0, 1), (103, .istore 12, 2), (105, .iload 10, 2), (107, .iload 12, 2), (109, .ifCond .eq 22, 3), (112, .iload 8, 2), (114, .ifCond .eq 13, 3), (117, .aload_n 0, 1), (118, .iload 9, 2), (120, .iload_n 2, 1)]
theorem ddX11_found_0 : (dtX11_found_0.all fun e => decide (decode mX11_found.2.1 e.1 = .ok (e.2.1, e.2.2))) = true := by decide +kernel
theorem daX11_found_0 (j : Nat) {pc n : Nat} {i : Instr} (h : dtX11_found_0[j]? = some (pc, i, n)) : decode mX11_found.2.1 pc = .ok (i, n) := dec_of (c := mX11_found.2.1) ddX11_found_0 h
def dtX11_found_1 : List (Nat × Instr × Nat) := [(121, .invokevirtual 352, 3), (124, .ifCond .ne 7, 3), (127, .iconst 1, 1), (128, .goto 4, 3), (131, .iconst 0, 1), (132, .iadd, 1), (133, .istore 10, 2), (135, .iinc 11 1, 3), (138, .goto (-81), 3), (141, .iload 10, 2), (143, .ireturn, 1)]
theorem ddX11_found_1 : (dtX11_found_1.all fun e => decide (decode mX11_found.2.1 e.1 = .ok (e.2.1, e.2.2))) = true := by decide +kernel
theorem daX11_found_1 (j : Nat) {pc n : Nat} {i : Instr} (h : dtX11_found_1[j]? = some (pc, i, n)) : decode mX11_found.2.1 pc = .ok (i, n) := dec_of (c := mX11_found.2.1) ddX11_found_1 h
def jX11_found_103 (v0 v2 v3 v4 v5 v6 v7 v8 v9 v10 v11 s0 : Int) (μ : Mm) : Option ((Int × Int × Mm) ⊕ (Int × Mm)) :=
  if s0 = 0 then
    some (.inl (w32 (v10 + 0), w32 (v11 + 1), μ))
  else
    if v8 = 0 then
      some (.inl (w32 (v10 + 1), w32 (v11 + 1), μ))
    else
      chk (KD v0 = 11) (
      (fX11_rivalsOf v0 v9 v2 μ).bind fun (r4, μ4) =>
      if r4 = 0 then
        some (.inl (w32 (v10 + 1), w32 (v11 + 1), μ4))
      else
        some (.inl (w32 (v10 + 0), w32 (v11 + 1), μ4)))
def zX11_found_57 (l : Launch) (F : FI) (v0 v2 v3 v4 v5 v6 v7 v8 v9 : Int) (k n : Nat) : (Int × Int × Mm) ⊕ (Int × Mm) → Prop
  | .inl (v10, v11, μ) => GM l mX11_found F k n 57 [(0, (3, v0)), (2, (0, v2)), (3, (0, v3)), (4, (0, v4)), (5, (0, v5)), (6, (0, v6)), (7, (0, v7)), (8, (0, v8)), (9, (0, v9)), (10, (0, v10)), (11, (0, v11))] [] μ
  | .inr (v10, μ) => GM l mX11_found F k n 141 [(10, (0, v10))] [] μ
def sX11_found_57 (v0 v2 v3 v4 v5 v6 v7 v8 v9 : Int) : (Int × Int × Mm) → Option ((Int × Int × Mm) ⊕ (Int × Mm)) := fun (v10, v11, μ) =>
  if v7 ≤ v11 then
    some (.inr (v10, μ))
  else
    chk (KD v0 = 11) (
    (fX11_scrawls v0 v9 v2 v3 v4 (w32 (v5 + v11)) v6 4960 μ).bind fun μ8 =>
    (fX11_fitsAt v0 v9 4960 v2 (-1) μ8).bind fun r9 =>
    if r9 < 0 then
      jX11_found_103 v0 v2 v3 v4 v5 v6 v7 v8 v9 v10 v11 0 μ8
    else
      jX11_found_103 v0 v2 v3 v4 v5 v6 v7 v8 v9 v10 v11 1 μ8)
def fX11_found (v0 v1 v2 v3 v4 v5 v6 v7 v8 : Int) (μ : Mm) : Option (Int × Mm) :=
  if isIn v6 0 20 = 0 then
    some ((-1), μ)
  else
    if isIn v7 1 8 = 0 then
      some ((-1), μ)
    else
      chk (KD v0 = 11) (
      (fX11_canDraw v0 v1 v2 v3 v4 9 μ).bind fun (r14, μ14) =>
      if r14 = 0 then
        some ((-1), μ14)
      else
        (fX11_placeOf 0 v1).bind fun r16 =>
        (fX11_survey v0 r16 μ14).bind fun μ17 =>
        (lop (sX11_found_57 v0 v2 v3 v4 v5 v6 v7 v8 r16) FU (0, 0, μ17)).bind fun x18 =>
          match x18 with
          | (v10_19, μ_19) =>
            some (v10_19, μ_19))
set_option maxRecDepth 20000 in
theorem gX11_found_103 (l : Launch) {F : FI} {v0 v2 v3 v4 v5 v6 v7 v8 v9 v10 v11 s0 : Int} {μ : Mm} {t : ((Int × Int × Mm) ⊕ (Int × Mm))} {k n : Nat} (h : jX11_found_103 v0 v2 v3 v4 v5 v6 v7 v8 v9 v10 v11 s0 μ = some t) (hK : zX11_found_57 l F v0 v2 v3 v4 v5 v6 v7 v8 v9 k n t) : GM l mX11_found F k n 103 [(0, (3, v0)), (2, (0, v2)), (3, (0, v3)), (4, (0, v4)), (5, (0, v5)), (6, (0, v6)), (7, (0, v7)), (8, (0, v8)), (9, (0, v9)), (10, (0, v10)), (11, (0, v11))] [(0, s0)] μ := by
  unfold jX11_found_103 at h
  refine GM_istore (L' := [(12, (0, s0)), (0, (3, v0)), (2, (0, v2)), (3, (0, v3)), (4, (0, v4)), (5, (0, v5)), (6, (0, v6)), (7, (0, v7)), (8, (0, v8)), (9, (0, v9)), (10, (0, v10)), (11, (0, v11))]) (pc := 103) (daX11_found_0 55 rfl) (Nat.le_of_ble_eq_true rfl) rfl ?_
  refine GM_iload (pc := 105) 10 rfl (daX11_found_0 56 rfl) ?_
  refine GM_iload (pc := 107) 0 rfl (daX11_found_0 57 rfl) ?_
  refine GM_if_eq (pc := 109) 131 (daX11_found_0 58 rfl) rfl (fun c1 => ?_) (fun c1 => ?_)
  · skip
    rw [if_pos c1] at h
    refine GM_iconst (pc := 131) 0 (daX11_found_1 4 rfl) rfl (R32_b rfl) ?_
    refine GM_iadd (pc := 132) (daX11_found_1 5 rfl) ?_
    refine GM_istore (L' := [(10, (0, w32 (v10 + 0))), (12, (0, s0)), (0, (3, v0)), (2, (0, v2)), (3, (0, v3)), (4, (0, v4)), (5, (0, v5)), (6, (0, v6)), (7, (0, v7)), (8, (0, v8)), (9, (0, v9)), (11, (0, v11))]) (pc := 133) (daX11_found_1 6 rfl) (Nat.le_of_ble_eq_true rfl) rfl ?_
    refine GM_iinc (L' := [(11, (0, w32 (v11 + 1))), (10, (0, w32 (v10 + 0))), (12, (0, s0)), (0, (3, v0)), (2, (0, v2)), (3, (0, v3)), (4, (0, v4)), (5, (0, v5)), (6, (0, v6)), (7, (0, v7)), (8, (0, v8)), (9, (0, v9))]) (pc := 135) 11 rfl (daX11_found_1 7 rfl) (Nat.le_of_ble_eq_true rfl) rfl ?_
    refine GM_goto (pc := 138) 57 (daX11_found_1 8 rfl) rfl ?_
    refine GM_pick [3, 4, 5, 6, 7, 8, 9, 10, 11, 1, 0] rfl ?_
    cases h
    exact hK
  · skip
    rw [if_neg c1] at h
    refine GM_iload (pc := 112) 8 rfl (daX11_found_0 59 rfl) ?_
    refine GM_if_eq (pc := 114) 127 (daX11_found_0 60 rfl) rfl (fun c2 => ?_) (fun c2 => ?_)
    · skip
      rw [if_pos c2] at h
      refine GM_iconst (pc := 127) 1 (daX11_found_1 2 rfl) rfl (R32_b rfl) ?_
      refine GM_goto (pc := 128) 132 (daX11_found_1 3 rfl) rfl ?_
      refine GM_iadd (pc := 132) (daX11_found_1 5 rfl) ?_
      refine GM_istore (L' := [(10, (0, w32 (v10 + 1))), (12, (0, s0)), (0, (3, v0)), (2, (0, v2)), (3, (0, v3)), (4, (0, v4)), (5, (0, v5)), (6, (0, v6)), (7, (0, v7)), (8, (0, v8)), (9, (0, v9)), (11, (0, v11))]) (pc := 133) (daX11_found_1 6 rfl) (Nat.le_of_ble_eq_true rfl) rfl ?_
      refine GM_iinc (L' := [(11, (0, w32 (v11 + 1))), (10, (0, w32 (v10 + 1))), (12, (0, s0)), (0, (3, v0)), (2, (0, v2)), (3, (0, v3)), (4, (0, v4)), (5, (0, v5)), (6, (0, v6)), (7, (0, v7)), (8, (0, v8)), (9, (0, v9))]) (pc := 135) 11 rfl (daX11_found_1 7 rfl) (Nat.le_of_ble_eq_true rfl) rfl ?_
      refine GM_goto (pc := 138) 57 (daX11_found_1 8 rfl) rfl ?_
      refine GM_pick [3, 4, 5, 6, 7, 8, 9, 10, 11, 1, 0] rfl ?_
      cases h
      exact hK
    · skip
      rw [if_neg c2] at h
      refine GM_aload_n (pc := 117) 1 rfl (daX11_found_0 61 rfl) rfl ?_
      refine GM_iload (pc := 118) 9 rfl (daX11_found_0 62 rfl) ?_
      refine GM_iload_n (pc := 120) 2 rfl (daX11_found_0 63 rfl) rfl ?_
      obtain ⟨hc3, h⟩ := chk_inv h
      obtain ⟨⟨r4, μ4⟩, hf4, h⟩ := Option.bind_eq_some_iff.mp h
      dsimp only at h
      refine GM_callV0 (pc := 121) [(0, v9), (0, v2)] (tX11_rivalsOf l hf4) cwX11_rivalsOf 11 (Nat.le_of_ble_eq_true rfl) rfl kv_X11_rivalsOf ke_X11_rivalsOf km_X11_352 hc3 ⟨Nat.le_of_ble_eq_true rfl, Nat.le_of_ble_eq_true rfl⟩ (Nat.le_of_ble_eq_true rfl) (Nat.le_of_ble_eq_true rfl) (daX11_found_1 0 rfl) ?_
      refine GM_if_ne (pc := 124) 131 (daX11_found_1 1 rfl) rfl (fun c5 => ?_) (fun c5 => ?_)
      · skip
        rw [if_neg c5] at h
        refine GM_iconst (pc := 131) 0 (daX11_found_1 4 rfl) rfl (R32_b rfl) ?_
        refine GM_iadd (pc := 132) (daX11_found_1 5 rfl) ?_
        refine GM_istore (L' := [(10, (0, w32 (v10 + 0))), (12, (0, s0)), (0, (3, v0)), (2, (0, v2)), (3, (0, v3)), (4, (0, v4)), (5, (0, v5)), (6, (0, v6)), (7, (0, v7)), (8, (0, v8)), (9, (0, v9)), (11, (0, v11))]) (pc := 133) (daX11_found_1 6 rfl) (Nat.le_of_ble_eq_true rfl) rfl ?_
        refine GM_iinc (L' := [(11, (0, w32 (v11 + 1))), (10, (0, w32 (v10 + 0))), (12, (0, s0)), (0, (3, v0)), (2, (0, v2)), (3, (0, v3)), (4, (0, v4)), (5, (0, v5)), (6, (0, v6)), (7, (0, v7)), (8, (0, v8)), (9, (0, v9))]) (pc := 135) 11 rfl (daX11_found_1 7 rfl) (Nat.le_of_ble_eq_true rfl) rfl ?_
        refine GM_goto (pc := 138) 57 (daX11_found_1 8 rfl) rfl ?_
        refine GM_pick [3, 4, 5, 6, 7, 8, 9, 10, 11, 1, 0] rfl ?_
        cases h
        exact hK
      · skip
        rw [if_pos c5] at h
        refine GM_iconst (pc := 127) 1 (daX11_found_1 2 rfl) rfl (R32_b rfl) ?_
        refine GM_goto (pc := 128) 132 (daX11_found_1 3 rfl) rfl ?_
        refine GM_iadd (pc := 132) (daX11_found_1 5 rfl) ?_
        refine GM_istore (L' := [(10, (0, w32 (v10 + 1))), (12, (0, s0)), (0, (3, v0)), (2, (0, v2)), (3, (0, v3)), (4, (0, v4)), (5, (0, v5)), (6, (0, v6)), (7, (0, v7)), (8, (0, v8)), (9, (0, v9)), (11, (0, v11))]) (pc := 133) (daX11_found_1 6 rfl) (Nat.le_of_ble_eq_true rfl) rfl ?_
        refine GM_iinc (L' := [(11, (0, w32 (v11 + 1))), (10, (0, w32 (v10 + 1))), (12, (0, s0)), (0, (3, v0)), (2, (0, v2)), (3, (0, v3)), (4, (0, v4)), (5, (0, v5)), (6, (0, v6)), (7, (0, v7)), (8, (0, v8)), (9, (0, v9))]) (pc := 135) 11 rfl (daX11_found_1 7 rfl) (Nat.le_of_ble_eq_true rfl) rfl ?_
        refine GM_goto (pc := 138) 57 (daX11_found_1 8 rfl) rfl ?_
        refine GM_pick [3, 4, 5, 6, 7, 8, 9, 10, 11, 1, 0] rfl ?_
        cases h
        exact hK
set_option maxRecDepth 20000 in
theorem qX11_found_57 (l : Launch) (F : FI) (v0 v2 v3 v4 v5 v6 v7 v8 v9 : Int) (k n : Nat) : ∀ (q : (Int × Int × Mm)) (t : ((Int × Int × Mm) ⊕ (Int × Mm))), sX11_found_57 v0 v2 v3 v4 v5 v6 v7 v8 v9 q = some t → zX11_found_57 l F v0 v2 v3 v4 v5 v6 v7 v8 v9 k n t → zX11_found_57 l F v0 v2 v3 v4 v5 v6 v7 v8 v9 k n (.inl q) := by
  intro q t h hK
  obtain ⟨v10, v11, μ⟩ := q
  unfold sX11_found_57 at h
  try dsimp only at h
  show GM l mX11_found F k n 57 [(0, (3, v0)), (2, (0, v2)), (3, (0, v3)), (4, (0, v4)), (5, (0, v5)), (6, (0, v6)), (7, (0, v7)), (8, (0, v8)), (9, (0, v9)), (10, (0, v10)), (11, (0, v11))] [] μ
  refine GM_iload (pc := 57) 10 rfl (daX11_found_0 31 rfl) ?_
  refine GM_iload (pc := 59) 6 rfl (daX11_found_0 32 rfl) ?_
  refine GM_icmp_ge (pc := 61) 141 (daX11_found_0 33 rfl) rfl (fun c6 => ?_) (fun c6 => ?_)
  · skip
    rw [if_pos c6] at h
    refine GM_pick [9] rfl ?_
    cases h
    exact hK
  · skip
    rw [if_neg c6] at h
    refine GM_aload_n (pc := 64) 0 rfl (daX11_found_0 34 rfl) rfl ?_
    refine GM_iload (pc := 65) 8 rfl (daX11_found_0 35 rfl) ?_
    refine GM_iload_n (pc := 67) 1 rfl (daX11_found_0 36 rfl) rfl ?_
    refine GM_iload_n (pc := 68) 2 rfl (daX11_found_0 37 rfl) rfl ?_
    refine GM_iload (pc := 69) 3 rfl (daX11_found_0 38 rfl) ?_
    refine GM_iload (pc := 71) 4 rfl (daX11_found_0 39 rfl) ?_
    refine GM_iload (pc := 73) 10 rfl (daX11_found_0 40 rfl) ?_
    refine GM_iadd (pc := 75) (daX11_found_0 41 rfl) ?_
    refine GM_iload (pc := 76) 5 rfl (daX11_found_0 42 rfl) ?_
    refine GM_sipush (pc := 78) 4960 (daX11_found_0 43 rfl) rfl (R32_b rfl) ?_
    obtain ⟨hc7, h⟩ := chk_inv h
    obtain ⟨μ8, hf8, h⟩ := Option.bind_eq_some_iff.mp h
    refine GM_callV0 (pc := 81) [(0, v9), (0, v2), (0, v3), (0, v4), (0, w32 (v5 + v11)), (0, v6), (0, 4960)] (tX11_scrawls l hf8) cwX11_scrawls 11 (Nat.le_of_ble_eq_true rfl) rfl kv_X11_scrawls ke_X11_scrawls km_X11_362 hc7 ⟨Nat.le_of_ble_eq_true rfl, Nat.le_of_ble_eq_true rfl⟩ (Nat.le_of_ble_eq_true rfl) (Nat.le_of_ble_eq_true rfl) (daX11_found_0 44 rfl) ?_
    refine GM_aload_n (pc := 84) 0 rfl (daX11_found_0 45 rfl) rfl ?_
    refine GM_iload (pc := 85) 8 rfl (daX11_found_0 46 rfl) ?_
    refine GM_sipush (pc := 87) 4960 (daX11_found_0 47 rfl) rfl (R32_b rfl) ?_
    refine GM_iload_n (pc := 90) 1 rfl (daX11_found_0 48 rfl) rfl ?_
    refine GM_iconst (pc := 91) (-1) (daX11_found_0 49 rfl) rfl (R32_b rfl) ?_
    obtain ⟨r9, hf9, h⟩ := Option.bind_eq_some_iff.mp h
    refine GM_callV0 (pc := 92) [(0, v9), (0, 4960), (0, v2), (0, (-1))] (tX11_fitsAt l hf9) cwX11_fitsAt 11 (Nat.le_of_ble_eq_true rfl) rfl kv_X11_fitsAt ke_X11_fitsAt km_X11_289 hc7 ⟨Nat.le_of_ble_eq_true rfl, Nat.le_of_ble_eq_true rfl⟩ (Nat.le_of_ble_eq_true rfl) (Nat.le_of_ble_eq_true rfl) (daX11_found_0 50 rfl) ?_
    refine GM_if_lt (pc := 95) 102 (daX11_found_0 51 rfl) rfl (fun c10 => ?_) (fun c10 => ?_)
    · skip
      rw [if_pos c10] at h
      refine GM_iconst (pc := 102) 0 (daX11_found_0 54 rfl) rfl (R32_b rfl) ?_
      exact gX11_found_103 l h hK
    · skip
      rw [if_neg c10] at h
      refine GM_iconst (pc := 98) 1 (daX11_found_0 52 rfl) rfl (R32_b rfl) ?_
      refine GM_goto (pc := 99) 103 (daX11_found_0 53 rfl) rfl ?_
      exact gX11_found_103 l h hK
set_option maxRecDepth 20000 in
theorem gX11_found_0 (l : Launch) {F : FI} {v0 v1 v2 v3 v4 v5 v6 v7 v8 : Int} {μ : Mm} {t : (Int × Mm)} (h : fX11_found v0 v1 v2 v3 v4 v5 v6 v7 v8 μ = some t) (hK : F.1 = [(0, t.1)] ∧ F.2.1 = t.2) : GM l mX11_found F 0 0 0 [(0, (3, v0)), (1, (0, v1)), (2, (0, v2)), (3, (0, v3)), (4, (0, v4)), (5, (0, v5)), (6, (0, v6)), (7, (0, v7)), (8, (0, v8))] [] μ := by
  unfold fX11_found at h
  refine GM_iload (pc := 0) 6 rfl (daX11_found_0 0 rfl) ?_
  refine GM_iconst (pc := 2) 0 (daX11_found_0 1 rfl) rfl (R32_b rfl) ?_
  refine GM_bipush (pc := 3) 20 (daX11_found_0 2 rfl) rfl (R32_b rfl) ?_
  refine GM_callS0 (pc := 5) [(0, v6), (0, 0), (0, 20)] (tX11_isIn l (fX11_isIn_eq v6 0 20)) cwX11_isIn ks_X11_isIn km_X11_147 ⟨Nat.le_of_ble_eq_true rfl, Nat.le_of_ble_eq_true rfl⟩ (Nat.le_of_ble_eq_true rfl) (Nat.le_of_ble_eq_true rfl) (daX11_found_0 3 rfl) ?_
  refine GM_if_eq (pc := 8) 36 (daX11_found_0 4 rfl) rfl (fun c11 => ?_) (fun c11 => ?_)
  · skip
    rw [if_pos c11] at h
    refine GM_iconst (pc := 36) (-1) (daX11_found_0 18 rfl) rfl (R32_b rfl) ?_
    cases h
    exact GM_iret (pc := 37) (daX11_found_0 19 rfl) rfl hK
  · skip
    rw [if_neg c11] at h
    refine GM_iload (pc := 11) 7 rfl (daX11_found_0 5 rfl) ?_
    refine GM_iconst (pc := 13) 1 (daX11_found_0 6 rfl) rfl (R32_b rfl) ?_
    refine GM_bipush (pc := 14) 8 (daX11_found_0 7 rfl) rfl (R32_b rfl) ?_
    refine GM_callS0 (pc := 16) [(0, v7), (0, 1), (0, 8)] (tX11_isIn l (fX11_isIn_eq v7 1 8)) cwX11_isIn ks_X11_isIn km_X11_147 ⟨Nat.le_of_ble_eq_true rfl, Nat.le_of_ble_eq_true rfl⟩ (Nat.le_of_ble_eq_true rfl) (Nat.le_of_ble_eq_true rfl) (daX11_found_0 8 rfl) ?_
    refine GM_if_eq (pc := 19) 36 (daX11_found_0 9 rfl) rfl (fun c12 => ?_) (fun c12 => ?_)
    · skip
      rw [if_pos c12] at h
      refine GM_iconst (pc := 36) (-1) (daX11_found_0 18 rfl) rfl (R32_b rfl) ?_
      cases h
      exact GM_iret (pc := 37) (daX11_found_0 19 rfl) rfl hK
    · skip
      rw [if_neg c12] at h
      refine GM_aload_n (pc := 22) 0 rfl (daX11_found_0 10 rfl) rfl ?_
      refine GM_iload_n (pc := 23) 1 rfl (daX11_found_0 11 rfl) rfl ?_
      refine GM_iload_n (pc := 24) 2 rfl (daX11_found_0 12 rfl) rfl ?_
      refine GM_iload_n (pc := 25) 3 rfl (daX11_found_0 13 rfl) rfl ?_
      refine GM_iload (pc := 26) 4 rfl (daX11_found_0 14 rfl) ?_
      refine GM_bipush (pc := 28) 9 (daX11_found_0 15 rfl) rfl (R32_b rfl) ?_
      obtain ⟨hc13, h⟩ := chk_inv h
      obtain ⟨⟨r14, μ14⟩, hf14, h⟩ := Option.bind_eq_some_iff.mp h
      dsimp only at h
      refine GM_callV0 (pc := 30) [(0, v1), (0, v2), (0, v3), (0, v4), (0, 9)] (tX11_canDraw l hf14) cwX11_canDraw 11 (Nat.le_of_ble_eq_true rfl) rfl kv_X11_canDraw ke_X11_canDraw km_X11_345 hc13 ⟨Nat.le_of_ble_eq_true rfl, Nat.le_of_ble_eq_true rfl⟩ (Nat.le_of_ble_eq_true rfl) (Nat.le_of_ble_eq_true rfl) (daX11_found_0 16 rfl) ?_
      refine GM_if_ne (pc := 33) 38 (daX11_found_0 17 rfl) rfl (fun c15 => ?_) (fun c15 => ?_)
      · skip
        rw [if_neg c15] at h
        refine GM_iconst (pc := 38) 0 (daX11_found_0 20 rfl) rfl (R32_b rfl) ?_
        refine GM_iload_n (pc := 39) 1 rfl (daX11_found_0 21 rfl) rfl ?_
        obtain ⟨r16, hf16, h⟩ := Option.bind_eq_some_iff.mp h
        refine GM_callS0 (pc := 40) [(0, 0), (0, v1)] (tX11_placeOf l hf16) cwX11_placeOf ks_X11_placeOf km_X11_204 ⟨Nat.le_of_ble_eq_true rfl, Nat.le_of_ble_eq_true rfl⟩ (Nat.le_of_ble_eq_true rfl) (Nat.le_of_ble_eq_true rfl) (daX11_found_0 22 rfl) ?_
        refine GM_istore (L' := [(9, (0, r16)), (0, (3, v0)), (1, (0, v1)), (2, (0, v2)), (3, (0, v3)), (4, (0, v4)), (5, (0, v5)), (6, (0, v6)), (7, (0, v7)), (8, (0, v8))]) (pc := 43) (daX11_found_0 23 rfl) (Nat.le_of_ble_eq_true rfl) rfl ?_
        refine GM_aload_n (pc := 45) 1 rfl (daX11_found_0 24 rfl) rfl ?_
        refine GM_iload (pc := 46) 0 rfl (daX11_found_0 25 rfl) ?_
        obtain ⟨μ17, hf17, h⟩ := Option.bind_eq_some_iff.mp h
        refine GM_callV0 (pc := 48) [(0, r16)] (tX11_survey l hf17) cwX11_survey 11 (Nat.le_of_ble_eq_true rfl) rfl kv_X11_survey ke_X11_survey km_X11_295 hc13 ⟨Nat.le_of_ble_eq_true rfl, Nat.le_of_ble_eq_true rfl⟩ (Nat.le_of_ble_eq_true rfl) (Nat.le_of_ble_eq_true rfl) (daX11_found_0 26 rfl) ?_
        refine GM_iconst (pc := 51) 0 (daX11_found_0 27 rfl) rfl (R32_b rfl) ?_
        refine GM_istore (L' := [(10, (0, 0)), (9, (0, r16)), (0, (3, v0)), (1, (0, v1)), (2, (0, v2)), (3, (0, v3)), (4, (0, v4)), (5, (0, v5)), (6, (0, v6)), (7, (0, v7)), (8, (0, v8))]) (pc := 52) (daX11_found_0 28 rfl) (Nat.le_of_ble_eq_true rfl) rfl ?_
        refine GM_iconst (pc := 54) 0 (daX11_found_0 29 rfl) rfl (R32_b rfl) ?_
        refine GM_istore (L' := [(11, (0, 0)), (10, (0, 0)), (9, (0, r16)), (0, (3, v0)), (1, (0, v1)), (2, (0, v2)), (3, (0, v3)), (4, (0, v4)), (5, (0, v5)), (6, (0, v6)), (7, (0, v7)), (8, (0, v8))]) (pc := 55) (daX11_found_0 30 rfl) (Nat.le_of_ble_eq_true rfl) rfl ?_
        refine GM_pick [3, 5, 6, 7, 8, 9, 10, 11, 2, 1, 0] rfl ?_
        obtain ⟨x18, hqx18, h⟩ := Option.bind_eq_some_iff.mp h
        refine lop_ind (zX11_found_57 l F v0 v2 v3 v4 v5 v6 v7 v8 r16 0 0) (qX11_found_57 l F v0 v2 v3 v4 v5 v6 v7 v8 r16 0 0) FU _ x18 hqx18 ?_
        obtain ⟨v10_19, μ_19⟩ := x18
        dsimp only at h
        show GM l mX11_found F 0 0 141 [(10, (0, v10_19))] [] μ_19
        refine GM_iload (pc := 141) 0 rfl (daX11_found_1 9 rfl) ?_
        cases h
        exact GM_iret (pc := 143) (daX11_found_1 10 rfl) rfl hK
      · skip
        rw [if_pos c15] at h
        refine GM_iconst (pc := 36) (-1) (daX11_found_0 18 rfl) rfl (R32_b rfl) ?_
        cases h
        exact GM_iret (pc := 37) (daX11_found_0 19 rfl) rfl hK
theorem tX11_found (l : Launch) {v0 v1 v2 v3 v4 v5 v6 v7 v8 : Int} {μ : Mm} {t : (Int × Mm)} (h : fX11_found v0 v1 v2 v3 v4 v5 v6 v7 v8 μ = some t) : Ct l yX11_found mX11_found [(3, v0), (0, v1), (0, v2), (0, v3), (0, v4), (0, v5), (0, v6), (0, v7), (0, v8)] μ ([(0, t.1)], t.2, 0, 0) :=
  Ct_of (by decide +kernel) rfl rfl (Nat.le_of_ble_eq_true rfl) (fun _ _ _ => trivial) (gX11_found_0 l h ⟨rfl, rfl⟩)
def mX11_sees : MI := (RX11, cX11_sees, 6, (some .int), "sees", 5, 127, fun _ _ _ => True)
theorem cwX11_sees : CWd yX11_sees mX11_sees 2 := ⟨ki_X11, kk_X11_sees, ⟨by decide, by decide⟩, rfl⟩
def dtX11_sees_0 : List (Nat × Instr × Nat) := [(0, .aload_n 0, 1), (1, .iload_n 1, 1), (2, .iload_n 2, 1), (3, .invokevirtual 210, 3), (6, .ifCond .ne 5, 3), (9, .iconst (-1), 1), (10, .ireturn, 1), (11, .iconst 0, 1), (12, .iload_n 1, 1), (13, .invokestatic 204, 3), (16, .istore_n 3, 1), (17, .iconst 0, 1), (18, .istore 4, 2), (20, .iconst 0, 1), (21, .istore 5, 2), (23, .iload 5, 2), (25, .aload_n 0, 1), (26, .iload_n 3, 1), (27, .invokevirtual 207, 3), (30, .if_icmp .ge 36, 3), (33, .iload 4, 2), (35, .iload 5, 2), (37, .iload_n 2, 1), (38, .if_icmp .eq 18, 3), (41, .aload_n 0, 1), (42, .iload_n 3, 1), (43, .iload_n 2, 1), (44, .iload 5, 2), (46, .invokevirtual 244, 3), (49, .ifCond .eq 7, 3), (52, .iconst 1, 1), (53, .goto 4, 3), (56, .iconst 0, 1), (57, .iadd, 1), (58, .istore 4, 2), (60, .iinc 5 1, 3), (63, .goto (-40), 3), (66, .iload 4, 2), (68, .ireturn, 1)]
theorem ddX11_sees_0 : (dtX11_sees_0.all fun e => decide (decode mX11_sees.2.1 e.1 = .ok (e.2.1, e.2.2))) = true := by decide +kernel
theorem daX11_sees_0 (j : Nat) {pc n : Nat} {i : Instr} (h : dtX11_sees_0[j]? = some (pc, i, n)) : decode mX11_sees.2.1 pc = .ok (i, n) := dec_of (c := mX11_sees.2.1) ddX11_sees_0 h
def zX11_sees_23 (l : Launch) (F : FI) (v0 v2 v3 : Int) (μ : Mm) (k n : Nat) : (Int × Int) ⊕ Int → Prop
  | .inl (v4, v5) => GM l mX11_sees F k n 23 [(0, (3, v0)), (2, (0, v2)), (3, (0, v3)), (4, (0, v4)), (5, (0, v5))] [] μ
  | .inr v4 => GM l mX11_sees F k n 66 [(4, (0, v4))] [] μ
def sX11_sees_23 (v0 v2 v3 : Int) (μ : Mm) : (Int × Int) → Option ((Int × Int) ⊕ Int) := fun (v4, v5) =>
  chk (KD v0 = 11) (
  (fX11_placesOf v0 v3 μ).bind fun r2 =>
  if r2 ≤ v5 then
    some (.inr v4)
  else
    if v5 = v2 then
      some (.inl (w32 (v4 + 0), w32 (v5 + 1)))
    else
      (fX11_isSeen v0 v3 v2 v5 μ).bind fun r5 =>
      if r5 = 0 then
        some (.inl (w32 (v4 + 0), w32 (v5 + 1)))
      else
        some (.inl (w32 (v4 + 1), w32 (v5 + 1))))
def fX11_sees (v0 v1 v2 : Int) (μ : Mm) : Option Int :=
  chk (KD v0 = 11) (
  (fX11_isPlace v0 v1 v2 μ).bind fun r8 =>
  if r8 = 0 then
    some (-1)
  else
    (fX11_placeOf 0 v1).bind fun r10 =>
    (lop (sX11_sees_23 v0 v2 r10 μ) FU (0, 0)).bind fun v4_12 =>
      some v4_12)
set_option maxRecDepth 20000 in
theorem qX11_sees_23 (l : Launch) (F : FI) (v0 v2 v3 : Int) (μ : Mm) (k n : Nat) : ∀ (q : (Int × Int)) (t : ((Int × Int) ⊕ Int)), sX11_sees_23 v0 v2 v3 μ q = some t → zX11_sees_23 l F v0 v2 v3 μ k n t → zX11_sees_23 l F v0 v2 v3 μ k n (.inl q) := by
  intro q t h hK
  obtain ⟨v4, v5⟩ := q
  unfold sX11_sees_23 at h
  try dsimp only at h
  show GM l mX11_sees F k n 23 [(0, (3, v0)), (2, (0, v2)), (3, (0, v3)), (4, (0, v4)), (5, (0, v5))] [] μ
  refine GM_iload (pc := 23) 4 rfl (daX11_sees_0 15 rfl) ?_
  refine GM_aload_n (pc := 25) 0 rfl (daX11_sees_0 16 rfl) rfl ?_
  refine GM_iload_n (pc := 26) 2 rfl (daX11_sees_0 17 rfl) rfl ?_
  obtain ⟨hc1, h⟩ := chk_inv h
  obtain ⟨r2, hf2, h⟩ := Option.bind_eq_some_iff.mp h
  refine GM_callV0 (pc := 27) [(0, v3)] (tX11_placesOf l hf2) cwX11_placesOf 11 (Nat.le_of_ble_eq_true rfl) rfl kv_X11_placesOf ke_X11_placesOf km_X11_207 hc1 ⟨Nat.le_of_ble_eq_true rfl, Nat.le_of_ble_eq_true rfl⟩ (Nat.le_of_ble_eq_true rfl) (Nat.le_of_ble_eq_true rfl) (daX11_sees_0 18 rfl) ?_
  refine GM_icmp_ge (pc := 30) 66 (daX11_sees_0 19 rfl) rfl (fun c3 => ?_) (fun c3 => ?_)
  · skip
    rw [if_pos c3] at h
    refine GM_pick [3] rfl ?_
    cases h
    exact hK
  · skip
    rw [if_neg c3] at h
    refine GM_iload (pc := 33) 3 rfl (daX11_sees_0 20 rfl) ?_
    refine GM_iload (pc := 35) 4 rfl (daX11_sees_0 21 rfl) ?_
    refine GM_iload_n (pc := 37) 1 rfl (daX11_sees_0 22 rfl) rfl ?_
    refine GM_icmp_eq (pc := 38) 56 (daX11_sees_0 23 rfl) rfl (fun c4 => ?_) (fun c4 => ?_)
    · skip
      rw [if_pos c4] at h
      refine GM_iconst (pc := 56) 0 (daX11_sees_0 32 rfl) rfl (R32_b rfl) ?_
      refine GM_iadd (pc := 57) (daX11_sees_0 33 rfl) ?_
      refine GM_istore (L' := [(4, (0, w32 (v4 + 0))), (0, (3, v0)), (2, (0, v2)), (3, (0, v3)), (5, (0, v5))]) (pc := 58) (daX11_sees_0 34 rfl) (Nat.le_of_ble_eq_true rfl) rfl ?_
      refine GM_iinc (L' := [(5, (0, w32 (v5 + 1))), (4, (0, w32 (v4 + 0))), (0, (3, v0)), (2, (0, v2)), (3, (0, v3))]) (pc := 60) 4 rfl (daX11_sees_0 35 rfl) (Nat.le_of_ble_eq_true rfl) rfl ?_
      refine GM_goto (pc := 63) 23 (daX11_sees_0 36 rfl) rfl ?_
      refine GM_pick [2, 3, 4, 1, 0] rfl ?_
      cases h
      exact hK
    · skip
      rw [if_neg c4] at h
      refine GM_aload_n (pc := 41) 0 rfl (daX11_sees_0 24 rfl) rfl ?_
      refine GM_iload_n (pc := 42) 2 rfl (daX11_sees_0 25 rfl) rfl ?_
      refine GM_iload_n (pc := 43) 1 rfl (daX11_sees_0 26 rfl) rfl ?_
      refine GM_iload (pc := 44) 4 rfl (daX11_sees_0 27 rfl) ?_
      obtain ⟨r5, hf5, h⟩ := Option.bind_eq_some_iff.mp h
      refine GM_callV0 (pc := 46) [(0, v3), (0, v2), (0, v5)] (tX11_isSeen l hf5) cwX11_isSeen 11 (Nat.le_of_ble_eq_true rfl) rfl kv_X11_isSeen ke_X11_isSeen km_X11_244 hc1 ⟨Nat.le_of_ble_eq_true rfl, Nat.le_of_ble_eq_true rfl⟩ (Nat.le_of_ble_eq_true rfl) (Nat.le_of_ble_eq_true rfl) (daX11_sees_0 28 rfl) ?_
      refine GM_if_eq (pc := 49) 56 (daX11_sees_0 29 rfl) rfl (fun c6 => ?_) (fun c6 => ?_)
      · skip
        rw [if_pos c6] at h
        refine GM_iconst (pc := 56) 0 (daX11_sees_0 32 rfl) rfl (R32_b rfl) ?_
        refine GM_iadd (pc := 57) (daX11_sees_0 33 rfl) ?_
        refine GM_istore (L' := [(4, (0, w32 (v4 + 0))), (0, (3, v0)), (2, (0, v2)), (3, (0, v3)), (5, (0, v5))]) (pc := 58) (daX11_sees_0 34 rfl) (Nat.le_of_ble_eq_true rfl) rfl ?_
        refine GM_iinc (L' := [(5, (0, w32 (v5 + 1))), (4, (0, w32 (v4 + 0))), (0, (3, v0)), (2, (0, v2)), (3, (0, v3))]) (pc := 60) 4 rfl (daX11_sees_0 35 rfl) (Nat.le_of_ble_eq_true rfl) rfl ?_
        refine GM_goto (pc := 63) 23 (daX11_sees_0 36 rfl) rfl ?_
        refine GM_pick [2, 3, 4, 1, 0] rfl ?_
        cases h
        exact hK
      · skip
        rw [if_neg c6] at h
        refine GM_iconst (pc := 52) 1 (daX11_sees_0 30 rfl) rfl (R32_b rfl) ?_
        refine GM_goto (pc := 53) 57 (daX11_sees_0 31 rfl) rfl ?_
        refine GM_iadd (pc := 57) (daX11_sees_0 33 rfl) ?_
        refine GM_istore (L' := [(4, (0, w32 (v4 + 1))), (0, (3, v0)), (2, (0, v2)), (3, (0, v3)), (5, (0, v5))]) (pc := 58) (daX11_sees_0 34 rfl) (Nat.le_of_ble_eq_true rfl) rfl ?_
        refine GM_iinc (L' := [(5, (0, w32 (v5 + 1))), (4, (0, w32 (v4 + 1))), (0, (3, v0)), (2, (0, v2)), (3, (0, v3))]) (pc := 60) 4 rfl (daX11_sees_0 35 rfl) (Nat.le_of_ble_eq_true rfl) rfl ?_
        refine GM_goto (pc := 63) 23 (daX11_sees_0 36 rfl) rfl ?_
        refine GM_pick [2, 3, 4, 1, 0] rfl ?_
        cases h
        exact hK
set_option maxRecDepth 20000 in
theorem gX11_sees_0 (l : Launch) {F : FI} {v0 v1 v2 : Int} {μ : Mm} {t : Int} (h : fX11_sees v0 v1 v2 μ = some t) (hK : F.1 = [(0, t)] ∧ F.2.1 = μ) : GM l mX11_sees F 0 0 0 [(0, (3, v0)), (1, (0, v1)), (2, (0, v2))] [] μ := by
  unfold fX11_sees at h
  refine GM_aload_n (pc := 0) 0 rfl (daX11_sees_0 0 rfl) rfl ?_
  refine GM_iload_n (pc := 1) 1 rfl (daX11_sees_0 1 rfl) rfl ?_
  refine GM_iload_n (pc := 2) 2 rfl (daX11_sees_0 2 rfl) rfl ?_
  obtain ⟨hc7, h⟩ := chk_inv h
  obtain ⟨r8, hf8, h⟩ := Option.bind_eq_some_iff.mp h
  refine GM_callV0 (pc := 3) [(0, v1), (0, v2)] (tX11_isPlace l hf8) cwX11_isPlace 11 (Nat.le_of_ble_eq_true rfl) rfl kv_X11_isPlace ke_X11_isPlace km_X11_210 hc7 ⟨Nat.le_of_ble_eq_true rfl, Nat.le_of_ble_eq_true rfl⟩ (Nat.le_of_ble_eq_true rfl) (Nat.le_of_ble_eq_true rfl) (daX11_sees_0 3 rfl) ?_
  refine GM_if_ne (pc := 6) 11 (daX11_sees_0 4 rfl) rfl (fun c9 => ?_) (fun c9 => ?_)
  · skip
    rw [if_neg c9] at h
    refine GM_iconst (pc := 11) 0 (daX11_sees_0 7 rfl) rfl (R32_b rfl) ?_
    refine GM_iload_n (pc := 12) 1 rfl (daX11_sees_0 8 rfl) rfl ?_
    obtain ⟨r10, hf10, h⟩ := Option.bind_eq_some_iff.mp h
    refine GM_callS0 (pc := 13) [(0, 0), (0, v1)] (tX11_placeOf l hf10) cwX11_placeOf ks_X11_placeOf km_X11_204 ⟨Nat.le_of_ble_eq_true rfl, Nat.le_of_ble_eq_true rfl⟩ (Nat.le_of_ble_eq_true rfl) (Nat.le_of_ble_eq_true rfl) (daX11_sees_0 9 rfl) ?_
    refine GM_istore_n (L' := [(3, (0, r10)), (0, (3, v0)), (1, (0, v1)), (2, (0, v2))]) (pc := 16) (daX11_sees_0 10 rfl) rfl (Nat.le_of_ble_eq_true rfl) rfl ?_
    refine GM_iconst (pc := 17) 0 (daX11_sees_0 11 rfl) rfl (R32_b rfl) ?_
    refine GM_istore (L' := [(4, (0, 0)), (3, (0, r10)), (0, (3, v0)), (1, (0, v1)), (2, (0, v2))]) (pc := 18) (daX11_sees_0 12 rfl) (Nat.le_of_ble_eq_true rfl) rfl ?_
    refine GM_iconst (pc := 20) 0 (daX11_sees_0 13 rfl) rfl (R32_b rfl) ?_
    refine GM_istore (L' := [(5, (0, 0)), (4, (0, 0)), (3, (0, r10)), (0, (3, v0)), (1, (0, v1)), (2, (0, v2))]) (pc := 21) (daX11_sees_0 14 rfl) (Nat.le_of_ble_eq_true rfl) rfl ?_
    refine GM_pick [3, 5, 2, 1, 0] rfl ?_
    obtain ⟨x11, hqx11, h⟩ := Option.bind_eq_some_iff.mp h
    refine lop_ind (zX11_sees_23 l F v0 v2 r10 μ 0 0) (qX11_sees_23 l F v0 v2 r10 μ 0 0) FU _ x11 hqx11 ?_
    obtain ⟨v4_12, hqq⟩ : ∃ z, z = x11 := ⟨x11, rfl⟩
    subst hqq
    show GM l mX11_sees F 0 0 66 [(4, (0, v4_12))] [] μ
    refine GM_iload (pc := 66) 0 rfl (daX11_sees_0 37 rfl) ?_
    cases h
    exact GM_iret (pc := 68) (daX11_sees_0 38 rfl) rfl hK
  · skip
    rw [if_pos c9] at h
    refine GM_iconst (pc := 9) (-1) (daX11_sees_0 5 rfl) rfl (R32_b rfl) ?_
    cases h
    exact GM_iret (pc := 10) (daX11_sees_0 6 rfl) rfl hK
theorem tX11_sees (l : Launch) {v0 v1 v2 : Int} {μ : Mm} {t : Int} (h : fX11_sees v0 v1 v2 μ = some t) : Ct l yX11_sees mX11_sees [(3, v0), (0, v1), (0, v2)] μ ([(0, t)], μ, 0, 0) :=
  Ct_of (by decide +kernel) rfl rfl (Nat.le_of_ble_eq_true rfl) (fun _ _ _ => trivial) (gX11_sees_0 l h ⟨rfl, rfl⟩)
def mX11_most : MI := (RX11, cX11_most, 6, (some .int), "most", 6, 152, fun _ _ _ => True)
theorem cwX11_most : CWd yX11_most mX11_most 1 := ⟨ki_X11, kk_X11_most, ⟨by decide, by decide⟩, rfl⟩
def dtX11_most_0 : List (Nat × Instr × Nat) := [(0, .aload_n 0, 1), (1, .iconst 0, 1), (2, .iload_n 1, 1), (3, .invokevirtual 182, 3), (6, .ifCond .ne 5, 3), (9, .iconst (-1), 1), (10, .ireturn, 1), (11, .iconst 0, 1), (12, .istore_n 2, 1), (13, .iconst (-1), 1), (14, .istore_n 3, 1), (15, .iconst 0, 1), (16, .istore 4, 2), (18, .iload 4, 2), (20, .aload_n 0, 1), (21, .iconst 0, 1), (22, .iload_n 1, 1), (23, .invokestatic 204, 3), (26, .invokevirtual 207, 3), (29, .if_icmp .ge 33, 3), (32, .aload_n 0, 1), (33, .iload_n 1, 1), (34, .iload 4, 2), (36, .invokevirtual 366, 3), (39, .istore 5, 2), (41, .iload 5, 2), (43, .iload_n 3, 1), (44, .if_icmp .gt 6, 3), (47, .goto 9, 3), (50, .iload 4, 2), (52, .istore_n 2, 1), (53, .iload 5, 2), (55, .istore_n 3, 1), (56, .iinc 4 1, 3), (59, .goto (-41), 3), (62, .iload_n 2, 1), (63, .ireturn, 1)]
theorem ddX11_most_0 : (dtX11_most_0.all fun e => decide (decode mX11_most.2.1 e.1 = .ok (e.2.1, e.2.2))) = true := by decide +kernel
theorem daX11_most_0 (j : Nat) {pc n : Nat} {i : Instr} (h : dtX11_most_0[j]? = some (pc, i, n)) : decode mX11_most.2.1 pc = .ok (i, n) := dec_of (c := mX11_most.2.1) ddX11_most_0 h
def zX11_most_18 (l : Launch) (F : FI) (v0 v1 : Int) (μ : Mm) (k n : Nat) : (Int × Int × Int) ⊕ Int → Prop
  | .inl (v2, v3, v4) => GM l mX11_most F k n 18 [(0, (3, v0)), (1, (0, v1)), (2, (0, v2)), (3, (0, v3)), (4, (0, v4))] [] μ
  | .inr v2 => GM l mX11_most F k n 62 [(2, (0, v2))] [] μ
def sX11_most_18 (v0 v1 : Int) (μ : Mm) : (Int × Int × Int) → Option ((Int × Int × Int) ⊕ Int) := fun (v2, v3, v4) =>
  (fX11_placeOf 0 v1).bind fun r1 =>
  chk (KD v0 = 11) (
  (fX11_placesOf v0 r1 μ).bind fun r3 =>
  if r3 ≤ v4 then
    some (.inr v2)
  else
    (fX11_sees v0 v1 v4 μ).bind fun r5 =>
    if v3 < r5 then
      some (.inl (v4, r5, w32 (v4 + 1)))
    else
      some (.inl (v2, v3, w32 (v4 + 1))))
def fX11_most (v0 v1 : Int) (μ : Mm) : Option Int :=
  chk (KD v0 = 11) (
  (fX11_isOf v0 0 v1 μ).bind fun r8 =>
  if r8 = 0 then
    some (-1)
  else
    (lop (sX11_most_18 v0 v1 μ) FU (0, (-1), 0)).bind fun v2_11 =>
      some v2_11)
set_option maxRecDepth 20000 in
theorem qX11_most_18 (l : Launch) (F : FI) (v0 v1 : Int) (μ : Mm) (k n : Nat) : ∀ (q : (Int × Int × Int)) (t : ((Int × Int × Int) ⊕ Int)), sX11_most_18 v0 v1 μ q = some t → zX11_most_18 l F v0 v1 μ k n t → zX11_most_18 l F v0 v1 μ k n (.inl q) := by
  intro q t h hK
  obtain ⟨v2, v3, v4⟩ := q
  unfold sX11_most_18 at h
  try dsimp only at h
  show GM l mX11_most F k n 18 [(0, (3, v0)), (1, (0, v1)), (2, (0, v2)), (3, (0, v3)), (4, (0, v4))] [] μ
  refine GM_iload (pc := 18) 4 rfl (daX11_most_0 13 rfl) ?_
  refine GM_aload_n (pc := 20) 0 rfl (daX11_most_0 14 rfl) rfl ?_
  refine GM_iconst (pc := 21) 0 (daX11_most_0 15 rfl) rfl (R32_b rfl) ?_
  refine GM_iload_n (pc := 22) 1 rfl (daX11_most_0 16 rfl) rfl ?_
  obtain ⟨r1, hf1, h⟩ := Option.bind_eq_some_iff.mp h
  refine GM_callS0 (pc := 23) [(0, 0), (0, v1)] (tX11_placeOf l hf1) cwX11_placeOf ks_X11_placeOf km_X11_204 ⟨Nat.le_of_ble_eq_true rfl, Nat.le_of_ble_eq_true rfl⟩ (Nat.le_of_ble_eq_true rfl) (Nat.le_of_ble_eq_true rfl) (daX11_most_0 17 rfl) ?_
  obtain ⟨hc2, h⟩ := chk_inv h
  obtain ⟨r3, hf3, h⟩ := Option.bind_eq_some_iff.mp h
  refine GM_callV0 (pc := 26) [(0, r1)] (tX11_placesOf l hf3) cwX11_placesOf 11 (Nat.le_of_ble_eq_true rfl) rfl kv_X11_placesOf ke_X11_placesOf km_X11_207 hc2 ⟨Nat.le_of_ble_eq_true rfl, Nat.le_of_ble_eq_true rfl⟩ (Nat.le_of_ble_eq_true rfl) (Nat.le_of_ble_eq_true rfl) (daX11_most_0 18 rfl) ?_
  refine GM_icmp_ge (pc := 29) 62 (daX11_most_0 19 rfl) rfl (fun c4 => ?_) (fun c4 => ?_)
  · skip
    rw [if_pos c4] at h
    refine GM_pick [2] rfl ?_
    cases h
    exact hK
  · skip
    rw [if_neg c4] at h
    refine GM_aload_n (pc := 32) 0 rfl (daX11_most_0 20 rfl) rfl ?_
    refine GM_iload_n (pc := 33) 1 rfl (daX11_most_0 21 rfl) rfl ?_
    refine GM_iload (pc := 34) 4 rfl (daX11_most_0 22 rfl) ?_
    obtain ⟨r5, hf5, h⟩ := Option.bind_eq_some_iff.mp h
    refine GM_callV0 (pc := 36) [(0, v1), (0, v4)] (tX11_sees l hf5) cwX11_sees 11 (Nat.le_of_ble_eq_true rfl) rfl kv_X11_sees ke_X11_sees km_X11_366 hc2 ⟨Nat.le_of_ble_eq_true rfl, Nat.le_of_ble_eq_true rfl⟩ (Nat.le_of_ble_eq_true rfl) (Nat.le_of_ble_eq_true rfl) (daX11_most_0 23 rfl) ?_
    refine GM_istore (L' := [(5, (0, r5)), (0, (3, v0)), (1, (0, v1)), (2, (0, v2)), (3, (0, v3)), (4, (0, v4))]) (pc := 39) (daX11_most_0 24 rfl) (Nat.le_of_ble_eq_true rfl) rfl ?_
    refine GM_iload (pc := 41) 0 rfl (daX11_most_0 25 rfl) ?_
    refine GM_iload_n (pc := 43) 4 rfl (daX11_most_0 26 rfl) rfl ?_
    refine GM_icmp_gt (pc := 44) 50 (daX11_most_0 27 rfl) rfl (fun c6 => ?_) (fun c6 => ?_)
    · skip
      rw [if_pos c6] at h
      refine GM_iload (pc := 50) 5 rfl (daX11_most_0 29 rfl) ?_
      refine GM_istore_n (L' := [(2, (0, v4)), (5, (0, r5)), (0, (3, v0)), (1, (0, v1)), (3, (0, v3)), (4, (0, v4))]) (pc := 52) (daX11_most_0 30 rfl) rfl (Nat.le_of_ble_eq_true rfl) rfl ?_
      refine GM_iload (pc := 53) 1 rfl (daX11_most_0 31 rfl) ?_
      refine GM_istore_n (L' := [(3, (0, r5)), (2, (0, v4)), (5, (0, r5)), (0, (3, v0)), (1, (0, v1)), (4, (0, v4))]) (pc := 55) (daX11_most_0 32 rfl) rfl (Nat.le_of_ble_eq_true rfl) rfl ?_
      refine GM_iinc (L' := [(4, (0, w32 (v4 + 1))), (3, (0, r5)), (2, (0, v4)), (5, (0, r5)), (0, (3, v0)), (1, (0, v1))]) (pc := 56) 5 rfl (daX11_most_0 33 rfl) (Nat.le_of_ble_eq_true rfl) rfl ?_
      refine GM_goto (pc := 59) 18 (daX11_most_0 34 rfl) rfl ?_
      refine GM_pick [4, 5, 2, 1, 0] rfl ?_
      cases h
      exact hK
    · skip
      rw [if_neg c6] at h
      refine GM_goto (pc := 47) 56 (daX11_most_0 28 rfl) rfl ?_
      refine GM_iinc (L' := [(4, (0, w32 (v4 + 1))), (5, (0, r5)), (0, (3, v0)), (1, (0, v1)), (2, (0, v2)), (3, (0, v3))]) (pc := 56) 5 rfl (daX11_most_0 33 rfl) (Nat.le_of_ble_eq_true rfl) rfl ?_
      refine GM_goto (pc := 59) 18 (daX11_most_0 34 rfl) rfl ?_
      refine GM_pick [2, 3, 4, 5, 0] rfl ?_
      cases h
      exact hK
set_option maxRecDepth 20000 in
theorem gX11_most_0 (l : Launch) {F : FI} {v0 v1 : Int} {μ : Mm} {t : Int} (h : fX11_most v0 v1 μ = some t) (hK : F.1 = [(0, t)] ∧ F.2.1 = μ) : GM l mX11_most F 0 0 0 [(0, (3, v0)), (1, (0, v1))] [] μ := by
  unfold fX11_most at h
  refine GM_aload_n (pc := 0) 0 rfl (daX11_most_0 0 rfl) rfl ?_
  refine GM_iconst (pc := 1) 0 (daX11_most_0 1 rfl) rfl (R32_b rfl) ?_
  refine GM_iload_n (pc := 2) 1 rfl (daX11_most_0 2 rfl) rfl ?_
  obtain ⟨hc7, h⟩ := chk_inv h
  obtain ⟨r8, hf8, h⟩ := Option.bind_eq_some_iff.mp h
  refine GM_callV0 (pc := 3) [(0, 0), (0, v1)] (tX11_isOf l hf8) cwX11_isOf 11 (Nat.le_of_ble_eq_true rfl) rfl kv_X11_isOf ke_X11_isOf km_X11_182 hc7 ⟨Nat.le_of_ble_eq_true rfl, Nat.le_of_ble_eq_true rfl⟩ (Nat.le_of_ble_eq_true rfl) (Nat.le_of_ble_eq_true rfl) (daX11_most_0 3 rfl) ?_
  refine GM_if_ne (pc := 6) 11 (daX11_most_0 4 rfl) rfl (fun c9 => ?_) (fun c9 => ?_)
  · skip
    rw [if_neg c9] at h
    refine GM_iconst (pc := 11) 0 (daX11_most_0 7 rfl) rfl (R32_b rfl) ?_
    refine GM_istore_n (L' := [(2, (0, 0)), (0, (3, v0)), (1, (0, v1))]) (pc := 12) (daX11_most_0 8 rfl) rfl (Nat.le_of_ble_eq_true rfl) rfl ?_
    refine GM_iconst (pc := 13) (-1) (daX11_most_0 9 rfl) rfl (R32_b rfl) ?_
    refine GM_istore_n (L' := [(3, (0, (-1))), (2, (0, 0)), (0, (3, v0)), (1, (0, v1))]) (pc := 14) (daX11_most_0 10 rfl) rfl (Nat.le_of_ble_eq_true rfl) rfl ?_
    refine GM_iconst (pc := 15) 0 (daX11_most_0 11 rfl) rfl (R32_b rfl) ?_
    refine GM_istore (L' := [(4, (0, 0)), (3, (0, (-1))), (2, (0, 0)), (0, (3, v0)), (1, (0, v1))]) (pc := 16) (daX11_most_0 12 rfl) (Nat.le_of_ble_eq_true rfl) rfl ?_
    refine GM_pick [3, 4, 2, 1, 0] rfl ?_
    obtain ⟨x10, hqx10, h⟩ := Option.bind_eq_some_iff.mp h
    refine lop_ind (zX11_most_18 l F v0 v1 μ 0 0) (qX11_most_18 l F v0 v1 μ 0 0) FU _ x10 hqx10 ?_
    obtain ⟨v2_11, hqq⟩ : ∃ z, z = x10 := ⟨x10, rfl⟩
    subst hqq
    show GM l mX11_most F 0 0 62 [(2, (0, v2_11))] [] μ
    refine GM_iload_n (pc := 62) 0 rfl (daX11_most_0 35 rfl) rfl ?_
    cases h
    exact GM_iret (pc := 63) (daX11_most_0 36 rfl) rfl hK
  · skip
    rw [if_pos c9] at h
    refine GM_iconst (pc := 9) (-1) (daX11_most_0 5 rfl) rfl (R32_b rfl) ?_
    cases h
    exact GM_iret (pc := 10) (daX11_most_0 6 rfl) rfl hK
theorem tX11_most (l : Launch) {v0 v1 : Int} {μ : Mm} {t : Int} (h : fX11_most v0 v1 μ = some t) : Ct l yX11_most mX11_most [(3, v0), (0, v1)] μ ([(0, t)], μ, 0, 0) :=
  Ct_of (by decide +kernel) rfl rfl (Nat.le_of_ble_eq_true rfl) (fun _ _ _ => trivial) (gX11_most_0 l h ⟨rfl, rfl⟩)
def mX11_hidden : MI := (RX11, cX11_hidden, 7, (some .int), "hidden", 5, 127, fun _ _ _ => True)
theorem cwX11_hidden : CWd yX11_hidden mX11_hidden 1 := ⟨ki_X11, kk_X11_hidden, ⟨by decide, by decide⟩, rfl⟩
def dtX11_hidden_0 : List (Nat × Instr × Nat) := [(0, .aload_n 0, 1), (1, .iconst 0, 1), (2, .iload_n 1, 1), (3, .invokevirtual 182, 3), (6, .ifCond .ne 5, 3), (9, .iconst (-1), 1), (10, .ireturn, 1), (11, .iconst 0, 1), (12, .iload_n 1, 1), (13, .invokestatic 204, 3), (16, .istore_n 2, 1), (17, .iconst 0, 1), (18, .istore_n 3, 1), (19, .iconst 0, 1), (20, .istore 4, 2), (22, .iload 4, 2), (24, .aload_n 0, 1), (25, .iload_n 2, 1), (26, .invokevirtual 207, 3), (29, .if_icmp .ge 75, 3), (32, .iconst 0, 1), (33, .istore 5, 2), (35, .iconst 0, 1), (36, .istore 6, 2), (38, .iload 6, 2), (40, .aload_n 0, 1), (41, .iload_n 2, 1), (42, .invokevirtual 207, 3), (45, .if_icmp .ge 40, 3), (48, .iload 5, 2), (50, .ifCond .ne 35, 3), (53, .iload 6, 2), (55, .iload 4, 2), (57, .if_icmp .eq 19, 3), (60, .aload_n 0, 1), (61, .iload_n 2, 1), (62, .iload 6, 2), (64, .iload 4, 2), (66, .invokevirtual 244, 3), (69, .ifCond .eq 7, 3), (72, .iconst 1, 1), (73, .goto 4, 3), (76, .iconst 0, 1), (77, .istore 5, 2), (79, .iinc 6 1, 3), (82, .goto (-44), 3), (85, .iload_n 3, 1), (86, .iload 5, 2), (88, .ifCond .eq 7, 3), (91, .iconst 0, 1), (92, .goto 4, 3), (95, .iconst 1, 1), (96, .iadd, 1), (97, .istore_n 3, 1), (98, .iinc 4 1, 3), (101, .goto (-79), 3), (104, .iload_n 3, 1), (105, .ireturn, 1)]
theorem ddX11_hidden_0 : (dtX11_hidden_0.all fun e => decide (decode mX11_hidden.2.1 e.1 = .ok (e.2.1, e.2.2))) = true := by decide +kernel
theorem daX11_hidden_0 (j : Nat) {pc n : Nat} {i : Instr} (h : dtX11_hidden_0[j]? = some (pc, i, n)) : decode mX11_hidden.2.1 pc = .ok (i, n) := dec_of (c := mX11_hidden.2.1) ddX11_hidden_0 h
def zX11_hidden_38 (l : Launch) (F : FI) (v0 v2 v3 v4 : Int) (μ : Mm) (k n : Nat) : (Int × Int) ⊕ Int → Prop
  | .inl (v5, v6) => GM l mX11_hidden F k n 38 [(0, (3, v0)), (2, (0, v2)), (3, (0, v3)), (4, (0, v4)), (5, (0, v5)), (6, (0, v6))] [] μ
  | .inr v5 => GM l mX11_hidden F k n 85 [(0, (3, v0)), (2, (0, v2)), (3, (0, v3)), (4, (0, v4)), (5, (0, v5))] [] μ
def sX11_hidden_38 (v0 v2 v3 v4 : Int) (μ : Mm) : (Int × Int) → Option ((Int × Int) ⊕ Int) := fun (v5, v6) =>
  chk (KD v0 = 11) (
  (fX11_placesOf v0 v2 μ).bind fun r2 =>
  if r2 ≤ v6 then
    some (.inr v5)
  else
    if v5 = 0 then
      if v6 = v4 then
        some (.inl (0, w32 (v6 + 1)))
      else
        (fX11_isSeen v0 v2 v6 v4 μ).bind fun r6 =>
        if r6 = 0 then
          some (.inl (0, w32 (v6 + 1)))
        else
          some (.inl (1, w32 (v6 + 1)))
    else
      some (.inr v5))
def zX11_hidden_22 (l : Launch) (F : FI) (v0 v2 : Int) (μ : Mm) (k n : Nat) : (Int × Int) ⊕ Int → Prop
  | .inl (v3, v4) => GM l mX11_hidden F k n 22 [(0, (3, v0)), (2, (0, v2)), (3, (0, v3)), (4, (0, v4))] [] μ
  | .inr v3 => GM l mX11_hidden F k n 104 [(3, (0, v3))] [] μ
def sX11_hidden_22 (v0 v2 : Int) (μ : Mm) : (Int × Int) → Option ((Int × Int) ⊕ Int) := fun (v3, v4) =>
  chk (KD v0 = 11) (
  (fX11_placesOf v0 v2 μ).bind fun r9 =>
  if r9 ≤ v4 then
    some (.inr v3)
  else
    (lop (sX11_hidden_38 v0 v2 v3 v4 μ) FU (0, 0)).bind fun v5_12 =>
      if v5_12 = 0 then
        some (.inl (w32 (v3 + 1), w32 (v4 + 1)))
      else
        some (.inl (w32 (v3 + 0), w32 (v4 + 1))))
def fX11_hidden (v0 v1 : Int) (μ : Mm) : Option Int :=
  chk (KD v0 = 11) (
  (fX11_isOf v0 0 v1 μ).bind fun r15 =>
  if r15 = 0 then
    some (-1)
  else
    (fX11_placeOf 0 v1).bind fun r17 =>
    (lop (sX11_hidden_22 v0 r17 μ) FU (0, 0)).bind fun v3_19 =>
      some v3_19)
set_option maxRecDepth 20000 in
theorem qX11_hidden_38 (l : Launch) (F : FI) (v0 v2 v3 v4 : Int) (μ : Mm) (k n : Nat) : ∀ (q : (Int × Int)) (t : ((Int × Int) ⊕ Int)), sX11_hidden_38 v0 v2 v3 v4 μ q = some t → zX11_hidden_38 l F v0 v2 v3 v4 μ k n t → zX11_hidden_38 l F v0 v2 v3 v4 μ k n (.inl q) := by
  intro q t h hK
  obtain ⟨v5, v6⟩ := q
  unfold sX11_hidden_38 at h
  try dsimp only at h
  show GM l mX11_hidden F k n 38 [(0, (3, v0)), (2, (0, v2)), (3, (0, v3)), (4, (0, v4)), (5, (0, v5)), (6, (0, v6))] [] μ
  refine GM_iload (pc := 38) 5 rfl (daX11_hidden_0 24 rfl) ?_
  refine GM_aload_n (pc := 40) 0 rfl (daX11_hidden_0 25 rfl) rfl ?_
  refine GM_iload_n (pc := 41) 1 rfl (daX11_hidden_0 26 rfl) rfl ?_
  obtain ⟨hc1, h⟩ := chk_inv h
  obtain ⟨r2, hf2, h⟩ := Option.bind_eq_some_iff.mp h
  refine GM_callV0 (pc := 42) [(0, v2)] (tX11_placesOf l hf2) cwX11_placesOf 11 (Nat.le_of_ble_eq_true rfl) rfl kv_X11_placesOf ke_X11_placesOf km_X11_207 hc1 ⟨Nat.le_of_ble_eq_true rfl, Nat.le_of_ble_eq_true rfl⟩ (Nat.le_of_ble_eq_true rfl) (Nat.le_of_ble_eq_true rfl) (daX11_hidden_0 27 rfl) ?_
  refine GM_icmp_ge (pc := 45) 85 (daX11_hidden_0 28 rfl) rfl (fun c3 => ?_) (fun c3 => ?_)
  · skip
    rw [if_pos c3] at h
    refine GM_pick [0, 1, 2, 3, 4] rfl ?_
    cases h
    exact hK
  · skip
    rw [if_neg c3] at h
    refine GM_iload (pc := 48) 4 rfl (daX11_hidden_0 29 rfl) ?_
    refine GM_if_ne (pc := 50) 85 (daX11_hidden_0 30 rfl) rfl (fun c4 => ?_) (fun c4 => ?_)
    · skip
      rw [if_neg c4] at h
      refine GM_pick [0, 1, 2, 3, 4] rfl ?_
      cases h
      exact hK
    · skip
      rw [if_pos c4] at h
      refine GM_iload (pc := 53) 5 rfl (daX11_hidden_0 31 rfl) ?_
      refine GM_iload (pc := 55) 3 rfl (daX11_hidden_0 32 rfl) ?_
      refine GM_icmp_eq (pc := 57) 76 (daX11_hidden_0 33 rfl) rfl (fun c5 => ?_) (fun c5 => ?_)
      · skip
        rw [if_pos c5] at h
        refine GM_iconst (pc := 76) 0 (daX11_hidden_0 42 rfl) rfl (R32_b rfl) ?_
        refine GM_istore (L' := [(5, (0, 0)), (0, (3, v0)), (2, (0, v2)), (3, (0, v3)), (4, (0, v4)), (6, (0, v6))]) (pc := 77) (daX11_hidden_0 43 rfl) (Nat.le_of_ble_eq_true rfl) rfl ?_
        refine GM_iinc (L' := [(6, (0, w32 (v6 + 1))), (5, (0, 0)), (0, (3, v0)), (2, (0, v2)), (3, (0, v3)), (4, (0, v4))]) (pc := 79) 5 rfl (daX11_hidden_0 44 rfl) (Nat.le_of_ble_eq_true rfl) rfl ?_
        refine GM_goto (pc := 82) 38 (daX11_hidden_0 45 rfl) rfl ?_
        refine GM_pick [2, 3, 4, 5, 1, 0] rfl ?_
        cases h
        exact hK
      · skip
        rw [if_neg c5] at h
        refine GM_aload_n (pc := 60) 0 rfl (daX11_hidden_0 34 rfl) rfl ?_
        refine GM_iload_n (pc := 61) 1 rfl (daX11_hidden_0 35 rfl) rfl ?_
        refine GM_iload (pc := 62) 5 rfl (daX11_hidden_0 36 rfl) ?_
        refine GM_iload (pc := 64) 3 rfl (daX11_hidden_0 37 rfl) ?_
        obtain ⟨r6, hf6, h⟩ := Option.bind_eq_some_iff.mp h
        refine GM_callV0 (pc := 66) [(0, v2), (0, v6), (0, v4)] (tX11_isSeen l hf6) cwX11_isSeen 11 (Nat.le_of_ble_eq_true rfl) rfl kv_X11_isSeen ke_X11_isSeen km_X11_244 hc1 ⟨Nat.le_of_ble_eq_true rfl, Nat.le_of_ble_eq_true rfl⟩ (Nat.le_of_ble_eq_true rfl) (Nat.le_of_ble_eq_true rfl) (daX11_hidden_0 38 rfl) ?_
        refine GM_if_eq (pc := 69) 76 (daX11_hidden_0 39 rfl) rfl (fun c7 => ?_) (fun c7 => ?_)
        · skip
          rw [if_pos c7] at h
          refine GM_iconst (pc := 76) 0 (daX11_hidden_0 42 rfl) rfl (R32_b rfl) ?_
          refine GM_istore (L' := [(5, (0, 0)), (0, (3, v0)), (2, (0, v2)), (3, (0, v3)), (4, (0, v4)), (6, (0, v6))]) (pc := 77) (daX11_hidden_0 43 rfl) (Nat.le_of_ble_eq_true rfl) rfl ?_
          refine GM_iinc (L' := [(6, (0, w32 (v6 + 1))), (5, (0, 0)), (0, (3, v0)), (2, (0, v2)), (3, (0, v3)), (4, (0, v4))]) (pc := 79) 5 rfl (daX11_hidden_0 44 rfl) (Nat.le_of_ble_eq_true rfl) rfl ?_
          refine GM_goto (pc := 82) 38 (daX11_hidden_0 45 rfl) rfl ?_
          refine GM_pick [2, 3, 4, 5, 1, 0] rfl ?_
          cases h
          exact hK
        · skip
          rw [if_neg c7] at h
          refine GM_iconst (pc := 72) 1 (daX11_hidden_0 40 rfl) rfl (R32_b rfl) ?_
          refine GM_goto (pc := 73) 77 (daX11_hidden_0 41 rfl) rfl ?_
          refine GM_istore (L' := [(5, (0, 1)), (0, (3, v0)), (2, (0, v2)), (3, (0, v3)), (4, (0, v4)), (6, (0, v6))]) (pc := 77) (daX11_hidden_0 43 rfl) (Nat.le_of_ble_eq_true rfl) rfl ?_
          refine GM_iinc (L' := [(6, (0, w32 (v6 + 1))), (5, (0, 1)), (0, (3, v0)), (2, (0, v2)), (3, (0, v3)), (4, (0, v4))]) (pc := 79) 5 rfl (daX11_hidden_0 44 rfl) (Nat.le_of_ble_eq_true rfl) rfl ?_
          refine GM_goto (pc := 82) 38 (daX11_hidden_0 45 rfl) rfl ?_
          refine GM_pick [2, 3, 4, 5, 1, 0] rfl ?_
          cases h
          exact hK
set_option maxRecDepth 20000 in
theorem qX11_hidden_22 (l : Launch) (F : FI) (v0 v2 : Int) (μ : Mm) (k n : Nat) : ∀ (q : (Int × Int)) (t : ((Int × Int) ⊕ Int)), sX11_hidden_22 v0 v2 μ q = some t → zX11_hidden_22 l F v0 v2 μ k n t → zX11_hidden_22 l F v0 v2 μ k n (.inl q) := by
  intro q t h hK
  obtain ⟨v3, v4⟩ := q
  unfold sX11_hidden_22 at h
  try dsimp only at h
  show GM l mX11_hidden F k n 22 [(0, (3, v0)), (2, (0, v2)), (3, (0, v3)), (4, (0, v4))] [] μ
  refine GM_iload (pc := 22) 3 rfl (daX11_hidden_0 15 rfl) ?_
  refine GM_aload_n (pc := 24) 0 rfl (daX11_hidden_0 16 rfl) rfl ?_
  refine GM_iload_n (pc := 25) 1 rfl (daX11_hidden_0 17 rfl) rfl ?_
  obtain ⟨hc8, h⟩ := chk_inv h
  obtain ⟨r9, hf9, h⟩ := Option.bind_eq_some_iff.mp h
  refine GM_callV0 (pc := 26) [(0, v2)] (tX11_placesOf l hf9) cwX11_placesOf 11 (Nat.le_of_ble_eq_true rfl) rfl kv_X11_placesOf ke_X11_placesOf km_X11_207 hc8 ⟨Nat.le_of_ble_eq_true rfl, Nat.le_of_ble_eq_true rfl⟩ (Nat.le_of_ble_eq_true rfl) (Nat.le_of_ble_eq_true rfl) (daX11_hidden_0 18 rfl) ?_
  refine GM_icmp_ge (pc := 29) 104 (daX11_hidden_0 19 rfl) rfl (fun c10 => ?_) (fun c10 => ?_)
  · skip
    rw [if_pos c10] at h
    refine GM_pick [2] rfl ?_
    cases h
    exact hK
  · skip
    rw [if_neg c10] at h
    refine GM_iconst (pc := 32) 0 (daX11_hidden_0 20 rfl) rfl (R32_b rfl) ?_
    refine GM_istore (L' := [(5, (0, 0)), (0, (3, v0)), (2, (0, v2)), (3, (0, v3)), (4, (0, v4))]) (pc := 33) (daX11_hidden_0 21 rfl) (Nat.le_of_ble_eq_true rfl) rfl ?_
    refine GM_iconst (pc := 35) 0 (daX11_hidden_0 22 rfl) rfl (R32_b rfl) ?_
    refine GM_istore (L' := [(6, (0, 0)), (5, (0, 0)), (0, (3, v0)), (2, (0, v2)), (3, (0, v3)), (4, (0, v4))]) (pc := 36) (daX11_hidden_0 23 rfl) (Nat.le_of_ble_eq_true rfl) rfl ?_
    refine GM_pick [2, 3, 4, 5, 1, 0] rfl ?_
    obtain ⟨x11, hqx11, h⟩ := Option.bind_eq_some_iff.mp h
    refine lop_ind (zX11_hidden_38 l F v0 v2 v3 v4 μ k n) (qX11_hidden_38 l F v0 v2 v3 v4 μ k n) FU _ x11 hqx11 ?_
    obtain ⟨v5_12, hqq⟩ : ∃ z, z = x11 := ⟨x11, rfl⟩
    subst hqq
    show GM l mX11_hidden F k n 85 [(0, (3, v0)), (2, (0, v2)), (3, (0, v3)), (4, (0, v4)), (5, (0, v5_12))] [] μ
    refine GM_iload_n (pc := 85) 2 rfl (daX11_hidden_0 46 rfl) rfl ?_
    refine GM_iload (pc := 86) 4 rfl (daX11_hidden_0 47 rfl) ?_
    refine GM_if_eq (pc := 88) 95 (daX11_hidden_0 48 rfl) rfl (fun c13 => ?_) (fun c13 => ?_)
    · skip
      rw [if_pos c13] at h
      refine GM_iconst (pc := 95) 1 (daX11_hidden_0 51 rfl) rfl (R32_b rfl) ?_
      refine GM_iadd (pc := 96) (daX11_hidden_0 52 rfl) ?_
      refine GM_istore_n (L' := [(3, (0, w32 (v3 + 1))), (0, (3, v0)), (2, (0, v2)), (4, (0, v4)), (5, (0, v5_12))]) (pc := 97) (daX11_hidden_0 53 rfl) rfl (Nat.le_of_ble_eq_true rfl) rfl ?_
      refine GM_iinc (L' := [(4, (0, w32 (v4 + 1))), (3, (0, w32 (v3 + 1))), (0, (3, v0)), (2, (0, v2)), (5, (0, v5_12))]) (pc := 98) 3 rfl (daX11_hidden_0 54 rfl) (Nat.le_of_ble_eq_true rfl) rfl ?_
      refine GM_goto (pc := 101) 22 (daX11_hidden_0 55 rfl) rfl ?_
      refine GM_pick [2, 3, 1, 0] rfl ?_
      cases h
      exact hK
    · skip
      rw [if_neg c13] at h
      refine GM_iconst (pc := 91) 0 (daX11_hidden_0 49 rfl) rfl (R32_b rfl) ?_
      refine GM_goto (pc := 92) 96 (daX11_hidden_0 50 rfl) rfl ?_
      refine GM_iadd (pc := 96) (daX11_hidden_0 52 rfl) ?_
      refine GM_istore_n (L' := [(3, (0, w32 (v3 + 0))), (0, (3, v0)), (2, (0, v2)), (4, (0, v4)), (5, (0, v5_12))]) (pc := 97) (daX11_hidden_0 53 rfl) rfl (Nat.le_of_ble_eq_true rfl) rfl ?_
      refine GM_iinc (L' := [(4, (0, w32 (v4 + 1))), (3, (0, w32 (v3 + 0))), (0, (3, v0)), (2, (0, v2)), (5, (0, v5_12))]) (pc := 98) 3 rfl (daX11_hidden_0 54 rfl) (Nat.le_of_ble_eq_true rfl) rfl ?_
      refine GM_goto (pc := 101) 22 (daX11_hidden_0 55 rfl) rfl ?_
      refine GM_pick [2, 3, 1, 0] rfl ?_
      cases h
      exact hK
set_option maxRecDepth 20000 in
theorem gX11_hidden_0 (l : Launch) {F : FI} {v0 v1 : Int} {μ : Mm} {t : Int} (h : fX11_hidden v0 v1 μ = some t) (hK : F.1 = [(0, t)] ∧ F.2.1 = μ) : GM l mX11_hidden F 0 0 0 [(0, (3, v0)), (1, (0, v1))] [] μ := by
  unfold fX11_hidden at h
  refine GM_aload_n (pc := 0) 0 rfl (daX11_hidden_0 0 rfl) rfl ?_
  refine GM_iconst (pc := 1) 0 (daX11_hidden_0 1 rfl) rfl (R32_b rfl) ?_
  refine GM_iload_n (pc := 2) 1 rfl (daX11_hidden_0 2 rfl) rfl ?_
  obtain ⟨hc14, h⟩ := chk_inv h
  obtain ⟨r15, hf15, h⟩ := Option.bind_eq_some_iff.mp h
  refine GM_callV0 (pc := 3) [(0, 0), (0, v1)] (tX11_isOf l hf15) cwX11_isOf 11 (Nat.le_of_ble_eq_true rfl) rfl kv_X11_isOf ke_X11_isOf km_X11_182 hc14 ⟨Nat.le_of_ble_eq_true rfl, Nat.le_of_ble_eq_true rfl⟩ (Nat.le_of_ble_eq_true rfl) (Nat.le_of_ble_eq_true rfl) (daX11_hidden_0 3 rfl) ?_
  refine GM_if_ne (pc := 6) 11 (daX11_hidden_0 4 rfl) rfl (fun c16 => ?_) (fun c16 => ?_)
  · skip
    rw [if_neg c16] at h
    refine GM_iconst (pc := 11) 0 (daX11_hidden_0 7 rfl) rfl (R32_b rfl) ?_
    refine GM_iload_n (pc := 12) 1 rfl (daX11_hidden_0 8 rfl) rfl ?_
    obtain ⟨r17, hf17, h⟩ := Option.bind_eq_some_iff.mp h
    refine GM_callS0 (pc := 13) [(0, 0), (0, v1)] (tX11_placeOf l hf17) cwX11_placeOf ks_X11_placeOf km_X11_204 ⟨Nat.le_of_ble_eq_true rfl, Nat.le_of_ble_eq_true rfl⟩ (Nat.le_of_ble_eq_true rfl) (Nat.le_of_ble_eq_true rfl) (daX11_hidden_0 9 rfl) ?_
    refine GM_istore_n (L' := [(2, (0, r17)), (0, (3, v0)), (1, (0, v1))]) (pc := 16) (daX11_hidden_0 10 rfl) rfl (Nat.le_of_ble_eq_true rfl) rfl ?_
    refine GM_iconst (pc := 17) 0 (daX11_hidden_0 11 rfl) rfl (R32_b rfl) ?_
    refine GM_istore_n (L' := [(3, (0, 0)), (2, (0, r17)), (0, (3, v0)), (1, (0, v1))]) (pc := 18) (daX11_hidden_0 12 rfl) rfl (Nat.le_of_ble_eq_true rfl) rfl ?_
    refine GM_iconst (pc := 19) 0 (daX11_hidden_0 13 rfl) rfl (R32_b rfl) ?_
    refine GM_istore (L' := [(4, (0, 0)), (3, (0, 0)), (2, (0, r17)), (0, (3, v0)), (1, (0, v1))]) (pc := 20) (daX11_hidden_0 14 rfl) (Nat.le_of_ble_eq_true rfl) rfl ?_
    refine GM_pick [3, 2, 1, 0] rfl ?_
    obtain ⟨x18, hqx18, h⟩ := Option.bind_eq_some_iff.mp h
    refine lop_ind (zX11_hidden_22 l F v0 r17 μ 0 0) (qX11_hidden_22 l F v0 r17 μ 0 0) FU _ x18 hqx18 ?_
    obtain ⟨v3_19, hqq⟩ : ∃ z, z = x18 := ⟨x18, rfl⟩
    subst hqq
    show GM l mX11_hidden F 0 0 104 [(3, (0, v3_19))] [] μ
    refine GM_iload_n (pc := 104) 0 rfl (daX11_hidden_0 56 rfl) rfl ?_
    cases h
    exact GM_iret (pc := 105) (daX11_hidden_0 57 rfl) rfl hK
  · skip
    rw [if_pos c16] at h
    refine GM_iconst (pc := 9) (-1) (daX11_hidden_0 5 rfl) rfl (R32_b rfl) ?_
    cases h
    exact GM_iret (pc := 10) (daX11_hidden_0 6 rfl) rfl hK
theorem tX11_hidden (l : Launch) {v0 v1 : Int} {μ : Mm} {t : Int} (h : fX11_hidden v0 v1 μ = some t) : Ct l yX11_hidden mX11_hidden [(3, v0), (0, v1)] μ ([(0, t)], μ, 0, 0) :=
  Ct_of (by decide +kernel) rfl rfl (Nat.le_of_ble_eq_true rfl) (fun _ _ _ => trivial) (gX11_hidden_0 l h ⟨rfl, rfl⟩)
def mX11_guardsOf : MI := (RX11, cX11_guardsOf, 5, none, "guardsOf", 5, 127, fun _ _ _ => True)
theorem cwX11_guardsOf : CWd yX11_guardsOf mX11_guardsOf 1 := ⟨ki_X11, kk_X11_guardsOf, ⟨by decide, by decide⟩, rfl⟩
def dtX11_guardsOf_0 : List (Nat × Instr × Nat) := [(0, .aload_n 0, 1), (1, .iload_n 1, 1), (2, .invokevirtual 207, 3), (5, .istore_n 2, 1), (6, .iconst 0, 1), (7, .istore_n 3, 1), (8, .iload_n 3, 1), (9, .iconst 3, 1), (10, .if_icmp .ge 16, 3), (13, .aload_n 0, 1), (14, .getfield 60, 3), (17, .iload_n 3, 1), (18, .lconst 0, 1), (19, .lastore, 1), (20, .iinc 3 1, 3), (23, .goto (-15), 3), (26, .iconst 0, 1), (27, .istore_n 3, 1), (28, .iload_n 3, 1), (29, .iload_n 2, 1), (30, .if_icmp .ge 110, 3), (33, .aload_n 0, 1), (34, .getfield 60, 3), (37, .iload_n 3, 1), (38, .bipush 48, 2), (40, .idiv, 1), (41, .dup2, 1), (42, .laload, 1), (43, .lconst 1, 1), (44, .iload_n 3, 1), (45, .bipush 48, 2), (47, .irem, 1), (48, .lshl, 1), (49, .lor, 1), (50, .lastore, 1), (51, .iconst 0, 1), (52, .istore 4, 2), (54, .iload 4, 2), (56, .iconst 3, 1), (57, .if_icmp .ge 21, 3), (60, .aload_n 0, 1), (61, .getfield 56, 3), (64, .iconst 3, 1), (65, .iload_n 3, 1), (66, .imul, 1), (67, .iload 4, 2), (69, .iadd, 1), (70, .lconst 0, 1), (71, .lastore, 1), (72, .iinc 4 1, 3), (75, .goto (-21), 3), (78, .iconst 0, 1), (79, .istore 4, 2), (81, .iload 4, 2), (83, .iload_n 2, 1), (84, .if_icmp .ge 50, 3), (87, .iload 4, 2), (89, .iload_n 3, 1), (90, .if_icmp .eq 14, 3), (93, .aload_n 0, 1), (94, .iload_n 1, 1), (95, .iload_n 3, 1), (96, .iload 4, 2), (98, .invokevirtual 244, 3)]
theorem ddX11_guardsOf_0 : (dtX11_guardsOf_0.all fun e => decide (decode mX11_guardsOf.2.1 e.1 = .ok (e.2.1, e.2.2))) = true := by decide +kernel
theorem daX11_guardsOf_0 (j : Nat) {pc n : Nat} {i : Instr} (h : dtX11_guardsOf_0[j]? = some (pc, i, n)) : decode mX11_guardsOf.2.1 pc = .ok (i, n) := dec_of (c := mX11_guardsOf.2.1) ddX11_guardsOf_0 h
def dtX11_guardsOf_1 : List (Nat × Instr × Nat) := [(101, .ifCond .eq 27, 3), (104, .aload_n 0, 1), (105, .getfield 56, 3), (108, .iconst 3, 1), (109, .iload_n 3, 1), (110, .imul, 1), (111, .iload 4, 2), (113, .bipush 48, 2), (115, .idiv, 1), (116, .iadd, 1), (117, .dup2, 1), (118, .laload, 1), (119, .lconst 1, 1), (120, .iload 4, 2), (122, .bipush 48, 2), (124, .irem, 1), (125, .lshl, 1), (126, .lor, 1), (127, .lastore, 1), (128, .iinc 4 1, 3), (131, .goto (-50), 3), (134, .iinc 3 1, 3), (137, .goto (-109), 3), (140, .return_, 1)]
theorem ddX11_guardsOf_1 : (dtX11_guardsOf_1.all fun e => decide (decode mX11_guardsOf.2.1 e.1 = .ok (e.2.1, e.2.2))) = true := by decide +kernel
theorem daX11_guardsOf_1 (j : Nat) {pc n : Nat} {i : Instr} (h : dtX11_guardsOf_1[j]? = some (pc, i, n)) : decode mX11_guardsOf.2.1 pc = .ok (i, n) := dec_of (c := mX11_guardsOf.2.1) ddX11_guardsOf_1 h
def zX11_guardsOf_8 (l : Launch) (F : FI) (v0 v1 v2 : Int) (k n : Nat) : (Int × Mm) ⊕ Mm → Prop
  | .inl (v3, μ) => GM l mX11_guardsOf F k n 8 [(0, (3, v0)), (1, (0, v1)), (2, (0, v2)), (3, (0, v3))] [] μ
  | .inr μ => GM l mX11_guardsOf F k n 26 [(0, (3, v0)), (1, (0, v1)), (2, (0, v2))] [] μ
def sX11_guardsOf_8 (v0 v1 v2 : Int) : (Int × Mm) → Option ((Int × Mm) ⊕ Mm) := fun (v3, μ) =>
  if 3 ≤ v3 then
    some (.inr μ)
  else
    chk (KD v0 = 11) (
    chk (KD (μ v0 31) = 13 ∧ 0 ≤ v3 ∧ v3 < LN (μ v0 31)) (
    lm (mst μ (μ v0 31) v3 0) fun μ4 =>
    some (.inl (w32 (v3 + 1), μ4))))
def zX11_guardsOf_54 (l : Launch) (F : FI) (v0 v1 v2 v3 : Int) (k n : Nat) : (Int × Mm) ⊕ Mm → Prop
  | .inl (v4, μ) => GM l mX11_guardsOf F k n 54 [(0, (3, v0)), (1, (0, v1)), (2, (0, v2)), (3, (0, v3)), (4, (0, v4))] [] μ
  | .inr μ => GM l mX11_guardsOf F k n 78 [(0, (3, v0)), (1, (0, v1)), (2, (0, v2)), (3, (0, v3))] [] μ
def sX11_guardsOf_54 (v0 v1 v2 v3 : Int) : (Int × Mm) → Option ((Int × Mm) ⊕ Mm) := fun (v4, μ) =>
  if 3 ≤ v4 then
    some (.inr μ)
  else
    chk (KD v0 = 11) (
    chk (KD (μ v0 30) = 13 ∧ 0 ≤ w32 ((w32 (3 * v3)) + v4) ∧ w32 ((w32 (3 * v3)) + v4) < LN (μ v0 30)) (
    lm (mst μ (μ v0 30) (w32 ((w32 (3 * v3)) + v4)) 0) fun μ8 =>
    some (.inl (w32 (v4 + 1), μ8))))
def jX11_guardsOf_104 (v0 v1 v2 v3 v4 : Int) (μ : Mm) : Option ((Int × Mm) ⊕ Mm) :=
  chk (KD v0 = 11) (
  chk (KD (μ v0 30) = 13 ∧ 0 ≤ w32 ((w32 (3 * v3)) + (w32 (v4.tdiv 48))) ∧ w32 ((w32 (3 * v3)) + (w32 (v4.tdiv 48))) < LN (μ v0 30)) (
  lm (mst μ (μ v0 30) (w32 ((w32 (3 * v3)) + (w32 (v4.tdiv 48)))) (lor (μ (μ v0 30) (w32 ((w32 (3 * v3)) + (w32 (v4.tdiv 48))))) (lshl 1 (v4.tmod 48)))) fun μ11 =>
  some (.inl (w32 (v4 + 1), μ11))))
def zX11_guardsOf_81 (l : Launch) (F : FI) (v0 v1 v2 v3 : Int) (k n : Nat) : (Int × Mm) ⊕ Mm → Prop
  | .inl (v4, μ) => GM l mX11_guardsOf F k n 81 [(0, (3, v0)), (1, (0, v1)), (2, (0, v2)), (3, (0, v3)), (4, (0, v4))] [] μ
  | .inr μ => GM l mX11_guardsOf F k n 134 [(0, (3, v0)), (1, (0, v1)), (2, (0, v2)), (3, (0, v3))] [] μ
def sX11_guardsOf_81 (v0 v1 v2 v3 : Int) : (Int × Mm) → Option ((Int × Mm) ⊕ Mm) := fun (v4, μ) =>
  if v2 ≤ v4 then
    some (.inr μ)
  else
    if v4 = v3 then
      jX11_guardsOf_104 v0 v1 v2 v3 v4 μ
    else
      chk (KD v0 = 11) (
      (fX11_isSeen v0 v1 v3 v4 μ).bind fun r15 =>
      if r15 = 0 then
        some (.inl (w32 (v4 + 1), μ))
      else
        jX11_guardsOf_104 v0 v1 v2 v3 v4 μ)
def zX11_guardsOf_28 (l : Launch) (F : FI) (v0 v1 v2 : Int) (k n : Nat) : (Int × Mm) ⊕ Mm → Prop
  | .inl (v3, μ) => GM l mX11_guardsOf F k n 28 [(0, (3, v0)), (1, (0, v1)), (2, (0, v2)), (3, (0, v3))] [] μ
  | .inr μ => GM l mX11_guardsOf F k n 140 [] [] μ
def sX11_guardsOf_28 (v0 v1 v2 : Int) : (Int × Mm) → Option ((Int × Mm) ⊕ Mm) := fun (v3, μ) =>
  if v2 ≤ v3 then
    some (.inr μ)
  else
    chk (KD v0 = 11) (
    chk (KD (μ v0 31) = 13 ∧ 0 ≤ w32 (v3.tdiv 48) ∧ w32 (v3.tdiv 48) < LN (μ v0 31)) (
    lm (mst μ (μ v0 31) (w32 (v3.tdiv 48)) (lor (μ (μ v0 31) (w32 (v3.tdiv 48))) (lshl 1 (v3.tmod 48)))) fun μ20 =>
    (lop (sX11_guardsOf_54 v0 v1 v2 v3) FU (0, μ20)).bind fun μ_22 =>
      (lop (sX11_guardsOf_81 v0 v1 v2 v3) FU (0, μ_22)).bind fun μ_24 =>
        some (.inl (w32 (v3 + 1), μ_24))))
def fX11_guardsOf (v0 v1 : Int) (μ : Mm) : Option Mm :=
  chk (KD v0 = 11) (
  (fX11_placesOf v0 v1 μ).bind fun r26 =>
  (lop (sX11_guardsOf_8 v0 v1 r26) FU (0, μ)).bind fun μ_28 =>
    (lop (sX11_guardsOf_28 v0 v1 r26) FU (0, μ_28)).bind fun μ_30 =>
      some μ_30)
set_option maxRecDepth 20000 in
theorem qX11_guardsOf_8 (l : Launch) (F : FI) (v0 v1 v2 : Int) (k n : Nat) : ∀ (q : (Int × Mm)) (t : ((Int × Mm) ⊕ Mm)), sX11_guardsOf_8 v0 v1 v2 q = some t → zX11_guardsOf_8 l F v0 v1 v2 k n t → zX11_guardsOf_8 l F v0 v1 v2 k n (.inl q) := by
  intro q t h hK
  obtain ⟨v3, μ⟩ := q
  unfold sX11_guardsOf_8 at h
  try dsimp only at h
  show GM l mX11_guardsOf F k n 8 [(0, (3, v0)), (1, (0, v1)), (2, (0, v2)), (3, (0, v3))] [] μ
  refine GM_iload_n (pc := 8) 3 rfl (daX11_guardsOf_0 6 rfl) rfl ?_
  refine GM_iconst (pc := 9) 3 (daX11_guardsOf_0 7 rfl) rfl (R32_b rfl) ?_
  refine GM_icmp_ge (pc := 10) 26 (daX11_guardsOf_0 8 rfl) rfl (fun c1 => ?_) (fun c1 => ?_)
  · skip
    rw [if_pos c1] at h
    refine GM_pick [0, 1, 2] rfl ?_
    cases h
    exact hK
  · skip
    rw [if_neg c1] at h
    refine GM_aload_n (pc := 13) 0 rfl (daX11_guardsOf_0 9 rfl) rfl ?_
    obtain ⟨hc2, h⟩ := chk_inv h
    refine GM_getf (pc := 14) 11 31 3 31 kf_X11_60 (Nat.le_of_ble_eq_true rfl) (Nat.le_of_ble_eq_true rfl) rfl (daX11_guardsOf_0 10 rfl) hc2 rfl ?_
    refine GM_iload_n (pc := 17) 3 rfl (daX11_guardsOf_0 11 rfl) rfl ?_
    refine GM_lconst (pc := 18) 0 (daX11_guardsOf_0 12 rfl) rfl (R64_b rfl) ?_
    obtain ⟨hc3, h⟩ := chk_inv h
    obtain ⟨μ4, hμ4, h⟩ := lm_inv h
    refine GM_last (pc := 19) (daX11_guardsOf_0 13 rfl) hc3.1 hc3.2.1 hc3.2.2 ?_
    refine GM_mem hμ4 ?_
    refine GM_iinc (L' := [(3, (0, w32 (v3 + 1))), (0, (3, v0)), (1, (0, v1)), (2, (0, v2))]) (pc := 20) 3 rfl (daX11_guardsOf_0 14 rfl) (Nat.le_of_ble_eq_true rfl) rfl ?_
    refine GM_goto (pc := 23) 8 (daX11_guardsOf_0 15 rfl) rfl ?_
    refine GM_pick [1, 2, 3, 0] rfl ?_
    cases h
    exact hK
set_option maxRecDepth 20000 in
theorem qX11_guardsOf_54 (l : Launch) (F : FI) (v0 v1 v2 v3 : Int) (k n : Nat) : ∀ (q : (Int × Mm)) (t : ((Int × Mm) ⊕ Mm)), sX11_guardsOf_54 v0 v1 v2 v3 q = some t → zX11_guardsOf_54 l F v0 v1 v2 v3 k n t → zX11_guardsOf_54 l F v0 v1 v2 v3 k n (.inl q) := by
  intro q t h hK
  obtain ⟨v4, μ⟩ := q
  unfold sX11_guardsOf_54 at h
  try dsimp only at h
  show GM l mX11_guardsOf F k n 54 [(0, (3, v0)), (1, (0, v1)), (2, (0, v2)), (3, (0, v3)), (4, (0, v4))] [] μ
  refine GM_iload (pc := 54) 4 rfl (daX11_guardsOf_0 37 rfl) ?_
  refine GM_iconst (pc := 56) 3 (daX11_guardsOf_0 38 rfl) rfl (R32_b rfl) ?_
  refine GM_icmp_ge (pc := 57) 78 (daX11_guardsOf_0 39 rfl) rfl (fun c5 => ?_) (fun c5 => ?_)
  · skip
    rw [if_pos c5] at h
    refine GM_pick [0, 1, 2, 3] rfl ?_
    cases h
    exact hK
  · skip
    rw [if_neg c5] at h
    refine GM_aload_n (pc := 60) 0 rfl (daX11_guardsOf_0 40 rfl) rfl ?_
    obtain ⟨hc6, h⟩ := chk_inv h
    refine GM_getf (pc := 61) 11 30 3 30 kf_X11_56 (Nat.le_of_ble_eq_true rfl) (Nat.le_of_ble_eq_true rfl) rfl (daX11_guardsOf_0 41 rfl) hc6 rfl ?_
    refine GM_iconst (pc := 64) 3 (daX11_guardsOf_0 42 rfl) rfl (R32_b rfl) ?_
    refine GM_iload_n (pc := 65) 3 rfl (daX11_guardsOf_0 43 rfl) rfl ?_
    refine GM_imul (pc := 66) (daX11_guardsOf_0 44 rfl) ?_
    refine GM_iload (pc := 67) 4 rfl (daX11_guardsOf_0 45 rfl) ?_
    refine GM_iadd (pc := 69) (daX11_guardsOf_0 46 rfl) ?_
    refine GM_lconst (pc := 70) 0 (daX11_guardsOf_0 47 rfl) rfl (R64_b rfl) ?_
    obtain ⟨hc7, h⟩ := chk_inv h
    obtain ⟨μ8, hμ8, h⟩ := lm_inv h
    refine GM_last (pc := 71) (daX11_guardsOf_0 48 rfl) hc7.1 hc7.2.1 hc7.2.2 ?_
    refine GM_mem hμ8 ?_
    refine GM_iinc (L' := [(4, (0, w32 (v4 + 1))), (0, (3, v0)), (1, (0, v1)), (2, (0, v2)), (3, (0, v3))]) (pc := 72) 4 rfl (daX11_guardsOf_0 49 rfl) (Nat.le_of_ble_eq_true rfl) rfl ?_
    refine GM_goto (pc := 75) 54 (daX11_guardsOf_0 50 rfl) rfl ?_
    refine GM_pick [1, 2, 3, 4, 0] rfl ?_
    cases h
    exact hK
set_option maxRecDepth 20000 in
theorem gX11_guardsOf_104 (l : Launch) {F : FI} {v0 v1 v2 v3 v4 : Int} {μ : Mm} {t : ((Int × Mm) ⊕ Mm)} {k n : Nat} (h : jX11_guardsOf_104 v0 v1 v2 v3 v4 μ = some t) (hK : zX11_guardsOf_81 l F v0 v1 v2 v3 k n t) : GM l mX11_guardsOf F k n 104 [(0, (3, v0)), (1, (0, v1)), (2, (0, v2)), (3, (0, v3)), (4, (0, v4))] [] μ := by
  unfold jX11_guardsOf_104 at h
  refine GM_aload_n (pc := 104) 0 rfl (daX11_guardsOf_1 1 rfl) rfl ?_
  obtain ⟨hc9, h⟩ := chk_inv h
  refine GM_getf (pc := 105) 11 30 3 30 kf_X11_56 (Nat.le_of_ble_eq_true rfl) (Nat.le_of_ble_eq_true rfl) rfl (daX11_guardsOf_1 2 rfl) hc9 rfl ?_
  refine GM_iconst (pc := 108) 3 (daX11_guardsOf_1 3 rfl) rfl (R32_b rfl) ?_
  refine GM_iload_n (pc := 109) 3 rfl (daX11_guardsOf_1 4 rfl) rfl ?_
  refine GM_imul (pc := 110) (daX11_guardsOf_1 5 rfl) ?_
  refine GM_iload (pc := 111) 4 rfl (daX11_guardsOf_1 6 rfl) ?_
  refine GM_bipush (pc := 113) 48 (daX11_guardsOf_1 7 rfl) rfl (R32_b rfl) ?_
  refine GM_idiv (pc := 115) (daX11_guardsOf_1 8 rfl) (by decide) ?_
  refine GM_iadd (pc := 116) (daX11_guardsOf_1 9 rfl) ?_
  refine GM_dup2 (pc := 117) (daX11_guardsOf_1 10 rfl) (Nat.ne_of_beq_eq_false rfl) (Nat.ne_of_beq_eq_false rfl) ?_
  obtain ⟨hc10, h⟩ := chk_inv h
  refine GM_lald (pc := 118) (daX11_guardsOf_1 11 rfl) hc10.1 hc10.2.1 hc10.2.2 ?_
  refine GM_lconst (pc := 119) 1 (daX11_guardsOf_1 12 rfl) rfl (R64_b rfl) ?_
  refine GM_iload (pc := 120) 4 rfl (daX11_guardsOf_1 13 rfl) ?_
  refine GM_bipush (pc := 122) 48 (daX11_guardsOf_1 14 rfl) rfl (R32_b rfl) ?_
  refine GM_irem (pc := 124) (daX11_guardsOf_1 15 rfl) (by decide) ?_
  refine GM_lshl (pc := 125) (daX11_guardsOf_1 16 rfl) ?_
  refine GM_lor (pc := 126) (daX11_guardsOf_1 17 rfl) ?_
  obtain ⟨μ11, hμ11, h⟩ := lm_inv h
  refine GM_last (pc := 127) (daX11_guardsOf_1 18 rfl) hc10.1 hc10.2.1 hc10.2.2 ?_
  refine GM_mem hμ11 ?_
  refine GM_iinc (L' := [(4, (0, w32 (v4 + 1))), (0, (3, v0)), (1, (0, v1)), (2, (0, v2)), (3, (0, v3))]) (pc := 128) 4 rfl (daX11_guardsOf_1 19 rfl) (Nat.le_of_ble_eq_true rfl) rfl ?_
  refine GM_goto (pc := 131) 81 (daX11_guardsOf_1 20 rfl) rfl ?_
  refine GM_pick [1, 2, 3, 4, 0] rfl ?_
  cases h
  exact hK
set_option maxRecDepth 20000 in
theorem qX11_guardsOf_81 (l : Launch) (F : FI) (v0 v1 v2 v3 : Int) (k n : Nat) : ∀ (q : (Int × Mm)) (t : ((Int × Mm) ⊕ Mm)), sX11_guardsOf_81 v0 v1 v2 v3 q = some t → zX11_guardsOf_81 l F v0 v1 v2 v3 k n t → zX11_guardsOf_81 l F v0 v1 v2 v3 k n (.inl q) := by
  intro q t h hK
  obtain ⟨v4, μ⟩ := q
  unfold sX11_guardsOf_81 at h
  try dsimp only at h
  show GM l mX11_guardsOf F k n 81 [(0, (3, v0)), (1, (0, v1)), (2, (0, v2)), (3, (0, v3)), (4, (0, v4))] [] μ
  refine GM_iload (pc := 81) 4 rfl (daX11_guardsOf_0 53 rfl) ?_
  refine GM_iload_n (pc := 83) 2 rfl (daX11_guardsOf_0 54 rfl) rfl ?_
  refine GM_icmp_ge (pc := 84) 134 (daX11_guardsOf_0 55 rfl) rfl (fun c12 => ?_) (fun c12 => ?_)
  · skip
    rw [if_pos c12] at h
    refine GM_pick [0, 1, 2, 3] rfl ?_
    cases h
    exact hK
  · skip
    rw [if_neg c12] at h
    refine GM_iload (pc := 87) 4 rfl (daX11_guardsOf_0 56 rfl) ?_
    refine GM_iload_n (pc := 89) 3 rfl (daX11_guardsOf_0 57 rfl) rfl ?_
    refine GM_icmp_eq (pc := 90) 104 (daX11_guardsOf_0 58 rfl) rfl (fun c13 => ?_) (fun c13 => ?_)
    · skip
      rw [if_pos c13] at h
      exact gX11_guardsOf_104 l h hK
    · skip
      rw [if_neg c13] at h
      refine GM_aload_n (pc := 93) 0 rfl (daX11_guardsOf_0 59 rfl) rfl ?_
      refine GM_iload_n (pc := 94) 1 rfl (daX11_guardsOf_0 60 rfl) rfl ?_
      refine GM_iload_n (pc := 95) 3 rfl (daX11_guardsOf_0 61 rfl) rfl ?_
      refine GM_iload (pc := 96) 4 rfl (daX11_guardsOf_0 62 rfl) ?_
      obtain ⟨hc14, h⟩ := chk_inv h
      obtain ⟨r15, hf15, h⟩ := Option.bind_eq_some_iff.mp h
      refine GM_callV0 (pc := 98) [(0, v1), (0, v3), (0, v4)] (tX11_isSeen l hf15) cwX11_isSeen 11 (Nat.le_of_ble_eq_true rfl) rfl kv_X11_isSeen ke_X11_isSeen km_X11_244 hc14 ⟨Nat.le_of_ble_eq_true rfl, Nat.le_of_ble_eq_true rfl⟩ (Nat.le_of_ble_eq_true rfl) (Nat.le_of_ble_eq_true rfl) (daX11_guardsOf_0 63 rfl) ?_
      refine GM_if_eq (pc := 101) 128 (daX11_guardsOf_1 0 rfl) rfl (fun c16 => ?_) (fun c16 => ?_)
      · skip
        rw [if_pos c16] at h
        refine GM_iinc (L' := [(4, (0, w32 (v4 + 1))), (0, (3, v0)), (1, (0, v1)), (2, (0, v2)), (3, (0, v3))]) (pc := 128) 4 rfl (daX11_guardsOf_1 19 rfl) (Nat.le_of_ble_eq_true rfl) rfl ?_
        refine GM_goto (pc := 131) 81 (daX11_guardsOf_1 20 rfl) rfl ?_
        refine GM_pick [1, 2, 3, 4, 0] rfl ?_
        cases h
        exact hK
      · skip
        rw [if_neg c16] at h
        exact gX11_guardsOf_104 l h hK
set_option maxRecDepth 20000 in
theorem qX11_guardsOf_28 (l : Launch) (F : FI) (v0 v1 v2 : Int) (k n : Nat) : ∀ (q : (Int × Mm)) (t : ((Int × Mm) ⊕ Mm)), sX11_guardsOf_28 v0 v1 v2 q = some t → zX11_guardsOf_28 l F v0 v1 v2 k n t → zX11_guardsOf_28 l F v0 v1 v2 k n (.inl q) := by
  intro q t h hK
  obtain ⟨v3, μ⟩ := q
  unfold sX11_guardsOf_28 at h
  try dsimp only at h
  show GM l mX11_guardsOf F k n 28 [(0, (3, v0)), (1, (0, v1)), (2, (0, v2)), (3, (0, v3))] [] μ
  refine GM_iload_n (pc := 28) 3 rfl (daX11_guardsOf_0 18 rfl) rfl ?_
  refine GM_iload_n (pc := 29) 2 rfl (daX11_guardsOf_0 19 rfl) rfl ?_
  refine GM_icmp_ge (pc := 30) 140 (daX11_guardsOf_0 20 rfl) rfl (fun c17 => ?_) (fun c17 => ?_)
  · skip
    rw [if_pos c17] at h
    refine GM_pick [] rfl ?_
    cases h
    exact hK
  · skip
    rw [if_neg c17] at h
    refine GM_aload_n (pc := 33) 0 rfl (daX11_guardsOf_0 21 rfl) rfl ?_
    obtain ⟨hc18, h⟩ := chk_inv h
    refine GM_getf (pc := 34) 11 31 3 31 kf_X11_60 (Nat.le_of_ble_eq_true rfl) (Nat.le_of_ble_eq_true rfl) rfl (daX11_guardsOf_0 22 rfl) hc18 rfl ?_
    refine GM_iload_n (pc := 37) 3 rfl (daX11_guardsOf_0 23 rfl) rfl ?_
    refine GM_bipush (pc := 38) 48 (daX11_guardsOf_0 24 rfl) rfl (R32_b rfl) ?_
    refine GM_idiv (pc := 40) (daX11_guardsOf_0 25 rfl) (by decide) ?_
    refine GM_dup2 (pc := 41) (daX11_guardsOf_0 26 rfl) (Nat.ne_of_beq_eq_false rfl) (Nat.ne_of_beq_eq_false rfl) ?_
    obtain ⟨hc19, h⟩ := chk_inv h
    refine GM_lald (pc := 42) (daX11_guardsOf_0 27 rfl) hc19.1 hc19.2.1 hc19.2.2 ?_
    refine GM_lconst (pc := 43) 1 (daX11_guardsOf_0 28 rfl) rfl (R64_b rfl) ?_
    refine GM_iload_n (pc := 44) 3 rfl (daX11_guardsOf_0 29 rfl) rfl ?_
    refine GM_bipush (pc := 45) 48 (daX11_guardsOf_0 30 rfl) rfl (R32_b rfl) ?_
    refine GM_irem (pc := 47) (daX11_guardsOf_0 31 rfl) (by decide) ?_
    refine GM_lshl (pc := 48) (daX11_guardsOf_0 32 rfl) ?_
    refine GM_lor (pc := 49) (daX11_guardsOf_0 33 rfl) ?_
    obtain ⟨μ20, hμ20, h⟩ := lm_inv h
    refine GM_last (pc := 50) (daX11_guardsOf_0 34 rfl) hc19.1 hc19.2.1 hc19.2.2 ?_
    refine GM_mem hμ20 ?_
    refine GM_iconst (pc := 51) 0 (daX11_guardsOf_0 35 rfl) rfl (R32_b rfl) ?_
    refine GM_istore (L' := [(4, (0, 0)), (0, (3, v0)), (1, (0, v1)), (2, (0, v2)), (3, (0, v3))]) (pc := 52) (daX11_guardsOf_0 36 rfl) (Nat.le_of_ble_eq_true rfl) rfl ?_
    refine GM_pick [1, 2, 3, 4, 0] rfl ?_
    obtain ⟨x21, hqx21, h⟩ := Option.bind_eq_some_iff.mp h
    refine lop_ind (zX11_guardsOf_54 l F v0 v1 v2 v3 k n) (qX11_guardsOf_54 l F v0 v1 v2 v3 k n) FU _ x21 hqx21 ?_
    obtain ⟨μ_22, hqq⟩ : ∃ z, z = x21 := ⟨x21, rfl⟩
    subst hqq
    show GM l mX11_guardsOf F k n 78 [(0, (3, v0)), (1, (0, v1)), (2, (0, v2)), (3, (0, v3))] [] μ_22
    refine GM_iconst (pc := 78) 0 (daX11_guardsOf_0 51 rfl) rfl (R32_b rfl) ?_
    refine GM_istore (L' := [(4, (0, 0)), (0, (3, v0)), (1, (0, v1)), (2, (0, v2)), (3, (0, v3))]) (pc := 79) (daX11_guardsOf_0 52 rfl) (Nat.le_of_ble_eq_true rfl) rfl ?_
    refine GM_pick [1, 2, 3, 4, 0] rfl ?_
    obtain ⟨x23, hqx23, h⟩ := Option.bind_eq_some_iff.mp h
    refine lop_ind (zX11_guardsOf_81 l F v0 v1 v2 v3 k n) (qX11_guardsOf_81 l F v0 v1 v2 v3 k n) FU _ x23 hqx23 ?_
    obtain ⟨μ_24, hqq⟩ : ∃ z, z = x23 := ⟨x23, rfl⟩
    subst hqq
    show GM l mX11_guardsOf F k n 134 [(0, (3, v0)), (1, (0, v1)), (2, (0, v2)), (3, (0, v3))] [] μ_24
    refine GM_iinc (L' := [(3, (0, w32 (v3 + 1))), (0, (3, v0)), (1, (0, v1)), (2, (0, v2))]) (pc := 134) 3 rfl (daX11_guardsOf_1 21 rfl) (Nat.le_of_ble_eq_true rfl) rfl ?_
    refine GM_goto (pc := 137) 28 (daX11_guardsOf_1 22 rfl) rfl ?_
    refine GM_pick [1, 2, 3, 0] rfl ?_
    cases h
    exact hK
set_option maxRecDepth 20000 in
theorem gX11_guardsOf_0 (l : Launch) {F : FI} {v0 v1 : Int} {μ : Mm} {t : Mm} (h : fX11_guardsOf v0 v1 μ = some t) (hK : F.1 = [] ∧ F.2.1 = t) : GM l mX11_guardsOf F 0 0 0 [(0, (3, v0)), (1, (0, v1))] [] μ := by
  unfold fX11_guardsOf at h
  refine GM_aload_n (pc := 0) 0 rfl (daX11_guardsOf_0 0 rfl) rfl ?_
  refine GM_iload_n (pc := 1) 1 rfl (daX11_guardsOf_0 1 rfl) rfl ?_
  obtain ⟨hc25, h⟩ := chk_inv h
  obtain ⟨r26, hf26, h⟩ := Option.bind_eq_some_iff.mp h
  refine GM_callV0 (pc := 2) [(0, v1)] (tX11_placesOf l hf26) cwX11_placesOf 11 (Nat.le_of_ble_eq_true rfl) rfl kv_X11_placesOf ke_X11_placesOf km_X11_207 hc25 ⟨Nat.le_of_ble_eq_true rfl, Nat.le_of_ble_eq_true rfl⟩ (Nat.le_of_ble_eq_true rfl) (Nat.le_of_ble_eq_true rfl) (daX11_guardsOf_0 2 rfl) ?_
  refine GM_istore_n (L' := [(2, (0, r26)), (0, (3, v0)), (1, (0, v1))]) (pc := 5) (daX11_guardsOf_0 3 rfl) rfl (Nat.le_of_ble_eq_true rfl) rfl ?_
  refine GM_iconst (pc := 6) 0 (daX11_guardsOf_0 4 rfl) rfl (R32_b rfl) ?_
  refine GM_istore_n (L' := [(3, (0, 0)), (2, (0, r26)), (0, (3, v0)), (1, (0, v1))]) (pc := 7) (daX11_guardsOf_0 5 rfl) rfl (Nat.le_of_ble_eq_true rfl) rfl ?_
  refine GM_pick [2, 3, 1, 0] rfl ?_
  obtain ⟨x27, hqx27, h⟩ := Option.bind_eq_some_iff.mp h
  refine lop_ind (zX11_guardsOf_8 l F v0 v1 r26 0 0) (qX11_guardsOf_8 l F v0 v1 r26 0 0) FU _ x27 hqx27 ?_
  obtain ⟨μ_28, hqq⟩ : ∃ z, z = x27 := ⟨x27, rfl⟩
  subst hqq
  show GM l mX11_guardsOf F 0 0 26 [(0, (3, v0)), (1, (0, v1)), (2, (0, r26))] [] μ_28
  refine GM_iconst (pc := 26) 0 (daX11_guardsOf_0 16 rfl) rfl (R32_b rfl) ?_
  refine GM_istore_n (L' := [(3, (0, 0)), (0, (3, v0)), (1, (0, v1)), (2, (0, r26))]) (pc := 27) (daX11_guardsOf_0 17 rfl) rfl (Nat.le_of_ble_eq_true rfl) rfl ?_
  refine GM_pick [1, 2, 3, 0] rfl ?_
  obtain ⟨x29, hqx29, h⟩ := Option.bind_eq_some_iff.mp h
  refine lop_ind (zX11_guardsOf_28 l F v0 v1 r26 0 0) (qX11_guardsOf_28 l F v0 v1 r26 0 0) FU _ x29 hqx29 ?_
  obtain ⟨μ_30, hqq⟩ : ∃ z, z = x29 := ⟨x29, rfl⟩
  subst hqq
  show GM l mX11_guardsOf F 0 0 140 [] [] μ_30
  cases h
  exact GM_vret (pc := 140) (daX11_guardsOf_1 23 rfl) rfl hK
theorem tX11_guardsOf (l : Launch) {v0 v1 : Int} {μ : Mm} {t : Mm} (h : fX11_guardsOf v0 v1 μ = some t) : Ct l yX11_guardsOf mX11_guardsOf [(3, v0), (0, v1)] μ ([], t, 0, 0) :=
  Ct_of (by decide +kernel) rfl rfl (Nat.le_of_ble_eq_true rfl) (fun _ _ _ => trivial) (gX11_guardsOf_0 l h ⟨rfl, rfl⟩)
def mX11_isWhole : MI := (RX11, cX11_isWhole, 6, (some .boolean), "isWhole", 0, 0, fun _ _ _ => True)
theorem cwX11_isWhole : CWd yX11_isWhole mX11_isWhole 3 := ⟨ki_X11, kk_X11_isWhole, ⟨by decide, by decide⟩, rfl⟩
def dtX11_isWhole_0 : List (Nat × Instr × Nat) := [(0, .iconst 1, 1), (1, .istore 4, 2), (3, .iconst 0, 1), (4, .istore 5, 2), (6, .iload 5, 2), (8, .iconst 3, 1), (9, .if_icmp .ge 67, 3), (12, .iload 4, 2), (14, .ifCond .eq 62, 3), (17, .aload_n 0, 1), (18, .getfield 56, 3), (21, .iconst 3, 1), (22, .iload_n 1, 1), (23, .imul, 1), (24, .iload 5, 2), (26, .iadd, 1), (27, .laload, 1), (28, .aload_n 0, 1), (29, .getfield 56, 3), (32, .iconst 3, 1), (33, .iload_n 2, 1), (34, .imul, 1), (35, .iload 5, 2), (37, .iadd, 1), (38, .laload, 1), (39, .lor, 1), (40, .aload_n 0, 1), (41, .getfield 56, 3), (44, .iconst 3, 1), (45, .iload_n 3, 1), (46, .imul, 1), (47, .iload 5, 2), (49, .iadd, 1), (50, .laload, 1), (51, .lor, 1), (52, .aload_n 0, 1), (53, .getfield 60, 3), (56, .iload 5, 2), (58, .laload, 1), (59, .lcmp, 1), (60, .ifCond .ne 7, 3), (63, .iconst 1, 1), (64, .goto 4, 3), (67, .iconst 0, 1), (68, .istore 4, 2), (70, .iinc 5 1, 3), (73, .goto (-67), 3), (76, .iload 4, 2), (78, .ireturn, 1)]
theorem ddX11_isWhole_0 : (dtX11_isWhole_0.all fun e => decide (decode mX11_isWhole.2.1 e.1 = .ok (e.2.1, e.2.2))) = true := by decide +kernel
theorem daX11_isWhole_0 (j : Nat) {pc n : Nat} {i : Instr} (h : dtX11_isWhole_0[j]? = some (pc, i, n)) : decode mX11_isWhole.2.1 pc = .ok (i, n) := dec_of (c := mX11_isWhole.2.1) ddX11_isWhole_0 h
def zX11_isWhole_6 (l : Launch) (F : FI) (v0 v1 v2 v3 : Int) (μ : Mm) (k n : Nat) : (Int × Int) ⊕ Int → Prop
  | .inl (v4, v5) => GM l mX11_isWhole F k n 6 [(0, (3, v0)), (1, (0, v1)), (2, (0, v2)), (3, (0, v3)), (4, (0, v4)), (5, (0, v5))] [] μ
  | .inr v4 => GM l mX11_isWhole F k n 76 [(4, (0, v4))] [] μ
def sX11_isWhole_6 (v0 v1 v2 v3 : Int) (μ : Mm) : (Int × Int) → Option ((Int × Int) ⊕ Int) := fun (v4, v5) =>
  if 3 ≤ v5 then
    some (.inr v4)
  else
    if v4 = 0 then
      some (.inr v4)
    else
      chk (KD v0 = 11) (
      chk (KD (μ v0 30) = 13 ∧ 0 ≤ w32 ((w32 (3 * v1)) + v5) ∧ w32 ((w32 (3 * v1)) + v5) < LN (μ v0 30)) (
      chk (0 ≤ w32 ((w32 (3 * v2)) + v5) ∧ w32 ((w32 (3 * v2)) + v5) < LN (μ v0 30)) (
      chk (0 ≤ w32 ((w32 (3 * v3)) + v5) ∧ w32 ((w32 (3 * v3)) + v5) < LN (μ v0 30)) (
      chk (KD (μ v0 31) = 13 ∧ 0 ≤ v5 ∧ v5 < LN (μ v0 31)) (
      if lor (lor (μ (μ v0 30) (w32 ((w32 (3 * v1)) + v5))) (μ (μ v0 30) (w32 ((w32 (3 * v2)) + v5)))) (μ (μ v0 30) (w32 ((w32 (3 * v3)) + v5))) = μ (μ v0 31) v5 then
        some (.inl (1, w32 (v5 + 1)))
      else
        some (.inl (0, w32 (v5 + 1))))))))
def fX11_isWhole (v0 v1 v2 v3 : Int) (μ : Mm) : Option Int :=
  (lop (sX11_isWhole_6 v0 v1 v2 v3 μ) FU (1, 0)).bind fun v4_10 =>
    chk ((v4_10 = 0 ∨ v4_10 = 1)) (
    some v4_10)
set_option maxRecDepth 20000 in
theorem qX11_isWhole_6 (l : Launch) (F : FI) (v0 v1 v2 v3 : Int) (μ : Mm) (k n : Nat) : ∀ (q : (Int × Int)) (t : ((Int × Int) ⊕ Int)), sX11_isWhole_6 v0 v1 v2 v3 μ q = some t → zX11_isWhole_6 l F v0 v1 v2 v3 μ k n t → zX11_isWhole_6 l F v0 v1 v2 v3 μ k n (.inl q) := by
  intro q t h hK
  obtain ⟨v4, v5⟩ := q
  unfold sX11_isWhole_6 at h
  try dsimp only at h
  show GM l mX11_isWhole F k n 6 [(0, (3, v0)), (1, (0, v1)), (2, (0, v2)), (3, (0, v3)), (4, (0, v4)), (5, (0, v5))] [] μ
  refine GM_iload (pc := 6) 5 rfl (daX11_isWhole_0 4 rfl) ?_
  refine GM_iconst (pc := 8) 3 (daX11_isWhole_0 5 rfl) rfl (R32_b rfl) ?_
  refine GM_icmp_ge (pc := 9) 76 (daX11_isWhole_0 6 rfl) rfl (fun c1 => ?_) (fun c1 => ?_)
  · skip
    rw [if_pos c1] at h
    refine GM_pick [4] rfl ?_
    cases h
    exact hK
  · skip
    rw [if_neg c1] at h
    refine GM_iload (pc := 12) 4 rfl (daX11_isWhole_0 7 rfl) ?_
    refine GM_if_eq (pc := 14) 76 (daX11_isWhole_0 8 rfl) rfl (fun c2 => ?_) (fun c2 => ?_)
    · skip
      rw [if_pos c2] at h
      refine GM_pick [4] rfl ?_
      cases h
      exact hK
    · skip
      rw [if_neg c2] at h
      refine GM_aload_n (pc := 17) 0 rfl (daX11_isWhole_0 9 rfl) rfl ?_
      obtain ⟨hc3, h⟩ := chk_inv h
      refine GM_getf (pc := 18) 11 30 3 30 kf_X11_56 (Nat.le_of_ble_eq_true rfl) (Nat.le_of_ble_eq_true rfl) rfl (daX11_isWhole_0 10 rfl) hc3 rfl ?_
      refine GM_iconst (pc := 21) 3 (daX11_isWhole_0 11 rfl) rfl (R32_b rfl) ?_
      refine GM_iload_n (pc := 22) 1 rfl (daX11_isWhole_0 12 rfl) rfl ?_
      refine GM_imul (pc := 23) (daX11_isWhole_0 13 rfl) ?_
      refine GM_iload (pc := 24) 5 rfl (daX11_isWhole_0 14 rfl) ?_
      refine GM_iadd (pc := 26) (daX11_isWhole_0 15 rfl) ?_
      obtain ⟨hc4, h⟩ := chk_inv h
      refine GM_lald (pc := 27) (daX11_isWhole_0 16 rfl) hc4.1 hc4.2.1 hc4.2.2 ?_
      refine GM_aload_n (pc := 28) 0 rfl (daX11_isWhole_0 17 rfl) rfl ?_
      refine GM_getf (pc := 29) 11 30 3 30 kf_X11_56 (Nat.le_of_ble_eq_true rfl) (Nat.le_of_ble_eq_true rfl) rfl (daX11_isWhole_0 18 rfl) hc3 rfl ?_
      refine GM_iconst (pc := 32) 3 (daX11_isWhole_0 19 rfl) rfl (R32_b rfl) ?_
      refine GM_iload_n (pc := 33) 2 rfl (daX11_isWhole_0 20 rfl) rfl ?_
      refine GM_imul (pc := 34) (daX11_isWhole_0 21 rfl) ?_
      refine GM_iload (pc := 35) 5 rfl (daX11_isWhole_0 22 rfl) ?_
      refine GM_iadd (pc := 37) (daX11_isWhole_0 23 rfl) ?_
      obtain ⟨hc5, h⟩ := chk_inv h
      refine GM_lald (pc := 38) (daX11_isWhole_0 24 rfl) hc4.1 hc5.1 hc5.2 ?_
      refine GM_lor (pc := 39) (daX11_isWhole_0 25 rfl) ?_
      refine GM_aload_n (pc := 40) 0 rfl (daX11_isWhole_0 26 rfl) rfl ?_
      refine GM_getf (pc := 41) 11 30 3 30 kf_X11_56 (Nat.le_of_ble_eq_true rfl) (Nat.le_of_ble_eq_true rfl) rfl (daX11_isWhole_0 27 rfl) hc3 rfl ?_
      refine GM_iconst (pc := 44) 3 (daX11_isWhole_0 28 rfl) rfl (R32_b rfl) ?_
      refine GM_iload_n (pc := 45) 3 rfl (daX11_isWhole_0 29 rfl) rfl ?_
      refine GM_imul (pc := 46) (daX11_isWhole_0 30 rfl) ?_
      refine GM_iload (pc := 47) 5 rfl (daX11_isWhole_0 31 rfl) ?_
      refine GM_iadd (pc := 49) (daX11_isWhole_0 32 rfl) ?_
      obtain ⟨hc6, h⟩ := chk_inv h
      refine GM_lald (pc := 50) (daX11_isWhole_0 33 rfl) hc4.1 hc6.1 hc6.2 ?_
      refine GM_lor (pc := 51) (daX11_isWhole_0 34 rfl) ?_
      refine GM_aload_n (pc := 52) 0 rfl (daX11_isWhole_0 35 rfl) rfl ?_
      refine GM_getf (pc := 53) 11 31 3 31 kf_X11_60 (Nat.le_of_ble_eq_true rfl) (Nat.le_of_ble_eq_true rfl) rfl (daX11_isWhole_0 36 rfl) hc3 rfl ?_
      refine GM_iload (pc := 56) 5 rfl (daX11_isWhole_0 37 rfl) ?_
      obtain ⟨hc7, h⟩ := chk_inv h
      refine GM_lald (pc := 58) (daX11_isWhole_0 38 rfl) hc7.1 hc7.2.1 hc7.2.2 ?_
      refine GM_lcmp (pc := 59) (daX11_isWhole_0 39 rfl) ?_
      refine GM_if_ne (pc := 60) 67 (daX11_isWhole_0 40 rfl) rfl (fun c8 => ?_) (fun c8 => ?_)
      · skip
        have c8 := (not_congr lcmp_eq).mp c8
        rw [if_neg c8] at h
        refine GM_iconst (pc := 67) 0 (daX11_isWhole_0 43 rfl) rfl (R32_b rfl) ?_
        refine GM_istore (L' := [(4, (0, 0)), (0, (3, v0)), (1, (0, v1)), (2, (0, v2)), (3, (0, v3)), (5, (0, v5))]) (pc := 68) (daX11_isWhole_0 44 rfl) (Nat.le_of_ble_eq_true rfl) rfl ?_
        refine GM_iinc (L' := [(5, (0, w32 (v5 + 1))), (4, (0, 0)), (0, (3, v0)), (1, (0, v1)), (2, (0, v2)), (3, (0, v3))]) (pc := 70) 5 rfl (daX11_isWhole_0 45 rfl) (Nat.le_of_ble_eq_true rfl) rfl ?_
        refine GM_goto (pc := 73) 6 (daX11_isWhole_0 46 rfl) rfl ?_
        refine GM_pick [2, 3, 4, 5, 1, 0] rfl ?_
        cases h
        exact hK
      · skip
        have c8 := lcmp_eq.mp c8
        rw [if_pos c8] at h
        refine GM_iconst (pc := 63) 1 (daX11_isWhole_0 41 rfl) rfl (R32_b rfl) ?_
        refine GM_goto (pc := 64) 68 (daX11_isWhole_0 42 rfl) rfl ?_
        refine GM_istore (L' := [(4, (0, 1)), (0, (3, v0)), (1, (0, v1)), (2, (0, v2)), (3, (0, v3)), (5, (0, v5))]) (pc := 68) (daX11_isWhole_0 44 rfl) (Nat.le_of_ble_eq_true rfl) rfl ?_
        refine GM_iinc (L' := [(5, (0, w32 (v5 + 1))), (4, (0, 1)), (0, (3, v0)), (1, (0, v1)), (2, (0, v2)), (3, (0, v3))]) (pc := 70) 5 rfl (daX11_isWhole_0 45 rfl) (Nat.le_of_ble_eq_true rfl) rfl ?_
        refine GM_goto (pc := 73) 6 (daX11_isWhole_0 46 rfl) rfl ?_
        refine GM_pick [2, 3, 4, 5, 1, 0] rfl ?_
        cases h
        exact hK
set_option maxRecDepth 20000 in
theorem gX11_isWhole_0 (l : Launch) {F : FI} {v0 v1 v2 v3 : Int} {μ : Mm} {t : Int} (h : fX11_isWhole v0 v1 v2 v3 μ = some t) (hK : F.1 = [(0, t)] ∧ F.2.1 = μ) : GM l mX11_isWhole F 0 0 0 [(0, (3, v0)), (1, (0, v1)), (2, (0, v2)), (3, (0, v3))] [] μ := by
  unfold fX11_isWhole at h
  refine GM_iconst (pc := 0) 1 (daX11_isWhole_0 0 rfl) rfl (R32_b rfl) ?_
  refine GM_istore (L' := [(4, (0, 1)), (0, (3, v0)), (1, (0, v1)), (2, (0, v2)), (3, (0, v3))]) (pc := 1) (daX11_isWhole_0 1 rfl) (Nat.le_of_ble_eq_true rfl) rfl ?_
  refine GM_iconst (pc := 3) 0 (daX11_isWhole_0 2 rfl) rfl (R32_b rfl) ?_
  refine GM_istore (L' := [(5, (0, 0)), (4, (0, 1)), (0, (3, v0)), (1, (0, v1)), (2, (0, v2)), (3, (0, v3))]) (pc := 4) (daX11_isWhole_0 3 rfl) (Nat.le_of_ble_eq_true rfl) rfl ?_
  refine GM_pick [2, 3, 4, 5, 1, 0] rfl ?_
  obtain ⟨x9, hqx9, h⟩ := Option.bind_eq_some_iff.mp h
  refine lop_ind (zX11_isWhole_6 l F v0 v1 v2 v3 μ 0 0) (qX11_isWhole_6 l F v0 v1 v2 v3 μ 0 0) FU _ x9 hqx9 ?_
  obtain ⟨v4_10, hqq⟩ : ∃ z, z = x9 := ⟨x9, rfl⟩
  subst hqq
  show GM l mX11_isWhole F 0 0 76 [(4, (0, v4_10))] [] μ
  refine GM_iload (pc := 76) 0 rfl (daX11_isWhole_0 47 rfl) ?_
  obtain ⟨hc11, h⟩ := chk_inv h
  cases h
  exact GM_zret (pc := 78) (daX11_isWhole_0 48 rfl) rfl hc11 hK
theorem tX11_isWhole (l : Launch) {v0 v1 v2 v3 : Int} {μ : Mm} {t : Int} (h : fX11_isWhole v0 v1 v2 v3 μ = some t) : Ct l yX11_isWhole mX11_isWhole [(3, v0), (0, v1), (0, v2), (0, v3)] μ ([(0, t)], μ, 0, 0) :=
  Ct_of (by decide +kernel) rfl rfl (Nat.le_of_ble_eq_true rfl) (fun _ _ _ => trivial) (gX11_isWhole_0 l h ⟨rfl, rfl⟩)
def mX11_fewest : MI := (RX11, cX11_fewest, 6, (some .int), "fewest", 1, 25, fun _ _ _ => True)
theorem cwX11_fewest : CWd yX11_fewest mX11_fewest 1 := ⟨ki_X11, kk_X11_fewest, ⟨by decide, by decide⟩, rfl⟩
def dtX11_fewest_0 : List (Nat × Instr × Nat) := [(0, .iconst 1, 1), (1, .istore_n 2, 1), (2, .iload_n 2, 1), (3, .iconst 4, 1), (4, .if_icmp .ge 139, 3), (7, .iconst 0, 1), (8, .istore_n 3, 1), (9, .iload_n 3, 1), (10, .iload_n 1, 1), (11, .if_icmp .ge 126, 3), (14, .iload_n 2, 1), (15, .iconst 1, 1), (16, .if_icmp .le 9, 3), (19, .iload_n 3, 1), (20, .iconst 1, 1), (21, .iadd, 1), (22, .goto 4, 3), (25, .iload_n 3, 1), (26, .istore 4, 2), (28, .iload 4, 2), (30, .iload_n 2, 1), (31, .iconst 1, 1), (32, .if_icmp .le 7, 3), (35, .iload_n 1, 1), (36, .goto 6, 3), (39, .iload_n 3, 1), (40, .iconst 1, 1), (41, .iadd, 1), (42, .if_icmp .ge 89, 3), (45, .iload_n 2, 1), (46, .iconst 2, 1), (47, .if_icmp .le 10, 3), (50, .iload 4, 2), (52, .iconst 1, 1), (53, .iadd, 1), (54, .goto 5, 3), (57, .iload 4, 2), (59, .istore 5, 2), (61, .iload 5, 2), (63, .iload_n 2, 1), (64, .iconst 2, 1), (65, .if_icmp .le 7, 3), (68, .iload_n 1, 1), (69, .goto 7, 3), (72, .iload 4, 2), (74, .iconst 1, 1), (75, .iadd, 1), (76, .if_icmp .ge 49, 3), (79, .aload_n 0, 1), (80, .iload_n 3, 1), (81, .iload 4, 2), (83, .iload 5, 2), (85, .invokevirtual 369, 3), (88, .ifCond .ne 6, 3), (91, .goto 28, 3), (94, .aload_n 0, 1), (95, .getfield 63, 3), (98, .iconst 0, 1), (99, .iload_n 3, 1), (100, .iastore, 1), (101, .aload_n 0, 1), (102, .getfield 63, 3), (105, .iconst 1, 1), (106, .iload 4, 2)]
theorem ddX11_fewest_0 : (dtX11_fewest_0.all fun e => decide (decode mX11_fewest.2.1 e.1 = .ok (e.2.1, e.2.2))) = true := by decide +kernel
theorem daX11_fewest_0 (j : Nat) {pc n : Nat} {i : Instr} (h : dtX11_fewest_0[j]? = some (pc, i, n)) : decode mX11_fewest.2.1 pc = .ok (i, n) := dec_of (c := mX11_fewest.2.1) ddX11_fewest_0 h
def dtX11_fewest_1 : List (Nat × Instr × Nat) := [(108, .iastore, 1), (109, .aload_n 0, 1), (110, .getfield 63, 3), (113, .iconst 2, 1), (114, .iload 5, 2), (116, .iastore, 1), (117, .iload_n 2, 1), (118, .ireturn, 1), (119, .iinc 5 1, 3), (122, .goto (-61), 3), (125, .iinc 4 1, 3), (128, .goto (-100), 3), (131, .iinc 3 1, 3), (134, .goto (-125), 3), (137, .iinc 2 1, 3), (140, .goto (-138), 3), (143, .iconst 0, 1), (144, .ireturn, 1)]
theorem ddX11_fewest_1 : (dtX11_fewest_1.all fun e => decide (decode mX11_fewest.2.1 e.1 = .ok (e.2.1, e.2.2))) = true := by decide +kernel
theorem daX11_fewest_1 (j : Nat) {pc n : Nat} {i : Instr} (h : dtX11_fewest_1[j]? = some (pc, i, n)) : decode mX11_fewest.2.1 pc = .ok (i, n) := dec_of (c := mX11_fewest.2.1) ddX11_fewest_1 h
def jX11_fewest_76 (v0 v1 v2 v3 v4 v5 s0 s1 : Int) (μ : Mm) : Option (Int ⊕ (Unit ⊕ Int)) :=
  if s0 ≤ s1 then
    some (.inr (.inl ()))
  else
    chk (KD v0 = 11) (
    (fX11_isWhole v0 v3 v4 v5 μ).bind fun r3 =>
    if r3 = 0 then
      some (.inl (w32 (v5 + 1)))
    else
      some (.inr (.inr v5)))
def zX11_fewest_61 (l : Launch) (F : FI) (v0 v1 v2 v3 v4 : Int) (μ : Mm) (k n : Nat) : Int ⊕ (Unit ⊕ Int) → Prop
  | .inl v5 => GM l mX11_fewest F k n 61 [(0, (3, v0)), (1, (0, v1)), (2, (0, v2)), (3, (0, v3)), (4, (0, v4)), (5, (0, v5))] [] μ
  | .inr (.inl ()) => GM l mX11_fewest F k n 125 [(0, (3, v0)), (1, (0, v1)), (2, (0, v2)), (3, (0, v3)), (4, (0, v4))] [] μ
  | .inr (.inr v5) => GM l mX11_fewest F k n 94 [(0, (3, v0)), (2, (0, v2)), (3, (0, v3)), (4, (0, v4)), (5, (0, v5))] [] μ
def sX11_fewest_61 (v0 v1 v2 v3 v4 : Int) (μ : Mm) : Int → Option (Int ⊕ (Unit ⊕ Int)) := fun v5 =>
  if v2 ≤ 2 then
    jX11_fewest_76 v0 v1 v2 v3 v4 v5 (w32 (v4 + 1)) v5 μ
  else
    jX11_fewest_76 v0 v1 v2 v3 v4 v5 v1 v5 μ
def jX11_fewest_59 (v0 v1 v2 v3 v4 s0 : Int) (μ : Mm) : Option (Int ⊕ (Unit ⊕ (Int × Int))) :=
  (lop (sX11_fewest_61 v0 v1 v2 v3 v4 μ) FU s0).bind fun x6 =>
    match x6 with
    | (.inl ()) =>
        some (.inl (w32 (v4 + 1)))
    | (.inr v5_8) =>
        some (.inr (.inr (v4, v5_8)))
def jX11_fewest_42 (v0 v1 v2 v3 v4 s0 s1 : Int) (μ : Mm) : Option (Int ⊕ (Unit ⊕ (Int × Int))) :=
  if s0 ≤ s1 then
    some (.inr (.inl ()))
  else
    if v2 ≤ 2 then
      jX11_fewest_59 v0 v1 v2 v3 v4 v4 μ
    else
      jX11_fewest_59 v0 v1 v2 v3 v4 (w32 (v4 + 1)) μ
def zX11_fewest_28 (l : Launch) (F : FI) (v0 v1 v2 v3 : Int) (μ : Mm) (k n : Nat) : Int ⊕ (Unit ⊕ (Int × Int)) → Prop
  | .inl v4 => GM l mX11_fewest F k n 28 [(0, (3, v0)), (1, (0, v1)), (2, (0, v2)), (3, (0, v3)), (4, (0, v4))] [] μ
  | .inr (.inl ()) => GM l mX11_fewest F k n 131 [(0, (3, v0)), (1, (0, v1)), (2, (0, v2)), (3, (0, v3))] [] μ
  | .inr (.inr (v4, v5)) => GM l mX11_fewest F k n 94 [(0, (3, v0)), (2, (0, v2)), (3, (0, v3)), (4, (0, v4)), (5, (0, v5))] [] μ
def sX11_fewest_28 (v0 v1 v2 v3 : Int) (μ : Mm) : Int → Option (Int ⊕ (Unit ⊕ (Int × Int))) := fun v4 =>
  if v2 ≤ 1 then
    jX11_fewest_42 v0 v1 v2 v3 v4 (w32 (v3 + 1)) v4 μ
  else
    jX11_fewest_42 v0 v1 v2 v3 v4 v1 v4 μ
def jX11_fewest_26 (v0 v1 v2 v3 s0 : Int) (μ : Mm) : Option (Int ⊕ (Unit ⊕ (Int × Int × Int))) :=
  (lop (sX11_fewest_28 v0 v1 v2 v3 μ) FU s0).bind fun x12 =>
    match x12 with
    | (.inl ()) =>
        some (.inl (w32 (v3 + 1)))
    | (.inr (v4_14, v5_14)) =>
        some (.inr (.inr (v3, v4_14, v5_14)))
def zX11_fewest_9 (l : Launch) (F : FI) (v0 v1 v2 : Int) (μ : Mm) (k n : Nat) : Int ⊕ (Unit ⊕ (Int × Int × Int)) → Prop
  | .inl v3 => GM l mX11_fewest F k n 9 [(0, (3, v0)), (1, (0, v1)), (2, (0, v2)), (3, (0, v3))] [] μ
  | .inr (.inl ()) => GM l mX11_fewest F k n 137 [(0, (3, v0)), (1, (0, v1)), (2, (0, v2))] [] μ
  | .inr (.inr (v3, v4, v5)) => GM l mX11_fewest F k n 94 [(0, (3, v0)), (2, (0, v2)), (3, (0, v3)), (4, (0, v4)), (5, (0, v5))] [] μ
def sX11_fewest_9 (v0 v1 v2 : Int) (μ : Mm) : Int → Option (Int ⊕ (Unit ⊕ (Int × Int × Int))) := fun v3 =>
  if v1 ≤ v3 then
    some (.inr (.inl ()))
  else
    if v2 ≤ 1 then
      jX11_fewest_26 v0 v1 v2 v3 v3 μ
    else
      jX11_fewest_26 v0 v1 v2 v3 (w32 (v3 + 1)) μ
def zX11_fewest_2 (l : Launch) (F : FI) (v0 v1 : Int) (μ : Mm) (k n : Nat) : Int ⊕ (Unit ⊕ (Int × Int × Int × Int)) → Prop
  | .inl v2 => GM l mX11_fewest F k n 2 [(0, (3, v0)), (1, (0, v1)), (2, (0, v2))] [] μ
  | .inr (.inl ()) => GM l mX11_fewest F k n 143 [] [] μ
  | .inr (.inr (v2, v3, v4, v5)) => GM l mX11_fewest F k n 94 [(0, (3, v0)), (2, (0, v2)), (3, (0, v3)), (4, (0, v4)), (5, (0, v5))] [] μ
def sX11_fewest_2 (v0 v1 : Int) (μ : Mm) : Int → Option (Int ⊕ (Unit ⊕ (Int × Int × Int × Int))) := fun v2 =>
  if 4 ≤ v2 then
    some (.inr (.inl ()))
  else
    (lop (sX11_fewest_9 v0 v1 v2 μ) FU 0).bind fun x18 =>
      match x18 with
      | (.inl ()) =>
          some (.inl (w32 (v2 + 1)))
      | (.inr (v3_20, v4_20, v5_20)) =>
          some (.inr (.inr (v2, v3_20, v4_20, v5_20)))
def fX11_fewest (v0 v1 : Int) (μ : Mm) : Option (Int × Mm) :=
  (lop (sX11_fewest_2 v0 v1 μ) FU 1).bind fun x21 =>
    match x21 with
    | (.inl ()) =>
        some (0, μ)
    | (.inr (v2_23, v3_23, v4_23, v5_23)) =>
        chk (KD v0 = 11) (
        chk (KD (μ v0 32) = 12 ∧ 0 < LN (μ v0 32)) (
        lm (mst μ (μ v0 32) 0 v3_23) fun μ26 =>
        chk (KD (μ26 v0 32) = 12 ∧ 1 < LN (μ26 v0 32)) (
        lm (mst μ26 (μ26 v0 32) 1 v4_23) fun μ28 =>
        chk (KD (μ28 v0 32) = 12 ∧ 2 < LN (μ28 v0 32)) (
        lm (mst μ28 (μ28 v0 32) 2 v5_23) fun μ30 =>
        some (v2_23, μ30)))))
set_option maxRecDepth 20000 in
theorem gX11_fewest_76 (l : Launch) {F : FI} {v0 v1 v2 v3 v4 v5 s0 s1 : Int} {μ : Mm} {t : (Int ⊕ (Unit ⊕ Int))} {k n : Nat} (h : jX11_fewest_76 v0 v1 v2 v3 v4 v5 s0 s1 μ = some t) (hK : zX11_fewest_61 l F v0 v1 v2 v3 v4 μ k n t) : GM l mX11_fewest F k n 76 [(0, (3, v0)), (1, (0, v1)), (2, (0, v2)), (3, (0, v3)), (4, (0, v4)), (5, (0, v5))] [(0, s0), (0, s1)] μ := by
  unfold jX11_fewest_76 at h
  refine GM_icmp_ge (pc := 76) 125 (daX11_fewest_0 47 rfl) rfl (fun c1 => ?_) (fun c1 => ?_)
  · skip
    rw [if_pos c1] at h
    refine GM_pick [0, 1, 2, 3, 4] rfl ?_
    cases h
    exact hK
  · skip
    rw [if_neg c1] at h
    refine GM_aload_n (pc := 79) 0 rfl (daX11_fewest_0 48 rfl) rfl ?_
    refine GM_iload_n (pc := 80) 3 rfl (daX11_fewest_0 49 rfl) rfl ?_
    refine GM_iload (pc := 81) 4 rfl (daX11_fewest_0 50 rfl) ?_
    refine GM_iload (pc := 83) 5 rfl (daX11_fewest_0 51 rfl) ?_
    obtain ⟨hc2, h⟩ := chk_inv h
    obtain ⟨r3, hf3, h⟩ := Option.bind_eq_some_iff.mp h
    refine GM_callV0 (pc := 85) [(0, v3), (0, v4), (0, v5)] (tX11_isWhole l hf3) cwX11_isWhole 11 (Nat.le_of_ble_eq_true rfl) rfl kv_X11_isWhole ke_X11_isWhole km_X11_369 hc2 ⟨Nat.le_of_ble_eq_true rfl, Nat.le_of_ble_eq_true rfl⟩ (Nat.le_of_ble_eq_true rfl) (Nat.le_of_ble_eq_true rfl) (daX11_fewest_0 52 rfl) ?_
    refine GM_if_ne (pc := 88) 94 (daX11_fewest_0 53 rfl) rfl (fun c4 => ?_) (fun c4 => ?_)
    · skip
      rw [if_neg c4] at h
      refine GM_pick [0, 2, 3, 4, 5] rfl ?_
      cases h
      exact hK
    · skip
      rw [if_pos c4] at h
      refine GM_goto (pc := 91) 119 (daX11_fewest_0 54 rfl) rfl ?_
      refine GM_iinc (L' := [(5, (0, w32 (v5 + 1))), (0, (3, v0)), (1, (0, v1)), (2, (0, v2)), (3, (0, v3)), (4, (0, v4))]) (pc := 119) 5 rfl (daX11_fewest_1 8 rfl) (Nat.le_of_ble_eq_true rfl) rfl ?_
      refine GM_goto (pc := 122) 61 (daX11_fewest_1 9 rfl) rfl ?_
      refine GM_pick [1, 2, 3, 4, 5, 0] rfl ?_
      cases h
      exact hK
set_option maxRecDepth 20000 in
theorem qX11_fewest_61 (l : Launch) (F : FI) (v0 v1 v2 v3 v4 : Int) (μ : Mm) (k n : Nat) : ∀ (q : Int) (t : (Int ⊕ (Unit ⊕ Int))), sX11_fewest_61 v0 v1 v2 v3 v4 μ q = some t → zX11_fewest_61 l F v0 v1 v2 v3 v4 μ k n t → zX11_fewest_61 l F v0 v1 v2 v3 v4 μ k n (.inl q) := by
  intro q t h hK
  obtain ⟨v5, hqq⟩ : ∃ z, z = q := ⟨q, rfl⟩
  subst hqq
  unfold sX11_fewest_61 at h
  try dsimp only at h
  show GM l mX11_fewest F k n 61 [(0, (3, v0)), (1, (0, v1)), (2, (0, v2)), (3, (0, v3)), (4, (0, v4)), (5, (0, v5))] [] μ
  refine GM_iload (pc := 61) 5 rfl (daX11_fewest_0 38 rfl) ?_
  refine GM_iload_n (pc := 63) 2 rfl (daX11_fewest_0 39 rfl) rfl ?_
  refine GM_iconst (pc := 64) 2 (daX11_fewest_0 40 rfl) rfl (R32_b rfl) ?_
  refine GM_icmp_le (pc := 65) 72 (daX11_fewest_0 41 rfl) rfl (fun c5 => ?_) (fun c5 => ?_)
  · skip
    rw [if_pos c5] at h
    refine GM_iload (pc := 72) 4 rfl (daX11_fewest_0 44 rfl) ?_
    refine GM_iconst (pc := 74) 1 (daX11_fewest_0 45 rfl) rfl (R32_b rfl) ?_
    refine GM_iadd (pc := 75) (daX11_fewest_0 46 rfl) ?_
    exact gX11_fewest_76 l h hK
  · skip
    rw [if_neg c5] at h
    refine GM_iload_n (pc := 68) 1 rfl (daX11_fewest_0 42 rfl) rfl ?_
    refine GM_goto (pc := 69) 76 (daX11_fewest_0 43 rfl) rfl ?_
    exact gX11_fewest_76 l h hK
set_option maxRecDepth 20000 in
theorem gX11_fewest_59 (l : Launch) {F : FI} {v0 v1 v2 v3 v4 s0 : Int} {μ : Mm} {t : (Int ⊕ (Unit ⊕ (Int × Int)))} {k n : Nat} (h : jX11_fewest_59 v0 v1 v2 v3 v4 s0 μ = some t) (hK : zX11_fewest_28 l F v0 v1 v2 v3 μ k n t) : GM l mX11_fewest F k n 59 [(0, (3, v0)), (1, (0, v1)), (2, (0, v2)), (3, (0, v3)), (4, (0, v4))] [(0, s0)] μ := by
  unfold jX11_fewest_59 at h
  refine GM_istore (L' := [(5, (0, s0)), (0, (3, v0)), (1, (0, v1)), (2, (0, v2)), (3, (0, v3)), (4, (0, v4))]) (pc := 59) (daX11_fewest_0 37 rfl) (Nat.le_of_ble_eq_true rfl) rfl ?_
  refine GM_pick [1, 2, 3, 4, 5, 0] rfl ?_
  obtain ⟨x6, hqx6, h⟩ := Option.bind_eq_some_iff.mp h
  refine lop_ind (zX11_fewest_61 l F v0 v1 v2 v3 v4 μ k n) (qX11_fewest_61 l F v0 v1 v2 v3 v4 μ k n) FU _ x6 hqx6 ?_
  rcases x6 with _ | v5_8
  · dsimp only at h
    show GM l mX11_fewest F k n 125 [(0, (3, v0)), (1, (0, v1)), (2, (0, v2)), (3, (0, v3)), (4, (0, v4))] [] μ
    refine GM_iinc (L' := [(4, (0, w32 (v4 + 1))), (0, (3, v0)), (1, (0, v1)), (2, (0, v2)), (3, (0, v3))]) (pc := 125) 4 rfl (daX11_fewest_1 10 rfl) (Nat.le_of_ble_eq_true rfl) rfl ?_
    refine GM_goto (pc := 128) 28 (daX11_fewest_1 11 rfl) rfl ?_
    refine GM_pick [1, 2, 3, 4, 0] rfl ?_
    cases h
    exact hK
  · dsimp only at h
    show GM l mX11_fewest F k n 94 [(0, (3, v0)), (2, (0, v2)), (3, (0, v3)), (4, (0, v4)), (5, (0, v5_8))] [] μ
    cases h
    exact hK
set_option maxRecDepth 20000 in
theorem gX11_fewest_42 (l : Launch) {F : FI} {v0 v1 v2 v3 v4 s0 s1 : Int} {μ : Mm} {t : (Int ⊕ (Unit ⊕ (Int × Int)))} {k n : Nat} (h : jX11_fewest_42 v0 v1 v2 v3 v4 s0 s1 μ = some t) (hK : zX11_fewest_28 l F v0 v1 v2 v3 μ k n t) : GM l mX11_fewest F k n 42 [(0, (3, v0)), (1, (0, v1)), (2, (0, v2)), (3, (0, v3)), (4, (0, v4))] [(0, s0), (0, s1)] μ := by
  unfold jX11_fewest_42 at h
  refine GM_icmp_ge (pc := 42) 131 (daX11_fewest_0 28 rfl) rfl (fun c9 => ?_) (fun c9 => ?_)
  · skip
    rw [if_pos c9] at h
    refine GM_pick [0, 1, 2, 3] rfl ?_
    cases h
    exact hK
  · skip
    rw [if_neg c9] at h
    refine GM_iload_n (pc := 45) 2 rfl (daX11_fewest_0 29 rfl) rfl ?_
    refine GM_iconst (pc := 46) 2 (daX11_fewest_0 30 rfl) rfl (R32_b rfl) ?_
    refine GM_icmp_le (pc := 47) 57 (daX11_fewest_0 31 rfl) rfl (fun c10 => ?_) (fun c10 => ?_)
    · skip
      rw [if_pos c10] at h
      refine GM_iload (pc := 57) 4 rfl (daX11_fewest_0 36 rfl) ?_
      exact gX11_fewest_59 l h hK
    · skip
      rw [if_neg c10] at h
      refine GM_iload (pc := 50) 4 rfl (daX11_fewest_0 32 rfl) ?_
      refine GM_iconst (pc := 52) 1 (daX11_fewest_0 33 rfl) rfl (R32_b rfl) ?_
      refine GM_iadd (pc := 53) (daX11_fewest_0 34 rfl) ?_
      refine GM_goto (pc := 54) 59 (daX11_fewest_0 35 rfl) rfl ?_
      exact gX11_fewest_59 l h hK
set_option maxRecDepth 20000 in
theorem qX11_fewest_28 (l : Launch) (F : FI) (v0 v1 v2 v3 : Int) (μ : Mm) (k n : Nat) : ∀ (q : Int) (t : (Int ⊕ (Unit ⊕ (Int × Int)))), sX11_fewest_28 v0 v1 v2 v3 μ q = some t → zX11_fewest_28 l F v0 v1 v2 v3 μ k n t → zX11_fewest_28 l F v0 v1 v2 v3 μ k n (.inl q) := by
  intro q t h hK
  obtain ⟨v4, hqq⟩ : ∃ z, z = q := ⟨q, rfl⟩
  subst hqq
  unfold sX11_fewest_28 at h
  try dsimp only at h
  show GM l mX11_fewest F k n 28 [(0, (3, v0)), (1, (0, v1)), (2, (0, v2)), (3, (0, v3)), (4, (0, v4))] [] μ
  refine GM_iload (pc := 28) 4 rfl (daX11_fewest_0 19 rfl) ?_
  refine GM_iload_n (pc := 30) 2 rfl (daX11_fewest_0 20 rfl) rfl ?_
  refine GM_iconst (pc := 31) 1 (daX11_fewest_0 21 rfl) rfl (R32_b rfl) ?_
  refine GM_icmp_le (pc := 32) 39 (daX11_fewest_0 22 rfl) rfl (fun c11 => ?_) (fun c11 => ?_)
  · skip
    rw [if_pos c11] at h
    refine GM_iload_n (pc := 39) 3 rfl (daX11_fewest_0 25 rfl) rfl ?_
    refine GM_iconst (pc := 40) 1 (daX11_fewest_0 26 rfl) rfl (R32_b rfl) ?_
    refine GM_iadd (pc := 41) (daX11_fewest_0 27 rfl) ?_
    exact gX11_fewest_42 l h hK
  · skip
    rw [if_neg c11] at h
    refine GM_iload_n (pc := 35) 1 rfl (daX11_fewest_0 23 rfl) rfl ?_
    refine GM_goto (pc := 36) 42 (daX11_fewest_0 24 rfl) rfl ?_
    exact gX11_fewest_42 l h hK
set_option maxRecDepth 20000 in
theorem gX11_fewest_26 (l : Launch) {F : FI} {v0 v1 v2 v3 s0 : Int} {μ : Mm} {t : (Int ⊕ (Unit ⊕ (Int × Int × Int)))} {k n : Nat} (h : jX11_fewest_26 v0 v1 v2 v3 s0 μ = some t) (hK : zX11_fewest_9 l F v0 v1 v2 μ k n t) : GM l mX11_fewest F k n 26 [(0, (3, v0)), (1, (0, v1)), (2, (0, v2)), (3, (0, v3))] [(0, s0)] μ := by
  unfold jX11_fewest_26 at h
  refine GM_istore (L' := [(4, (0, s0)), (0, (3, v0)), (1, (0, v1)), (2, (0, v2)), (3, (0, v3))]) (pc := 26) (daX11_fewest_0 18 rfl) (Nat.le_of_ble_eq_true rfl) rfl ?_
  refine GM_pick [1, 2, 3, 4, 0] rfl ?_
  obtain ⟨x12, hqx12, h⟩ := Option.bind_eq_some_iff.mp h
  refine lop_ind (zX11_fewest_28 l F v0 v1 v2 v3 μ k n) (qX11_fewest_28 l F v0 v1 v2 v3 μ k n) FU _ x12 hqx12 ?_
  rcases x12 with _ | ⟨v4_14, v5_14⟩
  · dsimp only at h
    show GM l mX11_fewest F k n 131 [(0, (3, v0)), (1, (0, v1)), (2, (0, v2)), (3, (0, v3))] [] μ
    refine GM_iinc (L' := [(3, (0, w32 (v3 + 1))), (0, (3, v0)), (1, (0, v1)), (2, (0, v2))]) (pc := 131) 3 rfl (daX11_fewest_1 12 rfl) (Nat.le_of_ble_eq_true rfl) rfl ?_
    refine GM_goto (pc := 134) 9 (daX11_fewest_1 13 rfl) rfl ?_
    refine GM_pick [1, 2, 3, 0] rfl ?_
    cases h
    exact hK
  · dsimp only at h
    show GM l mX11_fewest F k n 94 [(0, (3, v0)), (2, (0, v2)), (3, (0, v3)), (4, (0, v4_14)), (5, (0, v5_14))] [] μ
    cases h
    exact hK
set_option maxRecDepth 20000 in
theorem qX11_fewest_9 (l : Launch) (F : FI) (v0 v1 v2 : Int) (μ : Mm) (k n : Nat) : ∀ (q : Int) (t : (Int ⊕ (Unit ⊕ (Int × Int × Int)))), sX11_fewest_9 v0 v1 v2 μ q = some t → zX11_fewest_9 l F v0 v1 v2 μ k n t → zX11_fewest_9 l F v0 v1 v2 μ k n (.inl q) := by
  intro q t h hK
  obtain ⟨v3, hqq⟩ : ∃ z, z = q := ⟨q, rfl⟩
  subst hqq
  unfold sX11_fewest_9 at h
  try dsimp only at h
  show GM l mX11_fewest F k n 9 [(0, (3, v0)), (1, (0, v1)), (2, (0, v2)), (3, (0, v3))] [] μ
  refine GM_iload_n (pc := 9) 3 rfl (daX11_fewest_0 7 rfl) rfl ?_
  refine GM_iload_n (pc := 10) 1 rfl (daX11_fewest_0 8 rfl) rfl ?_
  refine GM_icmp_ge (pc := 11) 137 (daX11_fewest_0 9 rfl) rfl (fun c15 => ?_) (fun c15 => ?_)
  · skip
    rw [if_pos c15] at h
    refine GM_pick [0, 1, 2] rfl ?_
    cases h
    exact hK
  · skip
    rw [if_neg c15] at h
    refine GM_iload_n (pc := 14) 2 rfl (daX11_fewest_0 10 rfl) rfl ?_
    refine GM_iconst (pc := 15) 1 (daX11_fewest_0 11 rfl) rfl (R32_b rfl) ?_
    refine GM_icmp_le (pc := 16) 25 (daX11_fewest_0 12 rfl) rfl (fun c16 => ?_) (fun c16 => ?_)
    · skip
      rw [if_pos c16] at h
      refine GM_iload_n (pc := 25) 3 rfl (daX11_fewest_0 17 rfl) rfl ?_
      exact gX11_fewest_26 l h hK
    · skip
      rw [if_neg c16] at h
      refine GM_iload_n (pc := 19) 3 rfl (daX11_fewest_0 13 rfl) rfl ?_
      refine GM_iconst (pc := 20) 1 (daX11_fewest_0 14 rfl) rfl (R32_b rfl) ?_
      refine GM_iadd (pc := 21) (daX11_fewest_0 15 rfl) ?_
      refine GM_goto (pc := 22) 26 (daX11_fewest_0 16 rfl) rfl ?_
      exact gX11_fewest_26 l h hK
set_option maxRecDepth 20000 in
theorem qX11_fewest_2 (l : Launch) (F : FI) (v0 v1 : Int) (μ : Mm) (k n : Nat) : ∀ (q : Int) (t : (Int ⊕ (Unit ⊕ (Int × Int × Int × Int)))), sX11_fewest_2 v0 v1 μ q = some t → zX11_fewest_2 l F v0 v1 μ k n t → zX11_fewest_2 l F v0 v1 μ k n (.inl q) := by
  intro q t h hK
  obtain ⟨v2, hqq⟩ : ∃ z, z = q := ⟨q, rfl⟩
  subst hqq
  unfold sX11_fewest_2 at h
  try dsimp only at h
  show GM l mX11_fewest F k n 2 [(0, (3, v0)), (1, (0, v1)), (2, (0, v2))] [] μ
  refine GM_iload_n (pc := 2) 2 rfl (daX11_fewest_0 2 rfl) rfl ?_
  refine GM_iconst (pc := 3) 4 (daX11_fewest_0 3 rfl) rfl (R32_b rfl) ?_
  refine GM_icmp_ge (pc := 4) 143 (daX11_fewest_0 4 rfl) rfl (fun c17 => ?_) (fun c17 => ?_)
  · skip
    rw [if_pos c17] at h
    refine GM_pick [] rfl ?_
    cases h
    exact hK
  · skip
    rw [if_neg c17] at h
    refine GM_iconst (pc := 7) 0 (daX11_fewest_0 5 rfl) rfl (R32_b rfl) ?_
    refine GM_istore_n (L' := [(3, (0, 0)), (0, (3, v0)), (1, (0, v1)), (2, (0, v2))]) (pc := 8) (daX11_fewest_0 6 rfl) rfl (Nat.le_of_ble_eq_true rfl) rfl ?_
    refine GM_pick [1, 2, 3, 0] rfl ?_
    obtain ⟨x18, hqx18, h⟩ := Option.bind_eq_some_iff.mp h
    refine lop_ind (zX11_fewest_9 l F v0 v1 v2 μ k n) (qX11_fewest_9 l F v0 v1 v2 μ k n) FU _ x18 hqx18 ?_
    rcases x18 with _ | ⟨v3_20, v4_20, v5_20⟩
    · dsimp only at h
      show GM l mX11_fewest F k n 137 [(0, (3, v0)), (1, (0, v1)), (2, (0, v2))] [] μ
      refine GM_iinc (L' := [(2, (0, w32 (v2 + 1))), (0, (3, v0)), (1, (0, v1))]) (pc := 137) 2 rfl (daX11_fewest_1 14 rfl) (Nat.le_of_ble_eq_true rfl) rfl ?_
      refine GM_goto (pc := 140) 2 (daX11_fewest_1 15 rfl) rfl ?_
      refine GM_pick [1, 2, 0] rfl ?_
      cases h
      exact hK
    · dsimp only at h
      show GM l mX11_fewest F k n 94 [(0, (3, v0)), (2, (0, v2)), (3, (0, v3_20)), (4, (0, v4_20)), (5, (0, v5_20))] [] μ
      cases h
      exact hK
set_option maxRecDepth 20000 in
theorem gX11_fewest_0 (l : Launch) {F : FI} {v0 v1 : Int} {μ : Mm} {t : (Int × Mm)} (h : fX11_fewest v0 v1 μ = some t) (hK : F.1 = [(0, t.1)] ∧ F.2.1 = t.2) : GM l mX11_fewest F 0 0 0 [(0, (3, v0)), (1, (0, v1))] [] μ := by
  unfold fX11_fewest at h
  refine GM_iconst (pc := 0) 1 (daX11_fewest_0 0 rfl) rfl (R32_b rfl) ?_
  refine GM_istore_n (L' := [(2, (0, 1)), (0, (3, v0)), (1, (0, v1))]) (pc := 1) (daX11_fewest_0 1 rfl) rfl (Nat.le_of_ble_eq_true rfl) rfl ?_
  refine GM_pick [1, 2, 0] rfl ?_
  obtain ⟨x21, hqx21, h⟩ := Option.bind_eq_some_iff.mp h
  refine lop_ind (zX11_fewest_2 l F v0 v1 μ 0 0) (qX11_fewest_2 l F v0 v1 μ 0 0) FU _ x21 hqx21 ?_
  rcases x21 with _ | ⟨v2_23, v3_23, v4_23, v5_23⟩
  · dsimp only at h
    show GM l mX11_fewest F 0 0 143 [] [] μ
    refine GM_iconst (pc := 143) 0 (daX11_fewest_1 16 rfl) rfl (R32_b rfl) ?_
    cases h
    exact GM_iret (pc := 144) (daX11_fewest_1 17 rfl) rfl hK
  · dsimp only at h
    show GM l mX11_fewest F 0 0 94 [(0, (3, v0)), (2, (0, v2_23)), (3, (0, v3_23)), (4, (0, v4_23)), (5, (0, v5_23))] [] μ
    refine GM_aload_n (pc := 94) 0 rfl (daX11_fewest_0 55 rfl) rfl ?_
    obtain ⟨hc24, h⟩ := chk_inv h
    refine GM_getf (pc := 95) 11 32 3 32 kf_X11_63 (Nat.le_of_ble_eq_true rfl) (Nat.le_of_ble_eq_true rfl) rfl (daX11_fewest_0 56 rfl) hc24 rfl ?_
    refine GM_iconst (pc := 98) 0 (daX11_fewest_0 57 rfl) rfl (R32_b rfl) ?_
    refine GM_iload_n (pc := 99) 2 rfl (daX11_fewest_0 58 rfl) rfl ?_
    obtain ⟨hc25, h⟩ := chk_inv h
    obtain ⟨μ26, hμ26, h⟩ := lm_inv h
    refine GM_iast (pc := 100) (daX11_fewest_0 59 rfl) hc25.1 (by decide) hc25.2 ?_
    refine GM_mem hμ26 ?_
    refine GM_aload_n (pc := 101) 0 rfl (daX11_fewest_0 60 rfl) rfl ?_
    refine GM_getf (pc := 102) 11 32 3 32 kf_X11_63 (Nat.le_of_ble_eq_true rfl) (Nat.le_of_ble_eq_true rfl) rfl (daX11_fewest_0 61 rfl) hc24 rfl ?_
    refine GM_iconst (pc := 105) 1 (daX11_fewest_0 62 rfl) rfl (R32_b rfl) ?_
    refine GM_iload (pc := 106) 3 rfl (daX11_fewest_0 63 rfl) ?_
    obtain ⟨hc27, h⟩ := chk_inv h
    obtain ⟨μ28, hμ28, h⟩ := lm_inv h
    refine GM_iast (pc := 108) (daX11_fewest_1 0 rfl) hc27.1 (by decide) hc27.2 ?_
    refine GM_mem hμ28 ?_
    refine GM_aload_n (pc := 109) 0 rfl (daX11_fewest_1 1 rfl) rfl ?_
    refine GM_getf (pc := 110) 11 32 3 32 kf_X11_63 (Nat.le_of_ble_eq_true rfl) (Nat.le_of_ble_eq_true rfl) rfl (daX11_fewest_1 2 rfl) hc24 rfl ?_
    refine GM_iconst (pc := 113) 2 (daX11_fewest_1 3 rfl) rfl (R32_b rfl) ?_
    refine GM_iload (pc := 114) 4 rfl (daX11_fewest_1 4 rfl) ?_
    obtain ⟨hc29, h⟩ := chk_inv h
    obtain ⟨μ30, hμ30, h⟩ := lm_inv h
    refine GM_iast (pc := 116) (daX11_fewest_1 5 rfl) hc29.1 (by decide) hc29.2 ?_
    refine GM_mem hμ30 ?_
    refine GM_iload_n (pc := 117) 1 rfl (daX11_fewest_1 6 rfl) rfl ?_
    cases h
    exact GM_iret (pc := 118) (daX11_fewest_1 7 rfl) rfl hK
theorem tX11_fewest (l : Launch) {v0 v1 : Int} {μ : Mm} {t : (Int × Mm)} (h : fX11_fewest v0 v1 μ = some t) : Ct l yX11_fewest mX11_fewest [(3, v0), (0, v1)] μ ([(0, t.1)], t.2, 0, 0) :=
  Ct_of (by decide +kernel) rfl rfl (Nat.le_of_ble_eq_true rfl) (fun _ _ _ => trivial) (gX11_fewest_0 l h ⟨rfl, rfl⟩)
def mX11_guards : MI := (RX11, cX11_guards, 5, (some .int), "guards", 6, 151, fun _ _ _ => True)
theorem cwX11_guards : CWd yX11_guards mX11_guards 2 := ⟨ki_X11, kk_X11_guards, ⟨by decide, by decide⟩, rfl⟩
def dtX11_guards_0 : List (Nat × Instr × Nat) := [(0, .aload_n 0, 1), (1, .iconst 0, 1), (2, .iload_n 1, 1), (3, .invokevirtual 182, 3), (6, .ifCond .ne 5, 3), (9, .iconst (-1), 1), (10, .ireturn, 1), (11, .iconst 0, 1), (12, .iload_n 1, 1), (13, .invokestatic 204, 3), (16, .istore_n 3, 1), (17, .aload_n 0, 1), (18, .iload_n 3, 1), (19, .invokevirtual 372, 3), (22, .aload_n 0, 1), (23, .aload_n 0, 1), (24, .iload_n 3, 1), (25, .invokevirtual 207, 3), (28, .invokevirtual 375, 3), (31, .istore 4, 2), (33, .iload 4, 2), (35, .ifCond .ne 5, 3), (38, .iconst (-1), 1), (39, .ireturn, 1), (40, .iload_n 2, 1), (41, .iconst (-1), 1), (42, .if_icmp .ne 8, 3), (45, .iload 4, 2), (47, .goto 25, 3), (50, .iload_n 2, 1), (51, .iconst 0, 1), (52, .iload 4, 2), (54, .iconst 1, 1), (55, .isub, 1), (56, .invokestatic 147, 3), (59, .ifCond .eq 12, 3), (62, .aload_n 0, 1), (63, .getfield 63, 3), (66, .iload_n 2, 1), (67, .iaload, 1), (68, .goto 4, 3), (71, .iconst (-1), 1), (72, .ireturn, 1)]
theorem ddX11_guards_0 : (dtX11_guards_0.all fun e => decide (decode mX11_guards.2.1 e.1 = .ok (e.2.1, e.2.2))) = true := by decide +kernel
theorem daX11_guards_0 (j : Nat) {pc n : Nat} {i : Instr} (h : dtX11_guards_0[j]? = some (pc, i, n)) : decode mX11_guards.2.1 pc = .ok (i, n) := dec_of (c := mX11_guards.2.1) ddX11_guards_0 h
def fX11_guards (v0 v1 v2 : Int) (μ : Mm) : Option (Int × Mm) :=
  chk (KD v0 = 11) (
  (fX11_isOf v0 0 v1 μ).bind fun r2 =>
  if r2 = 0 then
    some ((-1), μ)
  else
    (fX11_placeOf 0 v1).bind fun r4 =>
    (fX11_guardsOf v0 r4 μ).bind fun μ5 =>
    (fX11_placesOf v0 r4 μ5).bind fun r6 =>
    (fX11_fewest v0 r6 μ5).bind fun (r7, μ7) =>
    if r7 = 0 then
      some ((-1), μ7)
    else
      if v2 = (-1) then
        some (r7, μ7)
      else
        if isIn v2 0 (w32 (r7 - 1)) = 0 then
          some ((-1), μ7)
        else
          chk (KD (μ7 v0 32) = 12 ∧ 0 ≤ v2 ∧ v2 < LN (μ7 v0 32)) (
          some (μ7 (μ7 v0 32) v2, μ7)))
set_option maxRecDepth 20000 in
theorem gX11_guards_0 (l : Launch) {F : FI} {v0 v1 v2 : Int} {μ : Mm} {t : (Int × Mm)} (h : fX11_guards v0 v1 v2 μ = some t) (hK : F.1 = [(0, t.1)] ∧ F.2.1 = t.2) : GM l mX11_guards F 0 0 0 [(0, (3, v0)), (1, (0, v1)), (2, (0, v2))] [] μ := by
  unfold fX11_guards at h
  refine GM_aload_n (pc := 0) 0 rfl (daX11_guards_0 0 rfl) rfl ?_
  refine GM_iconst (pc := 1) 0 (daX11_guards_0 1 rfl) rfl (R32_b rfl) ?_
  refine GM_iload_n (pc := 2) 1 rfl (daX11_guards_0 2 rfl) rfl ?_
  obtain ⟨hc1, h⟩ := chk_inv h
  obtain ⟨r2, hf2, h⟩ := Option.bind_eq_some_iff.mp h
  refine GM_callV0 (pc := 3) [(0, 0), (0, v1)] (tX11_isOf l hf2) cwX11_isOf 11 (Nat.le_of_ble_eq_true rfl) rfl kv_X11_isOf ke_X11_isOf km_X11_182 hc1 ⟨Nat.le_of_ble_eq_true rfl, Nat.le_of_ble_eq_true rfl⟩ (Nat.le_of_ble_eq_true rfl) (Nat.le_of_ble_eq_true rfl) (daX11_guards_0 3 rfl) ?_
  refine GM_if_ne (pc := 6) 11 (daX11_guards_0 4 rfl) rfl (fun c3 => ?_) (fun c3 => ?_)
  · skip
    rw [if_neg c3] at h
    refine GM_iconst (pc := 11) 0 (daX11_guards_0 7 rfl) rfl (R32_b rfl) ?_
    refine GM_iload_n (pc := 12) 1 rfl (daX11_guards_0 8 rfl) rfl ?_
    obtain ⟨r4, hf4, h⟩ := Option.bind_eq_some_iff.mp h
    refine GM_callS0 (pc := 13) [(0, 0), (0, v1)] (tX11_placeOf l hf4) cwX11_placeOf ks_X11_placeOf km_X11_204 ⟨Nat.le_of_ble_eq_true rfl, Nat.le_of_ble_eq_true rfl⟩ (Nat.le_of_ble_eq_true rfl) (Nat.le_of_ble_eq_true rfl) (daX11_guards_0 9 rfl) ?_
    refine GM_istore_n (L' := [(3, (0, r4)), (0, (3, v0)), (1, (0, v1)), (2, (0, v2))]) (pc := 16) (daX11_guards_0 10 rfl) rfl (Nat.le_of_ble_eq_true rfl) rfl ?_
    refine GM_aload_n (pc := 17) 1 rfl (daX11_guards_0 11 rfl) rfl ?_
    refine GM_iload_n (pc := 18) 0 rfl (daX11_guards_0 12 rfl) rfl ?_
    obtain ⟨μ5, hf5, h⟩ := Option.bind_eq_some_iff.mp h
    refine GM_callV0 (pc := 19) [(0, r4)] (tX11_guardsOf l hf5) cwX11_guardsOf 11 (Nat.le_of_ble_eq_true rfl) rfl kv_X11_guardsOf ke_X11_guardsOf km_X11_372 hc1 ⟨Nat.le_of_ble_eq_true rfl, Nat.le_of_ble_eq_true rfl⟩ (Nat.le_of_ble_eq_true rfl) (Nat.le_of_ble_eq_true rfl) (daX11_guards_0 13 rfl) ?_
    refine GM_aload_n (pc := 22) 1 rfl (daX11_guards_0 14 rfl) rfl ?_
    refine GM_aload_n (pc := 23) 1 rfl (daX11_guards_0 15 rfl) rfl ?_
    refine GM_iload_n (pc := 24) 0 rfl (daX11_guards_0 16 rfl) rfl ?_
    obtain ⟨r6, hf6, h⟩ := Option.bind_eq_some_iff.mp h
    refine GM_callV0 (pc := 25) [(0, r4)] (tX11_placesOf l hf6) cwX11_placesOf 11 (Nat.le_of_ble_eq_true rfl) rfl kv_X11_placesOf ke_X11_placesOf km_X11_207 hc1 ⟨Nat.le_of_ble_eq_true rfl, Nat.le_of_ble_eq_true rfl⟩ (Nat.le_of_ble_eq_true rfl) (Nat.le_of_ble_eq_true rfl) (daX11_guards_0 17 rfl) ?_
    obtain ⟨⟨r7, μ7⟩, hf7, h⟩ := Option.bind_eq_some_iff.mp h
    dsimp only at h
    refine GM_callV0 (pc := 28) [(0, r6)] (tX11_fewest l hf7) cwX11_fewest 11 (Nat.le_of_ble_eq_true rfl) rfl kv_X11_fewest ke_X11_fewest km_X11_375 hc1 ⟨Nat.le_of_ble_eq_true rfl, Nat.le_of_ble_eq_true rfl⟩ (Nat.le_of_ble_eq_true rfl) (Nat.le_of_ble_eq_true rfl) (daX11_guards_0 18 rfl) ?_
    refine GM_istore (L' := [(4, (0, r7)), (3, (0, r4)), (0, (3, v0)), (1, (0, v1)), (2, (0, v2))]) (pc := 31) (daX11_guards_0 19 rfl) (Nat.le_of_ble_eq_true rfl) rfl ?_
    refine GM_iload (pc := 33) 0 rfl (daX11_guards_0 20 rfl) ?_
    refine GM_if_ne (pc := 35) 40 (daX11_guards_0 21 rfl) rfl (fun c8 => ?_) (fun c8 => ?_)
    · skip
      rw [if_neg c8] at h
      refine GM_iload_n (pc := 40) 4 rfl (daX11_guards_0 24 rfl) rfl ?_
      refine GM_iconst (pc := 41) (-1) (daX11_guards_0 25 rfl) rfl (R32_b rfl) ?_
      refine GM_icmp_ne (pc := 42) 50 (daX11_guards_0 26 rfl) rfl (fun c9 => ?_) (fun c9 => ?_)
      · skip
        rw [if_neg c9] at h
        refine GM_iload_n (pc := 50) 4 rfl (daX11_guards_0 29 rfl) rfl ?_
        refine GM_iconst (pc := 51) 0 (daX11_guards_0 30 rfl) rfl (R32_b rfl) ?_
        refine GM_iload (pc := 52) 0 rfl (daX11_guards_0 31 rfl) ?_
        refine GM_iconst (pc := 54) 1 (daX11_guards_0 32 rfl) rfl (R32_b rfl) ?_
        refine GM_isub (pc := 55) (daX11_guards_0 33 rfl) ?_
        refine GM_callS0 (pc := 56) [(0, v2), (0, 0), (0, w32 (r7 - 1))] (tX11_isIn l (fX11_isIn_eq v2 0 (w32 (r7 - 1)))) cwX11_isIn ks_X11_isIn km_X11_147 ⟨Nat.le_of_ble_eq_true rfl, Nat.le_of_ble_eq_true rfl⟩ (Nat.le_of_ble_eq_true rfl) (Nat.le_of_ble_eq_true rfl) (daX11_guards_0 34 rfl) ?_
        refine GM_if_eq (pc := 59) 71 (daX11_guards_0 35 rfl) rfl (fun c10 => ?_) (fun c10 => ?_)
        · skip
          rw [if_pos c10] at h
          refine GM_iconst (pc := 71) (-1) (daX11_guards_0 41 rfl) rfl (R32_b rfl) ?_
          cases h
          exact GM_iret (pc := 72) (daX11_guards_0 42 rfl) rfl hK
        · skip
          rw [if_neg c10] at h
          refine GM_aload_n (pc := 62) 2 rfl (daX11_guards_0 36 rfl) rfl ?_
          refine GM_getf (pc := 63) 11 32 3 32 kf_X11_63 (Nat.le_of_ble_eq_true rfl) (Nat.le_of_ble_eq_true rfl) rfl (daX11_guards_0 37 rfl) hc1 rfl ?_
          refine GM_iload_n (pc := 66) 4 rfl (daX11_guards_0 38 rfl) rfl ?_
          obtain ⟨hc11, h⟩ := chk_inv h
          refine GM_iald (pc := 67) (daX11_guards_0 39 rfl) hc11.1 hc11.2.1 hc11.2.2 ?_
          refine GM_goto (pc := 68) 72 (daX11_guards_0 40 rfl) rfl ?_
          cases h
          exact GM_iret (pc := 72) (daX11_guards_0 42 rfl) rfl hK
      · skip
        rw [if_pos c9] at h
        refine GM_iload (pc := 45) 0 rfl (daX11_guards_0 27 rfl) ?_
        refine GM_goto (pc := 47) 72 (daX11_guards_0 28 rfl) rfl ?_
        cases h
        exact GM_iret (pc := 72) (daX11_guards_0 42 rfl) rfl hK
    · skip
      rw [if_pos c8] at h
      refine GM_iconst (pc := 38) (-1) (daX11_guards_0 22 rfl) rfl (R32_b rfl) ?_
      cases h
      exact GM_iret (pc := 39) (daX11_guards_0 23 rfl) rfl hK
  · skip
    rw [if_pos c3] at h
    refine GM_iconst (pc := 9) (-1) (daX11_guards_0 5 rfl) rfl (R32_b rfl) ?_
    cases h
    exact GM_iret (pc := 10) (daX11_guards_0 6 rfl) rfl hK
theorem tX11_guards (l : Launch) {v0 v1 v2 : Int} {μ : Mm} {t : (Int × Mm)} (h : fX11_guards v0 v1 v2 μ = some t) : Ct l yX11_guards mX11_guards [(3, v0), (0, v1), (0, v2)] μ ([(0, t.1)], t.2, 0, 0) :=
  Ct_of (by decide +kernel) rfl rfl (Nat.le_of_ble_eq_true rfl) (fun _ _ _ => trivial) (gX11_guards_0 l h ⟨rfl, rfl⟩)
def mX11_lacks : MI := (RX11, cX11_lacks, 9, (some .int), "lacks", 10, 265, fun _ _ _ => True)
theorem cwX11_lacks : CWd yX11_lacks mX11_lacks 4 := ⟨ki_X11, kk_X11_lacks, ⟨by decide, by decide⟩, rfl⟩
def dtX11_lacks_0 : List (Nat × Instr × Nat) := [(0, .aload_n 0, 1), (1, .iload_n 1, 1), (2, .iload_n 2, 1), (3, .invokevirtual 283, 3), (6, .ifCond .eq 14, 3), (9, .aload_n 0, 1), (10, .iload_n 1, 1), (11, .iload_n 3, 1), (12, .iload 4, 2), (14, .invokevirtual 241, 3), (17, .ifCond .ne 5, 3), (20, .iconst (-1), 1), (21, .ireturn, 1), (22, .iconst 0, 1), (23, .iload_n 1, 1), (24, .invokestatic 204, 3), (27, .istore 5, 2), (29, .aload_n 0, 1), (30, .getfield 7, 3), (33, .iload 5, 2), (35, .bipush 6, 2), (37, .iadd, 1), (38, .iload 4, 2), (40, .iadd, 1), (41, .iaload, 1), (42, .istore 6, 2), (44, .iconst (-1), 1), (45, .istore 7, 2), (47, .iconst 0, 1), (48, .istore 8, 2), (50, .iload 8, 2), (52, .sipush 1000, 3), (55, .if_icmp .ge 61, 3), (58, .iload 7, 2), (60, .ifCond .ge 56, 3), (63, .aload_n 0, 1), (64, .getfield 7, 3), (67, .iload 5, 2), (69, .bipush 6, 2), (71, .iadd, 1), (72, .iload 4, 2), (74, .iadd, 1), (75, .iload 8, 2), (77, .iastore, 1), (78, .aload_n 0, 1), (79, .iload 5, 2), (81, .iload_n 3, 1), (82, .invokevirtual 238, 3), (85, .aload_n 0, 1), (86, .iload 5, 2), (88, .iconst 1, 1), (89, .iload_n 2, 1), (90, .invokestatic 204, 3), (93, .iload_n 3, 1), (94, .iconst (-1), 1), (95, .invokevirtual 289, 3), (98, .ifCond .lt 8, 3), (101, .iload 8, 2), (103, .goto 5, 3), (106, .iload 7, 2), (108, .istore 7, 2), (110, .iinc 8 1, 3), (113, .goto (-63), 3), (116, .aload_n 0, 1)]
theorem ddX11_lacks_0 : (dtX11_lacks_0.all fun e => decide (decode mX11_lacks.2.1 e.1 = .ok (e.2.1, e.2.2))) = true := by decide +kernel
theorem daX11_lacks_0 (j : Nat) {pc n : Nat} {i : Instr} (h : dtX11_lacks_0[j]? = some (pc, i, n)) : decode mX11_lacks.2.1 pc = .ok (i, n) := dec_of (c := mX11_lacks.2.1) ddX11_lacks_0 h
def dtX11_lacks_1 : List (Nat × Instr × Nat) := [(117, .getfield 7, 3), (120, .iload 5, 2), (122, .bipush 6, 2), (124, .iadd, 1), (125, .iload 4, 2), (127, .iadd, 1), (128, .iload 6, 2), (130, .iastore, 1), (131, .iload 7, 2), (133, .ireturn, 1)]
theorem ddX11_lacks_1 : (dtX11_lacks_1.all fun e => decide (decode mX11_lacks.2.1 e.1 = .ok (e.2.1, e.2.2))) = true := by decide +kernel
theorem daX11_lacks_1 (j : Nat) {pc n : Nat} {i : Instr} (h : dtX11_lacks_1[j]? = some (pc, i, n)) : decode mX11_lacks.2.1 pc = .ok (i, n) := dec_of (c := mX11_lacks.2.1) ddX11_lacks_1 h
def zX11_lacks_50 (l : Launch) (F : FI) (v0 v2 v3 v4 v5 v6 : Int) (k n : Nat) : (Int × Int × Mm) ⊕ (Int × Mm) → Prop
  | .inl (v7, v8, μ) => GM l mX11_lacks F k n 50 [(0, (3, v0)), (2, (0, v2)), (3, (0, v3)), (4, (0, v4)), (5, (0, v5)), (6, (0, v6)), (7, (0, v7)), (8, (0, v8))] [] μ
  | .inr (v7, μ) => GM l mX11_lacks F k n 116 [(0, (3, v0)), (4, (0, v4)), (5, (0, v5)), (6, (0, v6)), (7, (0, v7))] [] μ
def sX11_lacks_50 (v0 v2 v3 v4 v5 v6 : Int) : (Int × Int × Mm) → Option ((Int × Int × Mm) ⊕ (Int × Mm)) := fun (v7, v8, μ) =>
  if 1000 ≤ v8 then
    some (.inr (v7, μ))
  else
    if 0 ≤ v7 then
      some (.inr (v7, μ))
    else
      chk (KD v0 = 11) (
      chk (KD (μ v0 0) = 12 ∧ 0 ≤ w32 ((w32 (v5 + 6)) + v4) ∧ w32 ((w32 (v5 + 6)) + v4) < LN (μ v0 0)) (
      lm (mst μ (μ v0 0) (w32 ((w32 (v5 + 6)) + v4)) v8) fun μ5 =>
      (fX11_surveyAt v0 v5 v3 μ5).bind fun μ6 =>
      (fX11_placeOf 1 v2).bind fun r7 =>
      (fX11_fitsAt v0 v5 r7 v3 (-1) μ6).bind fun r8 =>
      if r8 < 0 then
        some (.inl (v7, w32 (v8 + 1), μ6))
      else
        some (.inl (v8, w32 (v8 + 1), μ6))))
def fX11_lacks (v0 v1 v2 v3 v4 : Int) (μ : Mm) : Option (Int × Mm) :=
  chk (KD v0 = 11) (
  (fX11_areBoth v0 v1 v2 μ).bind fun r11 =>
  if r11 = 0 then
    some ((-1), μ)
  else
    (fX11_areTwo v0 v1 v3 v4 μ).bind fun r13 =>
    if r13 = 0 then
      some ((-1), μ)
    else
      (fX11_placeOf 0 v1).bind fun r15 =>
      chk (KD (μ v0 0) = 12 ∧ 0 ≤ w32 ((w32 (r15 + 6)) + v4) ∧ w32 ((w32 (r15 + 6)) + v4) < LN (μ v0 0)) (
      lt (μ (μ v0 0) (w32 ((w32 (r15 + 6)) + v4))) fun y17 =>
      (lop (sX11_lacks_50 v0 v2 v3 v4 r15 y17) FU ((-1), 0, μ)).bind fun x18 =>
        match x18 with
        | (v7_19, μ_19) =>
          chk (KD (μ_19 v0 0) = 12 ∧ w32 ((w32 (r15 + 6)) + v4) < LN (μ_19 v0 0)) (
          lm (mst μ_19 (μ_19 v0 0) (w32 ((w32 (r15 + 6)) + v4)) y17) fun μ21 =>
          some (v7_19, μ21))))
set_option maxRecDepth 20000 in
theorem qX11_lacks_50 (l : Launch) (F : FI) (v0 v2 v3 v4 v5 v6 : Int) (k n : Nat) : ∀ (q : (Int × Int × Mm)) (t : ((Int × Int × Mm) ⊕ (Int × Mm))), sX11_lacks_50 v0 v2 v3 v4 v5 v6 q = some t → zX11_lacks_50 l F v0 v2 v3 v4 v5 v6 k n t → zX11_lacks_50 l F v0 v2 v3 v4 v5 v6 k n (.inl q) := by
  intro q t h hK
  obtain ⟨v7, v8, μ⟩ := q
  unfold sX11_lacks_50 at h
  try dsimp only at h
  show GM l mX11_lacks F k n 50 [(0, (3, v0)), (2, (0, v2)), (3, (0, v3)), (4, (0, v4)), (5, (0, v5)), (6, (0, v6)), (7, (0, v7)), (8, (0, v8))] [] μ
  refine GM_iload (pc := 50) 7 rfl (daX11_lacks_0 30 rfl) ?_
  refine GM_sipush (pc := 52) 1000 (daX11_lacks_0 31 rfl) rfl (R32_b rfl) ?_
  refine GM_icmp_ge (pc := 55) 116 (daX11_lacks_0 32 rfl) rfl (fun c1 => ?_) (fun c1 => ?_)
  · skip
    rw [if_pos c1] at h
    refine GM_pick [0, 3, 4, 5, 6] rfl ?_
    cases h
    exact hK
  · skip
    rw [if_neg c1] at h
    refine GM_iload (pc := 58) 6 rfl (daX11_lacks_0 33 rfl) ?_
    refine GM_if_ge (pc := 60) 116 (daX11_lacks_0 34 rfl) rfl (fun c2 => ?_) (fun c2 => ?_)
    · skip
      rw [if_pos c2] at h
      refine GM_pick [0, 3, 4, 5, 6] rfl ?_
      cases h
      exact hK
    · skip
      rw [if_neg c2] at h
      refine GM_aload_n (pc := 63) 0 rfl (daX11_lacks_0 35 rfl) rfl ?_
      obtain ⟨hc3, h⟩ := chk_inv h
      refine GM_getf (pc := 64) 11 0 3 0 kf_X11_7 (Nat.le_of_ble_eq_true rfl) (Nat.le_of_ble_eq_true rfl) rfl (daX11_lacks_0 36 rfl) hc3 rfl ?_
      refine GM_iload (pc := 67) 4 rfl (daX11_lacks_0 37 rfl) ?_
      refine GM_bipush (pc := 69) 6 (daX11_lacks_0 38 rfl) rfl (R32_b rfl) ?_
      refine GM_iadd (pc := 71) (daX11_lacks_0 39 rfl) ?_
      refine GM_iload (pc := 72) 3 rfl (daX11_lacks_0 40 rfl) ?_
      refine GM_iadd (pc := 74) (daX11_lacks_0 41 rfl) ?_
      refine GM_iload (pc := 75) 7 rfl (daX11_lacks_0 42 rfl) ?_
      obtain ⟨hc4, h⟩ := chk_inv h
      obtain ⟨μ5, hμ5, h⟩ := lm_inv h
      refine GM_iast (pc := 77) (daX11_lacks_0 43 rfl) hc4.1 hc4.2.1 hc4.2.2 ?_
      refine GM_mem hμ5 ?_
      refine GM_aload_n (pc := 78) 0 rfl (daX11_lacks_0 44 rfl) rfl ?_
      refine GM_iload (pc := 79) 4 rfl (daX11_lacks_0 45 rfl) ?_
      refine GM_iload_n (pc := 81) 2 rfl (daX11_lacks_0 46 rfl) rfl ?_
      obtain ⟨μ6, hf6, h⟩ := Option.bind_eq_some_iff.mp h
      refine GM_callV0 (pc := 82) [(0, v5), (0, v3)] (tX11_surveyAt l hf6) cwX11_surveyAt 11 (Nat.le_of_ble_eq_true rfl) rfl kv_X11_surveyAt ke_X11_surveyAt km_X11_238 hc3 ⟨Nat.le_of_ble_eq_true rfl, Nat.le_of_ble_eq_true rfl⟩ (Nat.le_of_ble_eq_true rfl) (Nat.le_of_ble_eq_true rfl) (daX11_lacks_0 47 rfl) ?_
      refine GM_aload_n (pc := 85) 0 rfl (daX11_lacks_0 48 rfl) rfl ?_
      refine GM_iload (pc := 86) 4 rfl (daX11_lacks_0 49 rfl) ?_
      refine GM_iconst (pc := 88) 1 (daX11_lacks_0 50 rfl) rfl (R32_b rfl) ?_
      refine GM_iload_n (pc := 89) 1 rfl (daX11_lacks_0 51 rfl) rfl ?_
      obtain ⟨r7, hf7, h⟩ := Option.bind_eq_some_iff.mp h
      refine GM_callS0 (pc := 90) [(0, 1), (0, v2)] (tX11_placeOf l hf7) cwX11_placeOf ks_X11_placeOf km_X11_204 ⟨Nat.le_of_ble_eq_true rfl, Nat.le_of_ble_eq_true rfl⟩ (Nat.le_of_ble_eq_true rfl) (Nat.le_of_ble_eq_true rfl) (daX11_lacks_0 52 rfl) ?_
      refine GM_iload_n (pc := 93) 2 rfl (daX11_lacks_0 53 rfl) rfl ?_
      refine GM_iconst (pc := 94) (-1) (daX11_lacks_0 54 rfl) rfl (R32_b rfl) ?_
      obtain ⟨r8, hf8, h⟩ := Option.bind_eq_some_iff.mp h
      refine GM_callV0 (pc := 95) [(0, v5), (0, r7), (0, v3), (0, (-1))] (tX11_fitsAt l hf8) cwX11_fitsAt 11 (Nat.le_of_ble_eq_true rfl) rfl kv_X11_fitsAt ke_X11_fitsAt km_X11_289 hc3 ⟨Nat.le_of_ble_eq_true rfl, Nat.le_of_ble_eq_true rfl⟩ (Nat.le_of_ble_eq_true rfl) (Nat.le_of_ble_eq_true rfl) (daX11_lacks_0 55 rfl) ?_
      refine GM_if_lt (pc := 98) 106 (daX11_lacks_0 56 rfl) rfl (fun c9 => ?_) (fun c9 => ?_)
      · skip
        rw [if_pos c9] at h
        refine GM_iload (pc := 106) 6 rfl (daX11_lacks_0 59 rfl) ?_
        refine GM_istore (L' := [(7, (0, v7)), (0, (3, v0)), (2, (0, v2)), (3, (0, v3)), (4, (0, v4)), (5, (0, v5)), (6, (0, v6)), (8, (0, v8))]) (pc := 108) (daX11_lacks_0 60 rfl) (Nat.le_of_ble_eq_true rfl) rfl ?_
        refine GM_iinc (L' := [(8, (0, w32 (v8 + 1))), (7, (0, v7)), (0, (3, v0)), (2, (0, v2)), (3, (0, v3)), (4, (0, v4)), (5, (0, v5)), (6, (0, v6))]) (pc := 110) 7 rfl (daX11_lacks_0 61 rfl) (Nat.le_of_ble_eq_true rfl) rfl ?_
        refine GM_goto (pc := 113) 50 (daX11_lacks_0 62 rfl) rfl ?_
        refine GM_pick [2, 3, 4, 5, 6, 7, 1, 0] rfl ?_
        cases h
        exact hK
      · skip
        rw [if_neg c9] at h
        refine GM_iload (pc := 101) 7 rfl (daX11_lacks_0 57 rfl) ?_
        refine GM_goto (pc := 103) 108 (daX11_lacks_0 58 rfl) rfl ?_
        refine GM_istore (L' := [(7, (0, v8)), (0, (3, v0)), (2, (0, v2)), (3, (0, v3)), (4, (0, v4)), (5, (0, v5)), (6, (0, v6)), (8, (0, v8))]) (pc := 108) (daX11_lacks_0 60 rfl) (Nat.le_of_ble_eq_true rfl) rfl ?_
        refine GM_iinc (L' := [(8, (0, w32 (v8 + 1))), (7, (0, v8)), (0, (3, v0)), (2, (0, v2)), (3, (0, v3)), (4, (0, v4)), (5, (0, v5)), (6, (0, v6))]) (pc := 110) 7 rfl (daX11_lacks_0 61 rfl) (Nat.le_of_ble_eq_true rfl) rfl ?_
        refine GM_goto (pc := 113) 50 (daX11_lacks_0 62 rfl) rfl ?_
        refine GM_pick [2, 3, 4, 5, 6, 7, 1, 0] rfl ?_
        cases h
        exact hK
set_option maxRecDepth 20000 in
theorem gX11_lacks_0 (l : Launch) {F : FI} {v0 v1 v2 v3 v4 : Int} {μ : Mm} {t : (Int × Mm)} (h : fX11_lacks v0 v1 v2 v3 v4 μ = some t) (hK : F.1 = [(0, t.1)] ∧ F.2.1 = t.2) : GM l mX11_lacks F 0 0 0 [(0, (3, v0)), (1, (0, v1)), (2, (0, v2)), (3, (0, v3)), (4, (0, v4))] [] μ := by
  unfold fX11_lacks at h
  refine GM_aload_n (pc := 0) 0 rfl (daX11_lacks_0 0 rfl) rfl ?_
  refine GM_iload_n (pc := 1) 1 rfl (daX11_lacks_0 1 rfl) rfl ?_
  refine GM_iload_n (pc := 2) 2 rfl (daX11_lacks_0 2 rfl) rfl ?_
  obtain ⟨hc10, h⟩ := chk_inv h
  obtain ⟨r11, hf11, h⟩ := Option.bind_eq_some_iff.mp h
  refine GM_callV0 (pc := 3) [(0, v1), (0, v2)] (tX11_areBoth l hf11) cwX11_areBoth 11 (Nat.le_of_ble_eq_true rfl) rfl kv_X11_areBoth ke_X11_areBoth km_X11_283 hc10 ⟨Nat.le_of_ble_eq_true rfl, Nat.le_of_ble_eq_true rfl⟩ (Nat.le_of_ble_eq_true rfl) (Nat.le_of_ble_eq_true rfl) (daX11_lacks_0 3 rfl) ?_
  refine GM_if_eq (pc := 6) 20 (daX11_lacks_0 4 rfl) rfl (fun c12 => ?_) (fun c12 => ?_)
  · skip
    rw [if_pos c12] at h
    refine GM_iconst (pc := 20) (-1) (daX11_lacks_0 11 rfl) rfl (R32_b rfl) ?_
    cases h
    exact GM_iret (pc := 21) (daX11_lacks_0 12 rfl) rfl hK
  · skip
    rw [if_neg c12] at h
    refine GM_aload_n (pc := 9) 0 rfl (daX11_lacks_0 5 rfl) rfl ?_
    refine GM_iload_n (pc := 10) 1 rfl (daX11_lacks_0 6 rfl) rfl ?_
    refine GM_iload_n (pc := 11) 3 rfl (daX11_lacks_0 7 rfl) rfl ?_
    refine GM_iload (pc := 12) 4 rfl (daX11_lacks_0 8 rfl) ?_
    obtain ⟨r13, hf13, h⟩ := Option.bind_eq_some_iff.mp h
    refine GM_callV0 (pc := 14) [(0, v1), (0, v3), (0, v4)] (tX11_areTwo l hf13) cwX11_areTwo 11 (Nat.le_of_ble_eq_true rfl) rfl kv_X11_areTwo ke_X11_areTwo km_X11_241 hc10 ⟨Nat.le_of_ble_eq_true rfl, Nat.le_of_ble_eq_true rfl⟩ (Nat.le_of_ble_eq_true rfl) (Nat.le_of_ble_eq_true rfl) (daX11_lacks_0 9 rfl) ?_
    refine GM_if_ne (pc := 17) 22 (daX11_lacks_0 10 rfl) rfl (fun c14 => ?_) (fun c14 => ?_)
    · skip
      rw [if_neg c14] at h
      refine GM_iconst (pc := 22) 0 (daX11_lacks_0 13 rfl) rfl (R32_b rfl) ?_
      refine GM_iload_n (pc := 23) 1 rfl (daX11_lacks_0 14 rfl) rfl ?_
      obtain ⟨r15, hf15, h⟩ := Option.bind_eq_some_iff.mp h
      refine GM_callS0 (pc := 24) [(0, 0), (0, v1)] (tX11_placeOf l hf15) cwX11_placeOf ks_X11_placeOf km_X11_204 ⟨Nat.le_of_ble_eq_true rfl, Nat.le_of_ble_eq_true rfl⟩ (Nat.le_of_ble_eq_true rfl) (Nat.le_of_ble_eq_true rfl) (daX11_lacks_0 15 rfl) ?_
      refine GM_istore (L' := [(5, (0, r15)), (0, (3, v0)), (1, (0, v1)), (2, (0, v2)), (3, (0, v3)), (4, (0, v4))]) (pc := 27) (daX11_lacks_0 16 rfl) (Nat.le_of_ble_eq_true rfl) rfl ?_
      refine GM_aload_n (pc := 29) 1 rfl (daX11_lacks_0 17 rfl) rfl ?_
      refine GM_getf (pc := 30) 11 0 3 0 kf_X11_7 (Nat.le_of_ble_eq_true rfl) (Nat.le_of_ble_eq_true rfl) rfl (daX11_lacks_0 18 rfl) hc10 rfl ?_
      refine GM_iload (pc := 33) 0 rfl (daX11_lacks_0 19 rfl) ?_
      refine GM_bipush (pc := 35) 6 (daX11_lacks_0 20 rfl) rfl (R32_b rfl) ?_
      refine GM_iadd (pc := 37) (daX11_lacks_0 21 rfl) ?_
      refine GM_iload (pc := 38) 5 rfl (daX11_lacks_0 22 rfl) ?_
      refine GM_iadd (pc := 40) (daX11_lacks_0 23 rfl) ?_
      obtain ⟨hc16, h⟩ := chk_inv h
      refine GM_iald (pc := 41) (daX11_lacks_0 24 rfl) hc16.1 hc16.2.1 hc16.2.2 ?_
      obtain ⟨y17, hy17, h⟩ := lt_inv h
      refine GM_top hy17 ?_
      refine GM_istore (L' := [(6, (0, y17)), (5, (0, r15)), (0, (3, v0)), (1, (0, v1)), (2, (0, v2)), (3, (0, v3)), (4, (0, v4))]) (pc := 42) (daX11_lacks_0 25 rfl) (Nat.le_of_ble_eq_true rfl) rfl ?_
      refine GM_iconst (pc := 44) (-1) (daX11_lacks_0 26 rfl) rfl (R32_b rfl) ?_
      refine GM_istore (L' := [(7, (0, (-1))), (6, (0, y17)), (5, (0, r15)), (0, (3, v0)), (1, (0, v1)), (2, (0, v2)), (3, (0, v3)), (4, (0, v4))]) (pc := 45) (daX11_lacks_0 27 rfl) (Nat.le_of_ble_eq_true rfl) rfl ?_
      refine GM_iconst (pc := 47) 0 (daX11_lacks_0 28 rfl) rfl (R32_b rfl) ?_
      refine GM_istore (L' := [(8, (0, 0)), (7, (0, (-1))), (6, (0, y17)), (5, (0, r15)), (0, (3, v0)), (1, (0, v1)), (2, (0, v2)), (3, (0, v3)), (4, (0, v4))]) (pc := 48) (daX11_lacks_0 29 rfl) (Nat.le_of_ble_eq_true rfl) rfl ?_
      refine GM_pick [4, 6, 7, 8, 3, 2, 1, 0] rfl ?_
      obtain ⟨x18, hqx18, h⟩ := Option.bind_eq_some_iff.mp h
      refine lop_ind (zX11_lacks_50 l F v0 v2 v3 v4 r15 y17 0 0) (qX11_lacks_50 l F v0 v2 v3 v4 r15 y17 0 0) FU _ x18 hqx18 ?_
      obtain ⟨v7_19, μ_19⟩ := x18
      dsimp only at h
      show GM l mX11_lacks F 0 0 116 [(0, (3, v0)), (4, (0, v4)), (5, (0, r15)), (6, (0, y17)), (7, (0, v7_19))] [] μ_19
      refine GM_aload_n (pc := 116) 0 rfl (daX11_lacks_0 63 rfl) rfl ?_
      refine GM_getf (pc := 117) 11 0 3 0 kf_X11_7 (Nat.le_of_ble_eq_true rfl) (Nat.le_of_ble_eq_true rfl) rfl (daX11_lacks_1 0 rfl) hc10 rfl ?_
      refine GM_iload (pc := 120) 2 rfl (daX11_lacks_1 1 rfl) ?_
      refine GM_bipush (pc := 122) 6 (daX11_lacks_1 2 rfl) rfl (R32_b rfl) ?_
      refine GM_iadd (pc := 124) (daX11_lacks_1 3 rfl) ?_
      refine GM_iload (pc := 125) 1 rfl (daX11_lacks_1 4 rfl) ?_
      refine GM_iadd (pc := 127) (daX11_lacks_1 5 rfl) ?_
      refine GM_iload (pc := 128) 3 rfl (daX11_lacks_1 6 rfl) ?_
      obtain ⟨hc20, h⟩ := chk_inv h
      obtain ⟨μ21, hμ21, h⟩ := lm_inv h
      refine GM_iast (pc := 130) (daX11_lacks_1 7 rfl) hc20.1 hc16.2.1 hc20.2 ?_
      refine GM_mem hμ21 ?_
      refine GM_iload (pc := 131) 4 rfl (daX11_lacks_1 8 rfl) ?_
      cases h
      exact GM_iret (pc := 133) (daX11_lacks_1 9 rfl) rfl hK
    · skip
      rw [if_pos c14] at h
      refine GM_iconst (pc := 20) (-1) (daX11_lacks_0 11 rfl) rfl (R32_b rfl) ?_
      cases h
      exact GM_iret (pc := 21) (daX11_lacks_0 12 rfl) rfl hK
theorem tX11_lacks (l : Launch) {v0 v1 v2 v3 v4 : Int} {μ : Mm} {t : (Int × Mm)} (h : fX11_lacks v0 v1 v2 v3 v4 μ = some t) : Ct l yX11_lacks mX11_lacks [(3, v0), (0, v1), (0, v2), (0, v3), (0, v4)] μ ([(0, t.1)], t.2, 0, 0) :=
  Ct_of (by decide +kernel) rfl rfl (Nat.le_of_ble_eq_true rfl) (fun _ _ _ => trivial) (gX11_lacks_0 l h ⟨rfl, rfl⟩)
def mX11_shift : MI := (RX11, cX11_shift, 8, (some .int), "shift", 8, 197, fun _ _ _ => True)
theorem cwX11_shift : CWd yX11_shift mX11_shift 3 := ⟨ki_X11, kk_X11_shift, ⟨by decide, by decide⟩, rfl⟩
def dtX11_shift_0 : List (Nat × Instr × Nat) := [(0, .aload_n 0, 1), (1, .iload_n 1, 1), (2, .iload_n 2, 1), (3, .invokevirtual 210, 3), (6, .ifCond .eq 14, 3), (9, .iload_n 3, 1), (10, .iconst 0, 1), (11, .sipush 999, 3), (14, .invokestatic 147, 3), (17, .ifCond .ne 5, 3), (20, .iconst (-1), 1), (21, .ireturn, 1), (22, .iconst 0, 1), (23, .iload_n 1, 1), (24, .invokestatic 204, 3), (27, .istore 4, 2), (29, .aload_n 0, 1), (30, .iload 4, 2), (32, .invokevirtual 295, 3), (35, .iconst 0, 1), (36, .istore 5, 2), (38, .iload 5, 2), (40, .sipush 144, 3), (43, .if_icmp .ge 23, 3), (46, .aload_n 0, 1), (47, .getfield 66, 3), (50, .iload 5, 2), (52, .aload_n 0, 1), (53, .getfield 29, 3), (56, .iload 5, 2), (58, .iaload, 1), (59, .iastore, 1), (60, .iinc 5 1, 3), (63, .goto (-25), 3), (66, .aload_n 0, 1), (67, .getfield 7, 3), (70, .iload 4, 2), (72, .bipush 6, 2), (74, .iadd, 1), (75, .iload_n 2, 1), (76, .iadd, 1), (77, .iaload, 1), (78, .istore 5, 2), (80, .aload_n 0, 1), (81, .getfield 7, 3), (84, .iload 4, 2), (86, .bipush 6, 2), (88, .iadd, 1), (89, .iload_n 2, 1), (90, .iadd, 1), (91, .iload_n 3, 1), (92, .iastore, 1), (93, .aload_n 0, 1), (94, .iload 4, 2), (96, .invokevirtual 295, 3), (99, .aload_n 0, 1), (100, .getfield 7, 3), (103, .iload 4, 2), (105, .bipush 6, 2), (107, .iadd, 1), (108, .iload_n 2, 1), (109, .iadd, 1), (110, .iload 5, 2), (112, .iastore, 1)]
theorem ddX11_shift_0 : (dtX11_shift_0.all fun e => decide (decode mX11_shift.2.1 e.1 = .ok (e.2.1, e.2.2))) = true := by decide +kernel
theorem daX11_shift_0 (j : Nat) {pc n : Nat} {i : Instr} (h : dtX11_shift_0[j]? = some (pc, i, n)) : decode mX11_shift.2.1 pc = .ok (i, n) := dec_of (c := mX11_shift.2.1) ddX11_shift_0 h
def dtX11_shift_1 : List (Nat × Instr × Nat) := [(113, .iconst 0, 1), (114, .istore 6, 2), (116, .iconst 0, 1), (117, .istore 7, 2), (119, .iload 7, 2), (121, .aload_n 0, 1), (122, .iload 4, 2), (124, .invokevirtual 207, 3), (127, .if_icmp .ge 36, 3), (130, .iload 6, 2), (132, .aload_n 0, 1), (133, .getfield 66, 3), (136, .iload 7, 2), (138, .iaload, 1), (139, .aload_n 0, 1), (140, .getfield 29, 3), (143, .iload 7, 2), (145, .iaload, 1), (146, .if_icmp .ne 7, 3), (149, .iconst 0, 1), (150, .goto 4, 3), (153, .iconst 1, 1), (154, .iadd, 1), (155, .istore 6, 2), (157, .iinc 7 1, 3), (160, .goto (-41), 3), (163, .iload 6, 2), (165, .ireturn, 1)]
theorem ddX11_shift_1 : (dtX11_shift_1.all fun e => decide (decode mX11_shift.2.1 e.1 = .ok (e.2.1, e.2.2))) = true := by decide +kernel
theorem daX11_shift_1 (j : Nat) {pc n : Nat} {i : Instr} (h : dtX11_shift_1[j]? = some (pc, i, n)) : decode mX11_shift.2.1 pc = .ok (i, n) := dec_of (c := mX11_shift.2.1) ddX11_shift_1 h
def zX11_shift_38 (l : Launch) (F : FI) (v0 v2 v3 v4 : Int) (k n : Nat) : (Int × Mm) ⊕ Mm → Prop
  | .inl (v5, μ) => GM l mX11_shift F k n 38 [(0, (3, v0)), (2, (0, v2)), (3, (0, v3)), (4, (0, v4)), (5, (0, v5))] [] μ
  | .inr μ => GM l mX11_shift F k n 66 [(0, (3, v0)), (2, (0, v2)), (3, (0, v3)), (4, (0, v4))] [] μ
def sX11_shift_38 (v0 v2 v3 v4 : Int) : (Int × Mm) → Option ((Int × Mm) ⊕ Mm) := fun (v5, μ) =>
  if 144 ≤ v5 then
    some (.inr μ)
  else
    chk (KD v0 = 11) (
    chk (KD (μ v0 16) = 12 ∧ 0 ≤ v5 ∧ v5 < LN (μ v0 16)) (
    chk (KD (μ v0 33) = 12 ∧ v5 < LN (μ v0 33)) (
    lm (mst μ (μ v0 33) v5 (μ (μ v0 16) v5)) fun μ5 =>
    some (.inl (w32 (v5 + 1), μ5)))))
def zX11_shift_119 (l : Launch) (F : FI) (v0 v4 : Int) (μ : Mm) (k n : Nat) : (Int × Int) ⊕ Int → Prop
  | .inl (v6, v7) => GM l mX11_shift F k n 119 [(0, (3, v0)), (4, (0, v4)), (6, (0, v6)), (7, (0, v7))] [] μ
  | .inr v6 => GM l mX11_shift F k n 163 [(6, (0, v6))] [] μ
def sX11_shift_119 (v0 v4 : Int) (μ : Mm) : (Int × Int) → Option ((Int × Int) ⊕ Int) := fun (v6, v7) =>
  chk (KD v0 = 11) (
  (fX11_placesOf v0 v4 μ).bind fun r7 =>
  if r7 ≤ v7 then
    some (.inr v6)
  else
    chk (KD (μ v0 33) = 12 ∧ 0 ≤ v7 ∧ v7 < LN (μ v0 33)) (
    chk (KD (μ v0 16) = 12 ∧ v7 < LN (μ v0 16)) (
    if μ (μ v0 33) v7 = μ (μ v0 16) v7 then
      some (.inl (w32 (v6 + 0), w32 (v7 + 1)))
    else
      some (.inl (w32 (v6 + 1), w32 (v7 + 1))))))
def fX11_shift (v0 v1 v2 v3 : Int) (μ : Mm) : Option (Int × Mm) :=
  chk (KD v0 = 11) (
  (fX11_isPlace v0 v1 v2 μ).bind fun r13 =>
  if r13 = 0 then
    some ((-1), μ)
  else
    if isIn v3 0 999 = 0 then
      some ((-1), μ)
    else
      (fX11_placeOf 0 v1).bind fun r16 =>
      (fX11_survey v0 r16 μ).bind fun μ17 =>
      (lop (sX11_shift_38 v0 v2 v3 r16) FU (0, μ17)).bind fun μ_19 =>
        chk (KD (μ_19 v0 0) = 12 ∧ 0 ≤ w32 ((w32 (r16 + 6)) + v2) ∧ w32 ((w32 (r16 + 6)) + v2) < LN (μ_19 v0 0)) (
        lt (μ_19 (μ_19 v0 0) (w32 ((w32 (r16 + 6)) + v2))) fun y21 =>
        lm (mst μ_19 (μ_19 v0 0) (w32 ((w32 (r16 + 6)) + v2)) v3) fun μ22 =>
        (fX11_survey v0 r16 μ22).bind fun μ23 =>
        chk (KD (μ23 v0 0) = 12 ∧ w32 ((w32 (r16 + 6)) + v2) < LN (μ23 v0 0)) (
        lm (mst μ23 (μ23 v0 0) (w32 ((w32 (r16 + 6)) + v2)) y21) fun μ25 =>
        (lop (sX11_shift_119 v0 r16 μ25) FU (0, 0)).bind fun v6_27 =>
          some (v6_27, μ25))))
set_option maxRecDepth 20000 in
theorem qX11_shift_38 (l : Launch) (F : FI) (v0 v2 v3 v4 : Int) (k n : Nat) : ∀ (q : (Int × Mm)) (t : ((Int × Mm) ⊕ Mm)), sX11_shift_38 v0 v2 v3 v4 q = some t → zX11_shift_38 l F v0 v2 v3 v4 k n t → zX11_shift_38 l F v0 v2 v3 v4 k n (.inl q) := by
  intro q t h hK
  obtain ⟨v5, μ⟩ := q
  unfold sX11_shift_38 at h
  try dsimp only at h
  show GM l mX11_shift F k n 38 [(0, (3, v0)), (2, (0, v2)), (3, (0, v3)), (4, (0, v4)), (5, (0, v5))] [] μ
  refine GM_iload (pc := 38) 4 rfl (daX11_shift_0 21 rfl) ?_
  refine GM_sipush (pc := 40) 144 (daX11_shift_0 22 rfl) rfl (R32_b rfl) ?_
  refine GM_icmp_ge (pc := 43) 66 (daX11_shift_0 23 rfl) rfl (fun c1 => ?_) (fun c1 => ?_)
  · skip
    rw [if_pos c1] at h
    refine GM_pick [0, 1, 2, 3] rfl ?_
    cases h
    exact hK
  · skip
    rw [if_neg c1] at h
    refine GM_aload_n (pc := 46) 0 rfl (daX11_shift_0 24 rfl) rfl ?_
    obtain ⟨hc2, h⟩ := chk_inv h
    refine GM_getf (pc := 47) 11 33 3 33 kf_X11_66 (Nat.le_of_ble_eq_true rfl) (Nat.le_of_ble_eq_true rfl) rfl (daX11_shift_0 25 rfl) hc2 rfl ?_
    refine GM_iload (pc := 50) 4 rfl (daX11_shift_0 26 rfl) ?_
    refine GM_aload_n (pc := 52) 0 rfl (daX11_shift_0 27 rfl) rfl ?_
    refine GM_getf (pc := 53) 11 16 3 16 kf_X11_29 (Nat.le_of_ble_eq_true rfl) (Nat.le_of_ble_eq_true rfl) rfl (daX11_shift_0 28 rfl) hc2 rfl ?_
    refine GM_iload (pc := 56) 4 rfl (daX11_shift_0 29 rfl) ?_
    obtain ⟨hc3, h⟩ := chk_inv h
    refine GM_iald (pc := 58) (daX11_shift_0 30 rfl) hc3.1 hc3.2.1 hc3.2.2 ?_
    obtain ⟨hc4, h⟩ := chk_inv h
    obtain ⟨μ5, hμ5, h⟩ := lm_inv h
    refine GM_iast (pc := 59) (daX11_shift_0 31 rfl) hc4.1 hc3.2.1 hc4.2 ?_
    refine GM_mem hμ5 ?_
    refine GM_iinc (L' := [(5, (0, w32 (v5 + 1))), (0, (3, v0)), (2, (0, v2)), (3, (0, v3)), (4, (0, v4))]) (pc := 60) 4 rfl (daX11_shift_0 32 rfl) (Nat.le_of_ble_eq_true rfl) rfl ?_
    refine GM_goto (pc := 63) 38 (daX11_shift_0 33 rfl) rfl ?_
    refine GM_pick [1, 2, 3, 4, 0] rfl ?_
    cases h
    exact hK
set_option maxRecDepth 20000 in
theorem qX11_shift_119 (l : Launch) (F : FI) (v0 v4 : Int) (μ : Mm) (k n : Nat) : ∀ (q : (Int × Int)) (t : ((Int × Int) ⊕ Int)), sX11_shift_119 v0 v4 μ q = some t → zX11_shift_119 l F v0 v4 μ k n t → zX11_shift_119 l F v0 v4 μ k n (.inl q) := by
  intro q t h hK
  obtain ⟨v6, v7⟩ := q
  unfold sX11_shift_119 at h
  try dsimp only at h
  show GM l mX11_shift F k n 119 [(0, (3, v0)), (4, (0, v4)), (6, (0, v6)), (7, (0, v7))] [] μ
  refine GM_iload (pc := 119) 3 rfl (daX11_shift_1 4 rfl) ?_
  refine GM_aload_n (pc := 121) 0 rfl (daX11_shift_1 5 rfl) rfl ?_
  refine GM_iload (pc := 122) 1 rfl (daX11_shift_1 6 rfl) ?_
  obtain ⟨hc6, h⟩ := chk_inv h
  obtain ⟨r7, hf7, h⟩ := Option.bind_eq_some_iff.mp h
  refine GM_callV0 (pc := 124) [(0, v4)] (tX11_placesOf l hf7) cwX11_placesOf 11 (Nat.le_of_ble_eq_true rfl) rfl kv_X11_placesOf ke_X11_placesOf km_X11_207 hc6 ⟨Nat.le_of_ble_eq_true rfl, Nat.le_of_ble_eq_true rfl⟩ (Nat.le_of_ble_eq_true rfl) (Nat.le_of_ble_eq_true rfl) (daX11_shift_1 7 rfl) ?_
  refine GM_icmp_ge (pc := 127) 163 (daX11_shift_1 8 rfl) rfl (fun c8 => ?_) (fun c8 => ?_)
  · skip
    rw [if_pos c8] at h
    refine GM_pick [2] rfl ?_
    cases h
    exact hK
  · skip
    rw [if_neg c8] at h
    refine GM_iload (pc := 130) 2 rfl (daX11_shift_1 9 rfl) ?_
    refine GM_aload_n (pc := 132) 0 rfl (daX11_shift_1 10 rfl) rfl ?_
    refine GM_getf (pc := 133) 11 33 3 33 kf_X11_66 (Nat.le_of_ble_eq_true rfl) (Nat.le_of_ble_eq_true rfl) rfl (daX11_shift_1 11 rfl) hc6 rfl ?_
    refine GM_iload (pc := 136) 3 rfl (daX11_shift_1 12 rfl) ?_
    obtain ⟨hc9, h⟩ := chk_inv h
    refine GM_iald (pc := 138) (daX11_shift_1 13 rfl) hc9.1 hc9.2.1 hc9.2.2 ?_
    refine GM_aload_n (pc := 139) 0 rfl (daX11_shift_1 14 rfl) rfl ?_
    refine GM_getf (pc := 140) 11 16 3 16 kf_X11_29 (Nat.le_of_ble_eq_true rfl) (Nat.le_of_ble_eq_true rfl) rfl (daX11_shift_1 15 rfl) hc6 rfl ?_
    refine GM_iload (pc := 143) 3 rfl (daX11_shift_1 16 rfl) ?_
    obtain ⟨hc10, h⟩ := chk_inv h
    refine GM_iald (pc := 145) (daX11_shift_1 17 rfl) hc10.1 hc9.2.1 hc10.2 ?_
    refine GM_icmp_ne (pc := 146) 153 (daX11_shift_1 18 rfl) rfl (fun c11 => ?_) (fun c11 => ?_)
    · skip
      rw [if_neg c11] at h
      refine GM_iconst (pc := 153) 1 (daX11_shift_1 21 rfl) rfl (R32_b rfl) ?_
      refine GM_iadd (pc := 154) (daX11_shift_1 22 rfl) ?_
      refine GM_istore (L' := [(6, (0, w32 (v6 + 1))), (0, (3, v0)), (4, (0, v4)), (7, (0, v7))]) (pc := 155) (daX11_shift_1 23 rfl) (Nat.le_of_ble_eq_true rfl) rfl ?_
      refine GM_iinc (L' := [(7, (0, w32 (v7 + 1))), (6, (0, w32 (v6 + 1))), (0, (3, v0)), (4, (0, v4))]) (pc := 157) 3 rfl (daX11_shift_1 24 rfl) (Nat.le_of_ble_eq_true rfl) rfl ?_
      refine GM_goto (pc := 160) 119 (daX11_shift_1 25 rfl) rfl ?_
      refine GM_pick [2, 3, 1, 0] rfl ?_
      cases h
      exact hK
    · skip
      rw [if_pos c11] at h
      refine GM_iconst (pc := 149) 0 (daX11_shift_1 19 rfl) rfl (R32_b rfl) ?_
      refine GM_goto (pc := 150) 154 (daX11_shift_1 20 rfl) rfl ?_
      refine GM_iadd (pc := 154) (daX11_shift_1 22 rfl) ?_
      refine GM_istore (L' := [(6, (0, w32 (v6 + 0))), (0, (3, v0)), (4, (0, v4)), (7, (0, v7))]) (pc := 155) (daX11_shift_1 23 rfl) (Nat.le_of_ble_eq_true rfl) rfl ?_
      refine GM_iinc (L' := [(7, (0, w32 (v7 + 1))), (6, (0, w32 (v6 + 0))), (0, (3, v0)), (4, (0, v4))]) (pc := 157) 3 rfl (daX11_shift_1 24 rfl) (Nat.le_of_ble_eq_true rfl) rfl ?_
      refine GM_goto (pc := 160) 119 (daX11_shift_1 25 rfl) rfl ?_
      refine GM_pick [2, 3, 1, 0] rfl ?_
      cases h
      exact hK
set_option maxRecDepth 20000 in
theorem gX11_shift_0 (l : Launch) {F : FI} {v0 v1 v2 v3 : Int} {μ : Mm} {t : (Int × Mm)} (h : fX11_shift v0 v1 v2 v3 μ = some t) (hK : F.1 = [(0, t.1)] ∧ F.2.1 = t.2) : GM l mX11_shift F 0 0 0 [(0, (3, v0)), (1, (0, v1)), (2, (0, v2)), (3, (0, v3))] [] μ := by
  unfold fX11_shift at h
  refine GM_aload_n (pc := 0) 0 rfl (daX11_shift_0 0 rfl) rfl ?_
  refine GM_iload_n (pc := 1) 1 rfl (daX11_shift_0 1 rfl) rfl ?_
  refine GM_iload_n (pc := 2) 2 rfl (daX11_shift_0 2 rfl) rfl ?_
  obtain ⟨hc12, h⟩ := chk_inv h
  obtain ⟨r13, hf13, h⟩ := Option.bind_eq_some_iff.mp h
  refine GM_callV0 (pc := 3) [(0, v1), (0, v2)] (tX11_isPlace l hf13) cwX11_isPlace 11 (Nat.le_of_ble_eq_true rfl) rfl kv_X11_isPlace ke_X11_isPlace km_X11_210 hc12 ⟨Nat.le_of_ble_eq_true rfl, Nat.le_of_ble_eq_true rfl⟩ (Nat.le_of_ble_eq_true rfl) (Nat.le_of_ble_eq_true rfl) (daX11_shift_0 3 rfl) ?_
  refine GM_if_eq (pc := 6) 20 (daX11_shift_0 4 rfl) rfl (fun c14 => ?_) (fun c14 => ?_)
  · skip
    rw [if_pos c14] at h
    refine GM_iconst (pc := 20) (-1) (daX11_shift_0 10 rfl) rfl (R32_b rfl) ?_
    cases h
    exact GM_iret (pc := 21) (daX11_shift_0 11 rfl) rfl hK
  · skip
    rw [if_neg c14] at h
    refine GM_iload_n (pc := 9) 3 rfl (daX11_shift_0 5 rfl) rfl ?_
    refine GM_iconst (pc := 10) 0 (daX11_shift_0 6 rfl) rfl (R32_b rfl) ?_
    refine GM_sipush (pc := 11) 999 (daX11_shift_0 7 rfl) rfl (R32_b rfl) ?_
    refine GM_callS0 (pc := 14) [(0, v3), (0, 0), (0, 999)] (tX11_isIn l (fX11_isIn_eq v3 0 999)) cwX11_isIn ks_X11_isIn km_X11_147 ⟨Nat.le_of_ble_eq_true rfl, Nat.le_of_ble_eq_true rfl⟩ (Nat.le_of_ble_eq_true rfl) (Nat.le_of_ble_eq_true rfl) (daX11_shift_0 8 rfl) ?_
    refine GM_if_ne (pc := 17) 22 (daX11_shift_0 9 rfl) rfl (fun c15 => ?_) (fun c15 => ?_)
    · skip
      rw [if_neg c15] at h
      refine GM_iconst (pc := 22) 0 (daX11_shift_0 12 rfl) rfl (R32_b rfl) ?_
      refine GM_iload_n (pc := 23) 1 rfl (daX11_shift_0 13 rfl) rfl ?_
      obtain ⟨r16, hf16, h⟩ := Option.bind_eq_some_iff.mp h
      refine GM_callS0 (pc := 24) [(0, 0), (0, v1)] (tX11_placeOf l hf16) cwX11_placeOf ks_X11_placeOf km_X11_204 ⟨Nat.le_of_ble_eq_true rfl, Nat.le_of_ble_eq_true rfl⟩ (Nat.le_of_ble_eq_true rfl) (Nat.le_of_ble_eq_true rfl) (daX11_shift_0 14 rfl) ?_
      refine GM_istore (L' := [(4, (0, r16)), (0, (3, v0)), (1, (0, v1)), (2, (0, v2)), (3, (0, v3))]) (pc := 27) (daX11_shift_0 15 rfl) (Nat.le_of_ble_eq_true rfl) rfl ?_
      refine GM_aload_n (pc := 29) 1 rfl (daX11_shift_0 16 rfl) rfl ?_
      refine GM_iload (pc := 30) 0 rfl (daX11_shift_0 17 rfl) ?_
      obtain ⟨μ17, hf17, h⟩ := Option.bind_eq_some_iff.mp h
      refine GM_callV0 (pc := 32) [(0, r16)] (tX11_survey l hf17) cwX11_survey 11 (Nat.le_of_ble_eq_true rfl) rfl kv_X11_survey ke_X11_survey km_X11_295 hc12 ⟨Nat.le_of_ble_eq_true rfl, Nat.le_of_ble_eq_true rfl⟩ (Nat.le_of_ble_eq_true rfl) (Nat.le_of_ble_eq_true rfl) (daX11_shift_0 18 rfl) ?_
      refine GM_iconst (pc := 35) 0 (daX11_shift_0 19 rfl) rfl (R32_b rfl) ?_
      refine GM_istore (L' := [(5, (0, 0)), (4, (0, r16)), (0, (3, v0)), (1, (0, v1)), (2, (0, v2)), (3, (0, v3))]) (pc := 36) (daX11_shift_0 20 rfl) (Nat.le_of_ble_eq_true rfl) rfl ?_
      refine GM_pick [2, 4, 5, 1, 0] rfl ?_
      obtain ⟨x18, hqx18, h⟩ := Option.bind_eq_some_iff.mp h
      refine lop_ind (zX11_shift_38 l F v0 v2 v3 r16 0 0) (qX11_shift_38 l F v0 v2 v3 r16 0 0) FU _ x18 hqx18 ?_
      obtain ⟨μ_19, hqq⟩ : ∃ z, z = x18 := ⟨x18, rfl⟩
      subst hqq
      show GM l mX11_shift F 0 0 66 [(0, (3, v0)), (2, (0, v2)), (3, (0, v3)), (4, (0, r16))] [] μ_19
      refine GM_aload_n (pc := 66) 0 rfl (daX11_shift_0 34 rfl) rfl ?_
      refine GM_getf (pc := 67) 11 0 3 0 kf_X11_7 (Nat.le_of_ble_eq_true rfl) (Nat.le_of_ble_eq_true rfl) rfl (daX11_shift_0 35 rfl) hc12 rfl ?_
      refine GM_iload (pc := 70) 3 rfl (daX11_shift_0 36 rfl) ?_
      refine GM_bipush (pc := 72) 6 (daX11_shift_0 37 rfl) rfl (R32_b rfl) ?_
      refine GM_iadd (pc := 74) (daX11_shift_0 38 rfl) ?_
      refine GM_iload_n (pc := 75) 1 rfl (daX11_shift_0 39 rfl) rfl ?_
      refine GM_iadd (pc := 76) (daX11_shift_0 40 rfl) ?_
      obtain ⟨hc20, h⟩ := chk_inv h
      refine GM_iald (pc := 77) (daX11_shift_0 41 rfl) hc20.1 hc20.2.1 hc20.2.2 ?_
      obtain ⟨y21, hy21, h⟩ := lt_inv h
      refine GM_top hy21 ?_
      refine GM_istore (L' := [(5, (0, y21)), (0, (3, v0)), (2, (0, v2)), (3, (0, v3)), (4, (0, r16))]) (pc := 78) (daX11_shift_0 42 rfl) (Nat.le_of_ble_eq_true rfl) rfl ?_
      refine GM_aload_n (pc := 80) 1 rfl (daX11_shift_0 43 rfl) rfl ?_
      refine GM_getf (pc := 81) 11 0 3 0 kf_X11_7 (Nat.le_of_ble_eq_true rfl) (Nat.le_of_ble_eq_true rfl) rfl (daX11_shift_0 44 rfl) hc12 rfl ?_
      refine GM_iload (pc := 84) 4 rfl (daX11_shift_0 45 rfl) ?_
      refine GM_bipush (pc := 86) 6 (daX11_shift_0 46 rfl) rfl (R32_b rfl) ?_
      refine GM_iadd (pc := 88) (daX11_shift_0 47 rfl) ?_
      refine GM_iload_n (pc := 89) 2 rfl (daX11_shift_0 48 rfl) rfl ?_
      refine GM_iadd (pc := 90) (daX11_shift_0 49 rfl) ?_
      refine GM_iload_n (pc := 91) 3 rfl (daX11_shift_0 50 rfl) rfl ?_
      obtain ⟨μ22, hμ22, h⟩ := lm_inv h
      refine GM_iast (pc := 92) (daX11_shift_0 51 rfl) hc20.1 hc20.2.1 hc20.2.2 ?_
      refine GM_mem hμ22 ?_
      refine GM_aload_n (pc := 93) 1 rfl (daX11_shift_0 52 rfl) rfl ?_
      refine GM_iload (pc := 94) 4 rfl (daX11_shift_0 53 rfl) ?_
      obtain ⟨μ23, hf23, h⟩ := Option.bind_eq_some_iff.mp h
      refine GM_callV0 (pc := 96) [(0, r16)] (tX11_survey l hf23) cwX11_survey 11 (Nat.le_of_ble_eq_true rfl) rfl kv_X11_survey ke_X11_survey km_X11_295 hc12 ⟨Nat.le_of_ble_eq_true rfl, Nat.le_of_ble_eq_true rfl⟩ (Nat.le_of_ble_eq_true rfl) (Nat.le_of_ble_eq_true rfl) (daX11_shift_0 54 rfl) ?_
      refine GM_aload_n (pc := 99) 1 rfl (daX11_shift_0 55 rfl) rfl ?_
      refine GM_getf (pc := 100) 11 0 3 0 kf_X11_7 (Nat.le_of_ble_eq_true rfl) (Nat.le_of_ble_eq_true rfl) rfl (daX11_shift_0 56 rfl) hc12 rfl ?_
      refine GM_iload (pc := 103) 4 rfl (daX11_shift_0 57 rfl) ?_
      refine GM_bipush (pc := 105) 6 (daX11_shift_0 58 rfl) rfl (R32_b rfl) ?_
      refine GM_iadd (pc := 107) (daX11_shift_0 59 rfl) ?_
      refine GM_iload_n (pc := 108) 2 rfl (daX11_shift_0 60 rfl) rfl ?_
      refine GM_iadd (pc := 109) (daX11_shift_0 61 rfl) ?_
      refine GM_iload (pc := 110) 0 rfl (daX11_shift_0 62 rfl) ?_
      obtain ⟨hc24, h⟩ := chk_inv h
      obtain ⟨μ25, hμ25, h⟩ := lm_inv h
      refine GM_iast (pc := 112) (daX11_shift_0 63 rfl) hc24.1 hc20.2.1 hc24.2 ?_
      refine GM_mem hμ25 ?_
      refine GM_iconst (pc := 113) 0 (daX11_shift_1 0 rfl) rfl (R32_b rfl) ?_
      refine GM_istore (L' := [(6, (0, 0)), (5, (0, y21)), (0, (3, v0)), (2, (0, v2)), (3, (0, v3)), (4, (0, r16))]) (pc := 114) (daX11_shift_1 1 rfl) (Nat.le_of_ble_eq_true rfl) rfl ?_
      refine GM_iconst (pc := 116) 0 (daX11_shift_1 2 rfl) rfl (R32_b rfl) ?_
      refine GM_istore (L' := [(7, (0, 0)), (6, (0, 0)), (5, (0, y21)), (0, (3, v0)), (2, (0, v2)), (3, (0, v3)), (4, (0, r16))]) (pc := 117) (daX11_shift_1 3 rfl) (Nat.le_of_ble_eq_true rfl) rfl ?_
      refine GM_pick [3, 6, 1, 0] rfl ?_
      obtain ⟨x26, hqx26, h⟩ := Option.bind_eq_some_iff.mp h
      refine lop_ind (zX11_shift_119 l F v0 r16 μ25 0 0) (qX11_shift_119 l F v0 r16 μ25 0 0) FU _ x26 hqx26 ?_
      obtain ⟨v6_27, hqq⟩ : ∃ z, z = x26 := ⟨x26, rfl⟩
      subst hqq
      show GM l mX11_shift F 0 0 163 [(6, (0, v6_27))] [] μ25
      refine GM_iload (pc := 163) 0 rfl (daX11_shift_1 26 rfl) ?_
      cases h
      exact GM_iret (pc := 165) (daX11_shift_1 27 rfl) rfl hK
    · skip
      rw [if_pos c15] at h
      refine GM_iconst (pc := 20) (-1) (daX11_shift_0 10 rfl) rfl (R32_b rfl) ?_
      cases h
      exact GM_iret (pc := 21) (daX11_shift_0 11 rfl) rfl hK
theorem tX11_shift (l : Launch) {v0 v1 v2 v3 : Int} {μ : Mm} {t : (Int × Mm)} (h : fX11_shift v0 v1 v2 v3 μ = some t) : Ct l yX11_shift mX11_shift [(3, v0), (0, v1), (0, v2), (0, v3)] μ ([(0, t.1)], t.2, 0, 0) :=
  Ct_of (by decide +kernel) rfl rfl (Nat.le_of_ble_eq_true rfl) (fun _ _ _ => trivial) (gX11_shift_0 l h ⟨rfl, rfl⟩)
def mX11_differs : MI := (RX11, cX11_differs, 6, (some .int), "differs", 7, 175, fun _ _ _ => True)
theorem cwX11_differs : CWd yX11_differs mX11_differs 3 := ⟨ki_X11, kk_X11_differs, ⟨by decide, by decide⟩, rfl⟩
def dtX11_differs_0 : List (Nat × Instr × Nat) := [(0, .aload_n 0, 1), (1, .iload_n 1, 1), (2, .iload_n 3, 1), (3, .invokevirtual 210, 3), (6, .ifCond .eq 12, 3), (9, .aload_n 0, 1), (10, .iload_n 2, 1), (11, .iload_n 3, 1), (12, .invokevirtual 210, 3), (15, .ifCond .ne 5, 3), (18, .iconst (-1), 1), (19, .ireturn, 1), (20, .aload_n 0, 1), (21, .iconst 0, 1), (22, .iload_n 2, 1), (23, .invokestatic 204, 3), (26, .iload_n 3, 1), (27, .invokevirtual 238, 3), (30, .iconst 0, 1), (31, .istore 4, 2), (33, .iload 4, 2), (35, .sipush 144, 3), (38, .if_icmp .ge 17, 3), (41, .aload_n 0, 1), (42, .getfield 41, 3), (45, .iload 4, 2), (47, .iconst 0, 1), (48, .bastore, 1), (49, .iinc 4 1, 3), (52, .goto (-19), 3), (55, .iconst 0, 1), (56, .istore 4, 2), (58, .iload 4, 2), (60, .aload_n 0, 1), (61, .getfield 29, 3), (64, .iload_n 3, 1), (65, .iaload, 1), (66, .if_icmp .ge 27, 3), (69, .aload_n 0, 1), (70, .getfield 41, 3), (73, .aload_n 0, 1), (74, .getfield 32, 3), (77, .bipush 64, 2), (79, .iload_n 3, 1), (80, .imul, 1), (81, .iload 4, 2), (83, .iadd, 1), (84, .iaload, 1), (85, .iconst 1, 1), (86, .bastore, 1), (87, .iinc 4 1, 3), (90, .goto (-32), 3), (93, .aload_n 0, 1), (94, .iconst 0, 1), (95, .iload_n 1, 1), (96, .invokestatic 204, 3), (99, .iload_n 3, 1), (100, .invokevirtual 238, 3), (103, .iconst 0, 1), (104, .istore 4, 2), (106, .iconst 0, 1), (107, .istore 5, 2), (109, .iload 5, 2), (111, .aload_n 0, 1)]
theorem ddX11_differs_0 : (dtX11_differs_0.all fun e => decide (decode mX11_differs.2.1 e.1 = .ok (e.2.1, e.2.2))) = true := by decide +kernel
theorem daX11_differs_0 (j : Nat) {pc n : Nat} {i : Instr} (h : dtX11_differs_0[j]? = some (pc, i, n)) : decode mX11_differs.2.1 pc = .ok (i, n) := dec_of (c := mX11_differs.2.1) ddX11_differs_0 h
def dtX11_differs_1 : List (Nat × Instr × Nat) := [(112, .getfield 29, 3), (115, .iload_n 3, 1), (116, .iaload, 1), (117, .if_icmp .ge 39, 3), (120, .iload 4, 2), (122, .aload_n 0, 1), (123, .getfield 41, 3), (126, .aload_n 0, 1), (127, .getfield 32, 3), (130, .bipush 64, 2), (132, .iload_n 3, 1), (133, .imul, 1), (134, .iload 5, 2), (136, .iadd, 1), (137, .iaload, 1), (138, .baload, 1), (139, .ifCond .eq 7, 3), (142, .iconst 0, 1), (143, .goto 4, 3), (146, .iconst 1, 1), (147, .iadd, 1), (148, .istore 4, 2), (150, .iinc 5 1, 3), (153, .goto (-44), 3), (156, .iload 4, 2), (158, .ireturn, 1)]
theorem ddX11_differs_1 : (dtX11_differs_1.all fun e => decide (decode mX11_differs.2.1 e.1 = .ok (e.2.1, e.2.2))) = true := by decide +kernel
theorem daX11_differs_1 (j : Nat) {pc n : Nat} {i : Instr} (h : dtX11_differs_1[j]? = some (pc, i, n)) : decode mX11_differs.2.1 pc = .ok (i, n) := dec_of (c := mX11_differs.2.1) ddX11_differs_1 h
def zX11_differs_33 (l : Launch) (F : FI) (v0 v1 v3 : Int) (k n : Nat) : (Int × Mm) ⊕ Mm → Prop
  | .inl (v4, μ) => GM l mX11_differs F k n 33 [(0, (3, v0)), (1, (0, v1)), (3, (0, v3)), (4, (0, v4))] [] μ
  | .inr μ => GM l mX11_differs F k n 55 [(0, (3, v0)), (1, (0, v1)), (3, (0, v3))] [] μ
def sX11_differs_33 (v0 v1 v3 : Int) : (Int × Mm) → Option ((Int × Mm) ⊕ Mm) := fun (v4, μ) =>
  if 144 ≤ v4 then
    some (.inr μ)
  else
    chk (KD v0 = 11) (
    chk (KD (μ v0 22) = 14 ∧ 0 ≤ v4 ∧ v4 < LN (μ v0 22)) (
    lm (mst μ (μ v0 22) v4 0) fun μ4 =>
    some (.inl (w32 (v4 + 1), μ4))))
def zX11_differs_58 (l : Launch) (F : FI) (v0 v1 v3 : Int) (k n : Nat) : (Int × Mm) ⊕ Mm → Prop
  | .inl (v4, μ) => GM l mX11_differs F k n 58 [(0, (3, v0)), (1, (0, v1)), (3, (0, v3)), (4, (0, v4))] [] μ
  | .inr μ => GM l mX11_differs F k n 93 [(0, (3, v0)), (1, (0, v1)), (3, (0, v3))] [] μ
def sX11_differs_58 (v0 v1 v3 : Int) : (Int × Mm) → Option ((Int × Mm) ⊕ Mm) := fun (v4, μ) =>
  chk (KD v0 = 11) (
  chk (KD (μ v0 16) = 12 ∧ 0 ≤ v3 ∧ v3 < LN (μ v0 16)) (
  if μ (μ v0 16) v3 ≤ v4 then
    some (.inr μ)
  else
    chk (KD (μ v0 17) = 12 ∧ 0 ≤ w32 ((w32 (64 * v3)) + v4) ∧ w32 ((w32 (64 * v3)) + v4) < LN (μ v0 17)) (
    chk (KD (μ v0 22) = 14 ∧ 0 ≤ μ (μ v0 17) (w32 ((w32 (64 * v3)) + v4)) ∧ μ (μ v0 17) (w32 ((w32 (64 * v3)) + v4)) < LN (μ v0 22)) (
    lm (mst μ (μ v0 22) (μ (μ v0 17) (w32 ((w32 (64 * v3)) + v4))) 1) fun μ10 =>
    some (.inl (w32 (v4 + 1), μ10))))))
def zX11_differs_109 (l : Launch) (F : FI) (v0 v3 : Int) (μ : Mm) (k n : Nat) : (Int × Int) ⊕ Int → Prop
  | .inl (v4, v5) => GM l mX11_differs F k n 109 [(0, (3, v0)), (3, (0, v3)), (4, (0, v4)), (5, (0, v5))] [] μ
  | .inr v4 => GM l mX11_differs F k n 156 [(4, (0, v4))] [] μ
def sX11_differs_109 (v0 v3 : Int) (μ : Mm) : (Int × Int) → Option ((Int × Int) ⊕ Int) := fun (v4, v5) =>
  chk (KD v0 = 11) (
  chk (KD (μ v0 16) = 12 ∧ 0 ≤ v3 ∧ v3 < LN (μ v0 16)) (
  if μ (μ v0 16) v3 ≤ v5 then
    some (.inr v4)
  else
    chk (KD (μ v0 17) = 12 ∧ 0 ≤ w32 ((w32 (64 * v3)) + v5) ∧ w32 ((w32 (64 * v3)) + v5) < LN (μ v0 17)) (
    chk (KD (μ v0 22) = 14 ∧ 0 ≤ μ (μ v0 17) (w32 ((w32 (64 * v3)) + v5)) ∧ μ (μ v0 17) (w32 ((w32 (64 * v3)) + v5)) < LN (μ v0 22)) (
    if μ (μ v0 22) (μ (μ v0 17) (w32 ((w32 (64 * v3)) + v5))) = 0 then
      some (.inl (w32 (v4 + 1), w32 (v5 + 1)))
    else
      some (.inl (w32 (v4 + 0), w32 (v5 + 1)))))))
def fX11_differs (v0 v1 v2 v3 : Int) (μ : Mm) : Option (Int × Mm) :=
  chk (KD v0 = 11) (
  (fX11_isPlace v0 v1 v3 μ).bind fun r18 =>
  if r18 = 0 then
    some ((-1), μ)
  else
    (fX11_isPlace v0 v2 v3 μ).bind fun r20 =>
    if r20 = 0 then
      some ((-1), μ)
    else
      (fX11_placeOf 0 v2).bind fun r22 =>
      (fX11_surveyAt v0 r22 v3 μ).bind fun μ23 =>
      (lop (sX11_differs_33 v0 v1 v3) FU (0, μ23)).bind fun μ_25 =>
        (lop (sX11_differs_58 v0 v1 v3) FU (0, μ_25)).bind fun μ_27 =>
          (fX11_placeOf 0 v1).bind fun r28 =>
          (fX11_surveyAt v0 r28 v3 μ_27).bind fun μ29 =>
          (lop (sX11_differs_109 v0 v3 μ29) FU (0, 0)).bind fun v4_31 =>
            some (v4_31, μ29))
set_option maxRecDepth 20000 in
theorem qX11_differs_33 (l : Launch) (F : FI) (v0 v1 v3 : Int) (k n : Nat) : ∀ (q : (Int × Mm)) (t : ((Int × Mm) ⊕ Mm)), sX11_differs_33 v0 v1 v3 q = some t → zX11_differs_33 l F v0 v1 v3 k n t → zX11_differs_33 l F v0 v1 v3 k n (.inl q) := by
  intro q t h hK
  obtain ⟨v4, μ⟩ := q
  unfold sX11_differs_33 at h
  try dsimp only at h
  show GM l mX11_differs F k n 33 [(0, (3, v0)), (1, (0, v1)), (3, (0, v3)), (4, (0, v4))] [] μ
  refine GM_iload (pc := 33) 3 rfl (daX11_differs_0 20 rfl) ?_
  refine GM_sipush (pc := 35) 144 (daX11_differs_0 21 rfl) rfl (R32_b rfl) ?_
  refine GM_icmp_ge (pc := 38) 55 (daX11_differs_0 22 rfl) rfl (fun c1 => ?_) (fun c1 => ?_)
  · skip
    rw [if_pos c1] at h
    refine GM_pick [0, 1, 2] rfl ?_
    cases h
    exact hK
  · skip
    rw [if_neg c1] at h
    refine GM_aload_n (pc := 41) 0 rfl (daX11_differs_0 23 rfl) rfl ?_
    obtain ⟨hc2, h⟩ := chk_inv h
    refine GM_getf (pc := 42) 11 22 3 22 kf_X11_41 (Nat.le_of_ble_eq_true rfl) (Nat.le_of_ble_eq_true rfl) rfl (daX11_differs_0 24 rfl) hc2 rfl ?_
    refine GM_iload (pc := 45) 3 rfl (daX11_differs_0 25 rfl) ?_
    refine GM_iconst (pc := 47) 0 (daX11_differs_0 26 rfl) rfl (R32_b rfl) ?_
    obtain ⟨hc3, h⟩ := chk_inv h
    obtain ⟨μ4, hμ4, h⟩ := lm_inv h
    refine GM_zast (pc := 48) (daX11_differs_0 27 rfl) hc3.1 hc3.2.1 hc3.2.2 (Or.inl rfl) ?_
    refine GM_mem hμ4 ?_
    refine GM_iinc (L' := [(4, (0, w32 (v4 + 1))), (0, (3, v0)), (1, (0, v1)), (3, (0, v3))]) (pc := 49) 3 rfl (daX11_differs_0 28 rfl) (Nat.le_of_ble_eq_true rfl) rfl ?_
    refine GM_goto (pc := 52) 33 (daX11_differs_0 29 rfl) rfl ?_
    refine GM_pick [1, 2, 3, 0] rfl ?_
    cases h
    exact hK
set_option maxRecDepth 20000 in
theorem qX11_differs_58 (l : Launch) (F : FI) (v0 v1 v3 : Int) (k n : Nat) : ∀ (q : (Int × Mm)) (t : ((Int × Mm) ⊕ Mm)), sX11_differs_58 v0 v1 v3 q = some t → zX11_differs_58 l F v0 v1 v3 k n t → zX11_differs_58 l F v0 v1 v3 k n (.inl q) := by
  intro q t h hK
  obtain ⟨v4, μ⟩ := q
  unfold sX11_differs_58 at h
  try dsimp only at h
  show GM l mX11_differs F k n 58 [(0, (3, v0)), (1, (0, v1)), (3, (0, v3)), (4, (0, v4))] [] μ
  refine GM_iload (pc := 58) 3 rfl (daX11_differs_0 32 rfl) ?_
  refine GM_aload_n (pc := 60) 0 rfl (daX11_differs_0 33 rfl) rfl ?_
  obtain ⟨hc5, h⟩ := chk_inv h
  refine GM_getf (pc := 61) 11 16 3 16 kf_X11_29 (Nat.le_of_ble_eq_true rfl) (Nat.le_of_ble_eq_true rfl) rfl (daX11_differs_0 34 rfl) hc5 rfl ?_
  refine GM_iload_n (pc := 64) 2 rfl (daX11_differs_0 35 rfl) rfl ?_
  obtain ⟨hc6, h⟩ := chk_inv h
  refine GM_iald (pc := 65) (daX11_differs_0 36 rfl) hc6.1 hc6.2.1 hc6.2.2 ?_
  refine GM_icmp_ge (pc := 66) 93 (daX11_differs_0 37 rfl) rfl (fun c7 => ?_) (fun c7 => ?_)
  · skip
    rw [if_pos c7] at h
    refine GM_pick [0, 1, 2] rfl ?_
    cases h
    exact hK
  · skip
    rw [if_neg c7] at h
    refine GM_aload_n (pc := 69) 0 rfl (daX11_differs_0 38 rfl) rfl ?_
    refine GM_getf (pc := 70) 11 22 3 22 kf_X11_41 (Nat.le_of_ble_eq_true rfl) (Nat.le_of_ble_eq_true rfl) rfl (daX11_differs_0 39 rfl) hc5 rfl ?_
    refine GM_aload_n (pc := 73) 0 rfl (daX11_differs_0 40 rfl) rfl ?_
    refine GM_getf (pc := 74) 11 17 3 17 kf_X11_32 (Nat.le_of_ble_eq_true rfl) (Nat.le_of_ble_eq_true rfl) rfl (daX11_differs_0 41 rfl) hc5 rfl ?_
    refine GM_bipush (pc := 77) 64 (daX11_differs_0 42 rfl) rfl (R32_b rfl) ?_
    refine GM_iload_n (pc := 79) 2 rfl (daX11_differs_0 43 rfl) rfl ?_
    refine GM_imul (pc := 80) (daX11_differs_0 44 rfl) ?_
    refine GM_iload (pc := 81) 3 rfl (daX11_differs_0 45 rfl) ?_
    refine GM_iadd (pc := 83) (daX11_differs_0 46 rfl) ?_
    obtain ⟨hc8, h⟩ := chk_inv h
    refine GM_iald (pc := 84) (daX11_differs_0 47 rfl) hc8.1 hc8.2.1 hc8.2.2 ?_
    refine GM_iconst (pc := 85) 1 (daX11_differs_0 48 rfl) rfl (R32_b rfl) ?_
    obtain ⟨hc9, h⟩ := chk_inv h
    obtain ⟨μ10, hμ10, h⟩ := lm_inv h
    refine GM_zast (pc := 86) (daX11_differs_0 49 rfl) hc9.1 hc9.2.1 hc9.2.2 (Or.inr rfl) ?_
    refine GM_mem hμ10 ?_
    refine GM_iinc (L' := [(4, (0, w32 (v4 + 1))), (0, (3, v0)), (1, (0, v1)), (3, (0, v3))]) (pc := 87) 3 rfl (daX11_differs_0 50 rfl) (Nat.le_of_ble_eq_true rfl) rfl ?_
    refine GM_goto (pc := 90) 58 (daX11_differs_0 51 rfl) rfl ?_
    refine GM_pick [1, 2, 3, 0] rfl ?_
    cases h
    exact hK
set_option maxRecDepth 20000 in
theorem qX11_differs_109 (l : Launch) (F : FI) (v0 v3 : Int) (μ : Mm) (k n : Nat) : ∀ (q : (Int × Int)) (t : ((Int × Int) ⊕ Int)), sX11_differs_109 v0 v3 μ q = some t → zX11_differs_109 l F v0 v3 μ k n t → zX11_differs_109 l F v0 v3 μ k n (.inl q) := by
  intro q t h hK
  obtain ⟨v4, v5⟩ := q
  unfold sX11_differs_109 at h
  try dsimp only at h
  show GM l mX11_differs F k n 109 [(0, (3, v0)), (3, (0, v3)), (4, (0, v4)), (5, (0, v5))] [] μ
  refine GM_iload (pc := 109) 3 rfl (daX11_differs_0 62 rfl) ?_
  refine GM_aload_n (pc := 111) 0 rfl (daX11_differs_0 63 rfl) rfl ?_
  obtain ⟨hc11, h⟩ := chk_inv h
  refine GM_getf (pc := 112) 11 16 3 16 kf_X11_29 (Nat.le_of_ble_eq_true rfl) (Nat.le_of_ble_eq_true rfl) rfl (daX11_differs_1 0 rfl) hc11 rfl ?_
  refine GM_iload_n (pc := 115) 1 rfl (daX11_differs_1 1 rfl) rfl ?_
  obtain ⟨hc12, h⟩ := chk_inv h
  refine GM_iald (pc := 116) (daX11_differs_1 2 rfl) hc12.1 hc12.2.1 hc12.2.2 ?_
  refine GM_icmp_ge (pc := 117) 156 (daX11_differs_1 3 rfl) rfl (fun c13 => ?_) (fun c13 => ?_)
  · skip
    rw [if_pos c13] at h
    refine GM_pick [2] rfl ?_
    cases h
    exact hK
  · skip
    rw [if_neg c13] at h
    refine GM_iload (pc := 120) 2 rfl (daX11_differs_1 4 rfl) ?_
    refine GM_aload_n (pc := 122) 0 rfl (daX11_differs_1 5 rfl) rfl ?_
    refine GM_getf (pc := 123) 11 22 3 22 kf_X11_41 (Nat.le_of_ble_eq_true rfl) (Nat.le_of_ble_eq_true rfl) rfl (daX11_differs_1 6 rfl) hc11 rfl ?_
    refine GM_aload_n (pc := 126) 0 rfl (daX11_differs_1 7 rfl) rfl ?_
    refine GM_getf (pc := 127) 11 17 3 17 kf_X11_32 (Nat.le_of_ble_eq_true rfl) (Nat.le_of_ble_eq_true rfl) rfl (daX11_differs_1 8 rfl) hc11 rfl ?_
    refine GM_bipush (pc := 130) 64 (daX11_differs_1 9 rfl) rfl (R32_b rfl) ?_
    refine GM_iload_n (pc := 132) 1 rfl (daX11_differs_1 10 rfl) rfl ?_
    refine GM_imul (pc := 133) (daX11_differs_1 11 rfl) ?_
    refine GM_iload (pc := 134) 3 rfl (daX11_differs_1 12 rfl) ?_
    refine GM_iadd (pc := 136) (daX11_differs_1 13 rfl) ?_
    obtain ⟨hc14, h⟩ := chk_inv h
    refine GM_iald (pc := 137) (daX11_differs_1 14 rfl) hc14.1 hc14.2.1 hc14.2.2 ?_
    obtain ⟨hc15, h⟩ := chk_inv h
    refine GM_zald (pc := 138) (daX11_differs_1 15 rfl) hc15.1 hc15.2.1 hc15.2.2 ?_
    refine GM_if_eq (pc := 139) 146 (daX11_differs_1 16 rfl) rfl (fun c16 => ?_) (fun c16 => ?_)
    · skip
      rw [if_pos c16] at h
      refine GM_iconst (pc := 146) 1 (daX11_differs_1 19 rfl) rfl (R32_b rfl) ?_
      refine GM_iadd (pc := 147) (daX11_differs_1 20 rfl) ?_
      refine GM_istore (L' := [(4, (0, w32 (v4 + 1))), (0, (3, v0)), (3, (0, v3)), (5, (0, v5))]) (pc := 148) (daX11_differs_1 21 rfl) (Nat.le_of_ble_eq_true rfl) rfl ?_
      refine GM_iinc (L' := [(5, (0, w32 (v5 + 1))), (4, (0, w32 (v4 + 1))), (0, (3, v0)), (3, (0, v3))]) (pc := 150) 3 rfl (daX11_differs_1 22 rfl) (Nat.le_of_ble_eq_true rfl) rfl ?_
      refine GM_goto (pc := 153) 109 (daX11_differs_1 23 rfl) rfl ?_
      refine GM_pick [2, 3, 1, 0] rfl ?_
      cases h
      exact hK
    · skip
      rw [if_neg c16] at h
      refine GM_iconst (pc := 142) 0 (daX11_differs_1 17 rfl) rfl (R32_b rfl) ?_
      refine GM_goto (pc := 143) 147 (daX11_differs_1 18 rfl) rfl ?_
      refine GM_iadd (pc := 147) (daX11_differs_1 20 rfl) ?_
      refine GM_istore (L' := [(4, (0, w32 (v4 + 0))), (0, (3, v0)), (3, (0, v3)), (5, (0, v5))]) (pc := 148) (daX11_differs_1 21 rfl) (Nat.le_of_ble_eq_true rfl) rfl ?_
      refine GM_iinc (L' := [(5, (0, w32 (v5 + 1))), (4, (0, w32 (v4 + 0))), (0, (3, v0)), (3, (0, v3))]) (pc := 150) 3 rfl (daX11_differs_1 22 rfl) (Nat.le_of_ble_eq_true rfl) rfl ?_
      refine GM_goto (pc := 153) 109 (daX11_differs_1 23 rfl) rfl ?_
      refine GM_pick [2, 3, 1, 0] rfl ?_
      cases h
      exact hK
set_option maxRecDepth 20000 in
theorem gX11_differs_0 (l : Launch) {F : FI} {v0 v1 v2 v3 : Int} {μ : Mm} {t : (Int × Mm)} (h : fX11_differs v0 v1 v2 v3 μ = some t) (hK : F.1 = [(0, t.1)] ∧ F.2.1 = t.2) : GM l mX11_differs F 0 0 0 [(0, (3, v0)), (1, (0, v1)), (2, (0, v2)), (3, (0, v3))] [] μ := by
  unfold fX11_differs at h
  refine GM_aload_n (pc := 0) 0 rfl (daX11_differs_0 0 rfl) rfl ?_
  refine GM_iload_n (pc := 1) 1 rfl (daX11_differs_0 1 rfl) rfl ?_
  refine GM_iload_n (pc := 2) 3 rfl (daX11_differs_0 2 rfl) rfl ?_
  obtain ⟨hc17, h⟩ := chk_inv h
  obtain ⟨r18, hf18, h⟩ := Option.bind_eq_some_iff.mp h
  refine GM_callV0 (pc := 3) [(0, v1), (0, v3)] (tX11_isPlace l hf18) cwX11_isPlace 11 (Nat.le_of_ble_eq_true rfl) rfl kv_X11_isPlace ke_X11_isPlace km_X11_210 hc17 ⟨Nat.le_of_ble_eq_true rfl, Nat.le_of_ble_eq_true rfl⟩ (Nat.le_of_ble_eq_true rfl) (Nat.le_of_ble_eq_true rfl) (daX11_differs_0 3 rfl) ?_
  refine GM_if_eq (pc := 6) 18 (daX11_differs_0 4 rfl) rfl (fun c19 => ?_) (fun c19 => ?_)
  · skip
    rw [if_pos c19] at h
    refine GM_iconst (pc := 18) (-1) (daX11_differs_0 10 rfl) rfl (R32_b rfl) ?_
    cases h
    exact GM_iret (pc := 19) (daX11_differs_0 11 rfl) rfl hK
  · skip
    rw [if_neg c19] at h
    refine GM_aload_n (pc := 9) 0 rfl (daX11_differs_0 5 rfl) rfl ?_
    refine GM_iload_n (pc := 10) 2 rfl (daX11_differs_0 6 rfl) rfl ?_
    refine GM_iload_n (pc := 11) 3 rfl (daX11_differs_0 7 rfl) rfl ?_
    obtain ⟨r20, hf20, h⟩ := Option.bind_eq_some_iff.mp h
    refine GM_callV0 (pc := 12) [(0, v2), (0, v3)] (tX11_isPlace l hf20) cwX11_isPlace 11 (Nat.le_of_ble_eq_true rfl) rfl kv_X11_isPlace ke_X11_isPlace km_X11_210 hc17 ⟨Nat.le_of_ble_eq_true rfl, Nat.le_of_ble_eq_true rfl⟩ (Nat.le_of_ble_eq_true rfl) (Nat.le_of_ble_eq_true rfl) (daX11_differs_0 8 rfl) ?_
    refine GM_if_ne (pc := 15) 20 (daX11_differs_0 9 rfl) rfl (fun c21 => ?_) (fun c21 => ?_)
    · skip
      rw [if_neg c21] at h
      refine GM_aload_n (pc := 20) 0 rfl (daX11_differs_0 12 rfl) rfl ?_
      refine GM_iconst (pc := 21) 0 (daX11_differs_0 13 rfl) rfl (R32_b rfl) ?_
      refine GM_iload_n (pc := 22) 2 rfl (daX11_differs_0 14 rfl) rfl ?_
      obtain ⟨r22, hf22, h⟩ := Option.bind_eq_some_iff.mp h
      refine GM_callS0 (pc := 23) [(0, 0), (0, v2)] (tX11_placeOf l hf22) cwX11_placeOf ks_X11_placeOf km_X11_204 ⟨Nat.le_of_ble_eq_true rfl, Nat.le_of_ble_eq_true rfl⟩ (Nat.le_of_ble_eq_true rfl) (Nat.le_of_ble_eq_true rfl) (daX11_differs_0 15 rfl) ?_
      refine GM_iload_n (pc := 26) 3 rfl (daX11_differs_0 16 rfl) rfl ?_
      obtain ⟨μ23, hf23, h⟩ := Option.bind_eq_some_iff.mp h
      refine GM_callV0 (pc := 27) [(0, r22), (0, v3)] (tX11_surveyAt l hf23) cwX11_surveyAt 11 (Nat.le_of_ble_eq_true rfl) rfl kv_X11_surveyAt ke_X11_surveyAt km_X11_238 hc17 ⟨Nat.le_of_ble_eq_true rfl, Nat.le_of_ble_eq_true rfl⟩ (Nat.le_of_ble_eq_true rfl) (Nat.le_of_ble_eq_true rfl) (daX11_differs_0 17 rfl) ?_
      refine GM_iconst (pc := 30) 0 (daX11_differs_0 18 rfl) rfl (R32_b rfl) ?_
      refine GM_istore (L' := [(4, (0, 0)), (0, (3, v0)), (1, (0, v1)), (2, (0, v2)), (3, (0, v3))]) (pc := 31) (daX11_differs_0 19 rfl) (Nat.le_of_ble_eq_true rfl) rfl ?_
      refine GM_pick [1, 2, 4, 0] rfl ?_
      obtain ⟨x24, hqx24, h⟩ := Option.bind_eq_some_iff.mp h
      refine lop_ind (zX11_differs_33 l F v0 v1 v3 0 0) (qX11_differs_33 l F v0 v1 v3 0 0) FU _ x24 hqx24 ?_
      obtain ⟨μ_25, hqq⟩ : ∃ z, z = x24 := ⟨x24, rfl⟩
      subst hqq
      show GM l mX11_differs F 0 0 55 [(0, (3, v0)), (1, (0, v1)), (3, (0, v3))] [] μ_25
      refine GM_iconst (pc := 55) 0 (daX11_differs_0 30 rfl) rfl (R32_b rfl) ?_
      refine GM_istore (L' := [(4, (0, 0)), (0, (3, v0)), (1, (0, v1)), (3, (0, v3))]) (pc := 56) (daX11_differs_0 31 rfl) (Nat.le_of_ble_eq_true rfl) rfl ?_
      refine GM_pick [1, 2, 3, 0] rfl ?_
      obtain ⟨x26, hqx26, h⟩ := Option.bind_eq_some_iff.mp h
      refine lop_ind (zX11_differs_58 l F v0 v1 v3 0 0) (qX11_differs_58 l F v0 v1 v3 0 0) FU _ x26 hqx26 ?_
      obtain ⟨μ_27, hqq⟩ : ∃ z, z = x26 := ⟨x26, rfl⟩
      subst hqq
      show GM l mX11_differs F 0 0 93 [(0, (3, v0)), (1, (0, v1)), (3, (0, v3))] [] μ_27
      refine GM_aload_n (pc := 93) 0 rfl (daX11_differs_0 52 rfl) rfl ?_
      refine GM_iconst (pc := 94) 0 (daX11_differs_0 53 rfl) rfl (R32_b rfl) ?_
      refine GM_iload_n (pc := 95) 1 rfl (daX11_differs_0 54 rfl) rfl ?_
      obtain ⟨r28, hf28, h⟩ := Option.bind_eq_some_iff.mp h
      refine GM_callS0 (pc := 96) [(0, 0), (0, v1)] (tX11_placeOf l hf28) cwX11_placeOf ks_X11_placeOf km_X11_204 ⟨Nat.le_of_ble_eq_true rfl, Nat.le_of_ble_eq_true rfl⟩ (Nat.le_of_ble_eq_true rfl) (Nat.le_of_ble_eq_true rfl) (daX11_differs_0 55 rfl) ?_
      refine GM_iload_n (pc := 99) 2 rfl (daX11_differs_0 56 rfl) rfl ?_
      obtain ⟨μ29, hf29, h⟩ := Option.bind_eq_some_iff.mp h
      refine GM_callV0 (pc := 100) [(0, r28), (0, v3)] (tX11_surveyAt l hf29) cwX11_surveyAt 11 (Nat.le_of_ble_eq_true rfl) rfl kv_X11_surveyAt ke_X11_surveyAt km_X11_238 hc17 ⟨Nat.le_of_ble_eq_true rfl, Nat.le_of_ble_eq_true rfl⟩ (Nat.le_of_ble_eq_true rfl) (Nat.le_of_ble_eq_true rfl) (daX11_differs_0 57 rfl) ?_
      refine GM_iconst (pc := 103) 0 (daX11_differs_0 58 rfl) rfl (R32_b rfl) ?_
      refine GM_istore (L' := [(4, (0, 0)), (0, (3, v0)), (1, (0, v1)), (3, (0, v3))]) (pc := 104) (daX11_differs_0 59 rfl) (Nat.le_of_ble_eq_true rfl) rfl ?_
      refine GM_iconst (pc := 106) 0 (daX11_differs_0 60 rfl) rfl (R32_b rfl) ?_
      refine GM_istore (L' := [(5, (0, 0)), (4, (0, 0)), (0, (3, v0)), (1, (0, v1)), (3, (0, v3))]) (pc := 107) (daX11_differs_0 61 rfl) (Nat.le_of_ble_eq_true rfl) rfl ?_
      refine GM_pick [2, 4, 1, 0] rfl ?_
      obtain ⟨x30, hqx30, h⟩ := Option.bind_eq_some_iff.mp h
      refine lop_ind (zX11_differs_109 l F v0 v3 μ29 0 0) (qX11_differs_109 l F v0 v3 μ29 0 0) FU _ x30 hqx30 ?_
      obtain ⟨v4_31, hqq⟩ : ∃ z, z = x30 := ⟨x30, rfl⟩
      subst hqq
      show GM l mX11_differs F 0 0 156 [(4, (0, v4_31))] [] μ29
      refine GM_iload (pc := 156) 0 rfl (daX11_differs_1 24 rfl) ?_
      cases h
      exact GM_iret (pc := 158) (daX11_differs_1 25 rfl) rfl hK
    · skip
      rw [if_pos c21] at h
      refine GM_iconst (pc := 18) (-1) (daX11_differs_0 10 rfl) rfl (R32_b rfl) ?_
      cases h
      exact GM_iret (pc := 19) (daX11_differs_0 11 rfl) rfl hK
theorem tX11_differs (l : Launch) {v0 v1 v2 v3 : Int} {μ : Mm} {t : (Int × Mm)} (h : fX11_differs v0 v1 v2 v3 μ = some t) : Ct l yX11_differs mX11_differs [(3, v0), (0, v1), (0, v2), (0, v3)] μ ([(0, t.1)], t.2, 0, 0) :=
  Ct_of (by decide +kernel) rfl rfl (Nat.le_of_ble_eq_true rfl) (fun _ _ _ => trivial) (gX11_differs_0 l h ⟨rfl, rfl⟩)
def mX11_climbs : MI := (RX11, cX11_climbs, 6, (some .boolean), "climbs", 3, 74, fun _ _ _ => True)
theorem cwX11_climbs : CWd yX11_climbs mX11_climbs 3 := ⟨ki_X11, kk_X11_climbs, ⟨by decide, by decide⟩, rfl⟩
def dtX11_climbs_0 : List (Nat × Instr × Nat) := [(0, .aload_n 0, 1), (1, .invokevirtual 339, 3), (4, .iconst 0, 1), (5, .istore 4, 2), (7, .iload 4, 2), (9, .aload_n 0, 1), (10, .iload_n 1, 1), (11, .invokevirtual 207, 3), (14, .if_icmp .ge 37, 3), (17, .aload_n 0, 1), (18, .getfield 53, 3), (21, .iload 4, 2), (23, .aload_n 0, 1), (24, .getfield 7, 3), (27, .iload_n 1, 1), (28, .bipush 6, 2), (30, .iadd, 1), (31, .iload 4, 2), (33, .iadd, 1), (34, .iaload, 1), (35, .iload_n 3, 1), (36, .if_icmp .ge 7, 3), (39, .iconst 1, 1), (40, .goto 4, 3), (43, .iconst 0, 1), (44, .bastore, 1), (45, .iinc 4 1, 3), (48, .goto (-41), 3), (51, .aload_n 0, 1), (52, .iload_n 2, 1), (53, .iconst 0, 1), (54, .invokevirtual 336, 3), (57, .aload_n 0, 1), (58, .iload_n 1, 1), (59, .sipush 999, 3), (62, .invokevirtual 342, 3), (65, .iconst 0, 1), (66, .istore 4, 2), (68, .iconst 0, 1), (69, .istore 5, 2), (71, .iload 5, 2), (73, .aload_n 0, 1), (74, .iload_n 1, 1), (75, .invokevirtual 207, 3), (78, .if_icmp .ge 57, 3), (81, .iload 4, 2), (83, .ifCond .ne 39, 3), (86, .aload_n 0, 1), (87, .getfield 47, 3), (90, .iload 5, 2), (92, .iaload, 1), (93, .ifCond .lt 33, 3), (96, .aload_n 0, 1), (97, .getfield 7, 3), (100, .iload_n 1, 1), (101, .bipush 6, 2), (103, .iadd, 1), (104, .iload 5, 2), (106, .iadd, 1), (107, .iaload, 1), (108, .aload_n 0, 1), (109, .getfield 7, 3), (112, .iload_n 1, 1), (113, .bipush 6, 2)]
theorem ddX11_climbs_0 : (dtX11_climbs_0.all fun e => decide (decode mX11_climbs.2.1 e.1 = .ok (e.2.1, e.2.2))) = true := by decide +kernel
theorem daX11_climbs_0 (j : Nat) {pc n : Nat} {i : Instr} (h : dtX11_climbs_0[j]? = some (pc, i, n)) : decode mX11_climbs.2.1 pc = .ok (i, n) := dec_of (c := mX11_climbs.2.1) ddX11_climbs_0 h
def dtX11_climbs_1 : List (Nat × Instr × Nat) := [(115, .iadd, 1), (116, .iload_n 2, 1), (117, .iadd, 1), (118, .iaload, 1), (119, .if_icmp .le 7, 3), (122, .iconst 1, 1), (123, .goto 4, 3), (126, .iconst 0, 1), (127, .istore 4, 2), (129, .iinc 5 1, 3), (132, .goto (-61), 3), (135, .iload 4, 2), (137, .ireturn, 1)]
theorem ddX11_climbs_1 : (dtX11_climbs_1.all fun e => decide (decode mX11_climbs.2.1 e.1 = .ok (e.2.1, e.2.2))) = true := by decide +kernel
theorem daX11_climbs_1 (j : Nat) {pc n : Nat} {i : Instr} (h : dtX11_climbs_1[j]? = some (pc, i, n)) : decode mX11_climbs.2.1 pc = .ok (i, n) := dec_of (c := mX11_climbs.2.1) ddX11_climbs_1 h
def zX11_climbs_7 (l : Launch) (F : FI) (v0 v1 v2 v3 : Int) (k n : Nat) : (Int × Mm) ⊕ Mm → Prop
  | .inl (v4, μ) => GM l mX11_climbs F k n 7 [(0, (3, v0)), (1, (0, v1)), (2, (0, v2)), (3, (0, v3)), (4, (0, v4))] [] μ
  | .inr μ => GM l mX11_climbs F k n 51 [(0, (3, v0)), (1, (0, v1)), (2, (0, v2))] [] μ
def sX11_climbs_7 (v0 v1 v2 v3 : Int) : (Int × Mm) → Option ((Int × Mm) ⊕ Mm) := fun (v4, μ) =>
  chk (KD v0 = 11) (
  (fX11_placesOf v0 v1 μ).bind fun r2 =>
  if r2 ≤ v4 then
    some (.inr μ)
  else
    chk (KD (μ v0 0) = 12 ∧ 0 ≤ w32 ((w32 (v1 + 6)) + v4) ∧ w32 ((w32 (v1 + 6)) + v4) < LN (μ v0 0)) (
    if v3 ≤ μ (μ v0 0) (w32 ((w32 (v1 + 6)) + v4)) then
      chk (KD (μ v0 28) = 14 ∧ 0 ≤ v4 ∧ v4 < LN (μ v0 28)) (
      lm (mst μ (μ v0 28) v4 0) fun μ7 =>
      some (.inl (w32 (v4 + 1), μ7)))
    else
      chk (KD (μ v0 28) = 14 ∧ 0 ≤ v4 ∧ v4 < LN (μ v0 28)) (
      lm (mst μ (μ v0 28) v4 1) fun μ9 =>
      some (.inl (w32 (v4 + 1), μ9)))))
def zX11_climbs_71 (l : Launch) (F : FI) (v0 v1 v2 : Int) (μ : Mm) (k n : Nat) : (Int × Int) ⊕ Int → Prop
  | .inl (v4, v5) => GM l mX11_climbs F k n 71 [(0, (3, v0)), (1, (0, v1)), (2, (0, v2)), (4, (0, v4)), (5, (0, v5))] [] μ
  | .inr v4 => GM l mX11_climbs F k n 135 [(4, (0, v4))] [] μ
def sX11_climbs_71 (v0 v1 v2 : Int) (μ : Mm) : (Int × Int) → Option ((Int × Int) ⊕ Int) := fun (v4, v5) =>
  chk (KD v0 = 11) (
  (fX11_placesOf v0 v1 μ).bind fun r11 =>
  if r11 ≤ v5 then
    some (.inr v4)
  else
    if v4 = 0 then
      chk (KD (μ v0 25) = 12 ∧ 0 ≤ v5 ∧ v5 < LN (μ v0 25)) (
      if μ (μ v0 25) v5 < 0 then
        some (.inl (0, w32 (v5 + 1)))
      else
        chk (KD (μ v0 0) = 12 ∧ 0 ≤ w32 ((w32 (v1 + 6)) + v5) ∧ w32 ((w32 (v1 + 6)) + v5) < LN (μ v0 0)) (
        chk (0 ≤ w32 ((w32 (v1 + 6)) + v2) ∧ w32 ((w32 (v1 + 6)) + v2) < LN (μ v0 0)) (
        if μ (μ v0 0) (w32 ((w32 (v1 + 6)) + v5)) ≤ μ (μ v0 0) (w32 ((w32 (v1 + 6)) + v2)) then
          some (.inl (0, w32 (v5 + 1)))
        else
          some (.inl (1, w32 (v5 + 1))))))
    else
      some (.inl (1, w32 (v5 + 1))))
def fX11_climbs (v0 v1 v2 v3 : Int) (μ : Mm) : Option (Int × Mm) :=
  chk (KD v0 = 11) (
  (fX11_noWay v0 μ).bind fun μ20 =>
  (lop (sX11_climbs_7 v0 v1 v2 v3) FU (0, μ20)).bind fun μ_22 =>
    (fX11_comes v0 v2 0 μ_22).bind fun μ23 =>
    (fX11_walks v0 v1 999 μ23).bind fun μ24 =>
    (lop (sX11_climbs_71 v0 v1 v2 μ24) FU (0, 0)).bind fun v4_26 =>
      chk ((v4_26 = 0 ∨ v4_26 = 1)) (
      some (v4_26, μ24)))
set_option maxRecDepth 20000 in
theorem qX11_climbs_7 (l : Launch) (F : FI) (v0 v1 v2 v3 : Int) (k n : Nat) : ∀ (q : (Int × Mm)) (t : ((Int × Mm) ⊕ Mm)), sX11_climbs_7 v0 v1 v2 v3 q = some t → zX11_climbs_7 l F v0 v1 v2 v3 k n t → zX11_climbs_7 l F v0 v1 v2 v3 k n (.inl q) := by
  intro q t h hK
  obtain ⟨v4, μ⟩ := q
  unfold sX11_climbs_7 at h
  try dsimp only at h
  show GM l mX11_climbs F k n 7 [(0, (3, v0)), (1, (0, v1)), (2, (0, v2)), (3, (0, v3)), (4, (0, v4))] [] μ
  refine GM_iload (pc := 7) 4 rfl (daX11_climbs_0 4 rfl) ?_
  refine GM_aload_n (pc := 9) 0 rfl (daX11_climbs_0 5 rfl) rfl ?_
  refine GM_iload_n (pc := 10) 1 rfl (daX11_climbs_0 6 rfl) rfl ?_
  obtain ⟨hc1, h⟩ := chk_inv h
  obtain ⟨r2, hf2, h⟩ := Option.bind_eq_some_iff.mp h
  refine GM_callV0 (pc := 11) [(0, v1)] (tX11_placesOf l hf2) cwX11_placesOf 11 (Nat.le_of_ble_eq_true rfl) rfl kv_X11_placesOf ke_X11_placesOf km_X11_207 hc1 ⟨Nat.le_of_ble_eq_true rfl, Nat.le_of_ble_eq_true rfl⟩ (Nat.le_of_ble_eq_true rfl) (Nat.le_of_ble_eq_true rfl) (daX11_climbs_0 7 rfl) ?_
  refine GM_icmp_ge (pc := 14) 51 (daX11_climbs_0 8 rfl) rfl (fun c3 => ?_) (fun c3 => ?_)
  · skip
    rw [if_pos c3] at h
    refine GM_pick [0, 1, 2] rfl ?_
    cases h
    exact hK
  · skip
    rw [if_neg c3] at h
    refine GM_aload_n (pc := 17) 0 rfl (daX11_climbs_0 9 rfl) rfl ?_
    refine GM_getf (pc := 18) 11 28 3 28 kf_X11_53 (Nat.le_of_ble_eq_true rfl) (Nat.le_of_ble_eq_true rfl) rfl (daX11_climbs_0 10 rfl) hc1 rfl ?_
    refine GM_iload (pc := 21) 4 rfl (daX11_climbs_0 11 rfl) ?_
    refine GM_aload_n (pc := 23) 0 rfl (daX11_climbs_0 12 rfl) rfl ?_
    refine GM_getf (pc := 24) 11 0 3 0 kf_X11_7 (Nat.le_of_ble_eq_true rfl) (Nat.le_of_ble_eq_true rfl) rfl (daX11_climbs_0 13 rfl) hc1 rfl ?_
    refine GM_iload_n (pc := 27) 1 rfl (daX11_climbs_0 14 rfl) rfl ?_
    refine GM_bipush (pc := 28) 6 (daX11_climbs_0 15 rfl) rfl (R32_b rfl) ?_
    refine GM_iadd (pc := 30) (daX11_climbs_0 16 rfl) ?_
    refine GM_iload (pc := 31) 4 rfl (daX11_climbs_0 17 rfl) ?_
    refine GM_iadd (pc := 33) (daX11_climbs_0 18 rfl) ?_
    obtain ⟨hc4, h⟩ := chk_inv h
    refine GM_iald (pc := 34) (daX11_climbs_0 19 rfl) hc4.1 hc4.2.1 hc4.2.2 ?_
    refine GM_iload_n (pc := 35) 3 rfl (daX11_climbs_0 20 rfl) rfl ?_
    refine GM_icmp_ge (pc := 36) 43 (daX11_climbs_0 21 rfl) rfl (fun c5 => ?_) (fun c5 => ?_)
    · skip
      rw [if_pos c5] at h
      refine GM_iconst (pc := 43) 0 (daX11_climbs_0 24 rfl) rfl (R32_b rfl) ?_
      obtain ⟨hc6, h⟩ := chk_inv h
      obtain ⟨μ7, hμ7, h⟩ := lm_inv h
      refine GM_zast (pc := 44) (daX11_climbs_0 25 rfl) hc6.1 hc6.2.1 hc6.2.2 (Or.inl rfl) ?_
      refine GM_mem hμ7 ?_
      refine GM_iinc (L' := [(4, (0, w32 (v4 + 1))), (0, (3, v0)), (1, (0, v1)), (2, (0, v2)), (3, (0, v3))]) (pc := 45) 4 rfl (daX11_climbs_0 26 rfl) (Nat.le_of_ble_eq_true rfl) rfl ?_
      refine GM_goto (pc := 48) 7 (daX11_climbs_0 27 rfl) rfl ?_
      refine GM_pick [1, 2, 3, 4, 0] rfl ?_
      cases h
      exact hK
    · skip
      rw [if_neg c5] at h
      refine GM_iconst (pc := 39) 1 (daX11_climbs_0 22 rfl) rfl (R32_b rfl) ?_
      refine GM_goto (pc := 40) 44 (daX11_climbs_0 23 rfl) rfl ?_
      obtain ⟨hc8, h⟩ := chk_inv h
      obtain ⟨μ9, hμ9, h⟩ := lm_inv h
      refine GM_zast (pc := 44) (daX11_climbs_0 25 rfl) hc8.1 hc8.2.1 hc8.2.2 (Or.inr rfl) ?_
      refine GM_mem hμ9 ?_
      refine GM_iinc (L' := [(4, (0, w32 (v4 + 1))), (0, (3, v0)), (1, (0, v1)), (2, (0, v2)), (3, (0, v3))]) (pc := 45) 4 rfl (daX11_climbs_0 26 rfl) (Nat.le_of_ble_eq_true rfl) rfl ?_
      refine GM_goto (pc := 48) 7 (daX11_climbs_0 27 rfl) rfl ?_
      refine GM_pick [1, 2, 3, 4, 0] rfl ?_
      cases h
      exact hK
set_option maxRecDepth 20000 in
theorem qX11_climbs_71 (l : Launch) (F : FI) (v0 v1 v2 : Int) (μ : Mm) (k n : Nat) : ∀ (q : (Int × Int)) (t : ((Int × Int) ⊕ Int)), sX11_climbs_71 v0 v1 v2 μ q = some t → zX11_climbs_71 l F v0 v1 v2 μ k n t → zX11_climbs_71 l F v0 v1 v2 μ k n (.inl q) := by
  intro q t h hK
  obtain ⟨v4, v5⟩ := q
  unfold sX11_climbs_71 at h
  try dsimp only at h
  show GM l mX11_climbs F k n 71 [(0, (3, v0)), (1, (0, v1)), (2, (0, v2)), (4, (0, v4)), (5, (0, v5))] [] μ
  refine GM_iload (pc := 71) 4 rfl (daX11_climbs_0 40 rfl) ?_
  refine GM_aload_n (pc := 73) 0 rfl (daX11_climbs_0 41 rfl) rfl ?_
  refine GM_iload_n (pc := 74) 1 rfl (daX11_climbs_0 42 rfl) rfl ?_
  obtain ⟨hc10, h⟩ := chk_inv h
  obtain ⟨r11, hf11, h⟩ := Option.bind_eq_some_iff.mp h
  refine GM_callV0 (pc := 75) [(0, v1)] (tX11_placesOf l hf11) cwX11_placesOf 11 (Nat.le_of_ble_eq_true rfl) rfl kv_X11_placesOf ke_X11_placesOf km_X11_207 hc10 ⟨Nat.le_of_ble_eq_true rfl, Nat.le_of_ble_eq_true rfl⟩ (Nat.le_of_ble_eq_true rfl) (Nat.le_of_ble_eq_true rfl) (daX11_climbs_0 43 rfl) ?_
  refine GM_icmp_ge (pc := 78) 135 (daX11_climbs_0 44 rfl) rfl (fun c12 => ?_) (fun c12 => ?_)
  · skip
    rw [if_pos c12] at h
    refine GM_pick [3] rfl ?_
    cases h
    exact hK
  · skip
    rw [if_neg c12] at h
    refine GM_iload (pc := 81) 3 rfl (daX11_climbs_0 45 rfl) ?_
    refine GM_if_ne (pc := 83) 122 (daX11_climbs_0 46 rfl) rfl (fun c13 => ?_) (fun c13 => ?_)
    · skip
      rw [if_neg c13] at h
      refine GM_iconst (pc := 122) 1 (daX11_climbs_1 5 rfl) rfl (R32_b rfl) ?_
      refine GM_goto (pc := 123) 127 (daX11_climbs_1 6 rfl) rfl ?_
      refine GM_istore (L' := [(4, (0, 1)), (0, (3, v0)), (1, (0, v1)), (2, (0, v2)), (5, (0, v5))]) (pc := 127) (daX11_climbs_1 8 rfl) (Nat.le_of_ble_eq_true rfl) rfl ?_
      refine GM_iinc (L' := [(5, (0, w32 (v5 + 1))), (4, (0, 1)), (0, (3, v0)), (1, (0, v1)), (2, (0, v2))]) (pc := 129) 4 rfl (daX11_climbs_1 9 rfl) (Nat.le_of_ble_eq_true rfl) rfl ?_
      refine GM_goto (pc := 132) 71 (daX11_climbs_1 10 rfl) rfl ?_
      refine GM_pick [2, 3, 4, 1, 0] rfl ?_
      cases h
      exact hK
    · skip
      rw [if_pos c13] at h
      refine GM_aload_n (pc := 86) 0 rfl (daX11_climbs_0 47 rfl) rfl ?_
      refine GM_getf (pc := 87) 11 25 3 25 kf_X11_47 (Nat.le_of_ble_eq_true rfl) (Nat.le_of_ble_eq_true rfl) rfl (daX11_climbs_0 48 rfl) hc10 rfl ?_
      refine GM_iload (pc := 90) 4 rfl (daX11_climbs_0 49 rfl) ?_
      obtain ⟨hc14, h⟩ := chk_inv h
      refine GM_iald (pc := 92) (daX11_climbs_0 50 rfl) hc14.1 hc14.2.1 hc14.2.2 ?_
      refine GM_if_lt (pc := 93) 126 (daX11_climbs_0 51 rfl) rfl (fun c15 => ?_) (fun c15 => ?_)
      · skip
        rw [if_pos c15] at h
        refine GM_iconst (pc := 126) 0 (daX11_climbs_1 7 rfl) rfl (R32_b rfl) ?_
        refine GM_istore (L' := [(4, (0, 0)), (0, (3, v0)), (1, (0, v1)), (2, (0, v2)), (5, (0, v5))]) (pc := 127) (daX11_climbs_1 8 rfl) (Nat.le_of_ble_eq_true rfl) rfl ?_
        refine GM_iinc (L' := [(5, (0, w32 (v5 + 1))), (4, (0, 0)), (0, (3, v0)), (1, (0, v1)), (2, (0, v2))]) (pc := 129) 4 rfl (daX11_climbs_1 9 rfl) (Nat.le_of_ble_eq_true rfl) rfl ?_
        refine GM_goto (pc := 132) 71 (daX11_climbs_1 10 rfl) rfl ?_
        refine GM_pick [2, 3, 4, 1, 0] rfl ?_
        cases h
        exact hK
      · skip
        rw [if_neg c15] at h
        refine GM_aload_n (pc := 96) 0 rfl (daX11_climbs_0 52 rfl) rfl ?_
        refine GM_getf (pc := 97) 11 0 3 0 kf_X11_7 (Nat.le_of_ble_eq_true rfl) (Nat.le_of_ble_eq_true rfl) rfl (daX11_climbs_0 53 rfl) hc10 rfl ?_
        refine GM_iload_n (pc := 100) 1 rfl (daX11_climbs_0 54 rfl) rfl ?_
        refine GM_bipush (pc := 101) 6 (daX11_climbs_0 55 rfl) rfl (R32_b rfl) ?_
        refine GM_iadd (pc := 103) (daX11_climbs_0 56 rfl) ?_
        refine GM_iload (pc := 104) 4 rfl (daX11_climbs_0 57 rfl) ?_
        refine GM_iadd (pc := 106) (daX11_climbs_0 58 rfl) ?_
        obtain ⟨hc16, h⟩ := chk_inv h
        refine GM_iald (pc := 107) (daX11_climbs_0 59 rfl) hc16.1 hc16.2.1 hc16.2.2 ?_
        refine GM_aload_n (pc := 108) 0 rfl (daX11_climbs_0 60 rfl) rfl ?_
        refine GM_getf (pc := 109) 11 0 3 0 kf_X11_7 (Nat.le_of_ble_eq_true rfl) (Nat.le_of_ble_eq_true rfl) rfl (daX11_climbs_0 61 rfl) hc10 rfl ?_
        refine GM_iload_n (pc := 112) 1 rfl (daX11_climbs_0 62 rfl) rfl ?_
        refine GM_bipush (pc := 113) 6 (daX11_climbs_0 63 rfl) rfl (R32_b rfl) ?_
        refine GM_iadd (pc := 115) (daX11_climbs_1 0 rfl) ?_
        refine GM_iload_n (pc := 116) 2 rfl (daX11_climbs_1 1 rfl) rfl ?_
        refine GM_iadd (pc := 117) (daX11_climbs_1 2 rfl) ?_
        obtain ⟨hc17, h⟩ := chk_inv h
        refine GM_iald (pc := 118) (daX11_climbs_1 3 rfl) hc16.1 hc17.1 hc17.2 ?_
        refine GM_icmp_le (pc := 119) 126 (daX11_climbs_1 4 rfl) rfl (fun c18 => ?_) (fun c18 => ?_)
        · skip
          rw [if_pos c18] at h
          refine GM_iconst (pc := 126) 0 (daX11_climbs_1 7 rfl) rfl (R32_b rfl) ?_
          refine GM_istore (L' := [(4, (0, 0)), (0, (3, v0)), (1, (0, v1)), (2, (0, v2)), (5, (0, v5))]) (pc := 127) (daX11_climbs_1 8 rfl) (Nat.le_of_ble_eq_true rfl) rfl ?_
          refine GM_iinc (L' := [(5, (0, w32 (v5 + 1))), (4, (0, 0)), (0, (3, v0)), (1, (0, v1)), (2, (0, v2))]) (pc := 129) 4 rfl (daX11_climbs_1 9 rfl) (Nat.le_of_ble_eq_true rfl) rfl ?_
          refine GM_goto (pc := 132) 71 (daX11_climbs_1 10 rfl) rfl ?_
          refine GM_pick [2, 3, 4, 1, 0] rfl ?_
          cases h
          exact hK
        · skip
          rw [if_neg c18] at h
          refine GM_iconst (pc := 122) 1 (daX11_climbs_1 5 rfl) rfl (R32_b rfl) ?_
          refine GM_goto (pc := 123) 127 (daX11_climbs_1 6 rfl) rfl ?_
          refine GM_istore (L' := [(4, (0, 1)), (0, (3, v0)), (1, (0, v1)), (2, (0, v2)), (5, (0, v5))]) (pc := 127) (daX11_climbs_1 8 rfl) (Nat.le_of_ble_eq_true rfl) rfl ?_
          refine GM_iinc (L' := [(5, (0, w32 (v5 + 1))), (4, (0, 1)), (0, (3, v0)), (1, (0, v1)), (2, (0, v2))]) (pc := 129) 4 rfl (daX11_climbs_1 9 rfl) (Nat.le_of_ble_eq_true rfl) rfl ?_
          refine GM_goto (pc := 132) 71 (daX11_climbs_1 10 rfl) rfl ?_
          refine GM_pick [2, 3, 4, 1, 0] rfl ?_
          cases h
          exact hK
set_option maxRecDepth 20000 in
theorem gX11_climbs_0 (l : Launch) {F : FI} {v0 v1 v2 v3 : Int} {μ : Mm} {t : (Int × Mm)} (h : fX11_climbs v0 v1 v2 v3 μ = some t) (hK : F.1 = [(0, t.1)] ∧ F.2.1 = t.2) : GM l mX11_climbs F 0 0 0 [(0, (3, v0)), (1, (0, v1)), (2, (0, v2)), (3, (0, v3))] [] μ := by
  unfold fX11_climbs at h
  refine GM_aload_n (pc := 0) 0 rfl (daX11_climbs_0 0 rfl) rfl ?_
  obtain ⟨hc19, h⟩ := chk_inv h
  obtain ⟨μ20, hf20, h⟩ := Option.bind_eq_some_iff.mp h
  refine GM_callV0 (pc := 1) [] (tX11_noWay l hf20) cwX11_noWay 11 (Nat.le_of_ble_eq_true rfl) rfl kv_X11_noWay ke_X11_noWay km_X11_339 hc19 ⟨Nat.le_of_ble_eq_true rfl, Nat.le_of_ble_eq_true rfl⟩ (Nat.le_of_ble_eq_true rfl) (Nat.le_of_ble_eq_true rfl) (daX11_climbs_0 1 rfl) ?_
  refine GM_iconst (pc := 4) 0 (daX11_climbs_0 2 rfl) rfl (R32_b rfl) ?_
  refine GM_istore (L' := [(4, (0, 0)), (0, (3, v0)), (1, (0, v1)), (2, (0, v2)), (3, (0, v3))]) (pc := 5) (daX11_climbs_0 3 rfl) (Nat.le_of_ble_eq_true rfl) rfl ?_
  refine GM_pick [1, 2, 3, 4, 0] rfl ?_
  obtain ⟨x21, hqx21, h⟩ := Option.bind_eq_some_iff.mp h
  refine lop_ind (zX11_climbs_7 l F v0 v1 v2 v3 0 0) (qX11_climbs_7 l F v0 v1 v2 v3 0 0) FU _ x21 hqx21 ?_
  obtain ⟨μ_22, hqq⟩ : ∃ z, z = x21 := ⟨x21, rfl⟩
  subst hqq
  show GM l mX11_climbs F 0 0 51 [(0, (3, v0)), (1, (0, v1)), (2, (0, v2))] [] μ_22
  refine GM_aload_n (pc := 51) 0 rfl (daX11_climbs_0 28 rfl) rfl ?_
  refine GM_iload_n (pc := 52) 2 rfl (daX11_climbs_0 29 rfl) rfl ?_
  refine GM_iconst (pc := 53) 0 (daX11_climbs_0 30 rfl) rfl (R32_b rfl) ?_
  obtain ⟨μ23, hf23, h⟩ := Option.bind_eq_some_iff.mp h
  refine GM_callV0 (pc := 54) [(0, v2), (0, 0)] (tX11_comes l hf23) cwX11_comes 11 (Nat.le_of_ble_eq_true rfl) rfl kv_X11_comes ke_X11_comes km_X11_336 hc19 ⟨Nat.le_of_ble_eq_true rfl, Nat.le_of_ble_eq_true rfl⟩ (Nat.le_of_ble_eq_true rfl) (Nat.le_of_ble_eq_true rfl) (daX11_climbs_0 31 rfl) ?_
  refine GM_aload_n (pc := 57) 0 rfl (daX11_climbs_0 32 rfl) rfl ?_
  refine GM_iload_n (pc := 58) 1 rfl (daX11_climbs_0 33 rfl) rfl ?_
  refine GM_sipush (pc := 59) 999 (daX11_climbs_0 34 rfl) rfl (R32_b rfl) ?_
  obtain ⟨μ24, hf24, h⟩ := Option.bind_eq_some_iff.mp h
  refine GM_callV0 (pc := 62) [(0, v1), (0, 999)] (tX11_walks l hf24) cwX11_walks 11 (Nat.le_of_ble_eq_true rfl) rfl kv_X11_walks ke_X11_walks km_X11_342 hc19 ⟨Nat.le_of_ble_eq_true rfl, Nat.le_of_ble_eq_true rfl⟩ (Nat.le_of_ble_eq_true rfl) (Nat.le_of_ble_eq_true rfl) (daX11_climbs_0 35 rfl) ?_
  refine GM_iconst (pc := 65) 0 (daX11_climbs_0 36 rfl) rfl (R32_b rfl) ?_
  refine GM_istore (L' := [(4, (0, 0)), (0, (3, v0)), (1, (0, v1)), (2, (0, v2))]) (pc := 66) (daX11_climbs_0 37 rfl) (Nat.le_of_ble_eq_true rfl) rfl ?_
  refine GM_iconst (pc := 68) 0 (daX11_climbs_0 38 rfl) rfl (R32_b rfl) ?_
  refine GM_istore (L' := [(5, (0, 0)), (4, (0, 0)), (0, (3, v0)), (1, (0, v1)), (2, (0, v2))]) (pc := 69) (daX11_climbs_0 39 rfl) (Nat.le_of_ble_eq_true rfl) rfl ?_
  refine GM_pick [2, 3, 4, 1, 0] rfl ?_
  obtain ⟨x25, hqx25, h⟩ := Option.bind_eq_some_iff.mp h
  refine lop_ind (zX11_climbs_71 l F v0 v1 v2 μ24 0 0) (qX11_climbs_71 l F v0 v1 v2 μ24 0 0) FU _ x25 hqx25 ?_
  obtain ⟨v4_26, hqq⟩ : ∃ z, z = x25 := ⟨x25, rfl⟩
  subst hqq
  show GM l mX11_climbs F 0 0 135 [(4, (0, v4_26))] [] μ24
  refine GM_iload (pc := 135) 0 rfl (daX11_climbs_1 11 rfl) ?_
  obtain ⟨hc27, h⟩ := chk_inv h
  cases h
  exact GM_zret (pc := 137) (daX11_climbs_1 12 rfl) rfl hc27 hK
theorem tX11_climbs (l : Launch) {v0 v1 v2 v3 : Int} {μ : Mm} {t : (Int × Mm)} (h : fX11_climbs v0 v1 v2 v3 μ = some t) : Ct l yX11_climbs mX11_climbs [(3, v0), (0, v1), (0, v2), (0, v3)] μ ([(0, t.1)], t.2, 0, 0) :=
  Ct_of (by decide +kernel) rfl rfl (Nat.le_of_ble_eq_true rfl) (fun _ _ _ => trivial) (gX11_climbs_0 l h ⟨rfl, rfl⟩)
def mX11_proud : MI := (RX11, cX11_proud, 6, (some .int), "proud", 4, 99, fun _ _ _ => True)
theorem cwX11_proud : CWd yX11_proud mX11_proud 2 := ⟨ki_X11, kk_X11_proud, ⟨by decide, by decide⟩, rfl⟩
def dtX11_proud_0 : List (Nat × Instr × Nat) := [(0, .aload_n 0, 1), (1, .iload_n 1, 1), (2, .iload_n 2, 1), (3, .invokevirtual 210, 3), (6, .ifCond .ne 5, 3), (9, .iconst (-1), 1), (10, .ireturn, 1), (11, .iconst 0, 1), (12, .iload_n 1, 1), (13, .invokestatic 204, 3), (16, .istore_n 3, 1), (17, .aload_n 0, 1), (18, .getfield 7, 3), (21, .iload_n 3, 1), (22, .bipush 6, 2), (24, .iadd, 1), (25, .iload_n 2, 1), (26, .iadd, 1), (27, .iaload, 1), (28, .istore 4, 2), (30, .iload 4, 2), (32, .istore 5, 2), (34, .iload 5, 2), (36, .ifCond .lt 26, 3), (39, .aload_n 0, 1), (40, .iload_n 3, 1), (41, .iload_n 2, 1), (42, .iload 5, 2), (44, .invokevirtual 378, 3), (47, .ifCond .eq 9, 3), (50, .iload 4, 2), (52, .iload 5, 2), (54, .isub, 1), (55, .ireturn, 1), (56, .iinc 5 (-1), 3), (59, .goto (-25), 3), (62, .iload 4, 2), (64, .ireturn, 1)]
theorem ddX11_proud_0 : (dtX11_proud_0.all fun e => decide (decode mX11_proud.2.1 e.1 = .ok (e.2.1, e.2.2))) = true := by decide +kernel
theorem daX11_proud_0 (j : Nat) {pc n : Nat} {i : Instr} (h : dtX11_proud_0[j]? = some (pc, i, n)) : decode mX11_proud.2.1 pc = .ok (i, n) := dec_of (c := mX11_proud.2.1) ddX11_proud_0 h
def zX11_proud_34 (l : Launch) (F : FI) (v0 v2 v3 v4 : Int) (k n : Nat) : (Int × Mm) ⊕ (Mm ⊕ (Int × Mm)) → Prop
  | .inl (v5, μ) => GM l mX11_proud F k n 34 [(0, (3, v0)), (2, (0, v2)), (3, (0, v3)), (4, (0, v4)), (5, (0, v5))] [] μ
  | .inr (.inl μ) => GM l mX11_proud F k n 62 [(4, (0, v4))] [] μ
  | .inr (.inr (v5, μ)) => GM l mX11_proud F k n 50 [(4, (0, v4)), (5, (0, v5))] [] μ
def sX11_proud_34 (v0 v2 v3 v4 : Int) : (Int × Mm) → Option ((Int × Mm) ⊕ (Mm ⊕ (Int × Mm))) := fun (v5, μ) =>
  if v5 < 0 then
    some (.inr (.inl μ))
  else
    chk (KD v0 = 11) (
    (fX11_climbs v0 v3 v2 v5 μ).bind fun (r3, μ3) =>
    if r3 = 0 then
      some (.inl (w32 (v5 + (-1)), μ3))
    else
      some (.inr (.inr (v5, μ3))))
def fX11_proud (v0 v1 v2 : Int) (μ : Mm) : Option (Int × Mm) :=
  chk (KD v0 = 11) (
  (fX11_isPlace v0 v1 v2 μ).bind fun r6 =>
  if r6 = 0 then
    some ((-1), μ)
  else
    (fX11_placeOf 0 v1).bind fun r8 =>
    chk (KD (μ v0 0) = 12 ∧ 0 ≤ w32 ((w32 (r8 + 6)) + v2) ∧ w32 ((w32 (r8 + 6)) + v2) < LN (μ v0 0)) (
    lt (μ (μ v0 0) (w32 ((w32 (r8 + 6)) + v2))) fun y10 =>
    (lop (sX11_proud_34 v0 v2 r8 y10) FU (y10, μ)).bind fun x11 =>
      match x11 with
      | (.inl μ_12) =>
          some (y10, μ_12)
      | (.inr (v5_13, μ_13)) =>
          some (w32 (y10 - v5_13), μ_13)))
set_option maxRecDepth 20000 in
theorem qX11_proud_34 (l : Launch) (F : FI) (v0 v2 v3 v4 : Int) (k n : Nat) : ∀ (q : (Int × Mm)) (t : ((Int × Mm) ⊕ (Mm ⊕ (Int × Mm)))), sX11_proud_34 v0 v2 v3 v4 q = some t → zX11_proud_34 l F v0 v2 v3 v4 k n t → zX11_proud_34 l F v0 v2 v3 v4 k n (.inl q) := by
  intro q t h hK
  obtain ⟨v5, μ⟩ := q
  unfold sX11_proud_34 at h
  try dsimp only at h
  show GM l mX11_proud F k n 34 [(0, (3, v0)), (2, (0, v2)), (3, (0, v3)), (4, (0, v4)), (5, (0, v5))] [] μ
  refine GM_iload (pc := 34) 4 rfl (daX11_proud_0 22 rfl) ?_
  refine GM_if_lt (pc := 36) 62 (daX11_proud_0 23 rfl) rfl (fun c1 => ?_) (fun c1 => ?_)
  · skip
    rw [if_pos c1] at h
    refine GM_pick [3] rfl ?_
    cases h
    exact hK
  · skip
    rw [if_neg c1] at h
    refine GM_aload_n (pc := 39) 0 rfl (daX11_proud_0 24 rfl) rfl ?_
    refine GM_iload_n (pc := 40) 2 rfl (daX11_proud_0 25 rfl) rfl ?_
    refine GM_iload_n (pc := 41) 1 rfl (daX11_proud_0 26 rfl) rfl ?_
    refine GM_iload (pc := 42) 4 rfl (daX11_proud_0 27 rfl) ?_
    obtain ⟨hc2, h⟩ := chk_inv h
    obtain ⟨⟨r3, μ3⟩, hf3, h⟩ := Option.bind_eq_some_iff.mp h
    dsimp only at h
    refine GM_callV0 (pc := 44) [(0, v3), (0, v2), (0, v5)] (tX11_climbs l hf3) cwX11_climbs 11 (Nat.le_of_ble_eq_true rfl) rfl kv_X11_climbs ke_X11_climbs km_X11_378 hc2 ⟨Nat.le_of_ble_eq_true rfl, Nat.le_of_ble_eq_true rfl⟩ (Nat.le_of_ble_eq_true rfl) (Nat.le_of_ble_eq_true rfl) (daX11_proud_0 28 rfl) ?_
    refine GM_if_eq (pc := 47) 56 (daX11_proud_0 29 rfl) rfl (fun c4 => ?_) (fun c4 => ?_)
    · skip
      rw [if_pos c4] at h
      refine GM_iinc (L' := [(5, (0, w32 (v5 + (-1)))), (0, (3, v0)), (2, (0, v2)), (3, (0, v3)), (4, (0, v4))]) (pc := 56) 4 rfl (daX11_proud_0 34 rfl) (Nat.le_of_ble_eq_true rfl) rfl ?_
      refine GM_goto (pc := 59) 34 (daX11_proud_0 35 rfl) rfl ?_
      refine GM_pick [1, 2, 3, 4, 0] rfl ?_
      cases h
      exact hK
    · skip
      rw [if_neg c4] at h
      refine GM_pick [3, 4] rfl ?_
      cases h
      exact hK
set_option maxRecDepth 20000 in
theorem gX11_proud_0 (l : Launch) {F : FI} {v0 v1 v2 : Int} {μ : Mm} {t : (Int × Mm)} (h : fX11_proud v0 v1 v2 μ = some t) (hK : F.1 = [(0, t.1)] ∧ F.2.1 = t.2) : GM l mX11_proud F 0 0 0 [(0, (3, v0)), (1, (0, v1)), (2, (0, v2))] [] μ := by
  unfold fX11_proud at h
  refine GM_aload_n (pc := 0) 0 rfl (daX11_proud_0 0 rfl) rfl ?_
  refine GM_iload_n (pc := 1) 1 rfl (daX11_proud_0 1 rfl) rfl ?_
  refine GM_iload_n (pc := 2) 2 rfl (daX11_proud_0 2 rfl) rfl ?_
  obtain ⟨hc5, h⟩ := chk_inv h
  obtain ⟨r6, hf6, h⟩ := Option.bind_eq_some_iff.mp h
  refine GM_callV0 (pc := 3) [(0, v1), (0, v2)] (tX11_isPlace l hf6) cwX11_isPlace 11 (Nat.le_of_ble_eq_true rfl) rfl kv_X11_isPlace ke_X11_isPlace km_X11_210 hc5 ⟨Nat.le_of_ble_eq_true rfl, Nat.le_of_ble_eq_true rfl⟩ (Nat.le_of_ble_eq_true rfl) (Nat.le_of_ble_eq_true rfl) (daX11_proud_0 3 rfl) ?_
  refine GM_if_ne (pc := 6) 11 (daX11_proud_0 4 rfl) rfl (fun c7 => ?_) (fun c7 => ?_)
  · skip
    rw [if_neg c7] at h
    refine GM_iconst (pc := 11) 0 (daX11_proud_0 7 rfl) rfl (R32_b rfl) ?_
    refine GM_iload_n (pc := 12) 1 rfl (daX11_proud_0 8 rfl) rfl ?_
    obtain ⟨r8, hf8, h⟩ := Option.bind_eq_some_iff.mp h
    refine GM_callS0 (pc := 13) [(0, 0), (0, v1)] (tX11_placeOf l hf8) cwX11_placeOf ks_X11_placeOf km_X11_204 ⟨Nat.le_of_ble_eq_true rfl, Nat.le_of_ble_eq_true rfl⟩ (Nat.le_of_ble_eq_true rfl) (Nat.le_of_ble_eq_true rfl) (daX11_proud_0 9 rfl) ?_
    refine GM_istore_n (L' := [(3, (0, r8)), (0, (3, v0)), (1, (0, v1)), (2, (0, v2))]) (pc := 16) (daX11_proud_0 10 rfl) rfl (Nat.le_of_ble_eq_true rfl) rfl ?_
    refine GM_aload_n (pc := 17) 1 rfl (daX11_proud_0 11 rfl) rfl ?_
    refine GM_getf (pc := 18) 11 0 3 0 kf_X11_7 (Nat.le_of_ble_eq_true rfl) (Nat.le_of_ble_eq_true rfl) rfl (daX11_proud_0 12 rfl) hc5 rfl ?_
    refine GM_iload_n (pc := 21) 0 rfl (daX11_proud_0 13 rfl) rfl ?_
    refine GM_bipush (pc := 22) 6 (daX11_proud_0 14 rfl) rfl (R32_b rfl) ?_
    refine GM_iadd (pc := 24) (daX11_proud_0 15 rfl) ?_
    refine GM_iload_n (pc := 25) 3 rfl (daX11_proud_0 16 rfl) rfl ?_
    refine GM_iadd (pc := 26) (daX11_proud_0 17 rfl) ?_
    obtain ⟨hc9, h⟩ := chk_inv h
    refine GM_iald (pc := 27) (daX11_proud_0 18 rfl) hc9.1 hc9.2.1 hc9.2.2 ?_
    obtain ⟨y10, hy10, h⟩ := lt_inv h
    refine GM_top hy10 ?_
    refine GM_istore (L' := [(4, (0, y10)), (3, (0, r8)), (0, (3, v0)), (1, (0, v1)), (2, (0, v2))]) (pc := 28) (daX11_proud_0 19 rfl) (Nat.le_of_ble_eq_true rfl) rfl ?_
    refine GM_iload (pc := 30) 0 rfl (daX11_proud_0 20 rfl) ?_
    refine GM_istore (L' := [(5, (0, y10)), (4, (0, y10)), (3, (0, r8)), (0, (3, v0)), (1, (0, v1)), (2, (0, v2))]) (pc := 32) (daX11_proud_0 21 rfl) (Nat.le_of_ble_eq_true rfl) rfl ?_
    refine GM_pick [3, 5, 2, 1, 0] rfl ?_
    obtain ⟨x11, hqx11, h⟩ := Option.bind_eq_some_iff.mp h
    refine lop_ind (zX11_proud_34 l F v0 v2 r8 y10 0 0) (qX11_proud_34 l F v0 v2 r8 y10 0 0) FU _ x11 hqx11 ?_
    rcases x11 with μ_12 | ⟨v5_13, μ_13⟩
    · dsimp only at h
      show GM l mX11_proud F 0 0 62 [(4, (0, y10))] [] μ_12
      refine GM_iload (pc := 62) 0 rfl (daX11_proud_0 36 rfl) ?_
      cases h
      exact GM_iret (pc := 64) (daX11_proud_0 37 rfl) rfl hK
    · dsimp only at h
      show GM l mX11_proud F 0 0 50 [(4, (0, y10)), (5, (0, v5_13))] [] μ_13
      refine GM_iload (pc := 50) 0 rfl (daX11_proud_0 30 rfl) ?_
      refine GM_iload (pc := 52) 1 rfl (daX11_proud_0 31 rfl) ?_
      refine GM_isub (pc := 54) (daX11_proud_0 32 rfl) ?_
      cases h
      exact GM_iret (pc := 55) (daX11_proud_0 33 rfl) rfl hK
  · skip
    rw [if_pos c7] at h
    refine GM_iconst (pc := 9) (-1) (daX11_proud_0 5 rfl) rfl (R32_b rfl) ?_
    cases h
    exact GM_iret (pc := 10) (daX11_proud_0 6 rfl) rfl hK
theorem tX11_proud (l : Launch) {v0 v1 v2 : Int} {μ : Mm} {t : (Int × Mm)} (h : fX11_proud v0 v1 v2 μ = some t) : Ct l yX11_proud mX11_proud [(3, v0), (0, v1), (0, v2)] μ ([(0, t.1)], t.2, 0, 0) :=
  Ct_of (by decide +kernel) rfl rfl (Nat.le_of_ble_eq_true rfl) (fun _ _ _ => trivial) (gX11_proud_0 l h ⟨rfl, rfl⟩)
def mX11_peaks : MI := (RX11, cX11_peaks, 8, (some .int), "peaks", 2, 47, fun _ _ _ => True)
theorem cwX11_peaks : CWd yX11_peaks mX11_peaks 1 := ⟨ki_X11, kk_X11_peaks, ⟨by decide, by decide⟩, rfl⟩
def dtX11_peaks_0 : List (Nat × Instr × Nat) := [(0, .aload_n 0, 1), (1, .iconst 0, 1), (2, .iload_n 1, 1), (3, .invokevirtual 182, 3), (6, .ifCond .ne 5, 3), (9, .iconst (-1), 1), (10, .ireturn, 1), (11, .iconst 0, 1), (12, .iload_n 1, 1), (13, .invokestatic 204, 3), (16, .istore_n 2, 1), (17, .iconst 0, 1), (18, .istore_n 3, 1), (19, .iconst 0, 1), (20, .istore 4, 2), (22, .iload 4, 2), (24, .aload_n 0, 1), (25, .iload_n 2, 1), (26, .invokevirtual 207, 3), (29, .if_icmp .ge 95, 3), (32, .iconst 1, 1), (33, .istore 5, 2), (35, .iconst 0, 1), (36, .istore 6, 2), (38, .iload 6, 2), (40, .iconst 4, 1), (41, .if_icmp .ge 64, 3), (44, .aload_n 0, 1), (45, .iload_n 2, 1), (46, .iload 4, 2), (48, .iload 6, 2), (50, .invokevirtual 333, 3), (53, .istore 7, 2), (55, .iload 5, 2), (57, .ifCond .eq 39, 3), (60, .iload 7, 2), (62, .ifCond .lt 30, 3), (65, .aload_n 0, 1), (66, .getfield 7, 3), (69, .iload_n 2, 1), (70, .bipush 6, 2), (72, .iadd, 1), (73, .iload 7, 2), (75, .iadd, 1), (76, .iaload, 1), (77, .aload_n 0, 1), (78, .getfield 7, 3), (81, .iload_n 2, 1), (82, .bipush 6, 2), (84, .iadd, 1), (85, .iload 4, 2), (87, .iadd, 1), (88, .iaload, 1), (89, .if_icmp .ge 7, 3), (92, .iconst 1, 1), (93, .goto 4, 3), (96, .iconst 0, 1), (97, .istore 5, 2), (99, .iinc 6 1, 3), (102, .goto (-64), 3), (105, .iload_n 3, 1), (106, .iload 5, 2), (108, .ifCond .eq 7, 3), (111, .iconst 1, 1)]
theorem ddX11_peaks_0 : (dtX11_peaks_0.all fun e => decide (decode mX11_peaks.2.1 e.1 = .ok (e.2.1, e.2.2))) = true := by decide +kernel
theorem daX11_peaks_0 (j : Nat) {pc n : Nat} {i : Instr} (h : dtX11_peaks_0[j]? = some (pc, i, n)) : decode mX11_peaks.2.1 pc = .ok (i, n) := dec_of (c := mX11_peaks.2.1) ddX11_peaks_0 h
def dtX11_peaks_1 : List (Nat × Instr × Nat) := [(112, .goto 4, 3), (115, .iconst 0, 1), (116, .iadd, 1), (117, .istore_n 3, 1), (118, .iinc 4 1, 3), (121, .goto (-99), 3), (124, .iload_n 3, 1), (125, .ireturn, 1)]
theorem ddX11_peaks_1 : (dtX11_peaks_1.all fun e => decide (decode mX11_peaks.2.1 e.1 = .ok (e.2.1, e.2.2))) = true := by decide +kernel
theorem daX11_peaks_1 (j : Nat) {pc n : Nat} {i : Instr} (h : dtX11_peaks_1[j]? = some (pc, i, n)) : decode mX11_peaks.2.1 pc = .ok (i, n) := dec_of (c := mX11_peaks.2.1) ddX11_peaks_1 h
def zX11_peaks_38 (l : Launch) (F : FI) (v0 v2 v3 v4 : Int) (μ : Mm) (k n : Nat) : (Int × Int) ⊕ Int → Prop
  | .inl (v5, v6) => GM l mX11_peaks F k n 38 [(0, (3, v0)), (2, (0, v2)), (3, (0, v3)), (4, (0, v4)), (5, (0, v5)), (6, (0, v6))] [] μ
  | .inr v5 => GM l mX11_peaks F k n 105 [(0, (3, v0)), (2, (0, v2)), (3, (0, v3)), (4, (0, v4)), (5, (0, v5))] [] μ
def sX11_peaks_38 (v0 v2 v3 v4 : Int) (μ : Mm) : (Int × Int) → Option ((Int × Int) ⊕ Int) := fun (v5, v6) =>
  if 4 ≤ v6 then
    some (.inr v5)
  else
    chk (KD v0 = 11) (
    (fX11_beside v0 v2 v4 v6 μ).bind fun r3 =>
    if v5 = 0 then
      some (.inl (0, w32 (v6 + 1)))
    else
      if r3 < 0 then
        some (.inl (1, w32 (v6 + 1)))
      else
        chk (KD (μ v0 0) = 12 ∧ 0 ≤ w32 ((w32 (v2 + 6)) + r3) ∧ w32 ((w32 (v2 + 6)) + r3) < LN (μ v0 0)) (
        chk (0 ≤ w32 ((w32 (v2 + 6)) + v4) ∧ w32 ((w32 (v2 + 6)) + v4) < LN (μ v0 0)) (
        if μ (μ v0 0) (w32 ((w32 (v2 + 6)) + v4)) ≤ μ (μ v0 0) (w32 ((w32 (v2 + 6)) + r3)) then
          some (.inl (0, w32 (v6 + 1)))
        else
          some (.inl (1, w32 (v6 + 1))))))
def zX11_peaks_22 (l : Launch) (F : FI) (v0 v2 : Int) (μ : Mm) (k n : Nat) : (Int × Int) ⊕ Int → Prop
  | .inl (v3, v4) => GM l mX11_peaks F k n 22 [(0, (3, v0)), (2, (0, v2)), (3, (0, v3)), (4, (0, v4))] [] μ
  | .inr v3 => GM l mX11_peaks F k n 124 [(3, (0, v3))] [] μ
def sX11_peaks_22 (v0 v2 : Int) (μ : Mm) : (Int × Int) → Option ((Int × Int) ⊕ Int) := fun (v3, v4) =>
  chk (KD v0 = 11) (
  (fX11_placesOf v0 v2 μ).bind fun r10 =>
  if r10 ≤ v4 then
    some (.inr v3)
  else
    (lop (sX11_peaks_38 v0 v2 v3 v4 μ) FU (1, 0)).bind fun v5_13 =>
      if v5_13 = 0 then
        some (.inl (w32 (v3 + 0), w32 (v4 + 1)))
      else
        some (.inl (w32 (v3 + 1), w32 (v4 + 1))))
def fX11_peaks (v0 v1 : Int) (μ : Mm) : Option Int :=
  chk (KD v0 = 11) (
  (fX11_isOf v0 0 v1 μ).bind fun r16 =>
  if r16 = 0 then
    some (-1)
  else
    (fX11_placeOf 0 v1).bind fun r18 =>
    (lop (sX11_peaks_22 v0 r18 μ) FU (0, 0)).bind fun v3_20 =>
      some v3_20)
set_option maxRecDepth 20000 in
theorem qX11_peaks_38 (l : Launch) (F : FI) (v0 v2 v3 v4 : Int) (μ : Mm) (k n : Nat) : ∀ (q : (Int × Int)) (t : ((Int × Int) ⊕ Int)), sX11_peaks_38 v0 v2 v3 v4 μ q = some t → zX11_peaks_38 l F v0 v2 v3 v4 μ k n t → zX11_peaks_38 l F v0 v2 v3 v4 μ k n (.inl q) := by
  intro q t h hK
  obtain ⟨v5, v6⟩ := q
  unfold sX11_peaks_38 at h
  try dsimp only at h
  show GM l mX11_peaks F k n 38 [(0, (3, v0)), (2, (0, v2)), (3, (0, v3)), (4, (0, v4)), (5, (0, v5)), (6, (0, v6))] [] μ
  refine GM_iload (pc := 38) 5 rfl (daX11_peaks_0 24 rfl) ?_
  refine GM_iconst (pc := 40) 4 (daX11_peaks_0 25 rfl) rfl (R32_b rfl) ?_
  refine GM_icmp_ge (pc := 41) 105 (daX11_peaks_0 26 rfl) rfl (fun c1 => ?_) (fun c1 => ?_)
  · skip
    rw [if_pos c1] at h
    refine GM_pick [0, 1, 2, 3, 4] rfl ?_
    cases h
    exact hK
  · skip
    rw [if_neg c1] at h
    refine GM_aload_n (pc := 44) 0 rfl (daX11_peaks_0 27 rfl) rfl ?_
    refine GM_iload_n (pc := 45) 1 rfl (daX11_peaks_0 28 rfl) rfl ?_
    refine GM_iload (pc := 46) 3 rfl (daX11_peaks_0 29 rfl) ?_
    refine GM_iload (pc := 48) 5 rfl (daX11_peaks_0 30 rfl) ?_
    obtain ⟨hc2, h⟩ := chk_inv h
    obtain ⟨r3, hf3, h⟩ := Option.bind_eq_some_iff.mp h
    refine GM_callV0 (pc := 50) [(0, v2), (0, v4), (0, v6)] (tX11_beside l hf3) cwX11_beside 11 (Nat.le_of_ble_eq_true rfl) rfl kv_X11_beside ke_X11_beside km_X11_333 hc2 ⟨Nat.le_of_ble_eq_true rfl, Nat.le_of_ble_eq_true rfl⟩ (Nat.le_of_ble_eq_true rfl) (Nat.le_of_ble_eq_true rfl) (daX11_peaks_0 31 rfl) ?_
    refine GM_istore (L' := [(7, (0, r3)), (0, (3, v0)), (2, (0, v2)), (3, (0, v3)), (4, (0, v4)), (5, (0, v5)), (6, (0, v6))]) (pc := 53) (daX11_peaks_0 32 rfl) (Nat.le_of_ble_eq_true rfl) rfl ?_
    refine GM_iload (pc := 55) 5 rfl (daX11_peaks_0 33 rfl) ?_
    refine GM_if_eq (pc := 57) 96 (daX11_peaks_0 34 rfl) rfl (fun c4 => ?_) (fun c4 => ?_)
    · skip
      rw [if_pos c4] at h
      refine GM_iconst (pc := 96) 0 (daX11_peaks_0 56 rfl) rfl (R32_b rfl) ?_
      refine GM_istore (L' := [(5, (0, 0)), (7, (0, r3)), (0, (3, v0)), (2, (0, v2)), (3, (0, v3)), (4, (0, v4)), (6, (0, v6))]) (pc := 97) (daX11_peaks_0 57 rfl) (Nat.le_of_ble_eq_true rfl) rfl ?_
      refine GM_iinc (L' := [(6, (0, w32 (v6 + 1))), (5, (0, 0)), (7, (0, r3)), (0, (3, v0)), (2, (0, v2)), (3, (0, v3)), (4, (0, v4))]) (pc := 99) 6 rfl (daX11_peaks_0 58 rfl) (Nat.le_of_ble_eq_true rfl) rfl ?_
      refine GM_goto (pc := 102) 38 (daX11_peaks_0 59 rfl) rfl ?_
      refine GM_pick [3, 4, 5, 6, 1, 0] rfl ?_
      cases h
      exact hK
    · skip
      rw [if_neg c4] at h
      refine GM_iload (pc := 60) 0 rfl (daX11_peaks_0 35 rfl) ?_
      refine GM_if_lt (pc := 62) 92 (daX11_peaks_0 36 rfl) rfl (fun c5 => ?_) (fun c5 => ?_)
      · skip
        rw [if_pos c5] at h
        refine GM_iconst (pc := 92) 1 (daX11_peaks_0 54 rfl) rfl (R32_b rfl) ?_
        refine GM_goto (pc := 93) 97 (daX11_peaks_0 55 rfl) rfl ?_
        refine GM_istore (L' := [(5, (0, 1)), (7, (0, r3)), (0, (3, v0)), (2, (0, v2)), (3, (0, v3)), (4, (0, v4)), (6, (0, v6))]) (pc := 97) (daX11_peaks_0 57 rfl) (Nat.le_of_ble_eq_true rfl) rfl ?_
        refine GM_iinc (L' := [(6, (0, w32 (v6 + 1))), (5, (0, 1)), (7, (0, r3)), (0, (3, v0)), (2, (0, v2)), (3, (0, v3)), (4, (0, v4))]) (pc := 99) 6 rfl (daX11_peaks_0 58 rfl) (Nat.le_of_ble_eq_true rfl) rfl ?_
        refine GM_goto (pc := 102) 38 (daX11_peaks_0 59 rfl) rfl ?_
        refine GM_pick [3, 4, 5, 6, 1, 0] rfl ?_
        cases h
        exact hK
      · skip
        rw [if_neg c5] at h
        refine GM_aload_n (pc := 65) 1 rfl (daX11_peaks_0 37 rfl) rfl ?_
        refine GM_getf (pc := 66) 11 0 3 0 kf_X11_7 (Nat.le_of_ble_eq_true rfl) (Nat.le_of_ble_eq_true rfl) rfl (daX11_peaks_0 38 rfl) hc2 rfl ?_
        refine GM_iload_n (pc := 69) 2 rfl (daX11_peaks_0 39 rfl) rfl ?_
        refine GM_bipush (pc := 70) 6 (daX11_peaks_0 40 rfl) rfl (R32_b rfl) ?_
        refine GM_iadd (pc := 72) (daX11_peaks_0 41 rfl) ?_
        refine GM_iload (pc := 73) 0 rfl (daX11_peaks_0 42 rfl) ?_
        refine GM_iadd (pc := 75) (daX11_peaks_0 43 rfl) ?_
        obtain ⟨hc6, h⟩ := chk_inv h
        refine GM_iald (pc := 76) (daX11_peaks_0 44 rfl) hc6.1 hc6.2.1 hc6.2.2 ?_
        refine GM_aload_n (pc := 77) 1 rfl (daX11_peaks_0 45 rfl) rfl ?_
        refine GM_getf (pc := 78) 11 0 3 0 kf_X11_7 (Nat.le_of_ble_eq_true rfl) (Nat.le_of_ble_eq_true rfl) rfl (daX11_peaks_0 46 rfl) hc2 rfl ?_
        refine GM_iload_n (pc := 81) 2 rfl (daX11_peaks_0 47 rfl) rfl ?_
        refine GM_bipush (pc := 82) 6 (daX11_peaks_0 48 rfl) rfl (R32_b rfl) ?_
        refine GM_iadd (pc := 84) (daX11_peaks_0 49 rfl) ?_
        refine GM_iload (pc := 85) 4 rfl (daX11_peaks_0 50 rfl) ?_
        refine GM_iadd (pc := 87) (daX11_peaks_0 51 rfl) ?_
        obtain ⟨hc7, h⟩ := chk_inv h
        refine GM_iald (pc := 88) (daX11_peaks_0 52 rfl) hc6.1 hc7.1 hc7.2 ?_
        refine GM_icmp_ge (pc := 89) 96 (daX11_peaks_0 53 rfl) rfl (fun c8 => ?_) (fun c8 => ?_)
        · skip
          rw [if_pos c8] at h
          refine GM_iconst (pc := 96) 0 (daX11_peaks_0 56 rfl) rfl (R32_b rfl) ?_
          refine GM_istore (L' := [(5, (0, 0)), (7, (0, r3)), (0, (3, v0)), (2, (0, v2)), (3, (0, v3)), (4, (0, v4)), (6, (0, v6))]) (pc := 97) (daX11_peaks_0 57 rfl) (Nat.le_of_ble_eq_true rfl) rfl ?_
          refine GM_iinc (L' := [(6, (0, w32 (v6 + 1))), (5, (0, 0)), (7, (0, r3)), (0, (3, v0)), (2, (0, v2)), (3, (0, v3)), (4, (0, v4))]) (pc := 99) 6 rfl (daX11_peaks_0 58 rfl) (Nat.le_of_ble_eq_true rfl) rfl ?_
          refine GM_goto (pc := 102) 38 (daX11_peaks_0 59 rfl) rfl ?_
          refine GM_pick [3, 4, 5, 6, 1, 0] rfl ?_
          cases h
          exact hK
        · skip
          rw [if_neg c8] at h
          refine GM_iconst (pc := 92) 1 (daX11_peaks_0 54 rfl) rfl (R32_b rfl) ?_
          refine GM_goto (pc := 93) 97 (daX11_peaks_0 55 rfl) rfl ?_
          refine GM_istore (L' := [(5, (0, 1)), (7, (0, r3)), (0, (3, v0)), (2, (0, v2)), (3, (0, v3)), (4, (0, v4)), (6, (0, v6))]) (pc := 97) (daX11_peaks_0 57 rfl) (Nat.le_of_ble_eq_true rfl) rfl ?_
          refine GM_iinc (L' := [(6, (0, w32 (v6 + 1))), (5, (0, 1)), (7, (0, r3)), (0, (3, v0)), (2, (0, v2)), (3, (0, v3)), (4, (0, v4))]) (pc := 99) 6 rfl (daX11_peaks_0 58 rfl) (Nat.le_of_ble_eq_true rfl) rfl ?_
          refine GM_goto (pc := 102) 38 (daX11_peaks_0 59 rfl) rfl ?_
          refine GM_pick [3, 4, 5, 6, 1, 0] rfl ?_
          cases h
          exact hK
set_option maxRecDepth 20000 in
theorem qX11_peaks_22 (l : Launch) (F : FI) (v0 v2 : Int) (μ : Mm) (k n : Nat) : ∀ (q : (Int × Int)) (t : ((Int × Int) ⊕ Int)), sX11_peaks_22 v0 v2 μ q = some t → zX11_peaks_22 l F v0 v2 μ k n t → zX11_peaks_22 l F v0 v2 μ k n (.inl q) := by
  intro q t h hK
  obtain ⟨v3, v4⟩ := q
  unfold sX11_peaks_22 at h
  try dsimp only at h
  show GM l mX11_peaks F k n 22 [(0, (3, v0)), (2, (0, v2)), (3, (0, v3)), (4, (0, v4))] [] μ
  refine GM_iload (pc := 22) 3 rfl (daX11_peaks_0 15 rfl) ?_
  refine GM_aload_n (pc := 24) 0 rfl (daX11_peaks_0 16 rfl) rfl ?_
  refine GM_iload_n (pc := 25) 1 rfl (daX11_peaks_0 17 rfl) rfl ?_
  obtain ⟨hc9, h⟩ := chk_inv h
  obtain ⟨r10, hf10, h⟩ := Option.bind_eq_some_iff.mp h
  refine GM_callV0 (pc := 26) [(0, v2)] (tX11_placesOf l hf10) cwX11_placesOf 11 (Nat.le_of_ble_eq_true rfl) rfl kv_X11_placesOf ke_X11_placesOf km_X11_207 hc9 ⟨Nat.le_of_ble_eq_true rfl, Nat.le_of_ble_eq_true rfl⟩ (Nat.le_of_ble_eq_true rfl) (Nat.le_of_ble_eq_true rfl) (daX11_peaks_0 18 rfl) ?_
  refine GM_icmp_ge (pc := 29) 124 (daX11_peaks_0 19 rfl) rfl (fun c11 => ?_) (fun c11 => ?_)
  · skip
    rw [if_pos c11] at h
    refine GM_pick [2] rfl ?_
    cases h
    exact hK
  · skip
    rw [if_neg c11] at h
    refine GM_iconst (pc := 32) 1 (daX11_peaks_0 20 rfl) rfl (R32_b rfl) ?_
    refine GM_istore (L' := [(5, (0, 1)), (0, (3, v0)), (2, (0, v2)), (3, (0, v3)), (4, (0, v4))]) (pc := 33) (daX11_peaks_0 21 rfl) (Nat.le_of_ble_eq_true rfl) rfl ?_
    refine GM_iconst (pc := 35) 0 (daX11_peaks_0 22 rfl) rfl (R32_b rfl) ?_
    refine GM_istore (L' := [(6, (0, 0)), (5, (0, 1)), (0, (3, v0)), (2, (0, v2)), (3, (0, v3)), (4, (0, v4))]) (pc := 36) (daX11_peaks_0 23 rfl) (Nat.le_of_ble_eq_true rfl) rfl ?_
    refine GM_pick [2, 3, 4, 5, 1, 0] rfl ?_
    obtain ⟨x12, hqx12, h⟩ := Option.bind_eq_some_iff.mp h
    refine lop_ind (zX11_peaks_38 l F v0 v2 v3 v4 μ k n) (qX11_peaks_38 l F v0 v2 v3 v4 μ k n) FU _ x12 hqx12 ?_
    obtain ⟨v5_13, hqq⟩ : ∃ z, z = x12 := ⟨x12, rfl⟩
    subst hqq
    show GM l mX11_peaks F k n 105 [(0, (3, v0)), (2, (0, v2)), (3, (0, v3)), (4, (0, v4)), (5, (0, v5_13))] [] μ
    refine GM_iload_n (pc := 105) 2 rfl (daX11_peaks_0 60 rfl) rfl ?_
    refine GM_iload (pc := 106) 4 rfl (daX11_peaks_0 61 rfl) ?_
    refine GM_if_eq (pc := 108) 115 (daX11_peaks_0 62 rfl) rfl (fun c14 => ?_) (fun c14 => ?_)
    · skip
      rw [if_pos c14] at h
      refine GM_iconst (pc := 115) 0 (daX11_peaks_1 1 rfl) rfl (R32_b rfl) ?_
      refine GM_iadd (pc := 116) (daX11_peaks_1 2 rfl) ?_
      refine GM_istore_n (L' := [(3, (0, w32 (v3 + 0))), (0, (3, v0)), (2, (0, v2)), (4, (0, v4)), (5, (0, v5_13))]) (pc := 117) (daX11_peaks_1 3 rfl) rfl (Nat.le_of_ble_eq_true rfl) rfl ?_
      refine GM_iinc (L' := [(4, (0, w32 (v4 + 1))), (3, (0, w32 (v3 + 0))), (0, (3, v0)), (2, (0, v2)), (5, (0, v5_13))]) (pc := 118) 3 rfl (daX11_peaks_1 4 rfl) (Nat.le_of_ble_eq_true rfl) rfl ?_
      refine GM_goto (pc := 121) 22 (daX11_peaks_1 5 rfl) rfl ?_
      refine GM_pick [2, 3, 1, 0] rfl ?_
      cases h
      exact hK
    · skip
      rw [if_neg c14] at h
      refine GM_iconst (pc := 111) 1 (daX11_peaks_0 63 rfl) rfl (R32_b rfl) ?_
      refine GM_goto (pc := 112) 116 (daX11_peaks_1 0 rfl) rfl ?_
      refine GM_iadd (pc := 116) (daX11_peaks_1 2 rfl) ?_
      refine GM_istore_n (L' := [(3, (0, w32 (v3 + 1))), (0, (3, v0)), (2, (0, v2)), (4, (0, v4)), (5, (0, v5_13))]) (pc := 117) (daX11_peaks_1 3 rfl) rfl (Nat.le_of_ble_eq_true rfl) rfl ?_
      refine GM_iinc (L' := [(4, (0, w32 (v4 + 1))), (3, (0, w32 (v3 + 1))), (0, (3, v0)), (2, (0, v2)), (5, (0, v5_13))]) (pc := 118) 3 rfl (daX11_peaks_1 4 rfl) (Nat.le_of_ble_eq_true rfl) rfl ?_
      refine GM_goto (pc := 121) 22 (daX11_peaks_1 5 rfl) rfl ?_
      refine GM_pick [2, 3, 1, 0] rfl ?_
      cases h
      exact hK
set_option maxRecDepth 20000 in
theorem gX11_peaks_0 (l : Launch) {F : FI} {v0 v1 : Int} {μ : Mm} {t : Int} (h : fX11_peaks v0 v1 μ = some t) (hK : F.1 = [(0, t)] ∧ F.2.1 = μ) : GM l mX11_peaks F 0 0 0 [(0, (3, v0)), (1, (0, v1))] [] μ := by
  unfold fX11_peaks at h
  refine GM_aload_n (pc := 0) 0 rfl (daX11_peaks_0 0 rfl) rfl ?_
  refine GM_iconst (pc := 1) 0 (daX11_peaks_0 1 rfl) rfl (R32_b rfl) ?_
  refine GM_iload_n (pc := 2) 1 rfl (daX11_peaks_0 2 rfl) rfl ?_
  obtain ⟨hc15, h⟩ := chk_inv h
  obtain ⟨r16, hf16, h⟩ := Option.bind_eq_some_iff.mp h
  refine GM_callV0 (pc := 3) [(0, 0), (0, v1)] (tX11_isOf l hf16) cwX11_isOf 11 (Nat.le_of_ble_eq_true rfl) rfl kv_X11_isOf ke_X11_isOf km_X11_182 hc15 ⟨Nat.le_of_ble_eq_true rfl, Nat.le_of_ble_eq_true rfl⟩ (Nat.le_of_ble_eq_true rfl) (Nat.le_of_ble_eq_true rfl) (daX11_peaks_0 3 rfl) ?_
  refine GM_if_ne (pc := 6) 11 (daX11_peaks_0 4 rfl) rfl (fun c17 => ?_) (fun c17 => ?_)
  · skip
    rw [if_neg c17] at h
    refine GM_iconst (pc := 11) 0 (daX11_peaks_0 7 rfl) rfl (R32_b rfl) ?_
    refine GM_iload_n (pc := 12) 1 rfl (daX11_peaks_0 8 rfl) rfl ?_
    obtain ⟨r18, hf18, h⟩ := Option.bind_eq_some_iff.mp h
    refine GM_callS0 (pc := 13) [(0, 0), (0, v1)] (tX11_placeOf l hf18) cwX11_placeOf ks_X11_placeOf km_X11_204 ⟨Nat.le_of_ble_eq_true rfl, Nat.le_of_ble_eq_true rfl⟩ (Nat.le_of_ble_eq_true rfl) (Nat.le_of_ble_eq_true rfl) (daX11_peaks_0 9 rfl) ?_
    refine GM_istore_n (L' := [(2, (0, r18)), (0, (3, v0)), (1, (0, v1))]) (pc := 16) (daX11_peaks_0 10 rfl) rfl (Nat.le_of_ble_eq_true rfl) rfl ?_
    refine GM_iconst (pc := 17) 0 (daX11_peaks_0 11 rfl) rfl (R32_b rfl) ?_
    refine GM_istore_n (L' := [(3, (0, 0)), (2, (0, r18)), (0, (3, v0)), (1, (0, v1))]) (pc := 18) (daX11_peaks_0 12 rfl) rfl (Nat.le_of_ble_eq_true rfl) rfl ?_
    refine GM_iconst (pc := 19) 0 (daX11_peaks_0 13 rfl) rfl (R32_b rfl) ?_
    refine GM_istore (L' := [(4, (0, 0)), (3, (0, 0)), (2, (0, r18)), (0, (3, v0)), (1, (0, v1))]) (pc := 20) (daX11_peaks_0 14 rfl) (Nat.le_of_ble_eq_true rfl) rfl ?_
    refine GM_pick [3, 2, 1, 0] rfl ?_
    obtain ⟨x19, hqx19, h⟩ := Option.bind_eq_some_iff.mp h
    refine lop_ind (zX11_peaks_22 l F v0 r18 μ 0 0) (qX11_peaks_22 l F v0 r18 μ 0 0) FU _ x19 hqx19 ?_
    obtain ⟨v3_20, hqq⟩ : ∃ z, z = x19 := ⟨x19, rfl⟩
    subst hqq
    show GM l mX11_peaks F 0 0 124 [(3, (0, v3_20))] [] μ
    refine GM_iload_n (pc := 124) 0 rfl (daX11_peaks_1 6 rfl) rfl ?_
    cases h
    exact GM_iret (pc := 125) (daX11_peaks_1 7 rfl) rfl hK
  · skip
    rw [if_pos c17] at h
    refine GM_iconst (pc := 9) (-1) (daX11_peaks_0 5 rfl) rfl (R32_b rfl) ?_
    cases h
    exact GM_iret (pc := 10) (daX11_peaks_0 6 rfl) rfl hK
theorem tX11_peaks (l : Launch) {v0 v1 : Int} {μ : Mm} {t : Int} (h : fX11_peaks v0 v1 μ = some t) : Ct l yX11_peaks mX11_peaks [(3, v0), (0, v1)] μ ([(0, t)], μ, 0, 0) :=
  Ct_of (by decide +kernel) rfl rfl (Nat.le_of_ble_eq_true rfl) (fun _ _ _ => trivial) (gX11_peaks_0 l h ⟨rfl, rfl⟩)
def mX11_stretch : MI := (RX11, cX11_stretch, 21, (some .int), "stretch", 8, 199, fun _ _ _ => True)
theorem cwX11_stretch : CWd yX11_stretch mX11_stretch 6 := ⟨ki_X11, kk_X11_stretch, ⟨by decide, by decide⟩, rfl⟩
def dtX11_stretch_0 : List (Nat × Instr × Nat) := [(0, .aload_n 0, 1), (1, .iload_n 1, 1), (2, .iload_n 2, 1), (3, .iload_n 3, 1), (4, .iload 4, 2), (6, .invokevirtual 286, 3), (9, .ifCond .ne 5, 3), (12, .iconst (-1), 1), (13, .ireturn, 1), (14, .iconst 0, 1), (15, .iload_n 1, 1), (16, .invokestatic 204, 3), (19, .istore 7, 2), (21, .iconst 1, 1), (22, .iload_n 2, 1), (23, .invokestatic 204, 3), (26, .istore 8, 2), (28, .aload_n 0, 1), (29, .iload 8, 2), (31, .iload_n 3, 1), (32, .invokevirtual 263, 3), (35, .ifCond .ne 5, 3), (38, .iconst (-1), 1), (39, .ireturn, 1), (40, .lconst 0, 1), (41, .lstore 9, 2), (43, .lconst 0, 1), (44, .lstore 11, 2), (46, .iconst 0, 1), (47, .istore 13, 2), (49, .iload 13, 2), (51, .aload_n 0, 1), (52, .getfield 7, 3), (55, .iload 8, 2), (57, .iaload, 1), (58, .if_icmp .ge 147, 3), (61, .aload_n 0, 1), (62, .iload 8, 2), (64, .iload_n 3, 1), (65, .iload 4, 2), (67, .iload 13, 2), (69, .invokevirtual 247, 3), (72, .istore 14, 2), (74, .aload_n 0, 1), (75, .iload 7, 2), (77, .iload_n 3, 1), (78, .iload 14, 2), (80, .invokevirtual 223, 3), (83, .i2l, 1), (84, .lstore 15, 2), (86, .lload 15, 2), (88, .lconst 0, 1), (89, .lcmp, 1), (90, .ifCond .gt 6, 3), (93, .goto 106, 3), (96, .aload_n 0, 1), (97, .getfield 7, 3), (100, .iload 8, 2), (102, .bipush 7, 2), (104, .iadd, 1), (105, .iload 13, 2), (107, .iadd, 1), (108, .iaload, 1), (109, .i2l, 1)]
theorem ddX11_stretch_0 : (dtX11_stretch_0.all fun e => decide (decode mX11_stretch.2.1 e.1 = .ok (e.2.1, e.2.2))) = true := by decide +kernel
theorem daX11_stretch_0 (j : Nat) {pc n : Nat} {i : Instr} (h : dtX11_stretch_0[j]? = some (pc, i, n)) : decode mX11_stretch.2.1 pc = .ok (i, n) := dec_of (c := mX11_stretch.2.1) ddX11_stretch_0 h
def dtX11_stretch_1 : List (Nat × Instr × Nat) := [(110, .aload_n 0, 1), (111, .getfield 7, 3), (114, .iload 8, 2), (116, .bipush 7, 2), (118, .iadd, 1), (119, .iload 13, 2), (121, .iadd, 1), (122, .iaload, 1), (123, .i2l, 1), (124, .lmul, 1), (125, .aload_n 0, 1), (126, .iload 7, 2), (128, .iload_n 3, 1), (129, .iload 14, 2), (131, .invokevirtual 220, 3), (134, .i2l, 1), (135, .lmul, 1), (136, .lstore 17, 2), (138, .lload 15, 2), (140, .lload 15, 2), (142, .lmul, 1), (143, .lstore 19, 2), (145, .lload 11, 2), (147, .lconst 0, 1), (148, .lcmp, 1), (149, .ifCond .le 42, 3), (152, .iload 5, 2), (154, .ifCond .eq 20, 3), (157, .lload 17, 2), (159, .lload 11, 2), (161, .lmul, 1), (162, .lload 9, 2), (164, .lload 19, 2), (166, .lmul, 1), (167, .lcmp, 1), (168, .ifCond .gt 23, 3), (171, .goto 28, 3), (174, .lload 17, 2), (176, .lload 11, 2), (178, .lmul, 1), (179, .lload 9, 2), (181, .lload 19, 2), (183, .lmul, 1), (184, .lcmp, 1), (185, .ifCond .lt 6, 3), (188, .goto 11, 3), (191, .lload 17, 2), (193, .lstore 9, 2), (195, .lload 19, 2), (197, .lstore 11, 2), (199, .iinc 13 1, 3), (202, .goto (-153), 3), (205, .lload 11, 2), (207, .lconst 0, 1), (208, .lcmp, 1), (209, .ifCond .ne 5, 3), (212, .iconst (-1), 1), (213, .ireturn, 1), (214, .iload 6, 2), (216, .ifCond .eq 8, 3), (219, .lload 11, 2), (221, .goto 5, 3), (224, .lload 9, 2), (226, .lload 9, 2)]
theorem ddX11_stretch_1 : (dtX11_stretch_1.all fun e => decide (decode mX11_stretch.2.1 e.1 = .ok (e.2.1, e.2.2))) = true := by decide +kernel
theorem daX11_stretch_1 (j : Nat) {pc n : Nat} {i : Instr} (h : dtX11_stretch_1[j]? = some (pc, i, n)) : decode mX11_stretch.2.1 pc = .ok (i, n) := dec_of (c := mX11_stretch.2.1) ddX11_stretch_1 h
def dtX11_stretch_2 : List (Nat × Instr × Nat) := [(228, .lload 11, 2), (230, .invokestatic 69, 3), (233, .ldiv, 1), (234, .l2i, 1), (235, .ireturn, 1)]
theorem ddX11_stretch_2 : (dtX11_stretch_2.all fun e => decide (decode mX11_stretch.2.1 e.1 = .ok (e.2.1, e.2.2))) = true := by decide +kernel
theorem daX11_stretch_2 (j : Nat) {pc n : Nat} {i : Instr} (h : dtX11_stretch_2[j]? = some (pc, i, n)) : decode mX11_stretch.2.1 pc = .ok (i, n) := dec_of (c := mX11_stretch.2.1) ddX11_stretch_2 h
def zX11_stretch_49 (l : Launch) (F : FI) (v0 v3 v4 v5 v6 v7 v8 : Int) (μ : Mm) (k n : Nat) : (Int × Int × Int) ⊕ (Int × Int) → Prop
  | .inl (v9, v11, v13) => GM l mX11_stretch F k n 49 [(0, (3, v0)), (3, (0, v3)), (4, (0, v4)), (5, (0, v5)), (6, (0, v6)), (7, (0, v7)), (8, (0, v8)), (9, (2, v9)), (11, (2, v11)), (13, (0, v13))] [] μ
  | .inr (v9, v11) => GM l mX11_stretch F k n 205 [(6, (0, v6)), (9, (2, v9)), (11, (2, v11))] [] μ
def sX11_stretch_49 (v0 v3 v4 v5 v6 v7 v8 : Int) (μ : Mm) : (Int × Int × Int) → Option ((Int × Int × Int) ⊕ (Int × Int)) := fun (v9, v11, v13) =>
  chk (KD v0 = 11) (
  chk (KD (μ v0 0) = 12 ∧ 0 ≤ v8 ∧ v8 < LN (μ v0 0)) (
  if μ (μ v0 0) v8 ≤ v13 then
    some (.inr (v9, v11))
  else
    (fX11_hillOf v0 v8 v3 v4 v13 μ).bind fun r4 =>
    (fX11_riseOf v0 v7 v3 r4 μ).bind fun r5 =>
    if 0 < r5 then
      chk (0 ≤ w32 ((w32 (v8 + 7)) + v13) ∧ w32 ((w32 (v8 + 7)) + v13) < LN (μ v0 0)) (
      (fX11_farOf v0 v7 v3 r4 μ).bind fun r8 =>
      lt (w64 ((w64 ((μ (μ v0 0) (w32 ((w32 (v8 + 7)) + v13))) * (μ (μ v0 0) (w32 ((w32 (v8 + 7)) + v13))))) * r8)) fun y9 =>
      if v11 ≤ 0 then
        some (.inl (y9, w64 (r5 * r5), w32 (v13 + 1)))
      else
        if v5 = 0 then
          if w64 (y9 * v11) < w64 (v9 * (w64 (r5 * r5))) then
            some (.inl (y9, w64 (r5 * r5), w32 (v13 + 1)))
          else
            some (.inl (v9, v11, w32 (v13 + 1)))
        else
          if w64 (v9 * (w64 (r5 * r5))) < w64 (y9 * v11) then
            some (.inl (y9, w64 (r5 * r5), w32 (v13 + 1)))
          else
            some (.inl (v9, v11, w32 (v13 + 1))))
    else
      some (.inl (v9, v11, w32 (v13 + 1)))))
def jX11_stretch_226 (v9 v11 s0 : Int) (μ : Mm) : Option (Int × Mm) :=
  (fX11_common v9 v11).bind fun r14 =>
  chk (r14 ≠ 0) (
  some (w32 (w64 (s0.tdiv r14)), μ))
def fX11_stretch (v0 v1 v2 v3 v4 v5 v6 : Int) (μ : Mm) : Option (Int × Mm) :=
  chk (KD v0 = 11) (
  (fX11_isStart v0 v1 v2 v3 v4 μ).bind fun (r17, μ17) =>
  if r17 = 0 then
    some ((-1), μ17)
  else
    (fX11_placeOf 0 v1).bind fun r19 =>
    (fX11_placeOf 1 v2).bind fun r20 =>
    (fX11_canBe v0 r20 v3 μ17).bind fun r21 =>
    if r21 = 0 then
      some ((-1), μ17)
    else
      (lop (sX11_stretch_49 v0 v3 v4 v5 v6 r19 r20 μ17) FU (0, 0, 0)).bind fun x23 =>
        match x23 with
        | (v9_24, v11_24) =>
          if v11_24 = 0 then
            some ((-1), μ17)
          else
            if v6 = 0 then
              jX11_stretch_226 v9_24 v11_24 v9_24 μ17
            else
              jX11_stretch_226 v9_24 v11_24 v11_24 μ17)
set_option maxRecDepth 20000 in
theorem qX11_stretch_49 (l : Launch) (F : FI) (v0 v3 v4 v5 v6 v7 v8 : Int) (μ : Mm) (k n : Nat) : ∀ (q : (Int × Int × Int)) (t : ((Int × Int × Int) ⊕ (Int × Int))), sX11_stretch_49 v0 v3 v4 v5 v6 v7 v8 μ q = some t → zX11_stretch_49 l F v0 v3 v4 v5 v6 v7 v8 μ k n t → zX11_stretch_49 l F v0 v3 v4 v5 v6 v7 v8 μ k n (.inl q) := by
  intro q t h hK
  obtain ⟨v9, v11, v13⟩ := q
  unfold sX11_stretch_49 at h
  try dsimp only at h
  show GM l mX11_stretch F k n 49 [(0, (3, v0)), (3, (0, v3)), (4, (0, v4)), (5, (0, v5)), (6, (0, v6)), (7, (0, v7)), (8, (0, v8)), (9, (2, v9)), (11, (2, v11)), (13, (0, v13))] [] μ
  refine GM_iload (pc := 49) 9 rfl (daX11_stretch_0 30 rfl) ?_
  refine GM_aload_n (pc := 51) 0 rfl (daX11_stretch_0 31 rfl) rfl ?_
  obtain ⟨hc1, h⟩ := chk_inv h
  refine GM_getf (pc := 52) 11 0 3 0 kf_X11_7 (Nat.le_of_ble_eq_true rfl) (Nat.le_of_ble_eq_true rfl) rfl (daX11_stretch_0 32 rfl) hc1 rfl ?_
  refine GM_iload (pc := 55) 6 rfl (daX11_stretch_0 33 rfl) ?_
  obtain ⟨hc2, h⟩ := chk_inv h
  refine GM_iald (pc := 57) (daX11_stretch_0 34 rfl) hc2.1 hc2.2.1 hc2.2.2 ?_
  refine GM_icmp_ge (pc := 58) 205 (daX11_stretch_0 35 rfl) rfl (fun c3 => ?_) (fun c3 => ?_)
  · skip
    rw [if_pos c3] at h
    refine GM_pick [4, 7, 8] rfl ?_
    cases h
    exact hK
  · skip
    rw [if_neg c3] at h
    refine GM_aload_n (pc := 61) 0 rfl (daX11_stretch_0 36 rfl) rfl ?_
    refine GM_iload (pc := 62) 6 rfl (daX11_stretch_0 37 rfl) ?_
    refine GM_iload_n (pc := 64) 1 rfl (daX11_stretch_0 38 rfl) rfl ?_
    refine GM_iload (pc := 65) 2 rfl (daX11_stretch_0 39 rfl) ?_
    refine GM_iload (pc := 67) 9 rfl (daX11_stretch_0 40 rfl) ?_
    obtain ⟨r4, hf4, h⟩ := Option.bind_eq_some_iff.mp h
    refine GM_callV0 (pc := 69) [(0, v8), (0, v3), (0, v4), (0, v13)] (tX11_hillOf l hf4) cwX11_hillOf 11 (Nat.le_of_ble_eq_true rfl) rfl kv_X11_hillOf ke_X11_hillOf km_X11_247 hc1 ⟨Nat.le_of_ble_eq_true rfl, Nat.le_of_ble_eq_true rfl⟩ (Nat.le_of_ble_eq_true rfl) (Nat.le_of_ble_eq_true rfl) (daX11_stretch_0 41 rfl) ?_
    refine GM_istore (L' := [(14, (0, r4)), (0, (3, v0)), (3, (0, v3)), (4, (0, v4)), (5, (0, v5)), (6, (0, v6)), (7, (0, v7)), (8, (0, v8)), (9, (2, v9)), (11, (2, v11)), (13, (0, v13))]) (pc := 72) (daX11_stretch_0 42 rfl) (Nat.le_of_ble_eq_true rfl) rfl ?_
    refine GM_aload_n (pc := 74) 1 rfl (daX11_stretch_0 43 rfl) rfl ?_
    refine GM_iload (pc := 75) 6 rfl (daX11_stretch_0 44 rfl) ?_
    refine GM_iload_n (pc := 77) 2 rfl (daX11_stretch_0 45 rfl) rfl ?_
    refine GM_iload (pc := 78) 0 rfl (daX11_stretch_0 46 rfl) ?_
    obtain ⟨r5, hf5, h⟩ := Option.bind_eq_some_iff.mp h
    refine GM_callV0 (pc := 80) [(0, v7), (0, v3), (0, r4)] (tX11_riseOf l hf5) cwX11_riseOf 11 (Nat.le_of_ble_eq_true rfl) rfl kv_X11_riseOf ke_X11_riseOf km_X11_223 hc1 ⟨Nat.le_of_ble_eq_true rfl, Nat.le_of_ble_eq_true rfl⟩ (Nat.le_of_ble_eq_true rfl) (Nat.le_of_ble_eq_true rfl) (daX11_stretch_0 47 rfl) ?_
    refine GM_i2l (pc := 83) (daX11_stretch_0 48 rfl) ?_
    refine GM_lstore (L' := [(15, (2, r5)), (14, (0, r4)), (0, (3, v0)), (3, (0, v3)), (4, (0, v4)), (5, (0, v5)), (6, (0, v6)), (7, (0, v7)), (8, (0, v8)), (9, (2, v9)), (11, (2, v11)), (13, (0, v13))]) (pc := 84) (daX11_stretch_0 49 rfl) (Nat.le_of_ble_eq_true rfl) rfl ?_
    refine GM_lload (pc := 86) 0 rfl (daX11_stretch_0 50 rfl) ?_
    refine GM_lconst (pc := 88) 0 (daX11_stretch_0 51 rfl) rfl (R64_b rfl) ?_
    refine GM_lcmp (pc := 89) (daX11_stretch_0 52 rfl) ?_
    refine GM_if_gt (pc := 90) 96 (daX11_stretch_0 53 rfl) rfl (fun c6 => ?_) (fun c6 => ?_)
    · skip
      have c6 := lcmp_gt.mp c6
      rw [if_pos c6] at h
      refine GM_aload_n (pc := 96) 2 rfl (daX11_stretch_0 55 rfl) rfl ?_
      refine GM_getf (pc := 97) 11 0 3 0 kf_X11_7 (Nat.le_of_ble_eq_true rfl) (Nat.le_of_ble_eq_true rfl) rfl (daX11_stretch_0 56 rfl) hc1 rfl ?_
      refine GM_iload (pc := 100) 8 rfl (daX11_stretch_0 57 rfl) ?_
      refine GM_bipush (pc := 102) 7 (daX11_stretch_0 58 rfl) rfl (R32_b rfl) ?_
      refine GM_iadd (pc := 104) (daX11_stretch_0 59 rfl) ?_
      refine GM_iload (pc := 105) 11 rfl (daX11_stretch_0 60 rfl) ?_
      refine GM_iadd (pc := 107) (daX11_stretch_0 61 rfl) ?_
      obtain ⟨hc7, h⟩ := chk_inv h
      refine GM_iald (pc := 108) (daX11_stretch_0 62 rfl) hc2.1 hc7.1 hc7.2 ?_
      refine GM_i2l (pc := 109) (daX11_stretch_0 63 rfl) ?_
      refine GM_aload_n (pc := 110) 2 rfl (daX11_stretch_1 0 rfl) rfl ?_
      refine GM_getf (pc := 111) 11 0 3 0 kf_X11_7 (Nat.le_of_ble_eq_true rfl) (Nat.le_of_ble_eq_true rfl) rfl (daX11_stretch_1 1 rfl) hc1 rfl ?_
      refine GM_iload (pc := 114) 8 rfl (daX11_stretch_1 2 rfl) ?_
      refine GM_bipush (pc := 116) 7 (daX11_stretch_1 3 rfl) rfl (R32_b rfl) ?_
      refine GM_iadd (pc := 118) (daX11_stretch_1 4 rfl) ?_
      refine GM_iload (pc := 119) 11 rfl (daX11_stretch_1 5 rfl) ?_
      refine GM_iadd (pc := 121) (daX11_stretch_1 6 rfl) ?_
      refine GM_iald (pc := 122) (daX11_stretch_1 7 rfl) hc2.1 hc7.1 hc7.2 ?_
      refine GM_i2l (pc := 123) (daX11_stretch_1 8 rfl) ?_
      refine GM_lmul (pc := 124) (daX11_stretch_1 9 rfl) ?_
      refine GM_aload_n (pc := 125) 2 rfl (daX11_stretch_1 10 rfl) rfl ?_
      refine GM_iload (pc := 126) 7 rfl (daX11_stretch_1 11 rfl) ?_
      refine GM_iload_n (pc := 128) 3 rfl (daX11_stretch_1 12 rfl) rfl ?_
      refine GM_iload (pc := 129) 1 rfl (daX11_stretch_1 13 rfl) ?_
      obtain ⟨r8, hf8, h⟩ := Option.bind_eq_some_iff.mp h
      refine GM_callV0 (pc := 131) [(0, v7), (0, v3), (0, r4)] (tX11_farOf l hf8) cwX11_farOf 11 (Nat.le_of_ble_eq_true rfl) rfl kv_X11_farOf ke_X11_farOf km_X11_220 hc1 ⟨Nat.le_of_ble_eq_true rfl, Nat.le_of_ble_eq_true rfl⟩ (Nat.le_of_ble_eq_true rfl) (Nat.le_of_ble_eq_true rfl) (daX11_stretch_1 14 rfl) ?_
      refine GM_i2l (pc := 134) (daX11_stretch_1 15 rfl) ?_
      refine GM_lmul (pc := 135) (daX11_stretch_1 16 rfl) ?_
      obtain ⟨y9, hy9, h⟩ := lt_inv h
      refine GM_top hy9 ?_
      refine GM_lstore (L' := [(17, (2, y9)), (15, (2, r5)), (14, (0, r4)), (0, (3, v0)), (3, (0, v3)), (4, (0, v4)), (5, (0, v5)), (6, (0, v6)), (7, (0, v7)), (8, (0, v8)), (9, (2, v9)), (11, (2, v11)), (13, (0, v13))]) (pc := 136) (daX11_stretch_1 17 rfl) (Nat.le_of_ble_eq_true rfl) rfl ?_
      refine GM_lload (pc := 138) 1 rfl (daX11_stretch_1 18 rfl) ?_
      refine GM_lload (pc := 140) 1 rfl (daX11_stretch_1 19 rfl) ?_
      refine GM_lmul (pc := 142) (daX11_stretch_1 20 rfl) ?_
      refine GM_lstore (L' := [(19, (2, w64 (r5 * r5))), (17, (2, y9)), (15, (2, r5)), (14, (0, r4)), (0, (3, v0)), (3, (0, v3)), (4, (0, v4)), (5, (0, v5)), (6, (0, v6)), (7, (0, v7)), (8, (0, v8)), (9, (2, v9)), (11, (2, v11)), (13, (0, v13))]) (pc := 143) (daX11_stretch_1 21 rfl) (Nat.le_of_ble_eq_true rfl) rfl ?_
      refine GM_lload (pc := 145) 12 rfl (daX11_stretch_1 22 rfl) ?_
      refine GM_lconst (pc := 147) 0 (daX11_stretch_1 23 rfl) rfl (R64_b rfl) ?_
      refine GM_lcmp (pc := 148) (daX11_stretch_1 24 rfl) ?_
      refine GM_if_le (pc := 149) 191 (daX11_stretch_1 25 rfl) rfl (fun c10 => ?_) (fun c10 => ?_)
      · skip
        have c10 := lcmp_le.mp c10
        rw [if_pos c10] at h
        refine GM_lload (pc := 191) 1 rfl (daX11_stretch_1 46 rfl) ?_
        refine GM_lstore (L' := [(9, (2, y9)), (19, (2, w64 (r5 * r5))), (17, (2, y9)), (15, (2, r5)), (14, (0, r4)), (0, (3, v0)), (3, (0, v3)), (4, (0, v4)), (5, (0, v5)), (6, (0, v6)), (7, (0, v7)), (8, (0, v8)), (11, (2, v11)), (13, (0, v13))]) (pc := 193) (daX11_stretch_1 47 rfl) (Nat.le_of_ble_eq_true rfl) rfl ?_
        refine GM_lload (pc := 195) 1 rfl (daX11_stretch_1 48 rfl) ?_
        refine GM_lstore (L' := [(11, (2, w64 (r5 * r5))), (9, (2, y9)), (19, (2, w64 (r5 * r5))), (17, (2, y9)), (15, (2, r5)), (14, (0, r4)), (0, (3, v0)), (3, (0, v3)), (4, (0, v4)), (5, (0, v5)), (6, (0, v6)), (7, (0, v7)), (8, (0, v8)), (13, (0, v13))]) (pc := 197) (daX11_stretch_1 49 rfl) (Nat.le_of_ble_eq_true rfl) rfl ?_
        refine GM_iinc (L' := [(13, (0, w32 (v13 + 1))), (11, (2, w64 (r5 * r5))), (9, (2, y9)), (19, (2, w64 (r5 * r5))), (17, (2, y9)), (15, (2, r5)), (14, (0, r4)), (0, (3, v0)), (3, (0, v3)), (4, (0, v4)), (5, (0, v5)), (6, (0, v6)), (7, (0, v7)), (8, (0, v8))]) (pc := 199) 13 rfl (daX11_stretch_1 50 rfl) (Nat.le_of_ble_eq_true rfl) rfl ?_
        refine GM_goto (pc := 202) 49 (daX11_stretch_1 51 rfl) rfl ?_
        refine GM_pick [7, 8, 9, 10, 11, 12, 13, 2, 1, 0] rfl ?_
        cases h
        exact hK
      · skip
        have c10 := (not_congr lcmp_le).mp c10
        rw [if_neg c10] at h
        refine GM_iload (pc := 152) 7 rfl (daX11_stretch_1 26 rfl) ?_
        refine GM_if_eq (pc := 154) 174 (daX11_stretch_1 27 rfl) rfl (fun c11 => ?_) (fun c11 => ?_)
        · skip
          rw [if_pos c11] at h
          refine GM_lload (pc := 174) 1 rfl (daX11_stretch_1 37 rfl) ?_
          refine GM_lload (pc := 176) 12 rfl (daX11_stretch_1 38 rfl) ?_
          refine GM_lmul (pc := 178) (daX11_stretch_1 39 rfl) ?_
          refine GM_lload (pc := 179) 11 rfl (daX11_stretch_1 40 rfl) ?_
          refine GM_lload (pc := 181) 0 rfl (daX11_stretch_1 41 rfl) ?_
          refine GM_lmul (pc := 183) (daX11_stretch_1 42 rfl) ?_
          refine GM_lcmp (pc := 184) (daX11_stretch_1 43 rfl) ?_
          refine GM_if_lt (pc := 185) 191 (daX11_stretch_1 44 rfl) rfl (fun c12 => ?_) (fun c12 => ?_)
          · skip
            have c12 := lcmp_lt.mp c12
            rw [if_pos c12] at h
            refine GM_lload (pc := 191) 1 rfl (daX11_stretch_1 46 rfl) ?_
            refine GM_lstore (L' := [(9, (2, y9)), (19, (2, w64 (r5 * r5))), (17, (2, y9)), (15, (2, r5)), (14, (0, r4)), (0, (3, v0)), (3, (0, v3)), (4, (0, v4)), (5, (0, v5)), (6, (0, v6)), (7, (0, v7)), (8, (0, v8)), (11, (2, v11)), (13, (0, v13))]) (pc := 193) (daX11_stretch_1 47 rfl) (Nat.le_of_ble_eq_true rfl) rfl ?_
            refine GM_lload (pc := 195) 1 rfl (daX11_stretch_1 48 rfl) ?_
            refine GM_lstore (L' := [(11, (2, w64 (r5 * r5))), (9, (2, y9)), (19, (2, w64 (r5 * r5))), (17, (2, y9)), (15, (2, r5)), (14, (0, r4)), (0, (3, v0)), (3, (0, v3)), (4, (0, v4)), (5, (0, v5)), (6, (0, v6)), (7, (0, v7)), (8, (0, v8)), (13, (0, v13))]) (pc := 197) (daX11_stretch_1 49 rfl) (Nat.le_of_ble_eq_true rfl) rfl ?_
            refine GM_iinc (L' := [(13, (0, w32 (v13 + 1))), (11, (2, w64 (r5 * r5))), (9, (2, y9)), (19, (2, w64 (r5 * r5))), (17, (2, y9)), (15, (2, r5)), (14, (0, r4)), (0, (3, v0)), (3, (0, v3)), (4, (0, v4)), (5, (0, v5)), (6, (0, v6)), (7, (0, v7)), (8, (0, v8))]) (pc := 199) 13 rfl (daX11_stretch_1 50 rfl) (Nat.le_of_ble_eq_true rfl) rfl ?_
            refine GM_goto (pc := 202) 49 (daX11_stretch_1 51 rfl) rfl ?_
            refine GM_pick [7, 8, 9, 10, 11, 12, 13, 2, 1, 0] rfl ?_
            cases h
            exact hK
          · skip
            have c12 := (not_congr lcmp_lt).mp c12
            rw [if_neg c12] at h
            refine GM_goto (pc := 188) 199 (daX11_stretch_1 45 rfl) rfl ?_
            refine GM_iinc (L' := [(13, (0, w32 (v13 + 1))), (19, (2, w64 (r5 * r5))), (17, (2, y9)), (15, (2, r5)), (14, (0, r4)), (0, (3, v0)), (3, (0, v3)), (4, (0, v4)), (5, (0, v5)), (6, (0, v6)), (7, (0, v7)), (8, (0, v8)), (9, (2, v9)), (11, (2, v11))]) (pc := 199) 13 rfl (daX11_stretch_1 50 rfl) (Nat.le_of_ble_eq_true rfl) rfl ?_
            refine GM_goto (pc := 202) 49 (daX11_stretch_1 51 rfl) rfl ?_
            refine GM_pick [5, 6, 7, 8, 9, 10, 11, 12, 13, 0] rfl ?_
            cases h
            exact hK
        · skip
          rw [if_neg c11] at h
          refine GM_lload (pc := 157) 1 rfl (daX11_stretch_1 28 rfl) ?_
          refine GM_lload (pc := 159) 12 rfl (daX11_stretch_1 29 rfl) ?_
          refine GM_lmul (pc := 161) (daX11_stretch_1 30 rfl) ?_
          refine GM_lload (pc := 162) 11 rfl (daX11_stretch_1 31 rfl) ?_
          refine GM_lload (pc := 164) 0 rfl (daX11_stretch_1 32 rfl) ?_
          refine GM_lmul (pc := 166) (daX11_stretch_1 33 rfl) ?_
          refine GM_lcmp (pc := 167) (daX11_stretch_1 34 rfl) ?_
          refine GM_if_gt (pc := 168) 191 (daX11_stretch_1 35 rfl) rfl (fun c13 => ?_) (fun c13 => ?_)
          · skip
            have c13 := lcmp_gt.mp c13
            rw [if_pos c13] at h
            refine GM_lload (pc := 191) 1 rfl (daX11_stretch_1 46 rfl) ?_
            refine GM_lstore (L' := [(9, (2, y9)), (19, (2, w64 (r5 * r5))), (17, (2, y9)), (15, (2, r5)), (14, (0, r4)), (0, (3, v0)), (3, (0, v3)), (4, (0, v4)), (5, (0, v5)), (6, (0, v6)), (7, (0, v7)), (8, (0, v8)), (11, (2, v11)), (13, (0, v13))]) (pc := 193) (daX11_stretch_1 47 rfl) (Nat.le_of_ble_eq_true rfl) rfl ?_
            refine GM_lload (pc := 195) 1 rfl (daX11_stretch_1 48 rfl) ?_
            refine GM_lstore (L' := [(11, (2, w64 (r5 * r5))), (9, (2, y9)), (19, (2, w64 (r5 * r5))), (17, (2, y9)), (15, (2, r5)), (14, (0, r4)), (0, (3, v0)), (3, (0, v3)), (4, (0, v4)), (5, (0, v5)), (6, (0, v6)), (7, (0, v7)), (8, (0, v8)), (13, (0, v13))]) (pc := 197) (daX11_stretch_1 49 rfl) (Nat.le_of_ble_eq_true rfl) rfl ?_
            refine GM_iinc (L' := [(13, (0, w32 (v13 + 1))), (11, (2, w64 (r5 * r5))), (9, (2, y9)), (19, (2, w64 (r5 * r5))), (17, (2, y9)), (15, (2, r5)), (14, (0, r4)), (0, (3, v0)), (3, (0, v3)), (4, (0, v4)), (5, (0, v5)), (6, (0, v6)), (7, (0, v7)), (8, (0, v8))]) (pc := 199) 13 rfl (daX11_stretch_1 50 rfl) (Nat.le_of_ble_eq_true rfl) rfl ?_
            refine GM_goto (pc := 202) 49 (daX11_stretch_1 51 rfl) rfl ?_
            refine GM_pick [7, 8, 9, 10, 11, 12, 13, 2, 1, 0] rfl ?_
            cases h
            exact hK
          · skip
            have c13 := (not_congr lcmp_gt).mp c13
            rw [if_neg c13] at h
            refine GM_goto (pc := 171) 199 (daX11_stretch_1 36 rfl) rfl ?_
            refine GM_iinc (L' := [(13, (0, w32 (v13 + 1))), (19, (2, w64 (r5 * r5))), (17, (2, y9)), (15, (2, r5)), (14, (0, r4)), (0, (3, v0)), (3, (0, v3)), (4, (0, v4)), (5, (0, v5)), (6, (0, v6)), (7, (0, v7)), (8, (0, v8)), (9, (2, v9)), (11, (2, v11))]) (pc := 199) 13 rfl (daX11_stretch_1 50 rfl) (Nat.le_of_ble_eq_true rfl) rfl ?_
            refine GM_goto (pc := 202) 49 (daX11_stretch_1 51 rfl) rfl ?_
            refine GM_pick [5, 6, 7, 8, 9, 10, 11, 12, 13, 0] rfl ?_
            cases h
            exact hK
    · skip
      have c6 := (not_congr lcmp_gt).mp c6
      rw [if_neg c6] at h
      refine GM_goto (pc := 93) 199 (daX11_stretch_0 54 rfl) rfl ?_
      refine GM_iinc (L' := [(13, (0, w32 (v13 + 1))), (15, (2, r5)), (14, (0, r4)), (0, (3, v0)), (3, (0, v3)), (4, (0, v4)), (5, (0, v5)), (6, (0, v6)), (7, (0, v7)), (8, (0, v8)), (9, (2, v9)), (11, (2, v11))]) (pc := 199) 11 rfl (daX11_stretch_1 50 rfl) (Nat.le_of_ble_eq_true rfl) rfl ?_
      refine GM_goto (pc := 202) 49 (daX11_stretch_1 51 rfl) rfl ?_
      refine GM_pick [3, 4, 5, 6, 7, 8, 9, 10, 11, 0] rfl ?_
      cases h
      exact hK
set_option maxRecDepth 20000 in
theorem gX11_stretch_226 (l : Launch) {F : FI} {v9 v11 s0 : Int} {μ : Mm} {t : (Int × Mm)} (h : jX11_stretch_226 v9 v11 s0 μ = some t) (hK : F.1 = [(0, t.1)] ∧ F.2.1 = t.2) : GM l mX11_stretch F 0 0 226 [(9, (2, v9)), (11, (2, v11))] [(2, s0)] μ := by
  unfold jX11_stretch_226 at h
  refine GM_lload (pc := 226) 0 rfl (daX11_stretch_1 63 rfl) ?_
  refine GM_lload (pc := 228) 1 rfl (daX11_stretch_2 0 rfl) ?_
  obtain ⟨r14, hf14, h⟩ := Option.bind_eq_some_iff.mp h
  refine GM_callS0 (pc := 230) [(2, v9), (2, v11)] (tX11_common l hf14) cwX11_common ks_X11_common km_X11_69 ⟨Nat.le_of_ble_eq_true rfl, Nat.le_of_ble_eq_true rfl⟩ (Nat.le_of_ble_eq_true rfl) (Nat.le_of_ble_eq_true rfl) (daX11_stretch_2 1 rfl) ?_
  obtain ⟨hc15, h⟩ := chk_inv h
  refine GM_ldiv (pc := 233) (daX11_stretch_2 2 rfl) hc15 ?_
  refine GM_l2i (pc := 234) (daX11_stretch_2 3 rfl) ?_
  cases h
  exact GM_iret (pc := 235) (daX11_stretch_2 4 rfl) rfl hK
set_option maxRecDepth 20000 in
theorem gX11_stretch_0 (l : Launch) {F : FI} {v0 v1 v2 v3 v4 v5 v6 : Int} {μ : Mm} {t : (Int × Mm)} (h : fX11_stretch v0 v1 v2 v3 v4 v5 v6 μ = some t) (hK : F.1 = [(0, t.1)] ∧ F.2.1 = t.2) : GM l mX11_stretch F 0 0 0 [(0, (3, v0)), (1, (0, v1)), (2, (0, v2)), (3, (0, v3)), (4, (0, v4)), (5, (0, v5)), (6, (0, v6))] [] μ := by
  unfold fX11_stretch at h
  refine GM_aload_n (pc := 0) 0 rfl (daX11_stretch_0 0 rfl) rfl ?_
  refine GM_iload_n (pc := 1) 1 rfl (daX11_stretch_0 1 rfl) rfl ?_
  refine GM_iload_n (pc := 2) 2 rfl (daX11_stretch_0 2 rfl) rfl ?_
  refine GM_iload_n (pc := 3) 3 rfl (daX11_stretch_0 3 rfl) rfl ?_
  refine GM_iload (pc := 4) 4 rfl (daX11_stretch_0 4 rfl) ?_
  obtain ⟨hc16, h⟩ := chk_inv h
  obtain ⟨⟨r17, μ17⟩, hf17, h⟩ := Option.bind_eq_some_iff.mp h
  dsimp only at h
  refine GM_callV0 (pc := 6) [(0, v1), (0, v2), (0, v3), (0, v4)] (tX11_isStart l hf17) cwX11_isStart 11 (Nat.le_of_ble_eq_true rfl) rfl kv_X11_isStart ke_X11_isStart km_X11_286 hc16 ⟨Nat.le_of_ble_eq_true rfl, Nat.le_of_ble_eq_true rfl⟩ (Nat.le_of_ble_eq_true rfl) (Nat.le_of_ble_eq_true rfl) (daX11_stretch_0 5 rfl) ?_
  refine GM_if_ne (pc := 9) 14 (daX11_stretch_0 6 rfl) rfl (fun c18 => ?_) (fun c18 => ?_)
  · skip
    rw [if_neg c18] at h
    refine GM_iconst (pc := 14) 0 (daX11_stretch_0 9 rfl) rfl (R32_b rfl) ?_
    refine GM_iload_n (pc := 15) 1 rfl (daX11_stretch_0 10 rfl) rfl ?_
    obtain ⟨r19, hf19, h⟩ := Option.bind_eq_some_iff.mp h
    refine GM_callS0 (pc := 16) [(0, 0), (0, v1)] (tX11_placeOf l hf19) cwX11_placeOf ks_X11_placeOf km_X11_204 ⟨Nat.le_of_ble_eq_true rfl, Nat.le_of_ble_eq_true rfl⟩ (Nat.le_of_ble_eq_true rfl) (Nat.le_of_ble_eq_true rfl) (daX11_stretch_0 11 rfl) ?_
    refine GM_istore (L' := [(7, (0, r19)), (0, (3, v0)), (1, (0, v1)), (2, (0, v2)), (3, (0, v3)), (4, (0, v4)), (5, (0, v5)), (6, (0, v6))]) (pc := 19) (daX11_stretch_0 12 rfl) (Nat.le_of_ble_eq_true rfl) rfl ?_
    refine GM_iconst (pc := 21) 1 (daX11_stretch_0 13 rfl) rfl (R32_b rfl) ?_
    refine GM_iload_n (pc := 22) 3 rfl (daX11_stretch_0 14 rfl) rfl ?_
    obtain ⟨r20, hf20, h⟩ := Option.bind_eq_some_iff.mp h
    refine GM_callS0 (pc := 23) [(0, 1), (0, v2)] (tX11_placeOf l hf20) cwX11_placeOf ks_X11_placeOf km_X11_204 ⟨Nat.le_of_ble_eq_true rfl, Nat.le_of_ble_eq_true rfl⟩ (Nat.le_of_ble_eq_true rfl) (Nat.le_of_ble_eq_true rfl) (daX11_stretch_0 15 rfl) ?_
    refine GM_istore (L' := [(8, (0, r20)), (7, (0, r19)), (0, (3, v0)), (1, (0, v1)), (2, (0, v2)), (3, (0, v3)), (4, (0, v4)), (5, (0, v5)), (6, (0, v6))]) (pc := 26) (daX11_stretch_0 16 rfl) (Nat.le_of_ble_eq_true rfl) rfl ?_
    refine GM_aload_n (pc := 28) 2 rfl (daX11_stretch_0 17 rfl) rfl ?_
    refine GM_iload (pc := 29) 0 rfl (daX11_stretch_0 18 rfl) ?_
    refine GM_iload_n (pc := 31) 5 rfl (daX11_stretch_0 19 rfl) rfl ?_
    obtain ⟨r21, hf21, h⟩ := Option.bind_eq_some_iff.mp h
    refine GM_callV0 (pc := 32) [(0, r20), (0, v3)] (tX11_canBe l hf21) cwX11_canBe 11 (Nat.le_of_ble_eq_true rfl) rfl kv_X11_canBe ke_X11_canBe km_X11_263 hc16 ⟨Nat.le_of_ble_eq_true rfl, Nat.le_of_ble_eq_true rfl⟩ (Nat.le_of_ble_eq_true rfl) (Nat.le_of_ble_eq_true rfl) (daX11_stretch_0 20 rfl) ?_
    refine GM_if_ne (pc := 35) 40 (daX11_stretch_0 21 rfl) rfl (fun c22 => ?_) (fun c22 => ?_)
    · skip
      rw [if_neg c22] at h
      refine GM_lconst (pc := 40) 0 (daX11_stretch_0 24 rfl) rfl (R64_b rfl) ?_
      refine GM_lstore (L' := [(9, (2, 0)), (8, (0, r20)), (7, (0, r19)), (0, (3, v0)), (1, (0, v1)), (2, (0, v2)), (3, (0, v3)), (4, (0, v4)), (5, (0, v5)), (6, (0, v6))]) (pc := 41) (daX11_stretch_0 25 rfl) (Nat.le_of_ble_eq_true rfl) rfl ?_
      refine GM_lconst (pc := 43) 0 (daX11_stretch_0 26 rfl) rfl (R64_b rfl) ?_
      refine GM_lstore (L' := [(11, (2, 0)), (9, (2, 0)), (8, (0, r20)), (7, (0, r19)), (0, (3, v0)), (1, (0, v1)), (2, (0, v2)), (3, (0, v3)), (4, (0, v4)), (5, (0, v5)), (6, (0, v6))]) (pc := 44) (daX11_stretch_0 27 rfl) (Nat.le_of_ble_eq_true rfl) rfl ?_
      refine GM_iconst (pc := 46) 0 (daX11_stretch_0 28 rfl) rfl (R32_b rfl) ?_
      refine GM_istore (L' := [(13, (0, 0)), (11, (2, 0)), (9, (2, 0)), (8, (0, r20)), (7, (0, r19)), (0, (3, v0)), (1, (0, v1)), (2, (0, v2)), (3, (0, v3)), (4, (0, v4)), (5, (0, v5)), (6, (0, v6))]) (pc := 47) (daX11_stretch_0 29 rfl) (Nat.le_of_ble_eq_true rfl) rfl ?_
      refine GM_pick [5, 8, 9, 10, 11, 4, 3, 2, 1, 0] rfl ?_
      obtain ⟨x23, hqx23, h⟩ := Option.bind_eq_some_iff.mp h
      refine lop_ind (zX11_stretch_49 l F v0 v3 v4 v5 v6 r19 r20 μ17 0 0) (qX11_stretch_49 l F v0 v3 v4 v5 v6 r19 r20 μ17 0 0) FU _ x23 hqx23 ?_
      obtain ⟨v9_24, v11_24⟩ := x23
      dsimp only at h
      show GM l mX11_stretch F 0 0 205 [(6, (0, v6)), (9, (2, v9_24)), (11, (2, v11_24))] [] μ17
      refine GM_lload (pc := 205) 2 rfl (daX11_stretch_1 52 rfl) ?_
      refine GM_lconst (pc := 207) 0 (daX11_stretch_1 53 rfl) rfl (R64_b rfl) ?_
      refine GM_lcmp (pc := 208) (daX11_stretch_1 54 rfl) ?_
      refine GM_if_ne (pc := 209) 214 (daX11_stretch_1 55 rfl) rfl (fun c25 => ?_) (fun c25 => ?_)
      · skip
        have c25 := (not_congr lcmp_eq).mp c25
        rw [if_neg c25] at h
        refine GM_iload (pc := 214) 0 rfl (daX11_stretch_1 58 rfl) ?_
        refine GM_if_eq (pc := 216) 224 (daX11_stretch_1 59 rfl) rfl (fun c26 => ?_) (fun c26 => ?_)
        · skip
          rw [if_pos c26] at h
          refine GM_lload (pc := 224) 1 rfl (daX11_stretch_1 62 rfl) ?_
          refine GM_pick [1, 2] rfl ?_
          exact gX11_stretch_226 l h hK
        · skip
          rw [if_neg c26] at h
          refine GM_lload (pc := 219) 2 rfl (daX11_stretch_1 60 rfl) ?_
          refine GM_goto (pc := 221) 226 (daX11_stretch_1 61 rfl) rfl ?_
          refine GM_pick [1, 2] rfl ?_
          exact gX11_stretch_226 l h hK
      · skip
        have c25 := lcmp_eq.mp c25
        rw [if_pos c25] at h
        refine GM_iconst (pc := 212) (-1) (daX11_stretch_1 56 rfl) rfl (R32_b rfl) ?_
        cases h
        exact GM_iret (pc := 213) (daX11_stretch_1 57 rfl) rfl hK
    · skip
      rw [if_pos c22] at h
      refine GM_iconst (pc := 38) (-1) (daX11_stretch_0 22 rfl) rfl (R32_b rfl) ?_
      cases h
      exact GM_iret (pc := 39) (daX11_stretch_0 23 rfl) rfl hK
  · skip
    rw [if_pos c18] at h
    refine GM_iconst (pc := 12) (-1) (daX11_stretch_0 7 rfl) rfl (R32_b rfl) ?_
    cases h
    exact GM_iret (pc := 13) (daX11_stretch_0 8 rfl) rfl hK
theorem tX11_stretch (l : Launch) {v0 v1 v2 v3 v4 v5 v6 : Int} {μ : Mm} {t : (Int × Mm)} (h : fX11_stretch v0 v1 v2 v3 v4 v5 v6 μ = some t) : Ct l yX11_stretch mX11_stretch [(3, v0), (0, v1), (0, v2), (0, v3), (0, v4), (0, v5), (0, v6)] μ ([(0, t.1)], t.2, 0, 0) :=
  Ct_of (by decide +kernel) rfl rfl (Nat.le_of_ble_eq_true rfl) (fun _ _ _ => trivial) (gX11_stretch_0 l h ⟨rfl, rfl⟩)
def mX11_wrongs : MI := (RX11, cX11_wrongs, 8, (some .int), "wrongs", 5, 139, fun _ _ _ => True)
theorem cwX11_wrongs : CWd yX11_wrongs mX11_wrongs 4 := ⟨ki_X11, kk_X11_wrongs, ⟨by decide, by decide⟩, rfl⟩
def dtX11_wrongs_0 : List (Nat × Instr × Nat) := [(0, .iconst 0, 1), (1, .istore 5, 2), (3, .iconst 0, 1), (4, .istore 6, 2), (6, .iload 6, 2), (8, .aload_n 0, 1), (9, .getfield 7, 3), (12, .iload_n 2, 1), (13, .iaload, 1), (14, .if_icmp .ge 51, 3), (17, .iconst 0, 1), (18, .istore 7, 2), (20, .iload 7, 2), (22, .iload 6, 2), (24, .if_icmp .ge 35, 3), (27, .iload 5, 2), (29, .aload_n 0, 1), (30, .iload_n 1, 1), (31, .iload_n 2, 1), (32, .iload_n 3, 1), (33, .iload 4, 2), (35, .iload 7, 2), (37, .iload 6, 2), (39, .invokevirtual 270, 3), (42, .ifCond .eq 7, 3), (45, .iconst 0, 1), (46, .goto 4, 3), (49, .iconst 1, 1), (50, .iadd, 1), (51, .istore 5, 2), (53, .iinc 7 1, 3), (56, .goto (-36), 3), (59, .iinc 6 1, 3), (62, .goto (-56), 3), (65, .iload 5, 2), (67, .ireturn, 1)]
theorem ddX11_wrongs_0 : (dtX11_wrongs_0.all fun e => decide (decode mX11_wrongs.2.1 e.1 = .ok (e.2.1, e.2.2))) = true := by decide +kernel
theorem daX11_wrongs_0 (j : Nat) {pc n : Nat} {i : Instr} (h : dtX11_wrongs_0[j]? = some (pc, i, n)) : decode mX11_wrongs.2.1 pc = .ok (i, n) := dec_of (c := mX11_wrongs.2.1) ddX11_wrongs_0 h
def zX11_wrongs_20 (l : Launch) (F : FI) (v0 v1 v2 v3 v4 v6 : Int) (μ : Mm) (k n : Nat) : (Int × Int) ⊕ Int → Prop
  | .inl (v5, v7) => GM l mX11_wrongs F k n 20 [(0, (3, v0)), (1, (0, v1)), (2, (0, v2)), (3, (0, v3)), (4, (0, v4)), (5, (0, v5)), (6, (0, v6)), (7, (0, v7))] [] μ
  | .inr v5 => GM l mX11_wrongs F k n 59 [(0, (3, v0)), (1, (0, v1)), (2, (0, v2)), (3, (0, v3)), (4, (0, v4)), (5, (0, v5)), (6, (0, v6))] [] μ
def sX11_wrongs_20 (v0 v1 v2 v3 v4 v6 : Int) (μ : Mm) : (Int × Int) → Option ((Int × Int) ⊕ Int) := fun (v5, v7) =>
  if v6 ≤ v7 then
    some (.inr v5)
  else
    chk (KD v0 = 11) (
    (fX11_areRight v0 v1 v2 v3 v4 v7 v6 μ).bind fun r3 =>
    if r3 = 0 then
      some (.inl (w32 (v5 + 1), w32 (v7 + 1)))
    else
      some (.inl (w32 (v5 + 0), w32 (v7 + 1))))
def zX11_wrongs_6 (l : Launch) (F : FI) (v0 v1 v2 v3 v4 : Int) (μ : Mm) (k n : Nat) : (Int × Int) ⊕ Int → Prop
  | .inl (v5, v6) => GM l mX11_wrongs F k n 6 [(0, (3, v0)), (1, (0, v1)), (2, (0, v2)), (3, (0, v3)), (4, (0, v4)), (5, (0, v5)), (6, (0, v6))] [] μ
  | .inr v5 => GM l mX11_wrongs F k n 65 [(5, (0, v5))] [] μ
def sX11_wrongs_6 (v0 v1 v2 v3 v4 : Int) (μ : Mm) : (Int × Int) → Option ((Int × Int) ⊕ Int) := fun (v5, v6) =>
  chk (KD v0 = 11) (
  chk (KD (μ v0 0) = 12 ∧ 0 ≤ v2 ∧ v2 < LN (μ v0 0)) (
  if μ (μ v0 0) v2 ≤ v6 then
    some (.inr v5)
  else
    (lop (sX11_wrongs_20 v0 v1 v2 v3 v4 v6 μ) FU (v5, 0)).bind fun v5_9 =>
      some (.inl (v5_9, w32 (v6 + 1)))))
def fX11_wrongs (v0 v1 v2 v3 v4 : Int) (μ : Mm) : Option Int :=
  (lop (sX11_wrongs_6 v0 v1 v2 v3 v4 μ) FU (0, 0)).bind fun v5_11 =>
    some v5_11
set_option maxRecDepth 20000 in
theorem qX11_wrongs_20 (l : Launch) (F : FI) (v0 v1 v2 v3 v4 v6 : Int) (μ : Mm) (k n : Nat) : ∀ (q : (Int × Int)) (t : ((Int × Int) ⊕ Int)), sX11_wrongs_20 v0 v1 v2 v3 v4 v6 μ q = some t → zX11_wrongs_20 l F v0 v1 v2 v3 v4 v6 μ k n t → zX11_wrongs_20 l F v0 v1 v2 v3 v4 v6 μ k n (.inl q) := by
  intro q t h hK
  obtain ⟨v5, v7⟩ := q
  unfold sX11_wrongs_20 at h
  try dsimp only at h
  show GM l mX11_wrongs F k n 20 [(0, (3, v0)), (1, (0, v1)), (2, (0, v2)), (3, (0, v3)), (4, (0, v4)), (5, (0, v5)), (6, (0, v6)), (7, (0, v7))] [] μ
  refine GM_iload (pc := 20) 7 rfl (daX11_wrongs_0 12 rfl) ?_
  refine GM_iload (pc := 22) 6 rfl (daX11_wrongs_0 13 rfl) ?_
  refine GM_icmp_ge (pc := 24) 59 (daX11_wrongs_0 14 rfl) rfl (fun c1 => ?_) (fun c1 => ?_)
  · skip
    rw [if_pos c1] at h
    refine GM_pick [0, 1, 2, 3, 4, 5, 6] rfl ?_
    cases h
    exact hK
  · skip
    rw [if_neg c1] at h
    refine GM_iload (pc := 27) 5 rfl (daX11_wrongs_0 15 rfl) ?_
    refine GM_aload_n (pc := 29) 0 rfl (daX11_wrongs_0 16 rfl) rfl ?_
    refine GM_iload_n (pc := 30) 1 rfl (daX11_wrongs_0 17 rfl) rfl ?_
    refine GM_iload_n (pc := 31) 2 rfl (daX11_wrongs_0 18 rfl) rfl ?_
    refine GM_iload_n (pc := 32) 3 rfl (daX11_wrongs_0 19 rfl) rfl ?_
    refine GM_iload (pc := 33) 4 rfl (daX11_wrongs_0 20 rfl) ?_
    refine GM_iload (pc := 35) 7 rfl (daX11_wrongs_0 21 rfl) ?_
    refine GM_iload (pc := 37) 6 rfl (daX11_wrongs_0 22 rfl) ?_
    obtain ⟨hc2, h⟩ := chk_inv h
    obtain ⟨r3, hf3, h⟩ := Option.bind_eq_some_iff.mp h
    refine GM_callV0 (pc := 39) [(0, v1), (0, v2), (0, v3), (0, v4), (0, v7), (0, v6)] (tX11_areRight l hf3) cwX11_areRight 11 (Nat.le_of_ble_eq_true rfl) rfl kv_X11_areRight ke_X11_areRight km_X11_270 hc2 ⟨Nat.le_of_ble_eq_true rfl, Nat.le_of_ble_eq_true rfl⟩ (Nat.le_of_ble_eq_true rfl) (Nat.le_of_ble_eq_true rfl) (daX11_wrongs_0 23 rfl) ?_
    refine GM_if_eq (pc := 42) 49 (daX11_wrongs_0 24 rfl) rfl (fun c4 => ?_) (fun c4 => ?_)
    · skip
      rw [if_pos c4] at h
      refine GM_iconst (pc := 49) 1 (daX11_wrongs_0 27 rfl) rfl (R32_b rfl) ?_
      refine GM_iadd (pc := 50) (daX11_wrongs_0 28 rfl) ?_
      refine GM_istore (L' := [(5, (0, w32 (v5 + 1))), (0, (3, v0)), (1, (0, v1)), (2, (0, v2)), (3, (0, v3)), (4, (0, v4)), (6, (0, v6)), (7, (0, v7))]) (pc := 51) (daX11_wrongs_0 29 rfl) (Nat.le_of_ble_eq_true rfl) rfl ?_
      refine GM_iinc (L' := [(7, (0, w32 (v7 + 1))), (5, (0, w32 (v5 + 1))), (0, (3, v0)), (1, (0, v1)), (2, (0, v2)), (3, (0, v3)), (4, (0, v4)), (6, (0, v6))]) (pc := 53) 7 rfl (daX11_wrongs_0 30 rfl) (Nat.le_of_ble_eq_true rfl) rfl ?_
      refine GM_goto (pc := 56) 20 (daX11_wrongs_0 31 rfl) rfl ?_
      refine GM_pick [2, 3, 4, 5, 6, 1, 7, 0] rfl ?_
      cases h
      exact hK
    · skip
      rw [if_neg c4] at h
      refine GM_iconst (pc := 45) 0 (daX11_wrongs_0 25 rfl) rfl (R32_b rfl) ?_
      refine GM_goto (pc := 46) 50 (daX11_wrongs_0 26 rfl) rfl ?_
      refine GM_iadd (pc := 50) (daX11_wrongs_0 28 rfl) ?_
      refine GM_istore (L' := [(5, (0, w32 (v5 + 0))), (0, (3, v0)), (1, (0, v1)), (2, (0, v2)), (3, (0, v3)), (4, (0, v4)), (6, (0, v6)), (7, (0, v7))]) (pc := 51) (daX11_wrongs_0 29 rfl) (Nat.le_of_ble_eq_true rfl) rfl ?_
      refine GM_iinc (L' := [(7, (0, w32 (v7 + 1))), (5, (0, w32 (v5 + 0))), (0, (3, v0)), (1, (0, v1)), (2, (0, v2)), (3, (0, v3)), (4, (0, v4)), (6, (0, v6))]) (pc := 53) 7 rfl (daX11_wrongs_0 30 rfl) (Nat.le_of_ble_eq_true rfl) rfl ?_
      refine GM_goto (pc := 56) 20 (daX11_wrongs_0 31 rfl) rfl ?_
      refine GM_pick [2, 3, 4, 5, 6, 1, 7, 0] rfl ?_
      cases h
      exact hK
set_option maxRecDepth 20000 in
theorem qX11_wrongs_6 (l : Launch) (F : FI) (v0 v1 v2 v3 v4 : Int) (μ : Mm) (k n : Nat) : ∀ (q : (Int × Int)) (t : ((Int × Int) ⊕ Int)), sX11_wrongs_6 v0 v1 v2 v3 v4 μ q = some t → zX11_wrongs_6 l F v0 v1 v2 v3 v4 μ k n t → zX11_wrongs_6 l F v0 v1 v2 v3 v4 μ k n (.inl q) := by
  intro q t h hK
  obtain ⟨v5, v6⟩ := q
  unfold sX11_wrongs_6 at h
  try dsimp only at h
  show GM l mX11_wrongs F k n 6 [(0, (3, v0)), (1, (0, v1)), (2, (0, v2)), (3, (0, v3)), (4, (0, v4)), (5, (0, v5)), (6, (0, v6))] [] μ
  refine GM_iload (pc := 6) 6 rfl (daX11_wrongs_0 4 rfl) ?_
  refine GM_aload_n (pc := 8) 0 rfl (daX11_wrongs_0 5 rfl) rfl ?_
  obtain ⟨hc5, h⟩ := chk_inv h
  refine GM_getf (pc := 9) 11 0 3 0 kf_X11_7 (Nat.le_of_ble_eq_true rfl) (Nat.le_of_ble_eq_true rfl) rfl (daX11_wrongs_0 6 rfl) hc5 rfl ?_
  refine GM_iload_n (pc := 12) 2 rfl (daX11_wrongs_0 7 rfl) rfl ?_
  obtain ⟨hc6, h⟩ := chk_inv h
  refine GM_iald (pc := 13) (daX11_wrongs_0 8 rfl) hc6.1 hc6.2.1 hc6.2.2 ?_
  refine GM_icmp_ge (pc := 14) 65 (daX11_wrongs_0 9 rfl) rfl (fun c7 => ?_) (fun c7 => ?_)
  · skip
    rw [if_pos c7] at h
    refine GM_pick [5] rfl ?_
    cases h
    exact hK
  · skip
    rw [if_neg c7] at h
    refine GM_iconst (pc := 17) 0 (daX11_wrongs_0 10 rfl) rfl (R32_b rfl) ?_
    refine GM_istore (L' := [(7, (0, 0)), (0, (3, v0)), (1, (0, v1)), (2, (0, v2)), (3, (0, v3)), (4, (0, v4)), (5, (0, v5)), (6, (0, v6))]) (pc := 18) (daX11_wrongs_0 11 rfl) (Nat.le_of_ble_eq_true rfl) rfl ?_
    refine GM_pick [1, 2, 3, 4, 5, 6, 7, 0] rfl ?_
    obtain ⟨x8, hqx8, h⟩ := Option.bind_eq_some_iff.mp h
    refine lop_ind (zX11_wrongs_20 l F v0 v1 v2 v3 v4 v6 μ k n) (qX11_wrongs_20 l F v0 v1 v2 v3 v4 v6 μ k n) FU _ x8 hqx8 ?_
    obtain ⟨v5_9, hqq⟩ : ∃ z, z = x8 := ⟨x8, rfl⟩
    subst hqq
    show GM l mX11_wrongs F k n 59 [(0, (3, v0)), (1, (0, v1)), (2, (0, v2)), (3, (0, v3)), (4, (0, v4)), (5, (0, v5_9)), (6, (0, v6))] [] μ
    refine GM_iinc (L' := [(6, (0, w32 (v6 + 1))), (0, (3, v0)), (1, (0, v1)), (2, (0, v2)), (3, (0, v3)), (4, (0, v4)), (5, (0, v5_9))]) (pc := 59) 6 rfl (daX11_wrongs_0 32 rfl) (Nat.le_of_ble_eq_true rfl) rfl ?_
    refine GM_goto (pc := 62) 6 (daX11_wrongs_0 33 rfl) rfl ?_
    refine GM_pick [1, 2, 3, 4, 5, 6, 0] rfl ?_
    cases h
    exact hK
set_option maxRecDepth 20000 in
theorem gX11_wrongs_0 (l : Launch) {F : FI} {v0 v1 v2 v3 v4 : Int} {μ : Mm} {t : Int} (h : fX11_wrongs v0 v1 v2 v3 v4 μ = some t) (hK : F.1 = [(0, t)] ∧ F.2.1 = μ) : GM l mX11_wrongs F 0 0 0 [(0, (3, v0)), (1, (0, v1)), (2, (0, v2)), (3, (0, v3)), (4, (0, v4))] [] μ := by
  unfold fX11_wrongs at h
  refine GM_iconst (pc := 0) 0 (daX11_wrongs_0 0 rfl) rfl (R32_b rfl) ?_
  refine GM_istore (L' := [(5, (0, 0)), (0, (3, v0)), (1, (0, v1)), (2, (0, v2)), (3, (0, v3)), (4, (0, v4))]) (pc := 1) (daX11_wrongs_0 1 rfl) (Nat.le_of_ble_eq_true rfl) rfl ?_
  refine GM_iconst (pc := 3) 0 (daX11_wrongs_0 2 rfl) rfl (R32_b rfl) ?_
  refine GM_istore (L' := [(6, (0, 0)), (5, (0, 0)), (0, (3, v0)), (1, (0, v1)), (2, (0, v2)), (3, (0, v3)), (4, (0, v4))]) (pc := 4) (daX11_wrongs_0 3 rfl) (Nat.le_of_ble_eq_true rfl) rfl ?_
  refine GM_pick [2, 3, 4, 5, 6, 1, 0] rfl ?_
  obtain ⟨x10, hqx10, h⟩ := Option.bind_eq_some_iff.mp h
  refine lop_ind (zX11_wrongs_6 l F v0 v1 v2 v3 v4 μ 0 0) (qX11_wrongs_6 l F v0 v1 v2 v3 v4 μ 0 0) FU _ x10 hqx10 ?_
  obtain ⟨v5_11, hqq⟩ : ∃ z, z = x10 := ⟨x10, rfl⟩
  subst hqq
  show GM l mX11_wrongs F 0 0 65 [(5, (0, v5_11))] [] μ
  refine GM_iload (pc := 65) 0 rfl (daX11_wrongs_0 34 rfl) ?_
  cases h
  exact GM_iret (pc := 67) (daX11_wrongs_0 35 rfl) rfl hK
theorem tX11_wrongs (l : Launch) {v0 v1 v2 v3 v4 : Int} {μ : Mm} {t : Int} (h : fX11_wrongs v0 v1 v2 v3 v4 μ = some t) : Ct l yX11_wrongs mX11_wrongs [(3, v0), (0, v1), (0, v2), (0, v3), (0, v4)] μ ([(0, t)], μ, 0, 0) :=
  Ct_of (by decide +kernel) rfl rfl (Nat.le_of_ble_eq_true rfl) (fun _ _ _ => trivial) (gX11_wrongs_0 l h ⟨rfl, rfl⟩)
def mX11_wrong : MI := (RX11, cX11_wrong, 5, (some .int), "wrong", 8, 199, fun _ _ _ => True)
theorem cwX11_wrong : CWd yX11_wrong mX11_wrong 4 := ⟨ki_X11, kk_X11_wrong, ⟨by decide, by decide⟩, rfl⟩
def dtX11_wrong_0 : List (Nat × Instr × Nat) := [(0, .aload_n 0, 1), (1, .iload_n 1, 1), (2, .iload_n 2, 1), (3, .iload_n 3, 1), (4, .iload 4, 2), (6, .invokevirtual 286, 3), (9, .ifCond .eq 16, 3), (12, .aload_n 0, 1), (13, .iconst 1, 1), (14, .iload_n 2, 1), (15, .invokestatic 204, 3), (18, .iload_n 3, 1), (19, .invokevirtual 263, 3), (22, .ifCond .ne 5, 3), (25, .iconst (-1), 1), (26, .ireturn, 1), (27, .aload_n 0, 1), (28, .iconst 0, 1), (29, .iload_n 1, 1), (30, .invokestatic 204, 3), (33, .iconst 1, 1), (34, .iload_n 2, 1), (35, .invokestatic 204, 3), (38, .iload_n 3, 1), (39, .iload 4, 2), (41, .invokevirtual 381, 3), (44, .ireturn, 1)]
theorem ddX11_wrong_0 : (dtX11_wrong_0.all fun e => decide (decode mX11_wrong.2.1 e.1 = .ok (e.2.1, e.2.2))) = true := by decide +kernel
theorem daX11_wrong_0 (j : Nat) {pc n : Nat} {i : Instr} (h : dtX11_wrong_0[j]? = some (pc, i, n)) : decode mX11_wrong.2.1 pc = .ok (i, n) := dec_of (c := mX11_wrong.2.1) ddX11_wrong_0 h
def fX11_wrong (v0 v1 v2 v3 v4 : Int) (μ : Mm) : Option (Int × Mm) :=
  chk (KD v0 = 11) (
  (fX11_isStart v0 v1 v2 v3 v4 μ).bind fun (r2, μ2) =>
  if r2 = 0 then
    some ((-1), μ2)
  else
    (fX11_placeOf 1 v2).bind fun r4 =>
    (fX11_canBe v0 r4 v3 μ2).bind fun r5 =>
    if r5 = 0 then
      some ((-1), μ2)
    else
      (fX11_placeOf 0 v1).bind fun r7 =>
      (fX11_placeOf 1 v2).bind fun r8 =>
      (fX11_wrongs v0 r7 r8 v3 v4 μ2).bind fun r9 =>
      some (r9, μ2))
set_option maxRecDepth 20000 in
theorem gX11_wrong_0 (l : Launch) {F : FI} {v0 v1 v2 v3 v4 : Int} {μ : Mm} {t : (Int × Mm)} (h : fX11_wrong v0 v1 v2 v3 v4 μ = some t) (hK : F.1 = [(0, t.1)] ∧ F.2.1 = t.2) : GM l mX11_wrong F 0 0 0 [(0, (3, v0)), (1, (0, v1)), (2, (0, v2)), (3, (0, v3)), (4, (0, v4))] [] μ := by
  unfold fX11_wrong at h
  refine GM_aload_n (pc := 0) 0 rfl (daX11_wrong_0 0 rfl) rfl ?_
  refine GM_iload_n (pc := 1) 1 rfl (daX11_wrong_0 1 rfl) rfl ?_
  refine GM_iload_n (pc := 2) 2 rfl (daX11_wrong_0 2 rfl) rfl ?_
  refine GM_iload_n (pc := 3) 3 rfl (daX11_wrong_0 3 rfl) rfl ?_
  refine GM_iload (pc := 4) 4 rfl (daX11_wrong_0 4 rfl) ?_
  obtain ⟨hc1, h⟩ := chk_inv h
  obtain ⟨⟨r2, μ2⟩, hf2, h⟩ := Option.bind_eq_some_iff.mp h
  dsimp only at h
  refine GM_callV0 (pc := 6) [(0, v1), (0, v2), (0, v3), (0, v4)] (tX11_isStart l hf2) cwX11_isStart 11 (Nat.le_of_ble_eq_true rfl) rfl kv_X11_isStart ke_X11_isStart km_X11_286 hc1 ⟨Nat.le_of_ble_eq_true rfl, Nat.le_of_ble_eq_true rfl⟩ (Nat.le_of_ble_eq_true rfl) (Nat.le_of_ble_eq_true rfl) (daX11_wrong_0 5 rfl) ?_
  refine GM_if_eq (pc := 9) 25 (daX11_wrong_0 6 rfl) rfl (fun c3 => ?_) (fun c3 => ?_)
  · skip
    rw [if_pos c3] at h
    refine GM_iconst (pc := 25) (-1) (daX11_wrong_0 14 rfl) rfl (R32_b rfl) ?_
    cases h
    exact GM_iret (pc := 26) (daX11_wrong_0 15 rfl) rfl hK
  · skip
    rw [if_neg c3] at h
    refine GM_aload_n (pc := 12) 0 rfl (daX11_wrong_0 7 rfl) rfl ?_
    refine GM_iconst (pc := 13) 1 (daX11_wrong_0 8 rfl) rfl (R32_b rfl) ?_
    refine GM_iload_n (pc := 14) 2 rfl (daX11_wrong_0 9 rfl) rfl ?_
    obtain ⟨r4, hf4, h⟩ := Option.bind_eq_some_iff.mp h
    refine GM_callS0 (pc := 15) [(0, 1), (0, v2)] (tX11_placeOf l hf4) cwX11_placeOf ks_X11_placeOf km_X11_204 ⟨Nat.le_of_ble_eq_true rfl, Nat.le_of_ble_eq_true rfl⟩ (Nat.le_of_ble_eq_true rfl) (Nat.le_of_ble_eq_true rfl) (daX11_wrong_0 10 rfl) ?_
    refine GM_iload_n (pc := 18) 3 rfl (daX11_wrong_0 11 rfl) rfl ?_
    obtain ⟨r5, hf5, h⟩ := Option.bind_eq_some_iff.mp h
    refine GM_callV0 (pc := 19) [(0, r4), (0, v3)] (tX11_canBe l hf5) cwX11_canBe 11 (Nat.le_of_ble_eq_true rfl) rfl kv_X11_canBe ke_X11_canBe km_X11_263 hc1 ⟨Nat.le_of_ble_eq_true rfl, Nat.le_of_ble_eq_true rfl⟩ (Nat.le_of_ble_eq_true rfl) (Nat.le_of_ble_eq_true rfl) (daX11_wrong_0 12 rfl) ?_
    refine GM_if_ne (pc := 22) 27 (daX11_wrong_0 13 rfl) rfl (fun c6 => ?_) (fun c6 => ?_)
    · skip
      rw [if_neg c6] at h
      refine GM_aload_n (pc := 27) 0 rfl (daX11_wrong_0 16 rfl) rfl ?_
      refine GM_iconst (pc := 28) 0 (daX11_wrong_0 17 rfl) rfl (R32_b rfl) ?_
      refine GM_iload_n (pc := 29) 1 rfl (daX11_wrong_0 18 rfl) rfl ?_
      obtain ⟨r7, hf7, h⟩ := Option.bind_eq_some_iff.mp h
      refine GM_callS0 (pc := 30) [(0, 0), (0, v1)] (tX11_placeOf l hf7) cwX11_placeOf ks_X11_placeOf km_X11_204 ⟨Nat.le_of_ble_eq_true rfl, Nat.le_of_ble_eq_true rfl⟩ (Nat.le_of_ble_eq_true rfl) (Nat.le_of_ble_eq_true rfl) (daX11_wrong_0 19 rfl) ?_
      refine GM_iconst (pc := 33) 1 (daX11_wrong_0 20 rfl) rfl (R32_b rfl) ?_
      refine GM_iload_n (pc := 34) 2 rfl (daX11_wrong_0 21 rfl) rfl ?_
      obtain ⟨r8, hf8, h⟩ := Option.bind_eq_some_iff.mp h
      refine GM_callS0 (pc := 35) [(0, 1), (0, v2)] (tX11_placeOf l hf8) cwX11_placeOf ks_X11_placeOf km_X11_204 ⟨Nat.le_of_ble_eq_true rfl, Nat.le_of_ble_eq_true rfl⟩ (Nat.le_of_ble_eq_true rfl) (Nat.le_of_ble_eq_true rfl) (daX11_wrong_0 22 rfl) ?_
      refine GM_iload_n (pc := 38) 3 rfl (daX11_wrong_0 23 rfl) rfl ?_
      refine GM_iload (pc := 39) 4 rfl (daX11_wrong_0 24 rfl) ?_
      obtain ⟨r9, hf9, h⟩ := Option.bind_eq_some_iff.mp h
      refine GM_callV0 (pc := 41) [(0, r7), (0, r8), (0, v3), (0, v4)] (tX11_wrongs l hf9) cwX11_wrongs 11 (Nat.le_of_ble_eq_true rfl) rfl kv_X11_wrongs ke_X11_wrongs km_X11_381 hc1 ⟨Nat.le_of_ble_eq_true rfl, Nat.le_of_ble_eq_true rfl⟩ (Nat.le_of_ble_eq_true rfl) (Nat.le_of_ble_eq_true rfl) (daX11_wrong_0 25 rfl) ?_
      cases h
      exact GM_iret (pc := 44) (daX11_wrong_0 26 rfl) rfl hK
    · skip
      rw [if_pos c6] at h
      refine GM_iconst (pc := 25) (-1) (daX11_wrong_0 14 rfl) rfl (R32_b rfl) ?_
      cases h
      exact GM_iret (pc := 26) (daX11_wrong_0 15 rfl) rfl hK
theorem tX11_wrong (l : Launch) {v0 v1 v2 v3 v4 : Int} {μ : Mm} {t : (Int × Mm)} (h : fX11_wrong v0 v1 v2 v3 v4 μ = some t) : Ct l yX11_wrong mX11_wrong [(3, v0), (0, v1), (0, v2), (0, v3), (0, v4)] μ ([(0, t.1)], t.2, 0, 0) :=
  Ct_of (by decide +kernel) rfl rfl (Nat.le_of_ble_eq_true rfl) (fun _ _ _ => trivial) (gX11_wrong_0 l h ⟨rfl, rfl⟩)
def mX11_nearest : MI := (RX11, cX11_nearest, 11, (some .int), "nearest", 8, 197, fun _ _ _ => True)
theorem cwX11_nearest : CWd yX11_nearest mX11_nearest 3 := ⟨ki_X11, kk_X11_nearest, ⟨by decide, by decide⟩, rfl⟩
def dtX11_nearest_0 : List (Nat × Instr × Nat) := [(0, .aload_n 0, 1), (1, .iload_n 1, 1), (2, .iload_n 2, 1), (3, .invokevirtual 283, 3), (6, .ifCond .ne 5, 3), (9, .iconst (-1), 1), (10, .ireturn, 1), (11, .iconst 0, 1), (12, .iload_n 1, 1), (13, .invokestatic 204, 3), (16, .istore 4, 2), (18, .iconst 1, 1), (19, .iload_n 2, 1), (20, .invokestatic 204, 3), (23, .istore 5, 2), (25, .aload_n 0, 1), (26, .iload 4, 2), (28, .invokevirtual 295, 3), (31, .iconst (-1), 1), (32, .istore 6, 2), (34, .iconst 0, 1), (35, .istore 7, 2), (37, .iconst 0, 1), (38, .istore 8, 2), (40, .iload 8, 2), (42, .aload_n 0, 1), (43, .iload 4, 2), (45, .invokevirtual 207, 3), (48, .if_icmp .ge 78, 3), (51, .iconst 0, 1), (52, .istore 9, 2), (54, .iload 9, 2), (56, .aload_n 0, 1), (57, .getfield 29, 3), (60, .iload 8, 2), (62, .iaload, 1), (63, .if_icmp .ge 57, 3), (66, .aload_n 0, 1), (67, .iload 5, 2), (69, .iload 8, 2), (71, .invokevirtual 263, 3), (74, .ifCond .eq 46, 3), (77, .aload_n 0, 1), (78, .iload 4, 2), (80, .iload 5, 2), (82, .iload 8, 2), (84, .iload 9, 2), (86, .invokevirtual 381, 3), (89, .istore 10, 2), (91, .iload 6, 2), (93, .ifCond .lt 13, 3), (96, .iload 10, 2), (98, .iload 7, 2), (100, .if_icmp .lt 6, 3), (103, .goto 11, 3), (106, .iload 8, 2), (108, .istore 6, 2), (110, .iload 10, 2), (112, .istore 7, 2), (114, .iinc 9 1, 3), (117, .goto (-63), 3), (120, .iinc 8 1, 3), (123, .goto (-83), 3), (126, .iload 6, 2)]
theorem ddX11_nearest_0 : (dtX11_nearest_0.all fun e => decide (decode mX11_nearest.2.1 e.1 = .ok (e.2.1, e.2.2))) = true := by decide +kernel
theorem daX11_nearest_0 (j : Nat) {pc n : Nat} {i : Instr} (h : dtX11_nearest_0[j]? = some (pc, i, n)) : decode mX11_nearest.2.1 pc = .ok (i, n) := dec_of (c := mX11_nearest.2.1) ddX11_nearest_0 h
def dtX11_nearest_1 : List (Nat × Instr × Nat) := [(128, .ifCond .lt 7, 3), (131, .iload_n 3, 1), (132, .ifCond .ne 8, 3), (135, .iload 6, 2), (137, .goto 5, 3), (140, .iload 7, 2), (142, .ireturn, 1)]
theorem ddX11_nearest_1 : (dtX11_nearest_1.all fun e => decide (decode mX11_nearest.2.1 e.1 = .ok (e.2.1, e.2.2))) = true := by decide +kernel
theorem daX11_nearest_1 (j : Nat) {pc n : Nat} {i : Instr} (h : dtX11_nearest_1[j]? = some (pc, i, n)) : decode mX11_nearest.2.1 pc = .ok (i, n) := dec_of (c := mX11_nearest.2.1) ddX11_nearest_1 h
def zX11_nearest_54 (l : Launch) (F : FI) (v0 v3 v4 v5 v8 : Int) (μ : Mm) (k n : Nat) : (Int × Int × Int) ⊕ (Int × Int) → Prop
  | .inl (v6, v7, v9) => GM l mX11_nearest F k n 54 [(0, (3, v0)), (3, (0, v3)), (4, (0, v4)), (5, (0, v5)), (6, (0, v6)), (7, (0, v7)), (8, (0, v8)), (9, (0, v9))] [] μ
  | .inr (v6, v7) => GM l mX11_nearest F k n 120 [(0, (3, v0)), (3, (0, v3)), (4, (0, v4)), (5, (0, v5)), (6, (0, v6)), (7, (0, v7)), (8, (0, v8))] [] μ
def sX11_nearest_54 (v0 v3 v4 v5 v8 : Int) (μ : Mm) : (Int × Int × Int) → Option ((Int × Int × Int) ⊕ (Int × Int)) := fun (v6, v7, v9) =>
  chk (KD v0 = 11) (
  chk (KD (μ v0 16) = 12 ∧ 0 ≤ v8 ∧ v8 < LN (μ v0 16)) (
  if μ (μ v0 16) v8 ≤ v9 then
    some (.inr (v6, v7))
  else
    (fX11_canBe v0 v5 v8 μ).bind fun r4 =>
    if r4 = 0 then
      some (.inr (v6, v7))
    else
      (fX11_wrongs v0 v4 v5 v8 v9 μ).bind fun r6 =>
      if v6 < 0 then
        some (.inl (v8, r6, w32 (v9 + 1)))
      else
        if r6 < v7 then
          some (.inl (v8, r6, w32 (v9 + 1)))
        else
          some (.inl (v6, v7, w32 (v9 + 1)))))
def zX11_nearest_40 (l : Launch) (F : FI) (v0 v3 v4 v5 : Int) (μ : Mm) (k n : Nat) : (Int × Int × Int) ⊕ (Int × Int) → Prop
  | .inl (v6, v7, v8) => GM l mX11_nearest F k n 40 [(0, (3, v0)), (3, (0, v3)), (4, (0, v4)), (5, (0, v5)), (6, (0, v6)), (7, (0, v7)), (8, (0, v8))] [] μ
  | .inr (v6, v7) => GM l mX11_nearest F k n 126 [(3, (0, v3)), (6, (0, v6)), (7, (0, v7))] [] μ
def sX11_nearest_40 (v0 v3 v4 v5 : Int) (μ : Mm) : (Int × Int × Int) → Option ((Int × Int × Int) ⊕ (Int × Int)) := fun (v6, v7, v8) =>
  chk (KD v0 = 11) (
  (fX11_placesOf v0 v4 μ).bind fun r10 =>
  if r10 ≤ v8 then
    some (.inr (v6, v7))
  else
    (lop (sX11_nearest_54 v0 v3 v4 v5 v8 μ) FU (v6, v7, 0)).bind fun x12 =>
      match x12 with
      | (v6_13, v7_13) =>
        some (.inl (v6_13, v7_13, w32 (v8 + 1))))
def fX11_nearest (v0 v1 v2 v3 : Int) (μ : Mm) : Option (Int × Mm) :=
  chk (KD v0 = 11) (
  (fX11_areBoth v0 v1 v2 μ).bind fun r15 =>
  if r15 = 0 then
    some ((-1), μ)
  else
    (fX11_placeOf 0 v1).bind fun r17 =>
    (fX11_placeOf 1 v2).bind fun r18 =>
    (fX11_survey v0 r17 μ).bind fun μ19 =>
    (lop (sX11_nearest_40 v0 v3 r17 r18 μ19) FU ((-1), 0, 0)).bind fun x20 =>
      match x20 with
      | (v6_21, v7_21) =>
        if v6_21 < 0 then
          some (v6_21, μ19)
        else
          if v3 = 0 then
            some (v6_21, μ19)
          else
            some (v7_21, μ19))
set_option maxRecDepth 20000 in
theorem qX11_nearest_54 (l : Launch) (F : FI) (v0 v3 v4 v5 v8 : Int) (μ : Mm) (k n : Nat) : ∀ (q : (Int × Int × Int)) (t : ((Int × Int × Int) ⊕ (Int × Int))), sX11_nearest_54 v0 v3 v4 v5 v8 μ q = some t → zX11_nearest_54 l F v0 v3 v4 v5 v8 μ k n t → zX11_nearest_54 l F v0 v3 v4 v5 v8 μ k n (.inl q) := by
  intro q t h hK
  obtain ⟨v6, v7, v9⟩ := q
  unfold sX11_nearest_54 at h
  try dsimp only at h
  show GM l mX11_nearest F k n 54 [(0, (3, v0)), (3, (0, v3)), (4, (0, v4)), (5, (0, v5)), (6, (0, v6)), (7, (0, v7)), (8, (0, v8)), (9, (0, v9))] [] μ
  refine GM_iload (pc := 54) 7 rfl (daX11_nearest_0 31 rfl) ?_
  refine GM_aload_n (pc := 56) 0 rfl (daX11_nearest_0 32 rfl) rfl ?_
  obtain ⟨hc1, h⟩ := chk_inv h
  refine GM_getf (pc := 57) 11 16 3 16 kf_X11_29 (Nat.le_of_ble_eq_true rfl) (Nat.le_of_ble_eq_true rfl) rfl (daX11_nearest_0 33 rfl) hc1 rfl ?_
  refine GM_iload (pc := 60) 6 rfl (daX11_nearest_0 34 rfl) ?_
  obtain ⟨hc2, h⟩ := chk_inv h
  refine GM_iald (pc := 62) (daX11_nearest_0 35 rfl) hc2.1 hc2.2.1 hc2.2.2 ?_
  refine GM_icmp_ge (pc := 63) 120 (daX11_nearest_0 36 rfl) rfl (fun c3 => ?_) (fun c3 => ?_)
  · skip
    rw [if_pos c3] at h
    refine GM_pick [0, 1, 2, 3, 4, 5, 6] rfl ?_
    cases h
    exact hK
  · skip
    rw [if_neg c3] at h
    refine GM_aload_n (pc := 66) 0 rfl (daX11_nearest_0 37 rfl) rfl ?_
    refine GM_iload (pc := 67) 3 rfl (daX11_nearest_0 38 rfl) ?_
    refine GM_iload (pc := 69) 6 rfl (daX11_nearest_0 39 rfl) ?_
    obtain ⟨r4, hf4, h⟩ := Option.bind_eq_some_iff.mp h
    refine GM_callV0 (pc := 71) [(0, v5), (0, v8)] (tX11_canBe l hf4) cwX11_canBe 11 (Nat.le_of_ble_eq_true rfl) rfl kv_X11_canBe ke_X11_canBe km_X11_263 hc1 ⟨Nat.le_of_ble_eq_true rfl, Nat.le_of_ble_eq_true rfl⟩ (Nat.le_of_ble_eq_true rfl) (Nat.le_of_ble_eq_true rfl) (daX11_nearest_0 40 rfl) ?_
    refine GM_if_eq (pc := 74) 120 (daX11_nearest_0 41 rfl) rfl (fun c5 => ?_) (fun c5 => ?_)
    · skip
      rw [if_pos c5] at h
      refine GM_pick [0, 1, 2, 3, 4, 5, 6] rfl ?_
      cases h
      exact hK
    · skip
      rw [if_neg c5] at h
      refine GM_aload_n (pc := 77) 0 rfl (daX11_nearest_0 42 rfl) rfl ?_
      refine GM_iload (pc := 78) 2 rfl (daX11_nearest_0 43 rfl) ?_
      refine GM_iload (pc := 80) 3 rfl (daX11_nearest_0 44 rfl) ?_
      refine GM_iload (pc := 82) 6 rfl (daX11_nearest_0 45 rfl) ?_
      refine GM_iload (pc := 84) 7 rfl (daX11_nearest_0 46 rfl) ?_
      obtain ⟨r6, hf6, h⟩ := Option.bind_eq_some_iff.mp h
      refine GM_callV0 (pc := 86) [(0, v4), (0, v5), (0, v8), (0, v9)] (tX11_wrongs l hf6) cwX11_wrongs 11 (Nat.le_of_ble_eq_true rfl) rfl kv_X11_wrongs ke_X11_wrongs km_X11_381 hc1 ⟨Nat.le_of_ble_eq_true rfl, Nat.le_of_ble_eq_true rfl⟩ (Nat.le_of_ble_eq_true rfl) (Nat.le_of_ble_eq_true rfl) (daX11_nearest_0 47 rfl) ?_
      refine GM_istore (L' := [(10, (0, r6)), (0, (3, v0)), (3, (0, v3)), (4, (0, v4)), (5, (0, v5)), (6, (0, v6)), (7, (0, v7)), (8, (0, v8)), (9, (0, v9))]) (pc := 89) (daX11_nearest_0 48 rfl) (Nat.le_of_ble_eq_true rfl) rfl ?_
      refine GM_iload (pc := 91) 5 rfl (daX11_nearest_0 49 rfl) ?_
      refine GM_if_lt (pc := 93) 106 (daX11_nearest_0 50 rfl) rfl (fun c7 => ?_) (fun c7 => ?_)
      · skip
        rw [if_pos c7] at h
        refine GM_iload (pc := 106) 7 rfl (daX11_nearest_0 55 rfl) ?_
        refine GM_istore (L' := [(6, (0, v8)), (10, (0, r6)), (0, (3, v0)), (3, (0, v3)), (4, (0, v4)), (5, (0, v5)), (7, (0, v7)), (8, (0, v8)), (9, (0, v9))]) (pc := 108) (daX11_nearest_0 56 rfl) (Nat.le_of_ble_eq_true rfl) rfl ?_
        refine GM_iload (pc := 110) 1 rfl (daX11_nearest_0 57 rfl) ?_
        refine GM_istore (L' := [(7, (0, r6)), (6, (0, v8)), (10, (0, r6)), (0, (3, v0)), (3, (0, v3)), (4, (0, v4)), (5, (0, v5)), (8, (0, v8)), (9, (0, v9))]) (pc := 112) (daX11_nearest_0 58 rfl) (Nat.le_of_ble_eq_true rfl) rfl ?_
        refine GM_iinc (L' := [(9, (0, w32 (v9 + 1))), (7, (0, r6)), (6, (0, v8)), (10, (0, r6)), (0, (3, v0)), (3, (0, v3)), (4, (0, v4)), (5, (0, v5)), (8, (0, v8))]) (pc := 114) 8 rfl (daX11_nearest_0 59 rfl) (Nat.le_of_ble_eq_true rfl) rfl ?_
        refine GM_goto (pc := 117) 54 (daX11_nearest_0 60 rfl) rfl ?_
        refine GM_pick [4, 5, 6, 7, 2, 1, 8, 0] rfl ?_
        cases h
        exact hK
      · skip
        rw [if_neg c7] at h
        refine GM_iload (pc := 96) 0 rfl (daX11_nearest_0 51 rfl) ?_
        refine GM_iload (pc := 98) 6 rfl (daX11_nearest_0 52 rfl) ?_
        refine GM_icmp_lt (pc := 100) 106 (daX11_nearest_0 53 rfl) rfl (fun c8 => ?_) (fun c8 => ?_)
        · skip
          rw [if_pos c8] at h
          refine GM_iload (pc := 106) 7 rfl (daX11_nearest_0 55 rfl) ?_
          refine GM_istore (L' := [(6, (0, v8)), (10, (0, r6)), (0, (3, v0)), (3, (0, v3)), (4, (0, v4)), (5, (0, v5)), (7, (0, v7)), (8, (0, v8)), (9, (0, v9))]) (pc := 108) (daX11_nearest_0 56 rfl) (Nat.le_of_ble_eq_true rfl) rfl ?_
          refine GM_iload (pc := 110) 1 rfl (daX11_nearest_0 57 rfl) ?_
          refine GM_istore (L' := [(7, (0, r6)), (6, (0, v8)), (10, (0, r6)), (0, (3, v0)), (3, (0, v3)), (4, (0, v4)), (5, (0, v5)), (8, (0, v8)), (9, (0, v9))]) (pc := 112) (daX11_nearest_0 58 rfl) (Nat.le_of_ble_eq_true rfl) rfl ?_
          refine GM_iinc (L' := [(9, (0, w32 (v9 + 1))), (7, (0, r6)), (6, (0, v8)), (10, (0, r6)), (0, (3, v0)), (3, (0, v3)), (4, (0, v4)), (5, (0, v5)), (8, (0, v8))]) (pc := 114) 8 rfl (daX11_nearest_0 59 rfl) (Nat.le_of_ble_eq_true rfl) rfl ?_
          refine GM_goto (pc := 117) 54 (daX11_nearest_0 60 rfl) rfl ?_
          refine GM_pick [4, 5, 6, 7, 2, 1, 8, 0] rfl ?_
          cases h
          exact hK
        · skip
          rw [if_neg c8] at h
          refine GM_goto (pc := 103) 114 (daX11_nearest_0 54 rfl) rfl ?_
          refine GM_iinc (L' := [(9, (0, w32 (v9 + 1))), (10, (0, r6)), (0, (3, v0)), (3, (0, v3)), (4, (0, v4)), (5, (0, v5)), (6, (0, v6)), (7, (0, v7)), (8, (0, v8))]) (pc := 114) 8 rfl (daX11_nearest_0 59 rfl) (Nat.le_of_ble_eq_true rfl) rfl ?_
          refine GM_goto (pc := 117) 54 (daX11_nearest_0 60 rfl) rfl ?_
          refine GM_pick [2, 3, 4, 5, 6, 7, 8, 0] rfl ?_
          cases h
          exact hK
set_option maxRecDepth 20000 in
theorem qX11_nearest_40 (l : Launch) (F : FI) (v0 v3 v4 v5 : Int) (μ : Mm) (k n : Nat) : ∀ (q : (Int × Int × Int)) (t : ((Int × Int × Int) ⊕ (Int × Int))), sX11_nearest_40 v0 v3 v4 v5 μ q = some t → zX11_nearest_40 l F v0 v3 v4 v5 μ k n t → zX11_nearest_40 l F v0 v3 v4 v5 μ k n (.inl q) := by
  intro q t h hK
  obtain ⟨v6, v7, v8⟩ := q
  unfold sX11_nearest_40 at h
  try dsimp only at h
  show GM l mX11_nearest F k n 40 [(0, (3, v0)), (3, (0, v3)), (4, (0, v4)), (5, (0, v5)), (6, (0, v6)), (7, (0, v7)), (8, (0, v8))] [] μ
  refine GM_iload (pc := 40) 6 rfl (daX11_nearest_0 24 rfl) ?_
  refine GM_aload_n (pc := 42) 0 rfl (daX11_nearest_0 25 rfl) rfl ?_
  refine GM_iload (pc := 43) 2 rfl (daX11_nearest_0 26 rfl) ?_
  obtain ⟨hc9, h⟩ := chk_inv h
  obtain ⟨r10, hf10, h⟩ := Option.bind_eq_some_iff.mp h
  refine GM_callV0 (pc := 45) [(0, v4)] (tX11_placesOf l hf10) cwX11_placesOf 11 (Nat.le_of_ble_eq_true rfl) rfl kv_X11_placesOf ke_X11_placesOf km_X11_207 hc9 ⟨Nat.le_of_ble_eq_true rfl, Nat.le_of_ble_eq_true rfl⟩ (Nat.le_of_ble_eq_true rfl) (Nat.le_of_ble_eq_true rfl) (daX11_nearest_0 27 rfl) ?_
  refine GM_icmp_ge (pc := 48) 126 (daX11_nearest_0 28 rfl) rfl (fun c11 => ?_) (fun c11 => ?_)
  · skip
    rw [if_pos c11] at h
    refine GM_pick [1, 4, 5] rfl ?_
    cases h
    exact hK
  · skip
    rw [if_neg c11] at h
    refine GM_iconst (pc := 51) 0 (daX11_nearest_0 29 rfl) rfl (R32_b rfl) ?_
    refine GM_istore (L' := [(9, (0, 0)), (0, (3, v0)), (3, (0, v3)), (4, (0, v4)), (5, (0, v5)), (6, (0, v6)), (7, (0, v7)), (8, (0, v8))]) (pc := 52) (daX11_nearest_0 30 rfl) (Nat.le_of_ble_eq_true rfl) rfl ?_
    refine GM_pick [1, 2, 3, 4, 5, 6, 7, 0] rfl ?_
    obtain ⟨x12, hqx12, h⟩ := Option.bind_eq_some_iff.mp h
    refine lop_ind (zX11_nearest_54 l F v0 v3 v4 v5 v8 μ k n) (qX11_nearest_54 l F v0 v3 v4 v5 v8 μ k n) FU _ x12 hqx12 ?_
    obtain ⟨v6_13, v7_13⟩ := x12
    dsimp only at h
    show GM l mX11_nearest F k n 120 [(0, (3, v0)), (3, (0, v3)), (4, (0, v4)), (5, (0, v5)), (6, (0, v6_13)), (7, (0, v7_13)), (8, (0, v8))] [] μ
    refine GM_iinc (L' := [(8, (0, w32 (v8 + 1))), (0, (3, v0)), (3, (0, v3)), (4, (0, v4)), (5, (0, v5)), (6, (0, v6_13)), (7, (0, v7_13))]) (pc := 120) 6 rfl (daX11_nearest_0 61 rfl) (Nat.le_of_ble_eq_true rfl) rfl ?_
    refine GM_goto (pc := 123) 40 (daX11_nearest_0 62 rfl) rfl ?_
    refine GM_pick [1, 2, 3, 4, 5, 6, 0] rfl ?_
    cases h
    exact hK
set_option maxRecDepth 20000 in
theorem gX11_nearest_0 (l : Launch) {F : FI} {v0 v1 v2 v3 : Int} {μ : Mm} {t : (Int × Mm)} (h : fX11_nearest v0 v1 v2 v3 μ = some t) (hK : F.1 = [(0, t.1)] ∧ F.2.1 = t.2) : GM l mX11_nearest F 0 0 0 [(0, (3, v0)), (1, (0, v1)), (2, (0, v2)), (3, (0, v3))] [] μ := by
  unfold fX11_nearest at h
  refine GM_aload_n (pc := 0) 0 rfl (daX11_nearest_0 0 rfl) rfl ?_
  refine GM_iload_n (pc := 1) 1 rfl (daX11_nearest_0 1 rfl) rfl ?_
  refine GM_iload_n (pc := 2) 2 rfl (daX11_nearest_0 2 rfl) rfl ?_
  obtain ⟨hc14, h⟩ := chk_inv h
  obtain ⟨r15, hf15, h⟩ := Option.bind_eq_some_iff.mp h
  refine GM_callV0 (pc := 3) [(0, v1), (0, v2)] (tX11_areBoth l hf15) cwX11_areBoth 11 (Nat.le_of_ble_eq_true rfl) rfl kv_X11_areBoth ke_X11_areBoth km_X11_283 hc14 ⟨Nat.le_of_ble_eq_true rfl, Nat.le_of_ble_eq_true rfl⟩ (Nat.le_of_ble_eq_true rfl) (Nat.le_of_ble_eq_true rfl) (daX11_nearest_0 3 rfl) ?_
  refine GM_if_ne (pc := 6) 11 (daX11_nearest_0 4 rfl) rfl (fun c16 => ?_) (fun c16 => ?_)
  · skip
    rw [if_neg c16] at h
    refine GM_iconst (pc := 11) 0 (daX11_nearest_0 7 rfl) rfl (R32_b rfl) ?_
    refine GM_iload_n (pc := 12) 1 rfl (daX11_nearest_0 8 rfl) rfl ?_
    obtain ⟨r17, hf17, h⟩ := Option.bind_eq_some_iff.mp h
    refine GM_callS0 (pc := 13) [(0, 0), (0, v1)] (tX11_placeOf l hf17) cwX11_placeOf ks_X11_placeOf km_X11_204 ⟨Nat.le_of_ble_eq_true rfl, Nat.le_of_ble_eq_true rfl⟩ (Nat.le_of_ble_eq_true rfl) (Nat.le_of_ble_eq_true rfl) (daX11_nearest_0 9 rfl) ?_
    refine GM_istore (L' := [(4, (0, r17)), (0, (3, v0)), (1, (0, v1)), (2, (0, v2)), (3, (0, v3))]) (pc := 16) (daX11_nearest_0 10 rfl) (Nat.le_of_ble_eq_true rfl) rfl ?_
    refine GM_iconst (pc := 18) 1 (daX11_nearest_0 11 rfl) rfl (R32_b rfl) ?_
    refine GM_iload_n (pc := 19) 3 rfl (daX11_nearest_0 12 rfl) rfl ?_
    obtain ⟨r18, hf18, h⟩ := Option.bind_eq_some_iff.mp h
    refine GM_callS0 (pc := 20) [(0, 1), (0, v2)] (tX11_placeOf l hf18) cwX11_placeOf ks_X11_placeOf km_X11_204 ⟨Nat.le_of_ble_eq_true rfl, Nat.le_of_ble_eq_true rfl⟩ (Nat.le_of_ble_eq_true rfl) (Nat.le_of_ble_eq_true rfl) (daX11_nearest_0 13 rfl) ?_
    refine GM_istore (L' := [(5, (0, r18)), (4, (0, r17)), (0, (3, v0)), (1, (0, v1)), (2, (0, v2)), (3, (0, v3))]) (pc := 23) (daX11_nearest_0 14 rfl) (Nat.le_of_ble_eq_true rfl) rfl ?_
    refine GM_aload_n (pc := 25) 2 rfl (daX11_nearest_0 15 rfl) rfl ?_
    refine GM_iload (pc := 26) 1 rfl (daX11_nearest_0 16 rfl) ?_
    obtain ⟨μ19, hf19, h⟩ := Option.bind_eq_some_iff.mp h
    refine GM_callV0 (pc := 28) [(0, r17)] (tX11_survey l hf19) cwX11_survey 11 (Nat.le_of_ble_eq_true rfl) rfl kv_X11_survey ke_X11_survey km_X11_295 hc14 ⟨Nat.le_of_ble_eq_true rfl, Nat.le_of_ble_eq_true rfl⟩ (Nat.le_of_ble_eq_true rfl) (Nat.le_of_ble_eq_true rfl) (daX11_nearest_0 17 rfl) ?_
    refine GM_iconst (pc := 31) (-1) (daX11_nearest_0 18 rfl) rfl (R32_b rfl) ?_
    refine GM_istore (L' := [(6, (0, (-1))), (5, (0, r18)), (4, (0, r17)), (0, (3, v0)), (1, (0, v1)), (2, (0, v2)), (3, (0, v3))]) (pc := 32) (daX11_nearest_0 19 rfl) (Nat.le_of_ble_eq_true rfl) rfl ?_
    refine GM_iconst (pc := 34) 0 (daX11_nearest_0 20 rfl) rfl (R32_b rfl) ?_
    refine GM_istore (L' := [(7, (0, 0)), (6, (0, (-1))), (5, (0, r18)), (4, (0, r17)), (0, (3, v0)), (1, (0, v1)), (2, (0, v2)), (3, (0, v3))]) (pc := 35) (daX11_nearest_0 21 rfl) (Nat.le_of_ble_eq_true rfl) rfl ?_
    refine GM_iconst (pc := 37) 0 (daX11_nearest_0 22 rfl) rfl (R32_b rfl) ?_
    refine GM_istore (L' := [(8, (0, 0)), (7, (0, 0)), (6, (0, (-1))), (5, (0, r18)), (4, (0, r17)), (0, (3, v0)), (1, (0, v1)), (2, (0, v2)), (3, (0, v3))]) (pc := 38) (daX11_nearest_0 23 rfl) (Nat.le_of_ble_eq_true rfl) rfl ?_
    refine GM_pick [5, 8, 4, 3, 2, 1, 0] rfl ?_
    obtain ⟨x20, hqx20, h⟩ := Option.bind_eq_some_iff.mp h
    refine lop_ind (zX11_nearest_40 l F v0 v3 r17 r18 μ19 0 0) (qX11_nearest_40 l F v0 v3 r17 r18 μ19 0 0) FU _ x20 hqx20 ?_
    obtain ⟨v6_21, v7_21⟩ := x20
    dsimp only at h
    show GM l mX11_nearest F 0 0 126 [(3, (0, v3)), (6, (0, v6_21)), (7, (0, v7_21))] [] μ19
    refine GM_iload (pc := 126) 1 rfl (daX11_nearest_0 63 rfl) ?_
    refine GM_if_lt (pc := 128) 135 (daX11_nearest_1 0 rfl) rfl (fun c22 => ?_) (fun c22 => ?_)
    · skip
      rw [if_pos c22] at h
      refine GM_iload (pc := 135) 1 rfl (daX11_nearest_1 3 rfl) ?_
      refine GM_goto (pc := 137) 142 (daX11_nearest_1 4 rfl) rfl ?_
      cases h
      exact GM_iret (pc := 142) (daX11_nearest_1 6 rfl) rfl hK
    · skip
      rw [if_neg c22] at h
      refine GM_iload_n (pc := 131) 0 rfl (daX11_nearest_1 1 rfl) rfl ?_
      refine GM_if_ne (pc := 132) 140 (daX11_nearest_1 2 rfl) rfl (fun c23 => ?_) (fun c23 => ?_)
      · skip
        rw [if_neg c23] at h
        refine GM_iload (pc := 140) 2 rfl (daX11_nearest_1 5 rfl) ?_
        cases h
        exact GM_iret (pc := 142) (daX11_nearest_1 6 rfl) rfl hK
      · skip
        rw [if_pos c23] at h
        refine GM_iload (pc := 135) 1 rfl (daX11_nearest_1 3 rfl) ?_
        refine GM_goto (pc := 137) 142 (daX11_nearest_1 4 rfl) rfl ?_
        cases h
        exact GM_iret (pc := 142) (daX11_nearest_1 6 rfl) rfl hK
  · skip
    rw [if_pos c16] at h
    refine GM_iconst (pc := 9) (-1) (daX11_nearest_0 5 rfl) rfl (R32_b rfl) ?_
    cases h
    exact GM_iret (pc := 10) (daX11_nearest_0 6 rfl) rfl hK
theorem tX11_nearest (l : Launch) {v0 v1 v2 v3 : Int} {μ : Mm} {t : (Int × Mm)} (h : fX11_nearest v0 v1 v2 v3 μ = some t) : Ct l yX11_nearest mX11_nearest [(3, v0), (0, v1), (0, v2), (0, v3)] μ ([(0, t.1)], t.2, 0, 0) :=
  Ct_of (by decide +kernel) rfl rfl (Nat.le_of_ble_eq_true rfl) (fun _ _ _ => trivial) (gX11_nearest_0 l h ⟨rfl, rfl⟩)
def mX11_count : MI := (RX11, cX11_count, 2, (some .int), "count", 1, 22, fun _ _ _ => True)
theorem cwX11_count : CWd yX11_count mX11_count 1 := ⟨ki_X11, kk_X11_count, ⟨by decide, by decide⟩, rfl⟩
def dtX11_count_0 : List (Nat × Instr × Nat) := [(0, .iload_n 1, 1), (1, .iconst 0, 1), (2, .iconst 1, 1), (3, .invokestatic 147, 3), (6, .ifCond .eq 12, 3), (9, .aload_n 0, 1), (10, .getfield 7, 3), (13, .iload_n 1, 1), (14, .iaload, 1), (15, .goto 5, 3), (18, .bipush (-2), 2), (20, .ireturn, 1)]
theorem ddX11_count_0 : (dtX11_count_0.all fun e => decide (decode mX11_count.2.1 e.1 = .ok (e.2.1, e.2.2))) = true := by decide +kernel
theorem daX11_count_0 (j : Nat) {pc n : Nat} {i : Instr} (h : dtX11_count_0[j]? = some (pc, i, n)) : decode mX11_count.2.1 pc = .ok (i, n) := dec_of (c := mX11_count.2.1) ddX11_count_0 h
def fX11_count (v0 v1 : Int) (μ : Mm) : Option Int :=
  if isIn v1 0 1 = 0 then
    some (-2)
  else
    chk (KD v0 = 11) (
    chk (KD (μ v0 0) = 12 ∧ 0 ≤ v1 ∧ v1 < LN (μ v0 0)) (
    some (μ (μ v0 0) v1)))
set_option maxRecDepth 20000 in
theorem gX11_count_0 (l : Launch) {F : FI} {v0 v1 : Int} {μ : Mm} {t : Int} (h : fX11_count v0 v1 μ = some t) (hK : F.1 = [(0, t)] ∧ F.2.1 = μ) : GM l mX11_count F 0 0 0 [(0, (3, v0)), (1, (0, v1))] [] μ := by
  unfold fX11_count at h
  refine GM_iload_n (pc := 0) 1 rfl (daX11_count_0 0 rfl) rfl ?_
  refine GM_iconst (pc := 1) 0 (daX11_count_0 1 rfl) rfl (R32_b rfl) ?_
  refine GM_iconst (pc := 2) 1 (daX11_count_0 2 rfl) rfl (R32_b rfl) ?_
  refine GM_callS0 (pc := 3) [(0, v1), (0, 0), (0, 1)] (tX11_isIn l (fX11_isIn_eq v1 0 1)) cwX11_isIn ks_X11_isIn km_X11_147 ⟨Nat.le_of_ble_eq_true rfl, Nat.le_of_ble_eq_true rfl⟩ (Nat.le_of_ble_eq_true rfl) (Nat.le_of_ble_eq_true rfl) (daX11_count_0 3 rfl) ?_
  refine GM_if_eq (pc := 6) 18 (daX11_count_0 4 rfl) rfl (fun c1 => ?_) (fun c1 => ?_)
  · skip
    rw [if_pos c1] at h
    refine GM_bipush (pc := 18) (-2) (daX11_count_0 10 rfl) rfl (R32_b rfl) ?_
    cases h
    exact GM_iret (pc := 20) (daX11_count_0 11 rfl) rfl hK
  · skip
    rw [if_neg c1] at h
    refine GM_aload_n (pc := 9) 0 rfl (daX11_count_0 5 rfl) rfl ?_
    obtain ⟨hc2, h⟩ := chk_inv h
    refine GM_getf (pc := 10) 11 0 3 0 kf_X11_7 (Nat.le_of_ble_eq_true rfl) (Nat.le_of_ble_eq_true rfl) rfl (daX11_count_0 6 rfl) hc2 rfl ?_
    refine GM_iload_n (pc := 13) 1 rfl (daX11_count_0 7 rfl) rfl ?_
    obtain ⟨hc3, h⟩ := chk_inv h
    refine GM_iald (pc := 14) (daX11_count_0 8 rfl) hc3.1 hc3.2.1 hc3.2.2 ?_
    refine GM_goto (pc := 15) 20 (daX11_count_0 9 rfl) rfl ?_
    cases h
    exact GM_iret (pc := 20) (daX11_count_0 11 rfl) rfl hK
theorem tX11_count (l : Launch) {v0 v1 : Int} {μ : Mm} {t : Int} (h : fX11_count v0 v1 μ = some t) : Ct l yX11_count mX11_count [(3, v0), (0, v1)] μ ([(0, t)], μ, 0, 0) :=
  Ct_of (by decide +kernel) rfl rfl (Nat.le_of_ble_eq_true rfl) (fun _ _ _ => trivial) (gX11_count_0 l h ⟨rfl, rfl⟩)
def mX11_image : MI := (RX11, cX11_image, 3, (some .boolean), "image", 1, 22, fun _ _ _ => True)
theorem cwX11_image : CWd yX11_image mX11_image 1 := ⟨ki_X11, kk_X11_image, ⟨by decide, by decide⟩, rfl⟩
def dtX11_image_0 : List (Nat × Instr × Nat) := [(0, .iload_n 1, 1), (1, .iconst 0, 1), (2, .iconst 2, 1), (3, .invokestatic 147, 3), (6, .ifCond .ne 5, 3), (9, .iconst 0, 1), (10, .ireturn, 1), (11, .aload_n 0, 1), (12, .getfield 13, 3), (15, .iload_n 1, 1), (16, .iconst 1, 1), (17, .bastore, 1), (18, .iconst 0, 1), (19, .istore_n 2, 1), (20, .iload_n 2, 1), (21, .sipush 1240, 3), (24, .if_icmp .ge 29, 3), (27, .aload_n 0, 1), (28, .getfield 7, 3), (31, .sipush 1240, 3), (34, .iload_n 1, 1), (35, .iconst 1, 1), (36, .iadd, 1), (37, .imul, 1), (38, .iload_n 2, 1), (39, .iadd, 1), (40, .aload_n 0, 1), (41, .getfield 7, 3), (44, .iload_n 2, 1), (45, .iaload, 1), (46, .iastore, 1), (47, .iinc 2 1, 3), (50, .goto (-30), 3), (53, .iconst 1, 1), (54, .ireturn, 1)]
theorem ddX11_image_0 : (dtX11_image_0.all fun e => decide (decode mX11_image.2.1 e.1 = .ok (e.2.1, e.2.2))) = true := by decide +kernel
theorem daX11_image_0 (j : Nat) {pc n : Nat} {i : Instr} (h : dtX11_image_0[j]? = some (pc, i, n)) : decode mX11_image.2.1 pc = .ok (i, n) := dec_of (c := mX11_image.2.1) ddX11_image_0 h
def zX11_image_20 (l : Launch) (F : FI) (v0 v1 : Int) (k n : Nat) : (Int × Mm) ⊕ Mm → Prop
  | .inl (v2, μ) => GM l mX11_image F k n 20 [(0, (3, v0)), (1, (0, v1)), (2, (0, v2))] [] μ
  | .inr μ => GM l mX11_image F k n 53 [] [] μ
def sX11_image_20 (v0 v1 : Int) : (Int × Mm) → Option ((Int × Mm) ⊕ Mm) := fun (v2, μ) =>
  if 1240 ≤ v2 then
    some (.inr μ)
  else
    chk (KD v0 = 11) (
    chk (KD (μ v0 0) = 12 ∧ 0 ≤ v2 ∧ v2 < LN (μ v0 0)) (
    chk (0 ≤ w32 ((w32 (1240 * (w32 (v1 + 1)))) + v2) ∧ w32 ((w32 (1240 * (w32 (v1 + 1)))) + v2) < LN (μ v0 0)) (
    lm (mst μ (μ v0 0) (w32 ((w32 (1240 * (w32 (v1 + 1)))) + v2)) (μ (μ v0 0) v2)) fun μ5 =>
    some (.inl (w32 (v2 + 1), μ5)))))
def fX11_image (v0 v1 : Int) (μ : Mm) : Option (Int × Mm) :=
  if isIn v1 0 2 = 0 then
    some (0, μ)
  else
    chk (KD v0 = 11) (
    chk (KD (μ v0 1) = 14 ∧ 0 ≤ v1 ∧ v1 < LN (μ v0 1)) (
    lm (mst μ (μ v0 1) v1 1) fun μ9 =>
    (lop (sX11_image_20 v0 v1) FU (0, μ9)).bind fun μ_11 =>
      some (1, μ_11)))
set_option maxRecDepth 20000 in
theorem qX11_image_20 (l : Launch) (F : FI) (v0 v1 : Int) (k n : Nat) : ∀ (q : (Int × Mm)) (t : ((Int × Mm) ⊕ Mm)), sX11_image_20 v0 v1 q = some t → zX11_image_20 l F v0 v1 k n t → zX11_image_20 l F v0 v1 k n (.inl q) := by
  intro q t h hK
  obtain ⟨v2, μ⟩ := q
  unfold sX11_image_20 at h
  try dsimp only at h
  show GM l mX11_image F k n 20 [(0, (3, v0)), (1, (0, v1)), (2, (0, v2))] [] μ
  refine GM_iload_n (pc := 20) 2 rfl (daX11_image_0 14 rfl) rfl ?_
  refine GM_sipush (pc := 21) 1240 (daX11_image_0 15 rfl) rfl (R32_b rfl) ?_
  refine GM_icmp_ge (pc := 24) 53 (daX11_image_0 16 rfl) rfl (fun c1 => ?_) (fun c1 => ?_)
  · skip
    rw [if_pos c1] at h
    refine GM_pick [] rfl ?_
    cases h
    exact hK
  · skip
    rw [if_neg c1] at h
    refine GM_aload_n (pc := 27) 0 rfl (daX11_image_0 17 rfl) rfl ?_
    obtain ⟨hc2, h⟩ := chk_inv h
    refine GM_getf (pc := 28) 11 0 3 0 kf_X11_7 (Nat.le_of_ble_eq_true rfl) (Nat.le_of_ble_eq_true rfl) rfl (daX11_image_0 18 rfl) hc2 rfl ?_
    refine GM_sipush (pc := 31) 1240 (daX11_image_0 19 rfl) rfl (R32_b rfl) ?_
    refine GM_iload_n (pc := 34) 1 rfl (daX11_image_0 20 rfl) rfl ?_
    refine GM_iconst (pc := 35) 1 (daX11_image_0 21 rfl) rfl (R32_b rfl) ?_
    refine GM_iadd (pc := 36) (daX11_image_0 22 rfl) ?_
    refine GM_imul (pc := 37) (daX11_image_0 23 rfl) ?_
    refine GM_iload_n (pc := 38) 2 rfl (daX11_image_0 24 rfl) rfl ?_
    refine GM_iadd (pc := 39) (daX11_image_0 25 rfl) ?_
    refine GM_aload_n (pc := 40) 0 rfl (daX11_image_0 26 rfl) rfl ?_
    refine GM_getf (pc := 41) 11 0 3 0 kf_X11_7 (Nat.le_of_ble_eq_true rfl) (Nat.le_of_ble_eq_true rfl) rfl (daX11_image_0 27 rfl) hc2 rfl ?_
    refine GM_iload_n (pc := 44) 2 rfl (daX11_image_0 28 rfl) rfl ?_
    obtain ⟨hc3, h⟩ := chk_inv h
    refine GM_iald (pc := 45) (daX11_image_0 29 rfl) hc3.1 hc3.2.1 hc3.2.2 ?_
    obtain ⟨hc4, h⟩ := chk_inv h
    obtain ⟨μ5, hμ5, h⟩ := lm_inv h
    refine GM_iast (pc := 46) (daX11_image_0 30 rfl) hc3.1 hc4.1 hc4.2 ?_
    refine GM_mem hμ5 ?_
    refine GM_iinc (L' := [(2, (0, w32 (v2 + 1))), (0, (3, v0)), (1, (0, v1))]) (pc := 47) 2 rfl (daX11_image_0 31 rfl) (Nat.le_of_ble_eq_true rfl) rfl ?_
    refine GM_goto (pc := 50) 20 (daX11_image_0 32 rfl) rfl ?_
    refine GM_pick [1, 2, 0] rfl ?_
    cases h
    exact hK
set_option maxRecDepth 20000 in
theorem gX11_image_0 (l : Launch) {F : FI} {v0 v1 : Int} {μ : Mm} {t : (Int × Mm)} (h : fX11_image v0 v1 μ = some t) (hK : F.1 = [(0, t.1)] ∧ F.2.1 = t.2) : GM l mX11_image F 0 0 0 [(0, (3, v0)), (1, (0, v1))] [] μ := by
  unfold fX11_image at h
  refine GM_iload_n (pc := 0) 1 rfl (daX11_image_0 0 rfl) rfl ?_
  refine GM_iconst (pc := 1) 0 (daX11_image_0 1 rfl) rfl (R32_b rfl) ?_
  refine GM_iconst (pc := 2) 2 (daX11_image_0 2 rfl) rfl (R32_b rfl) ?_
  refine GM_callS0 (pc := 3) [(0, v1), (0, 0), (0, 2)] (tX11_isIn l (fX11_isIn_eq v1 0 2)) cwX11_isIn ks_X11_isIn km_X11_147 ⟨Nat.le_of_ble_eq_true rfl, Nat.le_of_ble_eq_true rfl⟩ (Nat.le_of_ble_eq_true rfl) (Nat.le_of_ble_eq_true rfl) (daX11_image_0 3 rfl) ?_
  refine GM_if_ne (pc := 6) 11 (daX11_image_0 4 rfl) rfl (fun c6 => ?_) (fun c6 => ?_)
  · skip
    rw [if_neg c6] at h
    refine GM_aload_n (pc := 11) 0 rfl (daX11_image_0 7 rfl) rfl ?_
    obtain ⟨hc7, h⟩ := chk_inv h
    refine GM_getf (pc := 12) 11 1 3 1 kf_X11_13 (Nat.le_of_ble_eq_true rfl) (Nat.le_of_ble_eq_true rfl) rfl (daX11_image_0 8 rfl) hc7 rfl ?_
    refine GM_iload_n (pc := 15) 1 rfl (daX11_image_0 9 rfl) rfl ?_
    refine GM_iconst (pc := 16) 1 (daX11_image_0 10 rfl) rfl (R32_b rfl) ?_
    obtain ⟨hc8, h⟩ := chk_inv h
    obtain ⟨μ9, hμ9, h⟩ := lm_inv h
    refine GM_zast (pc := 17) (daX11_image_0 11 rfl) hc8.1 hc8.2.1 hc8.2.2 (Or.inr rfl) ?_
    refine GM_mem hμ9 ?_
    refine GM_iconst (pc := 18) 0 (daX11_image_0 12 rfl) rfl (R32_b rfl) ?_
    refine GM_istore_n (L' := [(2, (0, 0)), (0, (3, v0)), (1, (0, v1))]) (pc := 19) (daX11_image_0 13 rfl) rfl (Nat.le_of_ble_eq_true rfl) rfl ?_
    refine GM_pick [1, 2, 0] rfl ?_
    obtain ⟨x10, hqx10, h⟩ := Option.bind_eq_some_iff.mp h
    refine lop_ind (zX11_image_20 l F v0 v1 0 0) (qX11_image_20 l F v0 v1 0 0) FU _ x10 hqx10 ?_
    obtain ⟨μ_11, hqq⟩ : ∃ z, z = x10 := ⟨x10, rfl⟩
    subst hqq
    show GM l mX11_image F 0 0 53 [] [] μ_11
    refine GM_iconst (pc := 53) 1 (daX11_image_0 33 rfl) rfl (R32_b rfl) ?_
    cases h
    exact GM_zret (pc := 54) (daX11_image_0 34 rfl) rfl (Or.inr rfl) hK
  · skip
    rw [if_pos c6] at h
    refine GM_iconst (pc := 9) 0 (daX11_image_0 5 rfl) rfl (R32_b rfl) ?_
    cases h
    exact GM_zret (pc := 10) (daX11_image_0 6 rfl) rfl (Or.inl rfl) hK
theorem tX11_image (l : Launch) {v0 v1 : Int} {μ : Mm} {t : (Int × Mm)} (h : fX11_image v0 v1 μ = some t) : Ct l yX11_image mX11_image [(3, v0), (0, v1)] μ ([(0, t.1)], t.2, 0, 0) :=
  Ct_of (by decide +kernel) rfl rfl (Nat.le_of_ble_eq_true rfl) (fun _ _ _ => trivial) (gX11_image_0 l h ⟨rfl, rfl⟩)
def mX11_again : MI := (RX11, cX11_again, 3, (some .boolean), "again", 1, 22, fun _ _ _ => True)
theorem cwX11_again : CWd yX11_again mX11_again 1 := ⟨ki_X11, kk_X11_again, ⟨by decide, by decide⟩, rfl⟩
def dtX11_again_0 : List (Nat × Instr × Nat) := [(0, .iload_n 1, 1), (1, .iconst 0, 1), (2, .iconst 2, 1), (3, .invokestatic 147, 3), (6, .ifCond .eq 12, 3), (9, .aload_n 0, 1), (10, .getfield 13, 3), (13, .iload_n 1, 1), (14, .baload, 1), (15, .ifCond .ne 5, 3), (18, .iconst 0, 1), (19, .ireturn, 1), (20, .iconst 0, 1), (21, .istore_n 2, 1), (22, .iload_n 2, 1), (23, .sipush 1240, 3), (26, .if_icmp .ge 29, 3), (29, .aload_n 0, 1), (30, .getfield 7, 3), (33, .iload_n 2, 1), (34, .aload_n 0, 1), (35, .getfield 7, 3), (38, .sipush 1240, 3), (41, .iload_n 1, 1), (42, .iconst 1, 1), (43, .iadd, 1), (44, .imul, 1), (45, .iload_n 2, 1), (46, .iadd, 1), (47, .iaload, 1), (48, .iastore, 1), (49, .iinc 2 1, 3), (52, .goto (-30), 3), (55, .iconst 1, 1), (56, .ireturn, 1)]
theorem ddX11_again_0 : (dtX11_again_0.all fun e => decide (decode mX11_again.2.1 e.1 = .ok (e.2.1, e.2.2))) = true := by decide +kernel
theorem daX11_again_0 (j : Nat) {pc n : Nat} {i : Instr} (h : dtX11_again_0[j]? = some (pc, i, n)) : decode mX11_again.2.1 pc = .ok (i, n) := dec_of (c := mX11_again.2.1) ddX11_again_0 h
def zX11_again_22 (l : Launch) (F : FI) (v0 v1 : Int) (k n : Nat) : (Int × Mm) ⊕ Mm → Prop
  | .inl (v2, μ) => GM l mX11_again F k n 22 [(0, (3, v0)), (1, (0, v1)), (2, (0, v2))] [] μ
  | .inr μ => GM l mX11_again F k n 55 [] [] μ
def sX11_again_22 (v0 v1 : Int) : (Int × Mm) → Option ((Int × Mm) ⊕ Mm) := fun (v2, μ) =>
  if 1240 ≤ v2 then
    some (.inr μ)
  else
    chk (KD v0 = 11) (
    chk (KD (μ v0 0) = 12 ∧ 0 ≤ w32 ((w32 (1240 * (w32 (v1 + 1)))) + v2) ∧ w32 ((w32 (1240 * (w32 (v1 + 1)))) + v2) < LN (μ v0 0)) (
    chk (0 ≤ v2 ∧ v2 < LN (μ v0 0)) (
    lm (mst μ (μ v0 0) v2 (μ (μ v0 0) (w32 ((w32 (1240 * (w32 (v1 + 1)))) + v2)))) fun μ5 =>
    some (.inl (w32 (v2 + 1), μ5)))))
def fX11_again (v0 v1 : Int) (μ : Mm) : Option (Int × Mm) :=
  if isIn v1 0 2 = 0 then
    some (0, μ)
  else
    chk (KD v0 = 11) (
    chk (KD (μ v0 1) = 14 ∧ 0 ≤ v1 ∧ v1 < LN (μ v0 1)) (
    if μ (μ v0 1) v1 = 0 then
      some (0, μ)
    else
      (lop (sX11_again_22 v0 v1) FU (0, μ)).bind fun μ_11 =>
        some (1, μ_11)))
set_option maxRecDepth 20000 in
theorem qX11_again_22 (l : Launch) (F : FI) (v0 v1 : Int) (k n : Nat) : ∀ (q : (Int × Mm)) (t : ((Int × Mm) ⊕ Mm)), sX11_again_22 v0 v1 q = some t → zX11_again_22 l F v0 v1 k n t → zX11_again_22 l F v0 v1 k n (.inl q) := by
  intro q t h hK
  obtain ⟨v2, μ⟩ := q
  unfold sX11_again_22 at h
  try dsimp only at h
  show GM l mX11_again F k n 22 [(0, (3, v0)), (1, (0, v1)), (2, (0, v2))] [] μ
  refine GM_iload_n (pc := 22) 2 rfl (daX11_again_0 14 rfl) rfl ?_
  refine GM_sipush (pc := 23) 1240 (daX11_again_0 15 rfl) rfl (R32_b rfl) ?_
  refine GM_icmp_ge (pc := 26) 55 (daX11_again_0 16 rfl) rfl (fun c1 => ?_) (fun c1 => ?_)
  · skip
    rw [if_pos c1] at h
    refine GM_pick [] rfl ?_
    cases h
    exact hK
  · skip
    rw [if_neg c1] at h
    refine GM_aload_n (pc := 29) 0 rfl (daX11_again_0 17 rfl) rfl ?_
    obtain ⟨hc2, h⟩ := chk_inv h
    refine GM_getf (pc := 30) 11 0 3 0 kf_X11_7 (Nat.le_of_ble_eq_true rfl) (Nat.le_of_ble_eq_true rfl) rfl (daX11_again_0 18 rfl) hc2 rfl ?_
    refine GM_iload_n (pc := 33) 2 rfl (daX11_again_0 19 rfl) rfl ?_
    refine GM_aload_n (pc := 34) 0 rfl (daX11_again_0 20 rfl) rfl ?_
    refine GM_getf (pc := 35) 11 0 3 0 kf_X11_7 (Nat.le_of_ble_eq_true rfl) (Nat.le_of_ble_eq_true rfl) rfl (daX11_again_0 21 rfl) hc2 rfl ?_
    refine GM_sipush (pc := 38) 1240 (daX11_again_0 22 rfl) rfl (R32_b rfl) ?_
    refine GM_iload_n (pc := 41) 1 rfl (daX11_again_0 23 rfl) rfl ?_
    refine GM_iconst (pc := 42) 1 (daX11_again_0 24 rfl) rfl (R32_b rfl) ?_
    refine GM_iadd (pc := 43) (daX11_again_0 25 rfl) ?_
    refine GM_imul (pc := 44) (daX11_again_0 26 rfl) ?_
    refine GM_iload_n (pc := 45) 2 rfl (daX11_again_0 27 rfl) rfl ?_
    refine GM_iadd (pc := 46) (daX11_again_0 28 rfl) ?_
    obtain ⟨hc3, h⟩ := chk_inv h
    refine GM_iald (pc := 47) (daX11_again_0 29 rfl) hc3.1 hc3.2.1 hc3.2.2 ?_
    obtain ⟨hc4, h⟩ := chk_inv h
    obtain ⟨μ5, hμ5, h⟩ := lm_inv h
    refine GM_iast (pc := 48) (daX11_again_0 30 rfl) hc3.1 hc4.1 hc4.2 ?_
    refine GM_mem hμ5 ?_
    refine GM_iinc (L' := [(2, (0, w32 (v2 + 1))), (0, (3, v0)), (1, (0, v1))]) (pc := 49) 2 rfl (daX11_again_0 31 rfl) (Nat.le_of_ble_eq_true rfl) rfl ?_
    refine GM_goto (pc := 52) 22 (daX11_again_0 32 rfl) rfl ?_
    refine GM_pick [1, 2, 0] rfl ?_
    cases h
    exact hK
set_option maxRecDepth 20000 in
theorem gX11_again_0 (l : Launch) {F : FI} {v0 v1 : Int} {μ : Mm} {t : (Int × Mm)} (h : fX11_again v0 v1 μ = some t) (hK : F.1 = [(0, t.1)] ∧ F.2.1 = t.2) : GM l mX11_again F 0 0 0 [(0, (3, v0)), (1, (0, v1))] [] μ := by
  unfold fX11_again at h
  refine GM_iload_n (pc := 0) 1 rfl (daX11_again_0 0 rfl) rfl ?_
  refine GM_iconst (pc := 1) 0 (daX11_again_0 1 rfl) rfl (R32_b rfl) ?_
  refine GM_iconst (pc := 2) 2 (daX11_again_0 2 rfl) rfl (R32_b rfl) ?_
  refine GM_callS0 (pc := 3) [(0, v1), (0, 0), (0, 2)] (tX11_isIn l (fX11_isIn_eq v1 0 2)) cwX11_isIn ks_X11_isIn km_X11_147 ⟨Nat.le_of_ble_eq_true rfl, Nat.le_of_ble_eq_true rfl⟩ (Nat.le_of_ble_eq_true rfl) (Nat.le_of_ble_eq_true rfl) (daX11_again_0 3 rfl) ?_
  refine GM_if_eq (pc := 6) 18 (daX11_again_0 4 rfl) rfl (fun c6 => ?_) (fun c6 => ?_)
  · skip
    rw [if_pos c6] at h
    refine GM_iconst (pc := 18) 0 (daX11_again_0 10 rfl) rfl (R32_b rfl) ?_
    cases h
    exact GM_zret (pc := 19) (daX11_again_0 11 rfl) rfl (Or.inl rfl) hK
  · skip
    rw [if_neg c6] at h
    refine GM_aload_n (pc := 9) 0 rfl (daX11_again_0 5 rfl) rfl ?_
    obtain ⟨hc7, h⟩ := chk_inv h
    refine GM_getf (pc := 10) 11 1 3 1 kf_X11_13 (Nat.le_of_ble_eq_true rfl) (Nat.le_of_ble_eq_true rfl) rfl (daX11_again_0 6 rfl) hc7 rfl ?_
    refine GM_iload_n (pc := 13) 1 rfl (daX11_again_0 7 rfl) rfl ?_
    obtain ⟨hc8, h⟩ := chk_inv h
    refine GM_zald (pc := 14) (daX11_again_0 8 rfl) hc8.1 hc8.2.1 hc8.2.2 ?_
    refine GM_if_ne (pc := 15) 20 (daX11_again_0 9 rfl) rfl (fun c9 => ?_) (fun c9 => ?_)
    · skip
      rw [if_neg c9] at h
      refine GM_iconst (pc := 20) 0 (daX11_again_0 12 rfl) rfl (R32_b rfl) ?_
      refine GM_istore_n (L' := [(2, (0, 0)), (0, (3, v0)), (1, (0, v1))]) (pc := 21) (daX11_again_0 13 rfl) rfl (Nat.le_of_ble_eq_true rfl) rfl ?_
      refine GM_pick [1, 2, 0] rfl ?_
      obtain ⟨x10, hqx10, h⟩ := Option.bind_eq_some_iff.mp h
      refine lop_ind (zX11_again_22 l F v0 v1 0 0) (qX11_again_22 l F v0 v1 0 0) FU _ x10 hqx10 ?_
      obtain ⟨μ_11, hqq⟩ : ∃ z, z = x10 := ⟨x10, rfl⟩
      subst hqq
      show GM l mX11_again F 0 0 55 [] [] μ_11
      refine GM_iconst (pc := 55) 1 (daX11_again_0 33 rfl) rfl (R32_b rfl) ?_
      cases h
      exact GM_zret (pc := 56) (daX11_again_0 34 rfl) rfl (Or.inr rfl) hK
    · skip
      rw [if_pos c9] at h
      refine GM_iconst (pc := 18) 0 (daX11_again_0 10 rfl) rfl (R32_b rfl) ?_
      cases h
      exact GM_zret (pc := 19) (daX11_again_0 11 rfl) rfl (Or.inl rfl) hK
theorem tX11_again (l : Launch) {v0 v1 : Int} {μ : Mm} {t : (Int × Mm)} (h : fX11_again v0 v1 μ = some t) : Ct l yX11_again mX11_again [(3, v0), (0, v1)] μ ([(0, t.1)], t.2, 0, 0) :=
  Ct_of (by decide +kernel) rfl rfl (Nat.le_of_ble_eq_true rfl) (fun _ _ _ => trivial) (gX11_again_0 l h ⟨rfl, rfl⟩)
