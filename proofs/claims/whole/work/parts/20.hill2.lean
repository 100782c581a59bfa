def mX10_where : MI := (RX10, cX10_where, 5, (some .int), "where", 7, 167, fun _ _ _ => True)
theorem cwX10_where : CWd yX10_where mX10_where 4 := ⟨ki_X10, kk_X10_where, ⟨by decide, by decide⟩, rfl⟩
def dtX10_where_0 : List (Nat × Instr × Nat) := [(0, .aload_n 0, 1), (1, .iload_n 1, 1), (2, .iload_n 2, 1), (3, .iload_n 3, 1), (4, .aload_n 0, 1), (5, .getfield 68, 3), (8, .invokevirtual 315, 3), (11, .ifCond .eq 15, 3), (14, .aload_n 0, 1), (15, .getfield 68, 3), (18, .iload 4, 2), (20, .invokestatic 319, 3), (23, .goto 4, 3), (26, .iconst (-1), 1), (27, .ireturn, 1)]
theorem ddX10_where_0 : (dtX10_where_0.all fun e => decide (decode mX10_where.2.1 e.1 = .ok (e.2.1, e.2.2))) = true := by decide +kernel
theorem daX10_where_0 (j : Nat) {pc n : Nat} {i : Instr} (h : dtX10_where_0[j]? = some (pc, i, n)) : decode mX10_where.2.1 pc = .ok (i, n) := dec_of (c := mX10_where.2.1) ddX10_where_0 h
def fX10_where (v0 v1 v2 v3 v4 : Int) (μ : Mm) : Option ((Int × Mm) × Nat × Nat) :=
  chk (KD v0 = 10) (
  (fX10_marksFitting v0 v1 v2 v3 (μ v0 9) μ).bind fun ((r2, μ2), c2, n2) =>
  pay c2 n2 (
  if r2 = 0 then
    some (((-1), μ2), 0, 0)
  else
    (fX10_tellMarked (μ2 v0 9) v4 μ2).bind fun r5 =>
    some ((r5, μ2), 0, 0)))
set_option maxRecDepth 20000 in
theorem gX10_where_0 (l : Launch) {F : FI} {v0 v1 v2 v3 v4 : Int} {μ : Mm} {t : (Int × Mm)} {c0 n0 k n : Nat} (h : fX10_where v0 v1 v2 v3 v4 μ = some (t, c0, n0)) (hK : F.1 = [(0, t.1)] ∧ F.2.1 = t.2) : GM l mX10_where F (c0 + k) (n0 + n) 0 [(0, (3, v0)), (1, (0, v1)), (2, (0, v2)), (3, (0, v3)), (4, (0, v4))] [] μ := by
  unfold fX10_where at h
  refine GM_aload_n (pc := 0) 0 rfl (daX10_where_0 0 rfl) rfl ?_
  refine GM_iload_n (pc := 1) 1 rfl (daX10_where_0 1 rfl) rfl ?_
  refine GM_iload_n (pc := 2) 2 rfl (daX10_where_0 2 rfl) rfl ?_
  refine GM_iload_n (pc := 3) 3 rfl (daX10_where_0 3 rfl) rfl ?_
  refine GM_aload_n (pc := 4) 0 rfl (daX10_where_0 4 rfl) rfl ?_
  obtain ⟨hc1, h⟩ := chk_inv h
  refine GM_getf (pc := 5) 10 9 3 9 kf_X10_68 (Nat.le_of_ble_eq_true rfl) (Nat.le_of_ble_eq_true rfl) rfl (daX10_where_0 5 rfl) hc1 rfl ?_
  obtain ⟨⟨⟨r2, μ2⟩, c2, n2⟩, hf2, h⟩ := Option.bind_eq_some_iff.mp h
  dsimp only at h
  obtain ⟨c3, n3, hp, e1, e2⟩ := pay_inv h
  subst e1 e2
  replace h := hp
  clear hp
  rw [Nat.add_assoc, Nat.add_assoc]
  refine GM_callV (pc := 8) [(0, v1), (0, v2), (0, v3), (3, μ v0 9)] (tX10_marksFitting l hf2) cwX10_marksFitting 10 (Nat.le_of_ble_eq_true rfl) rfl kv_X10_marksFitting ke_X10_marksFitting km_X10_315 hc1 ⟨Nat.le_of_ble_eq_true rfl, Nat.le_of_ble_eq_true rfl⟩ (Nat.le_of_ble_eq_true rfl) (Nat.le_of_ble_eq_true rfl) (daX10_where_0 6 rfl) ?_
  refine GM_if_eq (pc := 11) 26 (daX10_where_0 7 rfl) rfl (fun c4 => ?_) (fun c4 => ?_)
  · skip
    rw [if_pos c4] at h
    refine GM_iconst (pc := 26) (-1) (daX10_where_0 13 rfl) rfl (R32_b rfl) ?_
    cases h
    exact GM_iret (pc := 27) (daX10_where_0 14 rfl) rfl hK
  · skip
    rw [if_neg c4] at h
    refine GM_aload_n (pc := 14) 0 rfl (daX10_where_0 8 rfl) rfl ?_
    refine GM_getf (pc := 15) 10 9 3 9 kf_X10_68 (Nat.le_of_ble_eq_true rfl) (Nat.le_of_ble_eq_true rfl) rfl (daX10_where_0 9 rfl) hc1 rfl ?_
    refine GM_iload (pc := 18) 4 rfl (daX10_where_0 10 rfl) ?_
    obtain ⟨r5, hf5, h⟩ := Option.bind_eq_some_iff.mp h
    refine GM_callS0 (pc := 20) [(3, μ2 v0 9), (0, v4)] (tX10_tellMarked l hf5) cwX10_tellMarked ks_X10_tellMarked km_X10_319 ⟨Nat.le_of_ble_eq_true rfl, Nat.le_of_ble_eq_true rfl⟩ (Nat.le_of_ble_eq_true rfl) (Nat.le_of_ble_eq_true rfl) (daX10_where_0 11 rfl) ?_
    refine GM_goto (pc := 23) 27 (daX10_where_0 12 rfl) rfl ?_
    cases h
    exact GM_iret (pc := 27) (daX10_where_0 14 rfl) rfl hK
theorem tX10_where (l : Launch) {v0 v1 v2 v3 v4 : Int} {μ : Mm} {t : (Int × Mm)} {c0 n0 : Nat} (h : fX10_where v0 v1 v2 v3 v4 μ = some (t, c0, n0)) : Ct l yX10_where mX10_where [(3, v0), (0, v1), (0, v2), (0, v3), (0, v4)] μ ([(0, t.1)], t.2, c0, n0) :=
  Ct_of (by decide +kernel) rfl rfl (Nat.le_of_ble_eq_true rfl) (fun _ _ _ => trivial) (gX10_where_0 (k := 0) (n := 0) l h ⟨rfl, rfl⟩)
def mX10_marksHills : MI := (RX10, cX10_marksHills, 6, (some .boolean), "marksHills", 6, 144, fun _ _ _ => True)
theorem cwX10_marksHills : CWd yX10_marksHills mX10_marksHills 3 := ⟨ki_X10, kk_X10_marksHills, ⟨by decide, by decide⟩, rfl⟩
def dtX10_marksHills_0 : List (Nat × Instr × Nat) := [(0, .aload_n 0, 1), (1, .iload_n 1, 1), (2, .invokevirtual 220, 3), (5, .astore 4, 2), (7, .aload 4, 2), (9, .ifnull 31, 3), (12, .aload_n 0, 1), (13, .iload_n 1, 1), (14, .iload_n 2, 1), (15, .iconst (-1), 1), (16, .invokevirtual 298, 3), (19, .ifCond .eq 21, 3), (22, .iload_n 3, 1), (23, .ifCond .lt 17, 3), (26, .iload_n 3, 1), (27, .aload_n 0, 1), (28, .getfield 50, 3), (31, .getfield 330, 3), (34, .getfield 186, 3), (37, .if_icmp .lt 5, 3), (40, .iconst 0, 1), (41, .ireturn, 1), (42, .aload_n 0, 1), (43, .getfield 68, 3), (46, .invokestatic 323, 3), (49, .iconst 0, 1), (50, .istore 5, 2), (52, .iload 5, 2), (54, .aload 4, 2), (56, .getfield 224, 3), (59, .invokevirtual 266, 3), (62, .if_icmp .ge 35, 3), (65, .aload_n 0, 1), (66, .getfield 50, 3), (69, .aload 4, 2), (71, .iload 5, 2), (73, .invokevirtual 225, 3), (76, .putfield 302, 3), (79, .aload_n 0, 1), (80, .getfield 50, 3), (83, .iload_n 3, 1), (84, .aload_n 0, 1), (85, .getfield 68, 3), (88, .invokevirtual 331, 3), (91, .iinc 5 1, 3), (94, .goto (-42), 3), (97, .iconst 1, 1), (98, .ireturn, 1)]
theorem ddX10_marksHills_0 : (dtX10_marksHills_0.all fun e => decide (decode mX10_marksHills.2.1 e.1 = .ok (e.2.1, e.2.2))) = true := by decide +kernel
theorem daX10_marksHills_0 (j : Nat) {pc n : Nat} {i : Instr} (h : dtX10_marksHills_0[j]? = some (pc, i, n)) : decode mX10_marksHills.2.1 pc = .ok (i, n) := dec_of (c := mX10_marksHills.2.1) ddX10_marksHills_0 h
def zX10_marksHills_52 (l : Launch) (F : FI) (v0 v3 v4 : Int) (k n : Nat) : (Int × Mm) ⊕ Mm → Prop
  | .inl (v5, μ) => GM l mX10_marksHills F k n 52 [(0, (3, v0)), (3, (0, v3)), (4, (3, v4)), (5, (0, v5))] [] μ
  | .inr μ => GM l mX10_marksHills F k n 97 [] [] μ
def sX10_marksHills_52 (v0 v3 v4 : Int) : (Int × Mm) → Option (((Int × Mm) ⊕ Mm) × Nat × Nat) := fun (v5, μ) =>
  chk (KD v4 = 4) (
  chk (KD (μ v4 0) = 2) (
  (fX2_places (μ v4 0) μ).bind fun r3 =>
  if r3 ≤ v5 then
    some (.inr μ, 0, 0)
  else
    chk (KD v0 = 10) (
    (fX4_lineOf v4 v5 μ).bind fun ((r6, μ6), c6, n6) =>
    pay c6 n6 (
    chk (KD (μ v0 6) = 1) (
    lm (mst μ6 (μ v0 6) 2 r6) fun μ9 =>
    chk (KD (μ9 v0 6) = 1) (
    (fX1_markTops (μ9 v0 6) v3 (μ9 v0 9) μ9).bind fun μ11 =>
    some (.inl (w32 (v5 + 1), μ11), 0, 0)))))))
def fX10_marksHills (v0 v1 v2 v3 : Int) (μ : Mm) : Option ((Int × Mm) × Nat × Nat) :=
  chk (KD v0 = 10) (
  (fX10_sceneAt v0 v1 μ).bind fun ((r13, μ13), c13, n13) =>
  pay c13 n13 (
  if r13 = 0 then
    some ((0, μ13), 0, 0)
  else
    (fX10_takesUp v0 v1 v2 (-1) μ13).bind fun (r16, μ16) =>
    if r16 = 0 then
      some ((0, μ16), 0, 0)
    else
      if v3 < 0 then
        some ((0, μ16), 0, 0)
      else
        chk (KD (μ16 v0 6) = 1) (
        chk (KD (μ16 (μ16 v0 6) 1) = 6) (
        if v3 < μ16 (μ16 (μ16 v0 6) 1) 0 then
          (fX10_wipe (μ16 v0 9) μ16).bind fun μ22 =>
          (lopA (sX10_marksHills_52 v0 v3 r13) FU (0, μ22)).bind fun (μ_24, ccx23, nnx23) =>
            pay ccx23 nnx23 (
            some ((1, μ_24), 0, 0))
        else
          some ((0, μ16), 0, 0)))))
set_option maxRecDepth 20000 in
theorem qX10_marksHills_52 (l : Launch) (F : FI) (v0 v3 v4 : Int) : ∀ (q : (Int × Mm)) (t : ((Int × Mm) ⊕ Mm)) (c0 n0 : Nat), sX10_marksHills_52 v0 v3 v4 q = some (t, c0, n0) → ∀ k n, zX10_marksHills_52 l F v0 v3 v4 k n t → zX10_marksHills_52 l F v0 v3 v4 (c0 + k) (n0 + n) (.inl q) := by
  intro q t c0 n0 h k n hK
  obtain ⟨v5, μ⟩ := q
  unfold sX10_marksHills_52 at h
  try dsimp only at h
  show GM l mX10_marksHills F (c0 + k) (n0 + n) 52 [(0, (3, v0)), (3, (0, v3)), (4, (3, v4)), (5, (0, v5))] [] μ
  refine GM_iload (pc := 52) 3 rfl (daX10_marksHills_0 27 rfl) ?_
  refine GM_aload (pc := 54) 2 rfl (daX10_marksHills_0 28 rfl) ?_
  obtain ⟨hc1, h⟩ := chk_inv h
  refine GM_getf (pc := 56) 4 0 3 0 kf_X10_224 (Nat.le_of_ble_eq_true rfl) (Nat.le_of_ble_eq_true rfl) rfl (daX10_marksHills_0 29 rfl) hc1 rfl ?_
  obtain ⟨hc2, h⟩ := chk_inv h
  obtain ⟨r3, hf3, h⟩ := Option.bind_eq_some_iff.mp h
  refine GM_callV0 (pc := 59) [] (tX2_places l hf3) cwX2_places 2 (Nat.le_of_ble_eq_true rfl) rfl kv_X2_places ke_X2_places km_X10_266 hc2 ⟨Nat.le_of_ble_eq_true rfl, Nat.le_of_ble_eq_true rfl⟩ (Nat.le_of_ble_eq_true rfl) (Nat.le_of_ble_eq_true rfl) (daX10_marksHills_0 30 rfl) ?_
  refine GM_icmp_ge (pc := 62) 97 (daX10_marksHills_0 31 rfl) rfl (fun c4 => ?_) (fun c4 => ?_)
  · skip
    rw [if_pos c4] at h
    refine GM_pick [] rfl ?_
    cases h
    rw [Nat.zero_add, Nat.zero_add]
    exact hK
  · skip
    rw [if_neg c4] at h
    refine GM_aload_n (pc := 65) 0 rfl (daX10_marksHills_0 32 rfl) rfl ?_
    obtain ⟨hc5, h⟩ := chk_inv h
    refine GM_getf (pc := 66) 10 6 3 6 kf_X10_50 (Nat.le_of_ble_eq_true rfl) (Nat.le_of_ble_eq_true rfl) rfl (daX10_marksHills_0 33 rfl) hc5 rfl ?_
    refine GM_aload (pc := 69) 2 rfl (daX10_marksHills_0 34 rfl) ?_
    refine GM_iload (pc := 71) 3 rfl (daX10_marksHills_0 35 rfl) ?_
    obtain ⟨⟨⟨r6, μ6⟩, c6, n6⟩, hf6, h⟩ := Option.bind_eq_some_iff.mp h
    dsimp only at h
    obtain ⟨c7, n7, hp, e1, e2⟩ := pay_inv h
    subst e1 e2
    replace h := hp
    clear hp
    rw [Nat.add_assoc, Nat.add_assoc]
    refine GM_callV (pc := 73) [(0, v5)] (tX4_lineOf l hf6) cwX4_lineOf 4 (Nat.le_of_ble_eq_true rfl) rfl kv_X4_lineOf ke_X4_lineOf km_X10_225 hc1 ⟨Nat.le_of_ble_eq_true rfl, Nat.le_of_ble_eq_true rfl⟩ (Nat.le_of_ble_eq_true rfl) (Nat.le_of_ble_eq_true rfl) (daX10_marksHills_0 36 rfl) ?_
    obtain ⟨hc8, h⟩ := chk_inv h
    obtain ⟨μ9, hμ9, h⟩ := lm_inv h
    refine GM_putf (pc := 76) 1 2 3 kf_X10_302 (Nat.le_of_ble_eq_true rfl) (Nat.le_of_ble_eq_true rfl) rfl rfl (daX10_marksHills_0 37 rfl) hc8 (fun q => absurd q (by decide)) ?_
    refine GM_mem hμ9 ?_
    refine GM_aload_n (pc := 79) 0 rfl (daX10_marksHills_0 38 rfl) rfl ?_
    refine GM_getf (pc := 80) 10 6 3 6 kf_X10_50 (Nat.le_of_ble_eq_true rfl) (Nat.le_of_ble_eq_true rfl) rfl (daX10_marksHills_0 39 rfl) hc5 rfl ?_
    refine GM_iload_n (pc := 83) 1 rfl (daX10_marksHills_0 40 rfl) rfl ?_
    refine GM_aload_n (pc := 84) 0 rfl (daX10_marksHills_0 41 rfl) rfl ?_
    refine GM_getf (pc := 85) 10 9 3 9 kf_X10_68 (Nat.le_of_ble_eq_true rfl) (Nat.le_of_ble_eq_true rfl) rfl (daX10_marksHills_0 42 rfl) hc5 rfl ?_
    obtain ⟨hc10, h⟩ := chk_inv h
    obtain ⟨μ11, hf11, h⟩ := Option.bind_eq_some_iff.mp h
    refine GM_callV0 (pc := 88) [(0, v3), (3, μ9 v0 9)] (tX1_markTops l hf11) cwX1_markTops 1 (Nat.le_of_ble_eq_true rfl) rfl kv_X1_markTops ke_X1_markTops km_X10_331 hc10 ⟨Nat.le_of_ble_eq_true rfl, Nat.le_of_ble_eq_true rfl⟩ (Nat.le_of_ble_eq_true rfl) (Nat.le_of_ble_eq_true rfl) (daX10_marksHills_0 43 rfl) ?_
    refine GM_iinc (L' := [(5, (0, w32 (v5 + 1))), (0, (3, v0)), (3, (0, v3)), (4, (3, v4))]) (pc := 91) 3 rfl (daX10_marksHills_0 44 rfl) (Nat.le_of_ble_eq_true rfl) rfl ?_
    refine GM_goto (pc := 94) 52 (daX10_marksHills_0 45 rfl) rfl ?_
    refine GM_pick [1, 2, 3, 0] rfl ?_
    cases h
    rw [Nat.zero_add, Nat.zero_add]
    exact hK
set_option maxRecDepth 20000 in
theorem gX10_marksHills_0 (l : Launch) {F : FI} {v0 v1 v2 v3 : Int} {μ : Mm} {t : (Int × Mm)} {c0 n0 k n : Nat} (h : fX10_marksHills v0 v1 v2 v3 μ = some (t, c0, n0)) (hK : F.1 = [(0, t.1)] ∧ F.2.1 = t.2) : GM l mX10_marksHills F (c0 + k) (n0 + n) 0 [(0, (3, v0)), (1, (0, v1)), (2, (0, v2)), (3, (0, v3))] [] μ := by
  unfold fX10_marksHills at h
  refine GM_aload_n (pc := 0) 0 rfl (daX10_marksHills_0 0 rfl) rfl ?_
  refine GM_iload_n (pc := 1) 1 rfl (daX10_marksHills_0 1 rfl) rfl ?_
  obtain ⟨hc12, h⟩ := chk_inv h
  obtain ⟨⟨⟨r13, μ13⟩, c13, n13⟩, hf13, h⟩ := Option.bind_eq_some_iff.mp h
  dsimp only at h
  obtain ⟨c14, n14, hp, e1, e2⟩ := pay_inv h
  subst e1 e2
  replace h := hp
  clear hp
  rw [Nat.add_assoc, Nat.add_assoc]
  refine GM_callV (pc := 2) [(0, v1)] (tX10_sceneAt l hf13) cwX10_sceneAt 10 (Nat.le_of_ble_eq_true rfl) rfl kv_X10_sceneAt ke_X10_sceneAt km_X10_220 hc12 ⟨Nat.le_of_ble_eq_true rfl, Nat.le_of_ble_eq_true rfl⟩ (Nat.le_of_ble_eq_true rfl) (Nat.le_of_ble_eq_true rfl) (daX10_marksHills_0 2 rfl) ?_
  refine GM_astore (L' := [(4, (3, r13)), (0, (3, v0)), (1, (0, v1)), (2, (0, v2)), (3, (0, v3))]) (pc := 5) (daX10_marksHills_0 3 rfl) (Nat.le_of_ble_eq_true rfl) rfl ?_
  refine GM_aload (pc := 7) 0 rfl (daX10_marksHills_0 4 rfl) ?_
  refine GM_ifnull (pc := 9) 40 (daX10_marksHills_0 5 rfl) rfl (fun c15 => ?_) (fun c15 => ?_)
  · skip
    rw [if_pos c15] at h
    refine GM_iconst (pc := 40) 0 (daX10_marksHills_0 20 rfl) rfl (R32_b rfl) ?_
    cases h
    exact GM_zret (pc := 41) (daX10_marksHills_0 21 rfl) rfl (Or.inl rfl) hK
  · skip
    rw [if_neg c15] at h
    refine GM_aload_n (pc := 12) 1 rfl (daX10_marksHills_0 6 rfl) rfl ?_
    refine GM_iload_n (pc := 13) 2 rfl (daX10_marksHills_0 7 rfl) rfl ?_
    refine GM_iload_n (pc := 14) 3 rfl (daX10_marksHills_0 8 rfl) rfl ?_
    refine GM_iconst (pc := 15) (-1) (daX10_marksHills_0 9 rfl) rfl (R32_b rfl) ?_
    obtain ⟨⟨r16, μ16⟩, hf16, h⟩ := Option.bind_eq_some_iff.mp h
    dsimp only at h
    refine GM_callV0 (pc := 16) [(0, v1), (0, v2), (0, (-1))] (tX10_takesUp l hf16) cwX10_takesUp 10 (Nat.le_of_ble_eq_true rfl) rfl kv_X10_takesUp ke_X10_takesUp km_X10_298 hc12 ⟨Nat.le_of_ble_eq_true rfl, Nat.le_of_ble_eq_true rfl⟩ (Nat.le_of_ble_eq_true rfl) (Nat.le_of_ble_eq_true rfl) (daX10_marksHills_0 10 rfl) ?_
    refine GM_if_eq (pc := 19) 40 (daX10_marksHills_0 11 rfl) rfl (fun c17 => ?_) (fun c17 => ?_)
    · skip
      rw [if_pos c17] at h
      refine GM_iconst (pc := 40) 0 (daX10_marksHills_0 20 rfl) rfl (R32_b rfl) ?_
      cases h
      exact GM_zret (pc := 41) (daX10_marksHills_0 21 rfl) rfl (Or.inl rfl) hK
    · skip
      rw [if_neg c17] at h
      refine GM_iload_n (pc := 22) 4 rfl (daX10_marksHills_0 12 rfl) rfl ?_
      refine GM_if_lt (pc := 23) 40 (daX10_marksHills_0 13 rfl) rfl (fun c18 => ?_) (fun c18 => ?_)
      · skip
        rw [if_pos c18] at h
        refine GM_iconst (pc := 40) 0 (daX10_marksHills_0 20 rfl) rfl (R32_b rfl) ?_
        cases h
        exact GM_zret (pc := 41) (daX10_marksHills_0 21 rfl) rfl (Or.inl rfl) hK
      · skip
        rw [if_neg c18] at h
        refine GM_iload_n (pc := 26) 4 rfl (daX10_marksHills_0 14 rfl) rfl ?_
        refine GM_aload_n (pc := 27) 1 rfl (daX10_marksHills_0 15 rfl) rfl ?_
        refine GM_getf (pc := 28) 10 6 3 6 kf_X10_50 (Nat.le_of_ble_eq_true rfl) (Nat.le_of_ble_eq_true rfl) rfl (daX10_marksHills_0 16 rfl) hc12 rfl ?_
        obtain ⟨hc19, h⟩ := chk_inv h
        refine GM_getf (pc := 31) 1 1 3 1 kf_X10_330 (Nat.le_of_ble_eq_true rfl) (Nat.le_of_ble_eq_true rfl) rfl (daX10_marksHills_0 17 rfl) hc19 rfl ?_
        obtain ⟨hc20, h⟩ := chk_inv h
        refine GM_getf (pc := 34) 6 0 0 0 kf_X10_186 (Nat.le_of_ble_eq_true rfl) (Nat.le_of_ble_eq_true rfl) rfl (daX10_marksHills_0 18 rfl) hc20 rfl ?_
        refine GM_icmp_lt (pc := 37) 42 (daX10_marksHills_0 19 rfl) rfl (fun c21 => ?_) (fun c21 => ?_)
        · skip
          rw [if_pos c21] at h
          refine GM_aload_n (pc := 42) 1 rfl (daX10_marksHills_0 22 rfl) rfl ?_
          refine GM_getf (pc := 43) 10 9 3 9 kf_X10_68 (Nat.le_of_ble_eq_true rfl) (Nat.le_of_ble_eq_true rfl) rfl (daX10_marksHills_0 23 rfl) hc12 rfl ?_
          obtain ⟨μ22, hf22, h⟩ := Option.bind_eq_some_iff.mp h
          refine GM_callS0 (pc := 46) [(3, μ16 v0 9)] (tX10_wipe l hf22) cwX10_wipe ks_X10_wipe km_X10_323 ⟨Nat.le_of_ble_eq_true rfl, Nat.le_of_ble_eq_true rfl⟩ (Nat.le_of_ble_eq_true rfl) (Nat.le_of_ble_eq_true rfl) (daX10_marksHills_0 24 rfl) ?_
          refine GM_iconst (pc := 49) 0 (daX10_marksHills_0 25 rfl) rfl (R32_b rfl) ?_
          refine GM_istore (L' := [(5, (0, 0)), (4, (3, r13)), (0, (3, v0)), (1, (0, v1)), (2, (0, v2)), (3, (0, v3))]) (pc := 50) (daX10_marksHills_0 26 rfl) (Nat.le_of_ble_eq_true rfl) rfl ?_
          refine GM_pick [2, 5, 1, 0] rfl ?_
          obtain ⟨x23, hqx23, h⟩ := Option.bind_eq_some_iff.mp h
          obtain ⟨x23, ccx23, nnx23⟩ := x23
          dsimp only at h
          obtain ⟨c25, n25, hp, e1, e2⟩ := pay_inv h
          subst e1 e2
          replace h := hp
          clear hp
          rw [Nat.add_assoc, Nat.add_assoc]
          refine lopA_ind (fun k n => zX10_marksHills_52 l F v0 v3 r13 k n) (qX10_marksHills_52 l F v0 v3 r13) FU _ x23 _ _ hqx23 _ _ ?_
          obtain ⟨μ_24, hqq⟩ : ∃ z, z = x23 := ⟨x23, rfl⟩
          subst hqq
          show GM l mX10_marksHills F (c25 + k) (n25 + n) 97 [] [] μ_24
          refine GM_iconst (pc := 97) 1 (daX10_marksHills_0 46 rfl) rfl (R32_b rfl) ?_
          cases h
          exact GM_zret (pc := 98) (daX10_marksHills_0 47 rfl) rfl (Or.inr rfl) hK
        · skip
          rw [if_neg c21] at h
          refine GM_iconst (pc := 40) 0 (daX10_marksHills_0 20 rfl) rfl (R32_b rfl) ?_
          cases h
          exact GM_zret (pc := 41) (daX10_marksHills_0 21 rfl) rfl (Or.inl rfl) hK
theorem tX10_marksHills (l : Launch) {v0 v1 v2 v3 : Int} {μ : Mm} {t : (Int × Mm)} {c0 n0 : Nat} (h : fX10_marksHills v0 v1 v2 v3 μ = some (t, c0, n0)) : Ct l yX10_marksHills mX10_marksHills [(3, v0), (0, v1), (0, v2), (0, v3)] μ ([(0, t.1)], t.2, c0, n0) :=
  Ct_of (by decide +kernel) rfl rfl (Nat.le_of_ble_eq_true rfl) (fun _ _ _ => trivial) (gX10_marksHills_0 (k := 0) (n := 0) l h ⟨rfl, rfl⟩)
def mX10_hills : MI := (RX10, cX10_hills, 5, (some .int), "hills", 7, 169, fun _ _ _ => True)
theorem cwX10_hills : CWd yX10_hills mX10_hills 4 := ⟨ki_X10, kk_X10_hills, ⟨by decide, by decide⟩, rfl⟩
def dtX10_hills_0 : List (Nat × Instr × Nat) := [(0, .aload_n 0, 1), (1, .iload_n 1, 1), (2, .iload_n 2, 1), (3, .iload_n 3, 1), (4, .invokevirtual 327, 3), (7, .ifCond .eq 15, 3), (10, .aload_n 0, 1), (11, .getfield 68, 3), (14, .iload 4, 2), (16, .invokestatic 319, 3), (19, .goto 4, 3), (22, .iconst (-1), 1), (23, .ireturn, 1)]
theorem ddX10_hills_0 : (dtX10_hills_0.all fun e => decide (decode mX10_hills.2.1 e.1 = .ok (e.2.1, e.2.2))) = true := by decide +kernel
theorem daX10_hills_0 (j : Nat) {pc n : Nat} {i : Instr} (h : dtX10_hills_0[j]? = some (pc, i, n)) : decode mX10_hills.2.1 pc = .ok (i, n) := dec_of (c := mX10_hills.2.1) ddX10_hills_0 h
def fX10_hills (v0 v1 v2 v3 v4 : Int) (μ : Mm) : Option ((Int × Mm) × Nat × Nat) :=
  chk (KD v0 = 10) (
  (fX10_marksHills v0 v1 v2 v3 μ).bind fun ((r2, μ2), c2, n2) =>
  pay c2 n2 (
  if r2 = 0 then
    some (((-1), μ2), 0, 0)
  else
    (fX10_tellMarked (μ2 v0 9) v4 μ2).bind fun r5 =>
    some ((r5, μ2), 0, 0)))
set_option maxRecDepth 20000 in
theorem gX10_hills_0 (l : Launch) {F : FI} {v0 v1 v2 v3 v4 : Int} {μ : Mm} {t : (Int × Mm)} {c0 n0 k n : Nat} (h : fX10_hills v0 v1 v2 v3 v4 μ = some (t, c0, n0)) (hK : F.1 = [(0, t.1)] ∧ F.2.1 = t.2) : GM l mX10_hills F (c0 + k) (n0 + n) 0 [(0, (3, v0)), (1, (0, v1)), (2, (0, v2)), (3, (0, v3)), (4, (0, v4))] [] μ := by
  unfold fX10_hills at h
  refine GM_aload_n (pc := 0) 0 rfl (daX10_hills_0 0 rfl) rfl ?_
  refine GM_iload_n (pc := 1) 1 rfl (daX10_hills_0 1 rfl) rfl ?_
  refine GM_iload_n (pc := 2) 2 rfl (daX10_hills_0 2 rfl) rfl ?_
  refine GM_iload_n (pc := 3) 3 rfl (daX10_hills_0 3 rfl) rfl ?_
  obtain ⟨hc1, h⟩ := chk_inv h
  obtain ⟨⟨⟨r2, μ2⟩, c2, n2⟩, hf2, h⟩ := Option.bind_eq_some_iff.mp h
  dsimp only at h
  obtain ⟨c3, n3, hp, e1, e2⟩ := pay_inv h
  subst e1 e2
  replace h := hp
  clear hp
  rw [Nat.add_assoc, Nat.add_assoc]
  refine GM_callV (pc := 4) [(0, v1), (0, v2), (0, v3)] (tX10_marksHills l hf2) cwX10_marksHills 10 (Nat.le_of_ble_eq_true rfl) rfl kv_X10_marksHills ke_X10_marksHills km_X10_327 hc1 ⟨Nat.le_of_ble_eq_true rfl, Nat.le_of_ble_eq_true rfl⟩ (Nat.le_of_ble_eq_true rfl) (Nat.le_of_ble_eq_true rfl) (daX10_hills_0 4 rfl) ?_
  refine GM_if_eq (pc := 7) 22 (daX10_hills_0 5 rfl) rfl (fun c4 => ?_) (fun c4 => ?_)
  · skip
    rw [if_pos c4] at h
    refine GM_iconst (pc := 22) (-1) (daX10_hills_0 11 rfl) rfl (R32_b rfl) ?_
    cases h
    exact GM_iret (pc := 23) (daX10_hills_0 12 rfl) rfl hK
  · skip
    rw [if_neg c4] at h
    refine GM_aload_n (pc := 10) 0 rfl (daX10_hills_0 6 rfl) rfl ?_
    refine GM_getf (pc := 11) 10 9 3 9 kf_X10_68 (Nat.le_of_ble_eq_true rfl) (Nat.le_of_ble_eq_true rfl) rfl (daX10_hills_0 7 rfl) hc1 rfl ?_
    refine GM_iload (pc := 14) 4 rfl (daX10_hills_0 8 rfl) ?_
    obtain ⟨r5, hf5, h⟩ := Option.bind_eq_some_iff.mp h
    refine GM_callS0 (pc := 16) [(3, μ2 v0 9), (0, v4)] (tX10_tellMarked l hf5) cwX10_tellMarked ks_X10_tellMarked km_X10_319 ⟨Nat.le_of_ble_eq_true rfl, Nat.le_of_ble_eq_true rfl⟩ (Nat.le_of_ble_eq_true rfl) (Nat.le_of_ble_eq_true rfl) (daX10_hills_0 9 rfl) ?_
    refine GM_goto (pc := 19) 23 (daX10_hills_0 10 rfl) rfl ?_
    cases h
    exact GM_iret (pc := 23) (daX10_hills_0 12 rfl) rfl hK
theorem tX10_hills (l : Launch) {v0 v1 v2 v3 v4 : Int} {μ : Mm} {t : (Int × Mm)} {c0 n0 : Nat} (h : fX10_hills v0 v1 v2 v3 v4 μ = some (t, c0, n0)) : Ct l yX10_hills mX10_hills [(3, v0), (0, v1), (0, v2), (0, v3), (0, v4)] μ ([(0, t.1)], t.2, c0, n0) :=
  Ct_of (by decide +kernel) rfl rfl (Nat.le_of_ble_eq_true rfl) (fun _ _ _ => trivial) (gX10_hills_0 (k := 0) (n := 0) l h ⟨rfl, rfl⟩)
def mX10_sure : MI := (RX10, cX10_sure, 4, (some .boolean), "sure", 7, 169, fun _ _ _ => True)
theorem cwX10_sure : CWd yX10_sure mX10_sure 3 := ⟨ki_X10, kk_X10_sure, ⟨by decide, by decide⟩, rfl⟩
def dtX10_sure_0 : List (Nat × Instr × Nat) := [(0, .aload_n 0, 1), (1, .iload_n 1, 1), (2, .iload_n 2, 1), (3, .iload_n 3, 1), (4, .invokevirtual 327, 3), (7, .ifCond .eq 19, 3), (10, .aload_n 0, 1), (11, .getfield 68, 3), (14, .iconst (-1), 1), (15, .invokestatic 319, 3), (18, .iconst 1, 1), (19, .if_icmp .ne 7, 3), (22, .iconst 1, 1), (23, .goto 4, 3), (26, .iconst 0, 1), (27, .ireturn, 1)]
theorem ddX10_sure_0 : (dtX10_sure_0.all fun e => decide (decode mX10_sure.2.1 e.1 = .ok (e.2.1, e.2.2))) = true := by decide +kernel
theorem daX10_sure_0 (j : Nat) {pc n : Nat} {i : Instr} (h : dtX10_sure_0[j]? = some (pc, i, n)) : decode mX10_sure.2.1 pc = .ok (i, n) := dec_of (c := mX10_sure.2.1) ddX10_sure_0 h
def fX10_sure (v0 v1 v2 v3 : Int) (μ : Mm) : Option ((Int × Mm) × Nat × Nat) :=
  chk (KD v0 = 10) (
  (fX10_marksHills v0 v1 v2 v3 μ).bind fun ((r2, μ2), c2, n2) =>
  pay c2 n2 (
  if r2 = 0 then
    some ((0, μ2), 0, 0)
  else
    (fX10_tellMarked (μ2 v0 9) (-1) μ2).bind fun r5 =>
    if r5 = 1 then
      some ((1, μ2), 0, 0)
    else
      some ((0, μ2), 0, 0)))
set_option maxRecDepth 20000 in
theorem gX10_sure_0 (l : Launch) {F : FI} {v0 v1 v2 v3 : Int} {μ : Mm} {t : (Int × Mm)} {c0 n0 k n : Nat} (h : fX10_sure v0 v1 v2 v3 μ = some (t, c0, n0)) (hK : F.1 = [(0, t.1)] ∧ F.2.1 = t.2) : GM l mX10_sure F (c0 + k) (n0 + n) 0 [(0, (3, v0)), (1, (0, v1)), (2, (0, v2)), (3, (0, v3))] [] μ := by
  unfold fX10_sure at h
  refine GM_aload_n (pc := 0) 0 rfl (daX10_sure_0 0 rfl) rfl ?_
  refine GM_iload_n (pc := 1) 1 rfl (daX10_sure_0 1 rfl) rfl ?_
  refine GM_iload_n (pc := 2) 2 rfl (daX10_sure_0 2 rfl) rfl ?_
  refine GM_iload_n (pc := 3) 3 rfl (daX10_sure_0 3 rfl) rfl ?_
  obtain ⟨hc1, h⟩ := chk_inv h
  obtain ⟨⟨⟨r2, μ2⟩, c2, n2⟩, hf2, h⟩ := Option.bind_eq_some_iff.mp h
  dsimp only at h
  obtain ⟨c3, n3, hp, e1, e2⟩ := pay_inv h
  subst e1 e2
  replace h := hp
  clear hp
  rw [Nat.add_assoc, Nat.add_assoc]
  refine GM_callV (pc := 4) [(0, v1), (0, v2), (0, v3)] (tX10_marksHills l hf2) cwX10_marksHills 10 (Nat.le_of_ble_eq_true rfl) rfl kv_X10_marksHills ke_X10_marksHills km_X10_327 hc1 ⟨Nat.le_of_ble_eq_true rfl, Nat.le_of_ble_eq_true rfl⟩ (Nat.le_of_ble_eq_true rfl) (Nat.le_of_ble_eq_true rfl) (daX10_sure_0 4 rfl) ?_
  refine GM_if_eq (pc := 7) 26 (daX10_sure_0 5 rfl) rfl (fun c4 => ?_) (fun c4 => ?_)
  · skip
    rw [if_pos c4] at h
    refine GM_iconst (pc := 26) 0 (daX10_sure_0 14 rfl) rfl (R32_b rfl) ?_
    cases h
    exact GM_zret (pc := 27) (daX10_sure_0 15 rfl) rfl (Or.inl rfl) hK
  · skip
    rw [if_neg c4] at h
    refine GM_aload_n (pc := 10) 0 rfl (daX10_sure_0 6 rfl) rfl ?_
    refine GM_getf (pc := 11) 10 9 3 9 kf_X10_68 (Nat.le_of_ble_eq_true rfl) (Nat.le_of_ble_eq_true rfl) rfl (daX10_sure_0 7 rfl) hc1 rfl ?_
    refine GM_iconst (pc := 14) (-1) (daX10_sure_0 8 rfl) rfl (R32_b rfl) ?_
    obtain ⟨r5, hf5, h⟩ := Option.bind_eq_some_iff.mp h
    refine GM_callS0 (pc := 15) [(3, μ2 v0 9), (0, (-1))] (tX10_tellMarked l hf5) cwX10_tellMarked ks_X10_tellMarked km_X10_319 ⟨Nat.le_of_ble_eq_true rfl, Nat.le_of_ble_eq_true rfl⟩ (Nat.le_of_ble_eq_true rfl) (Nat.le_of_ble_eq_true rfl) (daX10_sure_0 9 rfl) ?_
    refine GM_iconst (pc := 18) 1 (daX10_sure_0 10 rfl) rfl (R32_b rfl) ?_
    refine GM_icmp_ne (pc := 19) 26 (daX10_sure_0 11 rfl) rfl (fun c6 => ?_) (fun c6 => ?_)
    · skip
      rw [if_neg c6] at h
      refine GM_iconst (pc := 26) 0 (daX10_sure_0 14 rfl) rfl (R32_b rfl) ?_
      cases h
      exact GM_zret (pc := 27) (daX10_sure_0 15 rfl) rfl (Or.inl rfl) hK
    · skip
      rw [if_pos c6] at h
      refine GM_iconst (pc := 22) 1 (daX10_sure_0 12 rfl) rfl (R32_b rfl) ?_
      refine GM_goto (pc := 23) 27 (daX10_sure_0 13 rfl) rfl ?_
      cases h
      exact GM_zret (pc := 27) (daX10_sure_0 15 rfl) rfl (Or.inr rfl) hK
theorem tX10_sure (l : Launch) {v0 v1 v2 v3 : Int} {μ : Mm} {t : (Int × Mm)} {c0 n0 : Nat} (h : fX10_sure v0 v1 v2 v3 μ = some (t, c0, n0)) : Ct l yX10_sure mX10_sure [(3, v0), (0, v1), (0, v2), (0, v3)] μ ([(0, t.1)], t.2, c0, n0) :=
  Ct_of (by decide +kernel) rfl rfl (Nat.le_of_ble_eq_true rfl) (fun _ _ _ => trivial) (gX10_sure_0 (k := 0) (n := 0) l h ⟨rfl, rfl⟩)
def mX10_bars : MI := (RX10, cX10_bars, 7, (some .int), "bars", 6, 142, fun _ _ _ => True)
theorem cwX10_bars : CWd yX10_bars mX10_bars 3 := ⟨ki_X10, kk_X10_bars, ⟨by decide, by decide⟩, rfl⟩
def dtX10_bars_0 : List (Nat × Instr × Nat) := [(0, .aload_n 0, 1), (1, .iload_n 1, 1), (2, .invokevirtual 220, 3), (5, .astore 4, 2), (7, .aload 4, 2), (9, .ifnull 31, 3), (12, .aload_n 0, 1), (13, .iload_n 1, 1), (14, .iload_n 2, 1), (15, .iconst (-1), 1), (16, .invokevirtual 298, 3), (19, .ifCond .eq 21, 3), (22, .iload_n 3, 1), (23, .ifCond .lt 17, 3), (26, .iload_n 3, 1), (27, .aload_n 0, 1), (28, .getfield 50, 3), (31, .getfield 330, 3), (34, .getfield 186, 3), (37, .if_icmp .lt 5, 3), (40, .iconst (-1), 1), (41, .ireturn, 1), (42, .iconst 0, 1), (43, .istore 5, 2), (45, .iconst 0, 1), (46, .istore 6, 2), (48, .iload 6, 2), (50, .aload 4, 2), (52, .getfield 224, 3), (55, .invokevirtual 266, 3), (58, .if_icmp .ge 37, 3), (61, .aload_n 0, 1), (62, .getfield 50, 3), (65, .aload 4, 2), (67, .iload 6, 2), (69, .invokevirtual 225, 3), (72, .putfield 302, 3), (75, .aload_n 0, 1), (76, .getfield 50, 3), (79, .invokevirtual 335, 3), (82, .iload_n 3, 1), (83, .if_icmp .ne 6, 3), (86, .iinc 5 1, 3), (89, .iinc 6 1, 3), (92, .goto (-44), 3), (95, .iload 5, 2), (97, .ireturn, 1)]
theorem ddX10_bars_0 : (dtX10_bars_0.all fun e => decide (decode mX10_bars.2.1 e.1 = .ok (e.2.1, e.2.2))) = true := by decide +kernel
theorem daX10_bars_0 (j : Nat) {pc n : Nat} {i : Instr} (h : dtX10_bars_0[j]? = some (pc, i, n)) : decode mX10_bars.2.1 pc = .ok (i, n) := dec_of (c := mX10_bars.2.1) ddX10_bars_0 h
def zX10_bars_48 (l : Launch) (F : FI) (v0 v3 v4 : Int) (k n : Nat) : (Int × Int × Mm) ⊕ (Int × Mm) → Prop
  | .inl (v5, v6, μ) => GM l mX10_bars F k n 48 [(0, (3, v0)), (3, (0, v3)), (4, (3, v4)), (5, (0, v5)), (6, (0, v6))] [] μ
  | .inr (v5, μ) => GM l mX10_bars F k n 95 [(5, (0, v5))] [] μ
def sX10_bars_48 (v0 v3 v4 : Int) : (Int × Int × Mm) → Option (((Int × Int × Mm) ⊕ (Int × Mm)) × Nat × Nat) := fun (v5, v6, μ) =>
  chk (KD v4 = 4) (
  chk (KD (μ v4 0) = 2) (
  (fX2_places (μ v4 0) μ).bind fun r3 =>
  if r3 ≤ v6 then
    some (.inr (v5, μ), 0, 0)
  else
    chk (KD v0 = 10) (
    (fX4_lineOf v4 v6 μ).bind fun ((r6, μ6), c6, n6) =>
    pay c6 n6 (
    chk (KD (μ v0 6) = 1) (
    lm (mst μ6 (μ v0 6) 2 r6) fun μ9 =>
    chk (KD (μ9 v0 6) = 1) (
    (fX1_greatestReach (μ9 v0 6) μ9).bind fun (r11, μ11) =>
    if r11 = v3 then
      some (.inl (w32 (v5 + 1), w32 (v6 + 1), μ11), 0, 0)
    else
      some (.inl (v5, w32 (v6 + 1), μ11), 0, 0)))))))
def fX10_bars (v0 v1 v2 v3 : Int) (μ : Mm) : Option ((Int × Mm) × Nat × Nat) :=
  chk (KD v0 = 10) (
  (fX10_sceneAt v0 v1 μ).bind fun ((r14, μ14), c14, n14) =>
  pay c14 n14 (
  if r14 = 0 then
    some (((-1), μ14), 0, 0)
  else
    (fX10_takesUp v0 v1 v2 (-1) μ14).bind fun (r17, μ17) =>
    if r17 = 0 then
      some (((-1), μ17), 0, 0)
    else
      if v3 < 0 then
        some (((-1), μ17), 0, 0)
      else
        chk (KD (μ17 v0 6) = 1) (
        chk (KD (μ17 (μ17 v0 6) 1) = 6) (
        if v3 < μ17 (μ17 (μ17 v0 6) 1) 0 then
          (lopA (sX10_bars_48 v0 v3 r14) FU (0, 0, μ17)).bind fun (x23, ccx23, nnx23) =>
            pay ccx23 nnx23 (
            match x23 with
            | (v5_24, μ_24) =>
              some ((v5_24, μ_24), 0, 0))
        else
          some (((-1), μ17), 0, 0)))))
set_option maxRecDepth 20000 in
theorem qX10_bars_48 (l : Launch) (F : FI) (v0 v3 v4 : Int) : ∀ (q : (Int × Int × Mm)) (t : ((Int × Int × Mm) ⊕ (Int × Mm))) (c0 n0 : Nat), sX10_bars_48 v0 v3 v4 q = some (t, c0, n0) → ∀ k n, zX10_bars_48 l F v0 v3 v4 k n t → zX10_bars_48 l F v0 v3 v4 (c0 + k) (n0 + n) (.inl q) := by
  intro q t c0 n0 h k n hK
  obtain ⟨v5, v6, μ⟩ := q
  unfold sX10_bars_48 at h
  try dsimp only at h
  show GM l mX10_bars F (c0 + k) (n0 + n) 48 [(0, (3, v0)), (3, (0, v3)), (4, (3, v4)), (5, (0, v5)), (6, (0, v6))] [] μ
  refine GM_iload (pc := 48) 4 rfl (daX10_bars_0 26 rfl) ?_
  refine GM_aload (pc := 50) 2 rfl (daX10_bars_0 27 rfl) ?_
  obtain ⟨hc1, h⟩ := chk_inv h
  refine GM_getf (pc := 52) 4 0 3 0 kf_X10_224 (Nat.le_of_ble_eq_true rfl) (Nat.le_of_ble_eq_true rfl) rfl (daX10_bars_0 28 rfl) hc1 rfl ?_
  obtain ⟨hc2, h⟩ := chk_inv h
  obtain ⟨r3, hf3, h⟩ := Option.bind_eq_some_iff.mp h
  refine GM_callV0 (pc := 55) [] (tX2_places l hf3) cwX2_places 2 (Nat.le_of_ble_eq_true rfl) rfl kv_X2_places ke_X2_places km_X10_266 hc2 ⟨Nat.le_of_ble_eq_true rfl, Nat.le_of_ble_eq_true rfl⟩ (Nat.le_of_ble_eq_true rfl) (Nat.le_of_ble_eq_true rfl) (daX10_bars_0 29 rfl) ?_
  refine GM_icmp_ge (pc := 58) 95 (daX10_bars_0 30 rfl) rfl (fun c4 => ?_) (fun c4 => ?_)
  · skip
    rw [if_pos c4] at h
    refine GM_pick [3] rfl ?_
    cases h
    rw [Nat.zero_add, Nat.zero_add]
    exact hK
  · skip
    rw [if_neg c4] at h
    refine GM_aload_n (pc := 61) 0 rfl (daX10_bars_0 31 rfl) rfl ?_
    obtain ⟨hc5, h⟩ := chk_inv h
    refine GM_getf (pc := 62) 10 6 3 6 kf_X10_50 (Nat.le_of_ble_eq_true rfl) (Nat.le_of_ble_eq_true rfl) rfl (daX10_bars_0 32 rfl) hc5 rfl ?_
    refine GM_aload (pc := 65) 2 rfl (daX10_bars_0 33 rfl) ?_
    refine GM_iload (pc := 67) 4 rfl (daX10_bars_0 34 rfl) ?_
    obtain ⟨⟨⟨r6, μ6⟩, c6, n6⟩, hf6, h⟩ := Option.bind_eq_some_iff.mp h
    dsimp only at h
    obtain ⟨c7, n7, hp, e1, e2⟩ := pay_inv h
    subst e1 e2
    replace h := hp
    clear hp
    rw [Nat.add_assoc, Nat.add_assoc]
    refine GM_callV (pc := 69) [(0, v6)] (tX4_lineOf l hf6) cwX4_lineOf 4 (Nat.le_of_ble_eq_true rfl) rfl kv_X4_lineOf ke_X4_lineOf km_X10_225 hc1 ⟨Nat.le_of_ble_eq_true rfl, Nat.le_of_ble_eq_true rfl⟩ (Nat.le_of_ble_eq_true rfl) (Nat.le_of_ble_eq_true rfl) (daX10_bars_0 35 rfl) ?_
    obtain ⟨hc8, h⟩ := chk_inv h
    obtain ⟨μ9, hμ9, h⟩ := lm_inv h
    refine GM_putf (pc := 72) 1 2 3 kf_X10_302 (Nat.le_of_ble_eq_true rfl) (Nat.le_of_ble_eq_true rfl) rfl rfl (daX10_bars_0 36 rfl) hc8 (fun q => absurd q (by decide)) ?_
    refine GM_mem hμ9 ?_
    refine GM_aload_n (pc := 75) 0 rfl (daX10_bars_0 37 rfl) rfl ?_
    refine GM_getf (pc := 76) 10 6 3 6 kf_X10_50 (Nat.le_of_ble_eq_true rfl) (Nat.le_of_ble_eq_true rfl) rfl (daX10_bars_0 38 rfl) hc5 rfl ?_
    obtain ⟨hc10, h⟩ := chk_inv h
    obtain ⟨⟨r11, μ11⟩, hf11, h⟩ := Option.bind_eq_some_iff.mp h
    dsimp only at h
    refine GM_callV0 (pc := 79) [] (tX1_greatestReach l hf11) cwX1_greatestReach 1 (Nat.le_of_ble_eq_true rfl) rfl kv_X1_greatestReach ke_X1_greatestReach km_X10_335 hc10 ⟨Nat.le_of_ble_eq_true rfl, Nat.le_of_ble_eq_true rfl⟩ (Nat.le_of_ble_eq_true rfl) (Nat.le_of_ble_eq_true rfl) (daX10_bars_0 39 rfl) ?_
    refine GM_iload_n (pc := 82) 1 rfl (daX10_bars_0 40 rfl) rfl ?_
    refine GM_icmp_ne (pc := 83) 89 (daX10_bars_0 41 rfl) rfl (fun c12 => ?_) (fun c12 => ?_)
    · skip
      rw [if_neg c12] at h
      refine GM_iinc (L' := [(6, (0, w32 (v6 + 1))), (0, (3, v0)), (3, (0, v3)), (4, (3, v4)), (5, (0, v5))]) (pc := 89) 4 rfl (daX10_bars_0 43 rfl) (Nat.le_of_ble_eq_true rfl) rfl ?_
      refine GM_goto (pc := 92) 48 (daX10_bars_0 44 rfl) rfl ?_
      refine GM_pick [1, 2, 3, 4, 0] rfl ?_
      cases h
      rw [Nat.zero_add, Nat.zero_add]
      exact hK
    · skip
      rw [if_pos c12] at h
      refine GM_iinc (L' := [(5, (0, w32 (v5 + 1))), (0, (3, v0)), (3, (0, v3)), (4, (3, v4)), (6, (0, v6))]) (pc := 86) 3 rfl (daX10_bars_0 42 rfl) (Nat.le_of_ble_eq_true rfl) rfl ?_
      refine GM_iinc (L' := [(6, (0, w32 (v6 + 1))), (5, (0, w32 (v5 + 1))), (0, (3, v0)), (3, (0, v3)), (4, (3, v4))]) (pc := 89) 4 rfl (daX10_bars_0 43 rfl) (Nat.le_of_ble_eq_true rfl) rfl ?_
      refine GM_goto (pc := 92) 48 (daX10_bars_0 44 rfl) rfl ?_
      refine GM_pick [2, 3, 4, 1, 0] rfl ?_
      cases h
      rw [Nat.zero_add, Nat.zero_add]
      exact hK
set_option maxRecDepth 20000 in
theorem gX10_bars_0 (l : Launch) {F : FI} {v0 v1 v2 v3 : Int} {μ : Mm} {t : (Int × Mm)} {c0 n0 k n : Nat} (h : fX10_bars v0 v1 v2 v3 μ = some (t, c0, n0)) (hK : F.1 = [(0, t.1)] ∧ F.2.1 = t.2) : GM l mX10_bars F (c0 + k) (n0 + n) 0 [(0, (3, v0)), (1, (0, v1)), (2, (0, v2)), (3, (0, v3))] [] μ := by
  unfold fX10_bars at h
  refine GM_aload_n (pc := 0) 0 rfl (daX10_bars_0 0 rfl) rfl ?_
  refine GM_iload_n (pc := 1) 1 rfl (daX10_bars_0 1 rfl) rfl ?_
  obtain ⟨hc13, h⟩ := chk_inv h
  obtain ⟨⟨⟨r14, μ14⟩, c14, n14⟩, hf14, h⟩ := Option.bind_eq_some_iff.mp h
  dsimp only at h
  obtain ⟨c15, n15, hp, e1, e2⟩ := pay_inv h
  subst e1 e2
  replace h := hp
  clear hp
  rw [Nat.add_assoc, Nat.add_assoc]
  refine GM_callV (pc := 2) [(0, v1)] (tX10_sceneAt l hf14) cwX10_sceneAt 10 (Nat.le_of_ble_eq_true rfl) rfl kv_X10_sceneAt ke_X10_sceneAt km_X10_220 hc13 ⟨Nat.le_of_ble_eq_true rfl, Nat.le_of_ble_eq_true rfl⟩ (Nat.le_of_ble_eq_true rfl) (Nat.le_of_ble_eq_true rfl) (daX10_bars_0 2 rfl) ?_
  refine GM_astore (L' := [(4, (3, r14)), (0, (3, v0)), (1, (0, v1)), (2, (0, v2)), (3, (0, v3))]) (pc := 5) (daX10_bars_0 3 rfl) (Nat.le_of_ble_eq_true rfl) rfl ?_
  refine GM_aload (pc := 7) 0 rfl (daX10_bars_0 4 rfl) ?_
  refine GM_ifnull (pc := 9) 40 (daX10_bars_0 5 rfl) rfl (fun c16 => ?_) (fun c16 => ?_)
  · skip
    rw [if_pos c16] at h
    refine GM_iconst (pc := 40) (-1) (daX10_bars_0 20 rfl) rfl (R32_b rfl) ?_
    cases h
    exact GM_iret (pc := 41) (daX10_bars_0 21 rfl) rfl hK
  · skip
    rw [if_neg c16] at h
    refine GM_aload_n (pc := 12) 1 rfl (daX10_bars_0 6 rfl) rfl ?_
    refine GM_iload_n (pc := 13) 2 rfl (daX10_bars_0 7 rfl) rfl ?_
    refine GM_iload_n (pc := 14) 3 rfl (daX10_bars_0 8 rfl) rfl ?_
    refine GM_iconst (pc := 15) (-1) (daX10_bars_0 9 rfl) rfl (R32_b rfl) ?_
    obtain ⟨⟨r17, μ17⟩, hf17, h⟩ := Option.bind_eq_some_iff.mp h
    dsimp only at h
    refine GM_callV0 (pc := 16) [(0, v1), (0, v2), (0, (-1))] (tX10_takesUp l hf17) cwX10_takesUp 10 (Nat.le_of_ble_eq_true rfl) rfl kv_X10_takesUp ke_X10_takesUp km_X10_298 hc13 ⟨Nat.le_of_ble_eq_true rfl, Nat.le_of_ble_eq_true rfl⟩ (Nat.le_of_ble_eq_true rfl) (Nat.le_of_ble_eq_true rfl) (daX10_bars_0 10 rfl) ?_
    refine GM_if_eq (pc := 19) 40 (daX10_bars_0 11 rfl) rfl (fun c18 => ?_) (fun c18 => ?_)
    · skip
      rw [if_pos c18] at h
      refine GM_iconst (pc := 40) (-1) (daX10_bars_0 20 rfl) rfl (R32_b rfl) ?_
      cases h
      exact GM_iret (pc := 41) (daX10_bars_0 21 rfl) rfl hK
    · skip
      rw [if_neg c18] at h
      refine GM_iload_n (pc := 22) 4 rfl (daX10_bars_0 12 rfl) rfl ?_
      refine GM_if_lt (pc := 23) 40 (daX10_bars_0 13 rfl) rfl (fun c19 => ?_) (fun c19 => ?_)
      · skip
        rw [if_pos c19] at h
        refine GM_iconst (pc := 40) (-1) (daX10_bars_0 20 rfl) rfl (R32_b rfl) ?_
        cases h
        exact GM_iret (pc := 41) (daX10_bars_0 21 rfl) rfl hK
      · skip
        rw [if_neg c19] at h
        refine GM_iload_n (pc := 26) 4 rfl (daX10_bars_0 14 rfl) rfl ?_
        refine GM_aload_n (pc := 27) 1 rfl (daX10_bars_0 15 rfl) rfl ?_
        refine GM_getf (pc := 28) 10 6 3 6 kf_X10_50 (Nat.le_of_ble_eq_true rfl) (Nat.le_of_ble_eq_true rfl) rfl (daX10_bars_0 16 rfl) hc13 rfl ?_
        obtain ⟨hc20, h⟩ := chk_inv h
        refine GM_getf (pc := 31) 1 1 3 1 kf_X10_330 (Nat.le_of_ble_eq_true rfl) (Nat.le_of_ble_eq_true rfl) rfl (daX10_bars_0 17 rfl) hc20 rfl ?_
        obtain ⟨hc21, h⟩ := chk_inv h
        refine GM_getf (pc := 34) 6 0 0 0 kf_X10_186 (Nat.le_of_ble_eq_true rfl) (Nat.le_of_ble_eq_true rfl) rfl (daX10_bars_0 18 rfl) hc21 rfl ?_
        refine GM_icmp_lt (pc := 37) 42 (daX10_bars_0 19 rfl) rfl (fun c22 => ?_) (fun c22 => ?_)
        · skip
          rw [if_pos c22] at h
          refine GM_iconst (pc := 42) 0 (daX10_bars_0 22 rfl) rfl (R32_b rfl) ?_
          refine GM_istore (L' := [(5, (0, 0)), (4, (3, r14)), (0, (3, v0)), (1, (0, v1)), (2, (0, v2)), (3, (0, v3))]) (pc := 43) (daX10_bars_0 23 rfl) (Nat.le_of_ble_eq_true rfl) rfl ?_
          refine GM_iconst (pc := 45) 0 (daX10_bars_0 24 rfl) rfl (R32_b rfl) ?_
          refine GM_istore (L' := [(6, (0, 0)), (5, (0, 0)), (4, (3, r14)), (0, (3, v0)), (1, (0, v1)), (2, (0, v2)), (3, (0, v3))]) (pc := 46) (daX10_bars_0 25 rfl) (Nat.le_of_ble_eq_true rfl) rfl ?_
          refine GM_pick [3, 6, 2, 1, 0] rfl ?_
          obtain ⟨x23, hqx23, h⟩ := Option.bind_eq_some_iff.mp h
          obtain ⟨x23, ccx23, nnx23⟩ := x23
          dsimp only at h
          obtain ⟨c25, n25, hp, e1, e2⟩ := pay_inv h
          subst e1 e2
          replace h := hp
          clear hp
          rw [Nat.add_assoc, Nat.add_assoc]
          refine lopA_ind (fun k n => zX10_bars_48 l F v0 v3 r14 k n) (qX10_bars_48 l F v0 v3 r14) FU _ x23 _ _ hqx23 _ _ ?_
          obtain ⟨v5_24, μ_24⟩ := x23
          dsimp only at h
          show GM l mX10_bars F (c25 + k) (n25 + n) 95 [(5, (0, v5_24))] [] μ_24
          refine GM_iload (pc := 95) 0 rfl (daX10_bars_0 45 rfl) ?_
          cases h
          exact GM_iret (pc := 97) (daX10_bars_0 46 rfl) rfl hK
        · skip
          rw [if_neg c22] at h
          refine GM_iconst (pc := 40) (-1) (daX10_bars_0 20 rfl) rfl (R32_b rfl) ?_
          cases h
          exact GM_iret (pc := 41) (daX10_bars_0 21 rfl) rfl hK
theorem tX10_bars (l : Launch) {v0 v1 v2 v3 : Int} {μ : Mm} {t : (Int × Mm)} {c0 n0 : Nat} (h : fX10_bars v0 v1 v2 v3 μ = some (t, c0, n0)) : Ct l yX10_bars mX10_bars [(3, v0), (0, v1), (0, v2), (0, v3)] μ ([(0, t.1)], t.2, c0, n0) :=
  Ct_of (by decide +kernel) rfl rfl (Nat.le_of_ble_eq_true rfl) (fun _ _ _ => trivial) (gX10_bars_0 (k := 0) (n := 0) l h ⟨rfl, rfl⟩)
def mX10_doubt : MI := (RX10, cX10_doubt, 6, (some .int), "doubt", 5, 123, fun _ _ _ => True)
theorem cwX10_doubt : CWd yX10_doubt mX10_doubt 2 := ⟨ki_X10, kk_X10_doubt, ⟨by decide, by decide⟩, rfl⟩
def dtX10_doubt_0 : List (Nat × Instr × Nat) := [(0, .aload_n 0, 1), (1, .iload_n 1, 1), (2, .invokevirtual 220, 3), (5, .astore_n 3, 1), (6, .aload_n 3, 1), (7, .ifnull 28, 3), (10, .aload_n 0, 1), (11, .iload_n 1, 1), (12, .iload_n 2, 1), (13, .iconst (-1), 1), (14, .invokevirtual 298, 3), (17, .ifCond .eq 18, 3), (20, .aload_n 0, 1), (21, .getfield 50, 3), (24, .getfield 330, 3), (27, .getfield 186, 3), (30, .bipush 8, 2), (32, .if_icmp .le 5, 3), (35, .iconst (-1), 1), (36, .ireturn, 1), (37, .iconst (-1), 1), (38, .istore 4, 2), (40, .iconst 0, 1), (41, .istore 5, 2), (43, .iload 5, 2), (45, .aload_n 3, 1), (46, .getfield 224, 3), (49, .invokevirtual 266, 3), (52, .if_icmp .ge 38, 3), (55, .iload 4, 2), (57, .ifCond .eq 33, 3), (60, .aload_n 0, 1), (61, .getfield 50, 3), (64, .aload_n 3, 1), (65, .iload 5, 2), (67, .invokevirtual 225, 3), (70, .putfield 302, 3), (73, .aload_n 0, 1), (74, .getfield 50, 3), (77, .iload 4, 2), (79, .invokevirtual 338, 3), (82, .istore 4, 2), (84, .iinc 5 1, 3), (87, .goto (-44), 3), (90, .iload 4, 2), (92, .ireturn, 1)]
theorem ddX10_doubt_0 : (dtX10_doubt_0.all fun e => decide (decode mX10_doubt.2.1 e.1 = .ok (e.2.1, e.2.2))) = true := by decide +kernel
theorem daX10_doubt_0 (j : Nat) {pc n : Nat} {i : Instr} (h : dtX10_doubt_0[j]? = some (pc, i, n)) : decode mX10_doubt.2.1 pc = .ok (i, n) := dec_of (c := mX10_doubt.2.1) ddX10_doubt_0 h
def zX10_doubt_43 (l : Launch) (F : FI) (v0 v3 : Int) (k n : Nat) : (Int × Int × Mm) ⊕ (Int × Mm) → Prop
  | .inl (v4, v5, μ) => GM l mX10_doubt F k n 43 [(0, (3, v0)), (3, (3, v3)), (4, (0, v4)), (5, (0, v5))] [] μ
  | .inr (v4, μ) => GM l mX10_doubt F k n 90 [(4, (0, v4))] [] μ
def sX10_doubt_43 (v0 v3 : Int) : (Int × Int × Mm) → Option (((Int × Int × Mm) ⊕ (Int × Mm)) × Nat × Nat) := fun (v4, v5, μ) =>
  chk (KD v3 = 4) (
  chk (KD (μ v3 0) = 2) (
  (fX2_places (μ v3 0) μ).bind fun r3 =>
  if r3 ≤ v5 then
    some (.inr (v4, μ), 0, 0)
  else
    if v4 = 0 then
      some (.inr (v4, μ), 0, 0)
    else
      chk (KD v0 = 10) (
      (fX4_lineOf v3 v5 μ).bind fun ((r7, μ7), c7, n7) =>
      pay c7 n7 (
      chk (KD (μ v0 6) = 1) (
      lm (mst μ7 (μ v0 6) 2 r7) fun μ10 =>
      chk (KD (μ10 v0 6) = 1) (
      (fX1_doubted (μ10 v0 6) v4 μ10).bind fun (r12, μ12) =>
      some (.inl (r12, w32 (v5 + 1), μ12), 0, 0)))))))
def fX10_doubt (v0 v1 v2 : Int) (μ : Mm) : Option ((Int × Mm) × Nat × Nat) :=
  chk (KD v0 = 10) (
  (fX10_sceneAt v0 v1 μ).bind fun ((r14, μ14), c14, n14) =>
  pay c14 n14 (
  if r14 = 0 then
    some (((-1), μ14), 0, 0)
  else
    (fX10_takesUp v0 v1 v2 (-1) μ14).bind fun (r17, μ17) =>
    if r17 = 0 then
      some (((-1), μ17), 0, 0)
    else
      chk (KD (μ17 v0 6) = 1) (
      chk (KD (μ17 (μ17 v0 6) 1) = 6) (
      if μ17 (μ17 (μ17 v0 6) 1) 0 ≤ 8 then
        (lopA (sX10_doubt_43 v0 r14) FU ((-1), 0, μ17)).bind fun (x22, ccx22, nnx22) =>
          pay ccx22 nnx22 (
          match x22 with
          | (v4_23, μ_23) =>
            some ((v4_23, μ_23), 0, 0))
      else
        some (((-1), μ17), 0, 0)))))
set_option maxRecDepth 20000 in
theorem qX10_doubt_43 (l : Launch) (F : FI) (v0 v3 : Int) : ∀ (q : (Int × Int × Mm)) (t : ((Int × Int × Mm) ⊕ (Int × Mm))) (c0 n0 : Nat), sX10_doubt_43 v0 v3 q = some (t, c0, n0) → ∀ k n, zX10_doubt_43 l F v0 v3 k n t → zX10_doubt_43 l F v0 v3 (c0 + k) (n0 + n) (.inl q) := by
  intro q t c0 n0 h k n hK
  obtain ⟨v4, v5, μ⟩ := q
  unfold sX10_doubt_43 at h
  try dsimp only at h
  show GM l mX10_doubt F (c0 + k) (n0 + n) 43 [(0, (3, v0)), (3, (3, v3)), (4, (0, v4)), (5, (0, v5))] [] μ
  refine GM_iload (pc := 43) 3 rfl (daX10_doubt_0 24 rfl) ?_
  refine GM_aload_n (pc := 45) 1 rfl (daX10_doubt_0 25 rfl) rfl ?_
  obtain ⟨hc1, h⟩ := chk_inv h
  refine GM_getf (pc := 46) 4 0 3 0 kf_X10_224 (Nat.le_of_ble_eq_true rfl) (Nat.le_of_ble_eq_true rfl) rfl (daX10_doubt_0 26 rfl) hc1 rfl ?_
  obtain ⟨hc2, h⟩ := chk_inv h
  obtain ⟨r3, hf3, h⟩ := Option.bind_eq_some_iff.mp h
  refine GM_callV0 (pc := 49) [] (tX2_places l hf3) cwX2_places 2 (Nat.le_of_ble_eq_true rfl) rfl kv_X2_places ke_X2_places km_X10_266 hc2 ⟨Nat.le_of_ble_eq_true rfl, Nat.le_of_ble_eq_true rfl⟩ (Nat.le_of_ble_eq_true rfl) (Nat.le_of_ble_eq_true rfl) (daX10_doubt_0 27 rfl) ?_
  refine GM_icmp_ge (pc := 52) 90 (daX10_doubt_0 28 rfl) rfl (fun c4 => ?_) (fun c4 => ?_)
  · skip
    rw [if_pos c4] at h
    refine GM_pick [2] rfl ?_
    cases h
    rw [Nat.zero_add, Nat.zero_add]
    exact hK
  · skip
    rw [if_neg c4] at h
    refine GM_iload (pc := 55) 2 rfl (daX10_doubt_0 29 rfl) ?_
    refine GM_if_eq (pc := 57) 90 (daX10_doubt_0 30 rfl) rfl (fun c5 => ?_) (fun c5 => ?_)
    · skip
      rw [if_pos c5] at h
      refine GM_pick [2] rfl ?_
      cases h
      rw [Nat.zero_add, Nat.zero_add]
      exact hK
    · skip
      rw [if_neg c5] at h
      refine GM_aload_n (pc := 60) 0 rfl (daX10_doubt_0 31 rfl) rfl ?_
      obtain ⟨hc6, h⟩ := chk_inv h
      refine GM_getf (pc := 61) 10 6 3 6 kf_X10_50 (Nat.le_of_ble_eq_true rfl) (Nat.le_of_ble_eq_true rfl) rfl (daX10_doubt_0 32 rfl) hc6 rfl ?_
      refine GM_aload_n (pc := 64) 1 rfl (daX10_doubt_0 33 rfl) rfl ?_
      refine GM_iload (pc := 65) 3 rfl (daX10_doubt_0 34 rfl) ?_
      obtain ⟨⟨⟨r7, μ7⟩, c7, n7⟩, hf7, h⟩ := Option.bind_eq_some_iff.mp h
      dsimp only at h
      obtain ⟨c8, n8, hp, e1, e2⟩ := pay_inv h
      subst e1 e2
      replace h := hp
      clear hp
      rw [Nat.add_assoc, Nat.add_assoc]
      refine GM_callV (pc := 67) [(0, v5)] (tX4_lineOf l hf7) cwX4_lineOf 4 (Nat.le_of_ble_eq_true rfl) rfl kv_X4_lineOf ke_X4_lineOf km_X10_225 hc1 ⟨Nat.le_of_ble_eq_true rfl, Nat.le_of_ble_eq_true rfl⟩ (Nat.le_of_ble_eq_true rfl) (Nat.le_of_ble_eq_true rfl) (daX10_doubt_0 35 rfl) ?_
      obtain ⟨hc9, h⟩ := chk_inv h
      obtain ⟨μ10, hμ10, h⟩ := lm_inv h
      refine GM_putf (pc := 70) 1 2 3 kf_X10_302 (Nat.le_of_ble_eq_true rfl) (Nat.le_of_ble_eq_true rfl) rfl rfl (daX10_doubt_0 36 rfl) hc9 (fun q => absurd q (by decide)) ?_
      refine GM_mem hμ10 ?_
      refine GM_aload_n (pc := 73) 0 rfl (daX10_doubt_0 37 rfl) rfl ?_
      refine GM_getf (pc := 74) 10 6 3 6 kf_X10_50 (Nat.le_of_ble_eq_true rfl) (Nat.le_of_ble_eq_true rfl) rfl (daX10_doubt_0 38 rfl) hc6 rfl ?_
      refine GM_iload (pc := 77) 2 rfl (daX10_doubt_0 39 rfl) ?_
      obtain ⟨hc11, h⟩ := chk_inv h
      obtain ⟨⟨r12, μ12⟩, hf12, h⟩ := Option.bind_eq_some_iff.mp h
      dsimp only at h
      refine GM_callV0 (pc := 79) [(0, v4)] (tX1_doubted l hf12) cwX1_doubted 1 (Nat.le_of_ble_eq_true rfl) rfl kv_X1_doubted ke_X1_doubted km_X10_338 hc11 ⟨Nat.le_of_ble_eq_true rfl, Nat.le_of_ble_eq_true rfl⟩ (Nat.le_of_ble_eq_true rfl) (Nat.le_of_ble_eq_true rfl) (daX10_doubt_0 40 rfl) ?_
      refine GM_istore (L' := [(4, (0, r12)), (0, (3, v0)), (3, (3, v3)), (5, (0, v5))]) (pc := 82) (daX10_doubt_0 41 rfl) (Nat.le_of_ble_eq_true rfl) rfl ?_
      refine GM_iinc (L' := [(5, (0, w32 (v5 + 1))), (4, (0, r12)), (0, (3, v0)), (3, (3, v3))]) (pc := 84) 3 rfl (daX10_doubt_0 42 rfl) (Nat.le_of_ble_eq_true rfl) rfl ?_
      refine GM_goto (pc := 87) 43 (daX10_doubt_0 43 rfl) rfl ?_
      refine GM_pick [2, 3, 1, 0] rfl ?_
      cases h
      rw [Nat.zero_add, Nat.zero_add]
      exact hK
set_option maxRecDepth 20000 in
theorem gX10_doubt_0 (l : Launch) {F : FI} {v0 v1 v2 : Int} {μ : Mm} {t : (Int × Mm)} {c0 n0 k n : Nat} (h : fX10_doubt v0 v1 v2 μ = some (t, c0, n0)) (hK : F.1 = [(0, t.1)] ∧ F.2.1 = t.2) : GM l mX10_doubt F (c0 + k) (n0 + n) 0 [(0, (3, v0)), (1, (0, v1)), (2, (0, v2))] [] μ := by
  unfold fX10_doubt at h
  refine GM_aload_n (pc := 0) 0 rfl (daX10_doubt_0 0 rfl) rfl ?_
  refine GM_iload_n (pc := 1) 1 rfl (daX10_doubt_0 1 rfl) rfl ?_
  obtain ⟨hc13, h⟩ := chk_inv h
  obtain ⟨⟨⟨r14, μ14⟩, c14, n14⟩, hf14, h⟩ := Option.bind_eq_some_iff.mp h
  dsimp only at h
  obtain ⟨c15, n15, hp, e1, e2⟩ := pay_inv h
  subst e1 e2
  replace h := hp
  clear hp
  rw [Nat.add_assoc, Nat.add_assoc]
  refine GM_callV (pc := 2) [(0, v1)] (tX10_sceneAt l hf14) cwX10_sceneAt 10 (Nat.le_of_ble_eq_true rfl) rfl kv_X10_sceneAt ke_X10_sceneAt km_X10_220 hc13 ⟨Nat.le_of_ble_eq_true rfl, Nat.le_of_ble_eq_true rfl⟩ (Nat.le_of_ble_eq_true rfl) (Nat.le_of_ble_eq_true rfl) (daX10_doubt_0 2 rfl) ?_
  refine GM_astore_n (L' := [(3, (3, r14)), (0, (3, v0)), (1, (0, v1)), (2, (0, v2))]) (pc := 5) (daX10_doubt_0 3 rfl) rfl (Nat.le_of_ble_eq_true rfl) rfl ?_
  refine GM_aload_n (pc := 6) 0 rfl (daX10_doubt_0 4 rfl) rfl ?_
  refine GM_ifnull (pc := 7) 35 (daX10_doubt_0 5 rfl) rfl (fun c16 => ?_) (fun c16 => ?_)
  · skip
    rw [if_pos c16] at h
    refine GM_iconst (pc := 35) (-1) (daX10_doubt_0 18 rfl) rfl (R32_b rfl) ?_
    cases h
    exact GM_iret (pc := 36) (daX10_doubt_0 19 rfl) rfl hK
  · skip
    rw [if_neg c16] at h
    refine GM_aload_n (pc := 10) 1 rfl (daX10_doubt_0 6 rfl) rfl ?_
    refine GM_iload_n (pc := 11) 2 rfl (daX10_doubt_0 7 rfl) rfl ?_
    refine GM_iload_n (pc := 12) 3 rfl (daX10_doubt_0 8 rfl) rfl ?_
    refine GM_iconst (pc := 13) (-1) (daX10_doubt_0 9 rfl) rfl (R32_b rfl) ?_
    obtain ⟨⟨r17, μ17⟩, hf17, h⟩ := Option.bind_eq_some_iff.mp h
    dsimp only at h
    refine GM_callV0 (pc := 14) [(0, v1), (0, v2), (0, (-1))] (tX10_takesUp l hf17) cwX10_takesUp 10 (Nat.le_of_ble_eq_true rfl) rfl kv_X10_takesUp ke_X10_takesUp km_X10_298 hc13 ⟨Nat.le_of_ble_eq_true rfl, Nat.le_of_ble_eq_true rfl⟩ (Nat.le_of_ble_eq_true rfl) (Nat.le_of_ble_eq_true rfl) (daX10_doubt_0 10 rfl) ?_
    refine GM_if_eq (pc := 17) 35 (daX10_doubt_0 11 rfl) rfl (fun c18 => ?_) (fun c18 => ?_)
    · skip
      rw [if_pos c18] at h
      refine GM_iconst (pc := 35) (-1) (daX10_doubt_0 18 rfl) rfl (R32_b rfl) ?_
      cases h
      exact GM_iret (pc := 36) (daX10_doubt_0 19 rfl) rfl hK
    · skip
      rw [if_neg c18] at h
      refine GM_aload_n (pc := 20) 1 rfl (daX10_doubt_0 12 rfl) rfl ?_
      refine GM_getf (pc := 21) 10 6 3 6 kf_X10_50 (Nat.le_of_ble_eq_true rfl) (Nat.le_of_ble_eq_true rfl) rfl (daX10_doubt_0 13 rfl) hc13 rfl ?_
      obtain ⟨hc19, h⟩ := chk_inv h
      refine GM_getf (pc := 24) 1 1 3 1 kf_X10_330 (Nat.le_of_ble_eq_true rfl) (Nat.le_of_ble_eq_true rfl) rfl (daX10_doubt_0 14 rfl) hc19 rfl ?_
      obtain ⟨hc20, h⟩ := chk_inv h
      refine GM_getf (pc := 27) 6 0 0 0 kf_X10_186 (Nat.le_of_ble_eq_true rfl) (Nat.le_of_ble_eq_true rfl) rfl (daX10_doubt_0 15 rfl) hc20 rfl ?_
      refine GM_bipush (pc := 30) 8 (daX10_doubt_0 16 rfl) rfl (R32_b rfl) ?_
      refine GM_icmp_le (pc := 32) 37 (daX10_doubt_0 17 rfl) rfl (fun c21 => ?_) (fun c21 => ?_)
      · skip
        rw [if_pos c21] at h
        refine GM_iconst (pc := 37) (-1) (daX10_doubt_0 20 rfl) rfl (R32_b rfl) ?_
        refine GM_istore (L' := [(4, (0, (-1))), (3, (3, r14)), (0, (3, v0)), (1, (0, v1)), (2, (0, v2))]) (pc := 38) (daX10_doubt_0 21 rfl) (Nat.le_of_ble_eq_true rfl) rfl ?_
        refine GM_iconst (pc := 40) 0 (daX10_doubt_0 22 rfl) rfl (R32_b rfl) ?_
        refine GM_istore (L' := [(5, (0, 0)), (4, (0, (-1))), (3, (3, r14)), (0, (3, v0)), (1, (0, v1)), (2, (0, v2))]) (pc := 41) (daX10_doubt_0 23 rfl) (Nat.le_of_ble_eq_true rfl) rfl ?_
        refine GM_pick [3, 2, 1, 0] rfl ?_
        obtain ⟨x22, hqx22, h⟩ := Option.bind_eq_some_iff.mp h
        obtain ⟨x22, ccx22, nnx22⟩ := x22
        dsimp only at h
        obtain ⟨c24, n24, hp, e1, e2⟩ := pay_inv h
        subst e1 e2
        replace h := hp
        clear hp
        rw [Nat.add_assoc, Nat.add_assoc]
        refine lopA_ind (fun k n => zX10_doubt_43 l F v0 r14 k n) (qX10_doubt_43 l F v0 r14) FU _ x22 _ _ hqx22 _ _ ?_
        obtain ⟨v4_23, μ_23⟩ := x22
        dsimp only at h
        show GM l mX10_doubt F (c24 + k) (n24 + n) 90 [(4, (0, v4_23))] [] μ_23
        refine GM_iload (pc := 90) 0 rfl (daX10_doubt_0 44 rfl) ?_
        cases h
        exact GM_iret (pc := 92) (daX10_doubt_0 45 rfl) rfl hK
      · skip
        rw [if_neg c21] at h
        refine GM_iconst (pc := 35) (-1) (daX10_doubt_0 18 rfl) rfl (R32_b rfl) ?_
        cases h
        exact GM_iret (pc := 36) (daX10_doubt_0 19 rfl) rfl hK
theorem tX10_doubt (l : Launch) {v0 v1 v2 : Int} {μ : Mm} {t : (Int × Mm)} {c0 n0 : Nat} (h : fX10_doubt v0 v1 v2 μ = some (t, c0, n0)) : Ct l yX10_doubt mX10_doubt [(3, v0), (0, v1), (0, v2)] μ ([(0, t.1)], t.2, c0, n0) :=
  Ct_of (by decide +kernel) rfl rfl (Nat.le_of_ble_eq_true rfl) (fun _ _ _ => trivial) (gX10_doubt_0 (k := 0) (n := 0) l h ⟨rfl, rfl⟩)
def mX10_countFitting : MI := (RX10, cX10_countFitting, 6, (some .int), "countFitting", 6, 141, fun _ _ _ => True)
theorem cwX10_countFitting : CWd yX10_countFitting mX10_countFitting 3 := ⟨ki_X10, kk_X10_countFitting, ⟨by decide, by decide⟩, rfl⟩
def dtX10_countFitting_0 : List (Nat × Instr × Nat) := [(0, .iconst 0, 1), (1, .istore 4, 2), (3, .iconst 0, 1), (4, .istore 5, 2), (6, .iload 5, 2), (8, .aload_n 1, 1), (9, .getfield 224, 3), (12, .invokevirtual 266, 3), (15, .if_icmp .ge 48, 3), (18, .iload 4, 2), (20, .iload_n 3, 1), (21, .if_icmp .ge 42, 3), (24, .aload_n 0, 1), (25, .getfield 50, 3), (28, .aload_n 1, 1), (29, .iload 5, 2), (31, .invokevirtual 225, 3), (34, .putfield 302, 3), (37, .iload 5, 2), (39, .iload_n 2, 1), (40, .if_icmp .eq 17, 3), (43, .aload_n 0, 1), (44, .getfield 50, 3), (47, .invokevirtual 312, 3), (50, .iconst (-1), 1), (51, .if_icmp .eq 6, 3), (54, .iinc 4 1, 3), (57, .iinc 5 1, 3), (60, .goto (-54), 3), (63, .iload 4, 2), (65, .ireturn, 1)]
theorem ddX10_countFitting_0 : (dtX10_countFitting_0.all fun e => decide (decode mX10_countFitting.2.1 e.1 = .ok (e.2.1, e.2.2))) = true := by decide +kernel
theorem daX10_countFitting_0 (j : Nat) {pc n : Nat} {i : Instr} (h : dtX10_countFitting_0[j]? = some (pc, i, n)) : decode mX10_countFitting.2.1 pc = .ok (i, n) := dec_of (c := mX10_countFitting.2.1) ddX10_countFitting_0 h
def zX10_countFitting_6 (l : Launch) (F : FI) (v0 v1 v2 v3 : Int) (k n : Nat) : (Int × Int × Mm) ⊕ (Int × Mm) → Prop
  | .inl (v4, v5, μ) => GM l mX10_countFitting F k n 6 [(0, (3, v0)), (1, (3, v1)), (2, (0, v2)), (3, (0, v3)), (4, (0, v4)), (5, (0, v5))] [] μ
  | .inr (v4, μ) => GM l mX10_countFitting F k n 63 [(4, (0, v4))] [] μ
def sX10_countFitting_6 (v0 v1 v2 v3 : Int) : (Int × Int × Mm) → Option (((Int × Int × Mm) ⊕ (Int × Mm)) × Nat × Nat) := fun (v4, v5, μ) =>
  chk (KD v1 = 4) (
  chk (KD (μ v1 0) = 2) (
  (fX2_places (μ v1 0) μ).bind fun r3 =>
  if r3 ≤ v5 then
    some (.inr (v4, μ), 0, 0)
  else
    if v3 ≤ v4 then
      some (.inr (v4, μ), 0, 0)
    else
      chk (KD v0 = 10) (
      (fX4_lineOf v1 v5 μ).bind fun ((r7, μ7), c7, n7) =>
      pay c7 n7 (
      chk (KD (μ v0 6) = 1) (
      lm (mst μ7 (μ v0 6) 2 r7) fun μ10 =>
      if v5 = v2 then
        some (.inl (v4, w32 (v5 + 1), μ10), 0, 0)
      else
        chk (KD (μ10 v0 6) = 1) (
        (fX1_leastStart (μ10 v0 6) μ10).bind fun (r13, μ13) =>
        if r13 = (-1) then
          some (.inl (v4, w32 (v5 + 1), μ13), 0, 0)
        else
          some (.inl (w32 (v4 + 1), w32 (v5 + 1), μ13), 0, 0)))))))
def fX10_countFitting (v0 v1 v2 v3 : Int) (μ : Mm) : Option ((Int × Mm) × Nat × Nat) :=
  (lopA (sX10_countFitting_6 v0 v1 v2 v3) FU (0, 0, μ)).bind fun (x15, ccx15, nnx15) =>
    pay ccx15 nnx15 (
    match x15 with
    | (v4_16, μ_16) =>
      some ((v4_16, μ_16), 0, 0))
set_option maxRecDepth 20000 in
theorem qX10_countFitting_6 (l : Launch) (F : FI) (v0 v1 v2 v3 : Int) : ∀ (q : (Int × Int × Mm)) (t : ((Int × Int × Mm) ⊕ (Int × Mm))) (c0 n0 : Nat), sX10_countFitting_6 v0 v1 v2 v3 q = some (t, c0, n0) → ∀ k n, zX10_countFitting_6 l F v0 v1 v2 v3 k n t → zX10_countFitting_6 l F v0 v1 v2 v3 (c0 + k) (n0 + n) (.inl q) := by
  intro q t c0 n0 h k n hK
  obtain ⟨v4, v5, μ⟩ := q
  unfold sX10_countFitting_6 at h
  try dsimp only at h
  show GM l mX10_countFitting F (c0 + k) (n0 + n) 6 [(0, (3, v0)), (1, (3, v1)), (2, (0, v2)), (3, (0, v3)), (4, (0, v4)), (5, (0, v5))] [] μ
  refine GM_iload (pc := 6) 5 rfl (daX10_countFitting_0 4 rfl) ?_
  refine GM_aload_n (pc := 8) 1 rfl (daX10_countFitting_0 5 rfl) rfl ?_
  obtain ⟨hc1, h⟩ := chk_inv h
  refine GM_getf (pc := 9) 4 0 3 0 kf_X10_224 (Nat.le_of_ble_eq_true rfl) (Nat.le_of_ble_eq_true rfl) rfl (daX10_countFitting_0 6 rfl) hc1 rfl ?_
  obtain ⟨hc2, h⟩ := chk_inv h
  obtain ⟨r3, hf3, h⟩ := Option.bind_eq_some_iff.mp h
  refine GM_callV0 (pc := 12) [] (tX2_places l hf3) cwX2_places 2 (Nat.le_of_ble_eq_true rfl) rfl kv_X2_places ke_X2_places km_X10_266 hc2 ⟨Nat.le_of_ble_eq_true rfl, Nat.le_of_ble_eq_true rfl⟩ (Nat.le_of_ble_eq_true rfl) (Nat.le_of_ble_eq_true rfl) (daX10_countFitting_0 7 rfl) ?_
  refine GM_icmp_ge (pc := 15) 63 (daX10_countFitting_0 8 rfl) rfl (fun c4 => ?_) (fun c4 => ?_)
  · skip
    rw [if_pos c4] at h
    refine GM_pick [4] rfl ?_
    cases h
    rw [Nat.zero_add, Nat.zero_add]
    exact hK
  · skip
    rw [if_neg c4] at h
    refine GM_iload (pc := 18) 4 rfl (daX10_countFitting_0 9 rfl) ?_
    refine GM_iload_n (pc := 20) 3 rfl (daX10_countFitting_0 10 rfl) rfl ?_
    refine GM_icmp_ge (pc := 21) 63 (daX10_countFitting_0 11 rfl) rfl (fun c5 => ?_) (fun c5 => ?_)
    · skip
      rw [if_pos c5] at h
      refine GM_pick [4] rfl ?_
      cases h
      rw [Nat.zero_add, Nat.zero_add]
      exact hK
    · skip
      rw [if_neg c5] at h
      refine GM_aload_n (pc := 24) 0 rfl (daX10_countFitting_0 12 rfl) rfl ?_
      obtain ⟨hc6, h⟩ := chk_inv h
      refine GM_getf (pc := 25) 10 6 3 6 kf_X10_50 (Nat.le_of_ble_eq_true rfl) (Nat.le_of_ble_eq_true rfl) rfl (daX10_countFitting_0 13 rfl) hc6 rfl ?_
      refine GM_aload_n (pc := 28) 1 rfl (daX10_countFitting_0 14 rfl) rfl ?_
      refine GM_iload (pc := 29) 5 rfl (daX10_countFitting_0 15 rfl) ?_
      obtain ⟨⟨⟨r7, μ7⟩, c7, n7⟩, hf7, h⟩ := Option.bind_eq_some_iff.mp h
      dsimp only at h
      obtain ⟨c8, n8, hp, e1, e2⟩ := pay_inv h
      subst e1 e2
      replace h := hp
      clear hp
      rw [Nat.add_assoc, Nat.add_assoc]
      refine GM_callV (pc := 31) [(0, v5)] (tX4_lineOf l hf7) cwX4_lineOf 4 (Nat.le_of_ble_eq_true rfl) rfl kv_X4_lineOf ke_X4_lineOf km_X10_225 hc1 ⟨Nat.le_of_ble_eq_true rfl, Nat.le_of_ble_eq_true rfl⟩ (Nat.le_of_ble_eq_true rfl) (Nat.le_of_ble_eq_true rfl) (daX10_countFitting_0 16 rfl) ?_
      obtain ⟨hc9, h⟩ := chk_inv h
      obtain ⟨μ10, hμ10, h⟩ := lm_inv h
      refine GM_putf (pc := 34) 1 2 3 kf_X10_302 (Nat.le_of_ble_eq_true rfl) (Nat.le_of_ble_eq_true rfl) rfl rfl (daX10_countFitting_0 17 rfl) hc9 (fun q => absurd q (by decide)) ?_
      refine GM_mem hμ10 ?_
      refine GM_iload (pc := 37) 5 rfl (daX10_countFitting_0 18 rfl) ?_
      refine GM_iload_n (pc := 39) 2 rfl (daX10_countFitting_0 19 rfl) rfl ?_
      refine GM_icmp_eq (pc := 40) 57 (daX10_countFitting_0 20 rfl) rfl (fun c11 => ?_) (fun c11 => ?_)
      · skip
        rw [if_pos c11] at h
        refine GM_iinc (L' := [(5, (0, w32 (v5 + 1))), (0, (3, v0)), (1, (3, v1)), (2, (0, v2)), (3, (0, v3)), (4, (0, v4))]) (pc := 57) 5 rfl (daX10_countFitting_0 27 rfl) (Nat.le_of_ble_eq_true rfl) rfl ?_
        refine GM_goto (pc := 60) 6 (daX10_countFitting_0 28 rfl) rfl ?_
        refine GM_pick [1, 2, 3, 4, 5, 0] rfl ?_
        cases h
        rw [Nat.zero_add, Nat.zero_add]
        exact hK
      · skip
        rw [if_neg c11] at h
        refine GM_aload_n (pc := 43) 0 rfl (daX10_countFitting_0 21 rfl) rfl ?_
        refine GM_getf (pc := 44) 10 6 3 6 kf_X10_50 (Nat.le_of_ble_eq_true rfl) (Nat.le_of_ble_eq_true rfl) rfl (daX10_countFitting_0 22 rfl) hc6 rfl ?_
        obtain ⟨hc12, h⟩ := chk_inv h
        obtain ⟨⟨r13, μ13⟩, hf13, h⟩ := Option.bind_eq_some_iff.mp h
        dsimp only at h
        refine GM_callV0 (pc := 47) [] (tX1_leastStart l hf13) cwX1_leastStart 1 (Nat.le_of_ble_eq_true rfl) rfl kv_X1_leastStart ke_X1_leastStart km_X10_312 hc12 ⟨Nat.le_of_ble_eq_true rfl, Nat.le_of_ble_eq_true rfl⟩ (Nat.le_of_ble_eq_true rfl) (Nat.le_of_ble_eq_true rfl) (daX10_countFitting_0 23 rfl) ?_
        refine GM_iconst (pc := 50) (-1) (daX10_countFitting_0 24 rfl) rfl (R32_b rfl) ?_
        refine GM_icmp_eq (pc := 51) 57 (daX10_countFitting_0 25 rfl) rfl (fun c14 => ?_) (fun c14 => ?_)
        · skip
          rw [if_pos c14] at h
          refine GM_iinc (L' := [(5, (0, w32 (v5 + 1))), (0, (3, v0)), (1, (3, v1)), (2, (0, v2)), (3, (0, v3)), (4, (0, v4))]) (pc := 57) 5 rfl (daX10_countFitting_0 27 rfl) (Nat.le_of_ble_eq_true rfl) rfl ?_
          refine GM_goto (pc := 60) 6 (daX10_countFitting_0 28 rfl) rfl ?_
          refine GM_pick [1, 2, 3, 4, 5, 0] rfl ?_
          cases h
          rw [Nat.zero_add, Nat.zero_add]
          exact hK
        · skip
          rw [if_neg c14] at h
          refine GM_iinc (L' := [(4, (0, w32 (v4 + 1))), (0, (3, v0)), (1, (3, v1)), (2, (0, v2)), (3, (0, v3)), (5, (0, v5))]) (pc := 54) 4 rfl (daX10_countFitting_0 26 rfl) (Nat.le_of_ble_eq_true rfl) rfl ?_
          refine GM_iinc (L' := [(5, (0, w32 (v5 + 1))), (4, (0, w32 (v4 + 1))), (0, (3, v0)), (1, (3, v1)), (2, (0, v2)), (3, (0, v3))]) (pc := 57) 5 rfl (daX10_countFitting_0 27 rfl) (Nat.le_of_ble_eq_true rfl) rfl ?_
          refine GM_goto (pc := 60) 6 (daX10_countFitting_0 28 rfl) rfl ?_
          refine GM_pick [2, 3, 4, 5, 1, 0] rfl ?_
          cases h
          rw [Nat.zero_add, Nat.zero_add]
          exact hK
set_option maxRecDepth 20000 in
theorem gX10_countFitting_0 (l : Launch) {F : FI} {v0 v1 v2 v3 : Int} {μ : Mm} {t : (Int × Mm)} {c0 n0 k n : Nat} (h : fX10_countFitting v0 v1 v2 v3 μ = some (t, c0, n0)) (hK : F.1 = [(0, t.1)] ∧ F.2.1 = t.2) : GM l mX10_countFitting F (c0 + k) (n0 + n) 0 [(0, (3, v0)), (1, (3, v1)), (2, (0, v2)), (3, (0, v3))] [] μ := by
  unfold fX10_countFitting at h
  refine GM_iconst (pc := 0) 0 (daX10_countFitting_0 0 rfl) rfl (R32_b rfl) ?_
  refine GM_istore (L' := [(4, (0, 0)), (0, (3, v0)), (1, (3, v1)), (2, (0, v2)), (3, (0, v3))]) (pc := 1) (daX10_countFitting_0 1 rfl) (Nat.le_of_ble_eq_true rfl) rfl ?_
  refine GM_iconst (pc := 3) 0 (daX10_countFitting_0 2 rfl) rfl (R32_b rfl) ?_
  refine GM_istore (L' := [(5, (0, 0)), (4, (0, 0)), (0, (3, v0)), (1, (3, v1)), (2, (0, v2)), (3, (0, v3))]) (pc := 4) (daX10_countFitting_0 3 rfl) (Nat.le_of_ble_eq_true rfl) rfl ?_
  refine GM_pick [2, 3, 4, 5, 1, 0] rfl ?_
  obtain ⟨x15, hqx15, h⟩ := Option.bind_eq_some_iff.mp h
  obtain ⟨x15, ccx15, nnx15⟩ := x15
  dsimp only at h
  obtain ⟨c17, n17, hp, e1, e2⟩ := pay_inv h
  subst e1 e2
  replace h := hp
  clear hp
  rw [Nat.add_assoc, Nat.add_assoc]
  refine lopA_ind (fun k n => zX10_countFitting_6 l F v0 v1 v2 v3 k n) (qX10_countFitting_6 l F v0 v1 v2 v3) FU _ x15 _ _ hqx15 _ _ ?_
  obtain ⟨v4_16, μ_16⟩ := x15
  dsimp only at h
  show GM l mX10_countFitting F (c17 + k) (n17 + n) 63 [(4, (0, v4_16))] [] μ_16
  refine GM_iload (pc := 63) 0 rfl (daX10_countFitting_0 29 rfl) ?_
  cases h
  exact GM_iret (pc := 65) (daX10_countFitting_0 30 rfl) rfl hK
theorem tX10_countFitting (l : Launch) {v0 v1 v2 v3 : Int} {μ : Mm} {t : (Int × Mm)} {c0 n0 : Nat} (h : fX10_countFitting v0 v1 v2 v3 μ = some (t, c0, n0)) : Ct l yX10_countFitting mX10_countFitting [(3, v0), (3, v1), (0, v2), (0, v3)] μ ([(0, t.1)], t.2, c0, n0) :=
  Ct_of (by decide +kernel) rfl rfl (Nat.le_of_ble_eq_true rfl) (fun _ _ _ => trivial) (gX10_countFitting_0 (k := 0) (n := 0) l h ⟨rfl, rfl⟩)
def mX10_since : MI := (RX10, cX10_since, 8, (some .int), "since", 7, 166, fun _ _ _ => True)
theorem cwX10_since : CWd yX10_since mX10_since 3 := ⟨ki_X10, kk_X10_since, ⟨by decide, by decide⟩, rfl⟩
def dtX10_since_0 : List (Nat × Instr × Nat) := [(0, .aload_n 0, 1), (1, .iload_n 1, 1), (2, .invokevirtual 220, 3), (5, .astore 4, 2), (7, .aload 4, 2), (9, .ifnull 13, 3), (12, .aload_n 0, 1), (13, .iload_n 1, 1), (14, .iload_n 2, 1), (15, .iconst (-1), 1), (16, .invokevirtual 298, 3), (19, .ifCond .ne 5, 3), (22, .iconst (-1), 1), (23, .ireturn, 1), (24, .aload_n 0, 1), (25, .getfield 50, 3), (28, .getfield 341, 3), (31, .istore 5, 2), (33, .iconst 0, 1), (34, .istore 6, 2), (36, .iload 6, 2), (38, .iload 5, 2), (40, .if_icmp .ge 73, 3), (43, .iload_n 3, 1), (44, .ifCond .eq 13, 3), (47, .iload 5, 2), (49, .iconst 1, 1), (50, .isub, 1), (51, .iload 6, 2), (53, .isub, 1), (54, .goto 5, 3), (57, .iload 6, 2), (59, .istore 7, 2), (61, .aload_n 0, 1), (62, .getfield 50, 3), (65, .iload 7, 2), (67, .invokevirtual 344, 3), (70, .aload_n 0, 1), (71, .aload 4, 2), (73, .iconst (-1), 1), (74, .iconst 1, 1), (75, .invokevirtual 347, 3), (78, .ifCond .le 29, 3), (81, .iload_n 3, 1), (82, .ifCond .eq 15, 3), (85, .aload_n 0, 1), (86, .getfield 50, 3), (89, .iload 7, 2), (91, .invokevirtual 351, 3), (94, .goto 12, 3), (97, .aload_n 0, 1), (98, .getfield 50, 3), (101, .iload 7, 2), (103, .invokevirtual 354, 3), (106, .ireturn, 1), (107, .iinc 6 1, 3), (110, .goto (-74), 3), (113, .iconst (-1), 1), (114, .ireturn, 1)]
theorem ddX10_since_0 : (dtX10_since_0.all fun e => decide (decode mX10_since.2.1 e.1 = .ok (e.2.1, e.2.2))) = true := by decide +kernel
theorem daX10_since_0 (j : Nat) {pc n : Nat} {i : Instr} (h : dtX10_since_0[j]? = some (pc, i, n)) : decode mX10_since.2.1 pc = .ok (i, n) := dec_of (c := mX10_since.2.1) ddX10_since_0 h
def jX10_since_59 (v0 v3 v4 v5 v6 s0 : Int) (μ : Mm) : Option (((Int × Mm) ⊕ (Mm ⊕ (Int × Mm))) × Nat × Nat) :=
  chk (KD v0 = 10) (
  chk (KD (μ v0 6) = 1) (
  (fX1_narrow (μ v0 6) s0 μ).bind fun μ3 =>
  (fX10_countFitting v0 v4 (-1) 1 μ3).bind fun ((r4, μ4), c4, n4) =>
  pay c4 n4 (
  if r4 ≤ 0 then
    some (.inl (w32 (v6 + 1), μ4), 0, 0)
  else
    some (.inr (.inr (s0, μ4)), 0, 0))))
def zX10_since_36 (l : Launch) (F : FI) (v0 v3 v4 v5 : Int) (k n : Nat) : (Int × Mm) ⊕ (Mm ⊕ (Int × Mm)) → Prop
  | .inl (v6, μ) => GM l mX10_since F k n 36 [(0, (3, v0)), (3, (0, v3)), (4, (3, v4)), (5, (0, v5)), (6, (0, v6))] [] μ
  | .inr (.inl μ) => GM l mX10_since F k n 113 [] [] μ
  | .inr (.inr (v7, μ)) => GM l mX10_since F k n 81 [(0, (3, v0)), (3, (0, v3)), (7, (0, v7))] [] μ
def sX10_since_36 (v0 v3 v4 v5 : Int) : (Int × Mm) → Option (((Int × Mm) ⊕ (Mm ⊕ (Int × Mm))) × Nat × Nat) := fun (v6, μ) =>
  if v5 ≤ v6 then
    some (.inr (.inl μ), 0, 0)
  else
    if v3 = 0 then
      jX10_since_59 v0 v3 v4 v5 v6 v6 μ
    else
      jX10_since_59 v0 v3 v4 v5 v6 (w32 ((w32 (v5 - 1)) - v6)) μ
def fX10_since (v0 v1 v2 v3 : Int) (μ : Mm) : Option ((Int × Mm) × Nat × Nat) :=
  chk (KD v0 = 10) (
  (fX10_sceneAt v0 v1 μ).bind fun ((r10, μ10), c10, n10) =>
  pay c10 n10 (
  if r10 = 0 then
    some (((-1), μ10), 0, 0)
  else
    (fX10_takesUp v0 v1 v2 (-1) μ10).bind fun (r13, μ13) =>
    if r13 = 0 then
      some (((-1), μ13), 0, 0)
    else
      chk (KD (μ13 v0 6) = 1) (
      (lopA (sX10_since_36 v0 v3 r10 (μ13 (μ13 v0 6) 3)) FU (0, μ13)).bind fun (x16, ccx16, nnx16) =>
        pay ccx16 nnx16 (
        match x16 with
        | (.inl μ_17) =>
            some (((-1), μ_17), 0, 0)
        | (.inr (v7_18, μ_18)) =>
            if v3 = 0 then
              chk (KD (μ_18 v0 6) = 1) (
              (fX1_yearFrom (μ_18 v0 6) v7_18 μ_18).bind fun r22 =>
              some ((r22, μ_18), 0, 0))
            else
              chk (KD (μ_18 v0 6) = 1) (
              (fX1_yearTo (μ_18 v0 6) v7_18 μ_18).bind fun r24 =>
              some ((r24, μ_18), 0, 0))))))
set_option maxRecDepth 20000 in
theorem gX10_since_59 (l : Launch) {F : FI} {v0 v3 v4 v5 v6 s0 : Int} {μ : Mm} {t : ((Int × Mm) ⊕ (Mm ⊕ (Int × Mm)))} {c0 n0 k n : Nat} (h : jX10_since_59 v0 v3 v4 v5 v6 s0 μ = some (t, c0, n0)) (hK : zX10_since_36 l F v0 v3 v4 v5 k n t) : GM l mX10_since F (c0 + k) (n0 + n) 59 [(0, (3, v0)), (3, (0, v3)), (4, (3, v4)), (5, (0, v5)), (6, (0, v6))] [(0, s0)] μ := by
  unfold jX10_since_59 at h
  refine GM_istore (L' := [(7, (0, s0)), (0, (3, v0)), (3, (0, v3)), (4, (3, v4)), (5, (0, v5)), (6, (0, v6))]) (pc := 59) (daX10_since_0 32 rfl) (Nat.le_of_ble_eq_true rfl) rfl ?_
  refine GM_aload_n (pc := 61) 1 rfl (daX10_since_0 33 rfl) rfl ?_
  obtain ⟨hc1, h⟩ := chk_inv h
  refine GM_getf (pc := 62) 10 6 3 6 kf_X10_50 (Nat.le_of_ble_eq_true rfl) (Nat.le_of_ble_eq_true rfl) rfl (daX10_since_0 34 rfl) hc1 rfl ?_
  refine GM_iload (pc := 65) 0 rfl (daX10_since_0 35 rfl) ?_
  obtain ⟨hc2, h⟩ := chk_inv h
  obtain ⟨μ3, hf3, h⟩ := Option.bind_eq_some_iff.mp h
  refine GM_callV0 (pc := 67) [(0, s0)] (tX1_narrow l hf3) cwX1_narrow 1 (Nat.le_of_ble_eq_true rfl) rfl kv_X1_narrow ke_X1_narrow km_X10_344 hc2 ⟨Nat.le_of_ble_eq_true rfl, Nat.le_of_ble_eq_true rfl⟩ (Nat.le_of_ble_eq_true rfl) (Nat.le_of_ble_eq_true rfl) (daX10_since_0 36 rfl) ?_
  refine GM_aload_n (pc := 70) 1 rfl (daX10_since_0 37 rfl) rfl ?_
  refine GM_aload (pc := 71) 3 rfl (daX10_since_0 38 rfl) ?_
  refine GM_iconst (pc := 73) (-1) (daX10_since_0 39 rfl) rfl (R32_b rfl) ?_
  refine GM_iconst (pc := 74) 1 (daX10_since_0 40 rfl) rfl (R32_b rfl) ?_
  obtain ⟨⟨⟨r4, μ4⟩, c4, n4⟩, hf4, h⟩ := Option.bind_eq_some_iff.mp h
  dsimp only at h
  obtain ⟨c5, n5, hp, e1, e2⟩ := pay_inv h
  subst e1 e2
  replace h := hp
  clear hp
  rw [Nat.add_assoc, Nat.add_assoc]
  refine GM_callV (pc := 75) [(3, v4), (0, (-1)), (0, 1)] (tX10_countFitting l hf4) cwX10_countFitting 10 (Nat.le_of_ble_eq_true rfl) rfl kv_X10_countFitting ke_X10_countFitting km_X10_347 hc1 ⟨Nat.le_of_ble_eq_true rfl, Nat.le_of_ble_eq_true rfl⟩ (Nat.le_of_ble_eq_true rfl) (Nat.le_of_ble_eq_true rfl) (daX10_since_0 41 rfl) ?_
  refine GM_if_le (pc := 78) 107 (daX10_since_0 42 rfl) rfl (fun c6 => ?_) (fun c6 => ?_)
  · skip
    rw [if_pos c6] at h
    refine GM_iinc (L' := [(6, (0, w32 (v6 + 1))), (7, (0, s0)), (0, (3, v0)), (3, (0, v3)), (4, (3, v4)), (5, (0, v5))]) (pc := 107) 5 rfl (daX10_since_0 55 rfl) (Nat.le_of_ble_eq_true rfl) rfl ?_
    refine GM_goto (pc := 110) 36 (daX10_since_0 56 rfl) rfl ?_
    refine GM_pick [2, 3, 4, 5, 0] rfl ?_
    cases h
    rw [Nat.zero_add, Nat.zero_add]
    exact hK
  · skip
    rw [if_neg c6] at h
    refine GM_pick [1, 2, 0] rfl ?_
    cases h
    rw [Nat.zero_add, Nat.zero_add]
    exact hK
set_option maxRecDepth 20000 in
theorem qX10_since_36 (l : Launch) (F : FI) (v0 v3 v4 v5 : Int) : ∀ (q : (Int × Mm)) (t : ((Int × Mm) ⊕ (Mm ⊕ (Int × Mm)))) (c0 n0 : Nat), sX10_since_36 v0 v3 v4 v5 q = some (t, c0, n0) → ∀ k n, zX10_since_36 l F v0 v3 v4 v5 k n t → zX10_since_36 l F v0 v3 v4 v5 (c0 + k) (n0 + n) (.inl q) := by
  intro q t c0 n0 h k n hK
  obtain ⟨v6, μ⟩ := q
  unfold sX10_since_36 at h
  try dsimp only at h
  show GM l mX10_since F (c0 + k) (n0 + n) 36 [(0, (3, v0)), (3, (0, v3)), (4, (3, v4)), (5, (0, v5)), (6, (0, v6))] [] μ
  refine GM_iload (pc := 36) 4 rfl (daX10_since_0 20 rfl) ?_
  refine GM_iload (pc := 38) 3 rfl (daX10_since_0 21 rfl) ?_
  refine GM_icmp_ge (pc := 40) 113 (daX10_since_0 22 rfl) rfl (fun c7 => ?_) (fun c7 => ?_)
  · skip
    rw [if_pos c7] at h
    refine GM_pick [] rfl ?_
    cases h
    rw [Nat.zero_add, Nat.zero_add]
    exact hK
  · skip
    rw [if_neg c7] at h
    refine GM_iload_n (pc := 43) 1 rfl (daX10_since_0 23 rfl) rfl ?_
    refine GM_if_eq (pc := 44) 57 (daX10_since_0 24 rfl) rfl (fun c8 => ?_) (fun c8 => ?_)
    · skip
      rw [if_pos c8] at h
      refine GM_iload (pc := 57) 4 rfl (daX10_since_0 31 rfl) ?_
      exact gX10_since_59 l h hK
    · skip
      rw [if_neg c8] at h
      refine GM_iload (pc := 47) 3 rfl (daX10_since_0 25 rfl) ?_
      refine GM_iconst (pc := 49) 1 (daX10_since_0 26 rfl) rfl (R32_b rfl) ?_
      refine GM_isub (pc := 50) (daX10_since_0 27 rfl) ?_
      refine GM_iload (pc := 51) 4 rfl (daX10_since_0 28 rfl) ?_
      refine GM_isub (pc := 53) (daX10_since_0 29 rfl) ?_
      refine GM_goto (pc := 54) 59 (daX10_since_0 30 rfl) rfl ?_
      exact gX10_since_59 l h hK
set_option maxRecDepth 20000 in
theorem gX10_since_0 (l : Launch) {F : FI} {v0 v1 v2 v3 : Int} {μ : Mm} {t : (Int × Mm)} {c0 n0 k n : Nat} (h : fX10_since v0 v1 v2 v3 μ = some (t, c0, n0)) (hK : F.1 = [(0, t.1)] ∧ F.2.1 = t.2) : GM l mX10_since F (c0 + k) (n0 + n) 0 [(0, (3, v0)), (1, (0, v1)), (2, (0, v2)), (3, (0, v3))] [] μ := by
  unfold fX10_since at h
  refine GM_aload_n (pc := 0) 0 rfl (daX10_since_0 0 rfl) rfl ?_
  refine GM_iload_n (pc := 1) 1 rfl (daX10_since_0 1 rfl) rfl ?_
  obtain ⟨hc9, h⟩ := chk_inv h
  obtain ⟨⟨⟨r10, μ10⟩, c10, n10⟩, hf10, h⟩ := Option.bind_eq_some_iff.mp h
  dsimp only at h
  obtain ⟨c11, n11, hp, e1, e2⟩ := pay_inv h
  subst e1 e2
  replace h := hp
  clear hp
  rw [Nat.add_assoc, Nat.add_assoc]
  refine GM_callV (pc := 2) [(0, v1)] (tX10_sceneAt l hf10) cwX10_sceneAt 10 (Nat.le_of_ble_eq_true rfl) rfl kv_X10_sceneAt ke_X10_sceneAt km_X10_220 hc9 ⟨Nat.le_of_ble_eq_true rfl, Nat.le_of_ble_eq_true rfl⟩ (Nat.le_of_ble_eq_true rfl) (Nat.le_of_ble_eq_true rfl) (daX10_since_0 2 rfl) ?_
  refine GM_astore (L' := [(4, (3, r10)), (0, (3, v0)), (1, (0, v1)), (2, (0, v2)), (3, (0, v3))]) (pc := 5) (daX10_since_0 3 rfl) (Nat.le_of_ble_eq_true rfl) rfl ?_
  refine GM_aload (pc := 7) 0 rfl (daX10_since_0 4 rfl) ?_
  refine GM_ifnull (pc := 9) 22 (daX10_since_0 5 rfl) rfl (fun c12 => ?_) (fun c12 => ?_)
  · skip
    rw [if_pos c12] at h
    refine GM_iconst (pc := 22) (-1) (daX10_since_0 12 rfl) rfl (R32_b rfl) ?_
    cases h
    exact GM_iret (pc := 23) (daX10_since_0 13 rfl) rfl hK
  · skip
    rw [if_neg c12] at h
    refine GM_aload_n (pc := 12) 1 rfl (daX10_since_0 6 rfl) rfl ?_
    refine GM_iload_n (pc := 13) 2 rfl (daX10_since_0 7 rfl) rfl ?_
    refine GM_iload_n (pc := 14) 3 rfl (daX10_since_0 8 rfl) rfl ?_
    refine GM_iconst (pc := 15) (-1) (daX10_since_0 9 rfl) rfl (R32_b rfl) ?_
    obtain ⟨⟨r13, μ13⟩, hf13, h⟩ := Option.bind_eq_some_iff.mp h
    dsimp only at h
    refine GM_callV0 (pc := 16) [(0, v1), (0, v2), (0, (-1))] (tX10_takesUp l hf13) cwX10_takesUp 10 (Nat.le_of_ble_eq_true rfl) rfl kv_X10_takesUp ke_X10_takesUp km_X10_298 hc9 ⟨Nat.le_of_ble_eq_true rfl, Nat.le_of_ble_eq_true rfl⟩ (Nat.le_of_ble_eq_true rfl) (Nat.le_of_ble_eq_true rfl) (daX10_since_0 10 rfl) ?_
    refine GM_if_ne (pc := 19) 24 (daX10_since_0 11 rfl) rfl (fun c14 => ?_) (fun c14 => ?_)
    · skip
      rw [if_neg c14] at h
      refine GM_aload_n (pc := 24) 1 rfl (daX10_since_0 14 rfl) rfl ?_
      refine GM_getf (pc := 25) 10 6 3 6 kf_X10_50 (Nat.le_of_ble_eq_true rfl) (Nat.le_of_ble_eq_true rfl) rfl (daX10_since_0 15 rfl) hc9 rfl ?_
      obtain ⟨hc15, h⟩ := chk_inv h
      refine GM_getf (pc := 28) 1 3 0 3 kf_X10_341 (Nat.le_of_ble_eq_true rfl) (Nat.le_of_ble_eq_true rfl) rfl (daX10_since_0 16 rfl) hc15 rfl ?_
      refine GM_istore (L' := [(5, (0, μ13 (μ13 v0 6) 3)), (4, (3, r10)), (0, (3, v0)), (1, (0, v1)), (2, (0, v2)), (3, (0, v3))]) (pc := 31) (daX10_since_0 17 rfl) (Nat.le_of_ble_eq_true rfl) rfl ?_
      refine GM_iconst (pc := 33) 0 (daX10_since_0 18 rfl) rfl (R32_b rfl) ?_
      refine GM_istore (L' := [(6, (0, 0)), (5, (0, μ13 (μ13 v0 6) 3)), (4, (3, r10)), (0, (3, v0)), (1, (0, v1)), (2, (0, v2)), (3, (0, v3))]) (pc := 34) (daX10_since_0 19 rfl) (Nat.le_of_ble_eq_true rfl) rfl ?_
      refine GM_pick [3, 6, 2, 1, 0] rfl ?_
      obtain ⟨x16, hqx16, h⟩ := Option.bind_eq_some_iff.mp h
      obtain ⟨x16, ccx16, nnx16⟩ := x16
      dsimp only at h
      obtain ⟨c19, n19, hp, e1, e2⟩ := pay_inv h
      subst e1 e2
      replace h := hp
      clear hp
      rw [Nat.add_assoc, Nat.add_assoc]
      refine lopA_ind (fun k n => zX10_since_36 l F v0 v3 r10 (μ13 (μ13 v0 6) 3) k n) (qX10_since_36 l F v0 v3 r10 (μ13 (μ13 v0 6) 3)) FU _ x16 _ _ hqx16 _ _ ?_
      rcases x16 with μ_17 | ⟨v7_18, μ_18⟩
      · dsimp only at h
        show GM l mX10_since F (c19 + k) (n19 + n) 113 [] [] μ_17
        refine GM_iconst (pc := 113) (-1) (daX10_since_0 57 rfl) rfl (R32_b rfl) ?_
        cases h
        exact GM_iret (pc := 114) (daX10_since_0 58 rfl) rfl hK
      · dsimp only at h
        show GM l mX10_since F (c19 + k) (n19 + n) 81 [(0, (3, v0)), (3, (0, v3)), (7, (0, v7_18))] [] μ_18
        refine GM_iload_n (pc := 81) 1 rfl (daX10_since_0 43 rfl) rfl ?_
        refine GM_if_eq (pc := 82) 97 (daX10_since_0 44 rfl) rfl (fun c20 => ?_) (fun c20 => ?_)
        · skip
          rw [if_pos c20] at h
          refine GM_aload_n (pc := 97) 0 rfl (daX10_since_0 50 rfl) rfl ?_
          refine GM_getf (pc := 98) 10 6 3 6 kf_X10_50 (Nat.le_of_ble_eq_true rfl) (Nat.le_of_ble_eq_true rfl) rfl (daX10_since_0 51 rfl) hc9 rfl ?_
          refine GM_iload (pc := 101) 2 rfl (daX10_since_0 52 rfl) ?_
          obtain ⟨hc21, h⟩ := chk_inv h
          obtain ⟨r22, hf22, h⟩ := Option.bind_eq_some_iff.mp h
          refine GM_callV0 (pc := 103) [(0, v7_18)] (tX1_yearFrom l hf22) cwX1_yearFrom 1 (Nat.le_of_ble_eq_true rfl) rfl kv_X1_yearFrom ke_X1_yearFrom km_X10_354 hc21 ⟨Nat.le_of_ble_eq_true rfl, Nat.le_of_ble_eq_true rfl⟩ (Nat.le_of_ble_eq_true rfl) (Nat.le_of_ble_eq_true rfl) (daX10_since_0 53 rfl) ?_
          cases h
          exact GM_iret (pc := 106) (daX10_since_0 54 rfl) rfl hK
        · skip
          rw [if_neg c20] at h
          refine GM_aload_n (pc := 85) 0 rfl (daX10_since_0 45 rfl) rfl ?_
          refine GM_getf (pc := 86) 10 6 3 6 kf_X10_50 (Nat.le_of_ble_eq_true rfl) (Nat.le_of_ble_eq_true rfl) rfl (daX10_since_0 46 rfl) hc9 rfl ?_
          refine GM_iload (pc := 89) 2 rfl (daX10_since_0 47 rfl) ?_
          obtain ⟨hc23, h⟩ := chk_inv h
          obtain ⟨r24, hf24, h⟩ := Option.bind_eq_some_iff.mp h
          refine GM_callV0 (pc := 91) [(0, v7_18)] (tX1_yearTo l hf24) cwX1_yearTo 1 (Nat.le_of_ble_eq_true rfl) rfl kv_X1_yearTo ke_X1_yearTo km_X10_351 hc23 ⟨Nat.le_of_ble_eq_true rfl, Nat.le_of_ble_eq_true rfl⟩ (Nat.le_of_ble_eq_true rfl) (Nat.le_of_ble_eq_true rfl) (daX10_since_0 48 rfl) ?_
          refine GM_goto (pc := 94) 106 (daX10_since_0 49 rfl) rfl ?_
          cases h
          exact GM_iret (pc := 106) (daX10_since_0 54 rfl) rfl hK
    · skip
      rw [if_pos c14] at h
      refine GM_iconst (pc := 22) (-1) (daX10_since_0 12 rfl) rfl (R32_b rfl) ?_
      cases h
      exact GM_iret (pc := 23) (daX10_since_0 13 rfl) rfl hK
theorem tX10_since (l : Launch) {v0 v1 v2 v3 : Int} {μ : Mm} {t : (Int × Mm)} {c0 n0 : Nat} (h : fX10_since v0 v1 v2 v3 μ = some (t, c0, n0)) : Ct l yX10_since mX10_since [(3, v0), (0, v1), (0, v2), (0, v3)] μ ([(0, t.1)], t.2, c0, n0) :=
  Ct_of (by decide +kernel) rfl rfl (Nat.le_of_ble_eq_true rfl) (fun _ _ _ => trivial) (gX10_since_0 (k := 0) (n := 0) l h ⟨rfl, rfl⟩)
def mX10_leastFitting : MI := (RX10, cX10_leastFitting, 6, (some .int), "leastFitting", 6, 141, fun _ _ _ => True)
theorem cwX10_leastFitting : CWd yX10_leastFitting mX10_leastFitting 3 := ⟨ki_X10, kk_X10_leastFitting, ⟨by decide, by decide⟩, rfl⟩
def dtX10_leastFitting_0 : List (Nat × Instr × Nat) := [(0, .aload_n 1, 1), (1, .iload_n 3, 1), (2, .invokevirtual 175, 3), (5, .ifCond .ne 5, 3), (8, .iconst (-1), 1), (9, .ireturn, 1), (10, .aload_n 1, 1), (11, .getfield 179, 3), (14, .iload_n 3, 1), (15, .iconst 0, 1), (16, .iastore, 1), (17, .aload_n 0, 1), (18, .getfield 30, 3), (21, .aload_n 1, 1), (22, .iload_n 2, 1), (23, .invokevirtual 286, 3), (26, .aload_n 0, 1), (27, .getfield 30, 3), (30, .aload_n 1, 1), (31, .aload_n 0, 1), (32, .getfield 43, 3), (35, .invokevirtual 290, 3), (38, .aload_n 0, 1), (39, .getfield 50, 3), (42, .aload_n 0, 1), (43, .getfield 43, 3), (46, .putfield 302, 3), (49, .aload_n 0, 1), (50, .getfield 50, 3), (53, .invokevirtual 312, 3), (56, .iconst (-1), 1), (57, .if_icmp .eq 5, 3), (60, .iconst 0, 1), (61, .ireturn, 1), (62, .aload_n 0, 1), (63, .getfield 30, 3), (66, .getfield 361, 3), (69, .iload_n 3, 1), (70, .iaload, 1), (71, .istore 4, 2), (73, .iconst 1, 1), (74, .istore 5, 2), (76, .iload 5, 2), (78, .sipush 999, 3), (81, .if_icmp .gt 54, 3), (84, .iload 4, 2), (86, .iconst (-1), 1), (87, .if_icmp .eq 48, 3), (90, .aload_n 1, 1), (91, .getfield 179, 3), (94, .iload_n 3, 1), (95, .iload 5, 2), (97, .iastore, 1), (98, .aload_n 0, 1), (99, .getfield 30, 3), (102, .aload_n 1, 1), (103, .aload_n 0, 1), (104, .getfield 43, 3), (107, .iload 4, 2), (109, .invokevirtual 364, 3), (112, .ifCond .eq 17, 3), (115, .aload_n 0, 1), (116, .getfield 50, 3), (119, .invokevirtual 312, 3)]
theorem ddX10_leastFitting_0 : (dtX10_leastFitting_0.all fun e => decide (decode mX10_leastFitting.2.1 e.1 = .ok (e.2.1, e.2.2))) = true := by decide +kernel
theorem daX10_leastFitting_0 (j : Nat) {pc n : Nat} {i : Instr} (h : dtX10_leastFitting_0[j]? = some (pc, i, n)) : decode mX10_leastFitting.2.1 pc = .ok (i, n) := dec_of (c := mX10_leastFitting.2.1) ddX10_leastFitting_0 h
def dtX10_leastFitting_1 : List (Nat × Instr × Nat) := [(122, .iconst (-1), 1), (123, .if_icmp .eq 6, 3), (126, .iload 5, 2), (128, .ireturn, 1), (129, .iinc 5 1, 3), (132, .goto (-56), 3), (135, .iconst (-1), 1), (136, .ireturn, 1)]
theorem ddX10_leastFitting_1 : (dtX10_leastFitting_1.all fun e => decide (decode mX10_leastFitting.2.1 e.1 = .ok (e.2.1, e.2.2))) = true := by decide +kernel
theorem daX10_leastFitting_1 (j : Nat) {pc n : Nat} {i : Instr} (h : dtX10_leastFitting_1[j]? = some (pc, i, n)) : decode mX10_leastFitting.2.1 pc = .ok (i, n) := dec_of (c := mX10_leastFitting.2.1) ddX10_leastFitting_1 h
def zX10_leastFitting_76 (l : Launch) (F : FI) (v0 v1 v3 v4 : Int) (k n : Nat) : (Int × Mm) ⊕ (Mm ⊕ (Int × Mm)) → Prop
  | .inl (v5, μ) => GM l mX10_leastFitting F k n 76 [(0, (3, v0)), (1, (3, v1)), (3, (0, v3)), (4, (0, v4)), (5, (0, v5))] [] μ
  | .inr (.inl μ) => GM l mX10_leastFitting F k n 135 [] [] μ
  | .inr (.inr (v5, μ)) => GM l mX10_leastFitting F k n 126 [(5, (0, v5))] [] μ
def sX10_leastFitting_76 (v0 v1 v3 v4 : Int) : (Int × Mm) → Option ((Int × Mm) ⊕ (Mm ⊕ (Int × Mm))) := fun (v5, μ) =>
  if 999 < v5 then
    some (.inr (.inl μ))
  else
    if v4 = (-1) then
      some (.inr (.inl μ))
    else
      chk (KD v1 = 2) (
      chk (KD (μ v1 6) = 12 ∧ 0 ≤ v3 ∧ v3 < LN (μ v1 6)) (
      lm (mst μ (μ v1 6) v3 v5) fun μ5 =>
      chk (KD v0 = 10) (
      chk (KD (μ5 v0 3) = 5) (
      (fX5_changes (μ5 v0 3) v1 (μ5 v0 5) v4 μ5).bind fun (r8, μ8) =>
      if r8 = 0 then
        some (.inl (w32 (v5 + 1), μ8))
      else
        chk (KD (μ8 v0 6) = 1) (
        (fX1_leastStart (μ8 v0 6) μ8).bind fun (r11, μ11) =>
        if r11 = (-1) then
          some (.inl (w32 (v5 + 1), μ11))
        else
          some (.inr (.inr (v5, μ11))))))))
def fX10_leastFitting (v0 v1 v2 v3 : Int) (μ : Mm) : Option (Int × Mm) :=
  chk (KD v1 = 2) (
  (fX2_has v1 v3 μ).bind fun r14 =>
  if r14 = 0 then
    some ((-1), μ)
  else
    chk (KD (μ v1 6) = 12 ∧ 0 ≤ v3 ∧ v3 < LN (μ v1 6)) (
    lm (mst μ (μ v1 6) v3 0) fun μ17 =>
    chk (KD v0 = 10) (
    chk (KD (μ17 v0 3) = 5) (
    (fX5_aim (μ17 v0 3) v1 v2 μ17).bind fun μ20 =>
    chk (KD (μ20 v0 3) = 5) (
    (fX5_look (μ20 v0 3) v1 (μ20 v0 5) μ20).bind fun μ22 =>
    chk (KD (μ22 v0 6) = 1) (
    lm (mst μ22 (μ22 v0 6) 2 (μ22 v0 5)) fun μ24 =>
    chk (KD (μ24 v0 6) = 1) (
    (fX1_leastStart (μ24 v0 6) μ24).bind fun (r26, μ26) =>
    if r26 = (-1) then
      chk (KD (μ26 v0 3) = 5) (
      chk (KD (μ26 (μ26 v0 3) 1) = 12 ∧ v3 < LN (μ26 (μ26 v0 3) 1)) (
      lt (μ26 (μ26 (μ26 v0 3) 1) v3) fun y30 =>
      (lop (sX10_leastFitting_76 v0 v1 v3 y30) FU (1, μ26)).bind fun x31 =>
        match x31 with
        | (.inl μ_32) =>
            some ((-1), μ_32)
        | (.inr (v5_33, μ_33)) =>
            some (v5_33, μ_33)))
    else
      some (0, μ26))))))))
set_option maxRecDepth 20000 in
theorem qX10_leastFitting_76 (l : Launch) (F : FI) (v0 v1 v3 v4 : Int) (k n : Nat) : ∀ (q : (Int × Mm)) (t : ((Int × Mm) ⊕ (Mm ⊕ (Int × Mm)))), sX10_leastFitting_76 v0 v1 v3 v4 q = some t → zX10_leastFitting_76 l F v0 v1 v3 v4 k n t → zX10_leastFitting_76 l F v0 v1 v3 v4 k n (.inl q) := by
  intro q t h hK
  obtain ⟨v5, μ⟩ := q
  unfold sX10_leastFitting_76 at h
  try dsimp only at h
  show GM l mX10_leastFitting F k n 76 [(0, (3, v0)), (1, (3, v1)), (3, (0, v3)), (4, (0, v4)), (5, (0, v5))] [] μ
  refine GM_iload (pc := 76) 4 rfl (daX10_leastFitting_0 42 rfl) ?_
  refine GM_sipush (pc := 78) 999 (daX10_leastFitting_0 43 rfl) rfl (R32_b rfl) ?_
  refine GM_icmp_gt (pc := 81) 135 (daX10_leastFitting_0 44 rfl) rfl (fun c1 => ?_) (fun c1 => ?_)
  · skip
    rw [if_pos c1] at h
    refine GM_pick [] rfl ?_
    cases h
    exact hK
  · skip
    rw [if_neg c1] at h
    refine GM_iload (pc := 84) 3 rfl (daX10_leastFitting_0 45 rfl) ?_
    refine GM_iconst (pc := 86) (-1) (daX10_leastFitting_0 46 rfl) rfl (R32_b rfl) ?_
    refine GM_icmp_eq (pc := 87) 135 (daX10_leastFitting_0 47 rfl) rfl (fun c2 => ?_) (fun c2 => ?_)
    · skip
      rw [if_pos c2] at h
      refine GM_pick [] rfl ?_
      cases h
      exact hK
    · skip
      rw [if_neg c2] at h
      refine GM_aload_n (pc := 90) 1 rfl (daX10_leastFitting_0 48 rfl) rfl ?_
      obtain ⟨hc3, h⟩ := chk_inv h
      refine GM_getf (pc := 91) 2 6 3 6 kf_X10_179 (Nat.le_of_ble_eq_true rfl) (Nat.le_of_ble_eq_true rfl) rfl (daX10_leastFitting_0 49 rfl) hc3 rfl ?_
      refine GM_iload_n (pc := 94) 2 rfl (daX10_leastFitting_0 50 rfl) rfl ?_
      refine GM_iload (pc := 95) 4 rfl (daX10_leastFitting_0 51 rfl) ?_
      obtain ⟨hc4, h⟩ := chk_inv h
      obtain ⟨μ5, hμ5, h⟩ := lm_inv h
      refine GM_iast (pc := 97) (daX10_leastFitting_0 52 rfl) hc4.1 hc4.2.1 hc4.2.2 ?_
      refine GM_mem hμ5 ?_
      refine GM_aload_n (pc := 98) 0 rfl (daX10_leastFitting_0 53 rfl) rfl ?_
      obtain ⟨hc6, h⟩ := chk_inv h
      refine GM_getf (pc := 99) 10 3 3 3 kf_X10_30 (Nat.le_of_ble_eq_true rfl) (Nat.le_of_ble_eq_true rfl) rfl (daX10_leastFitting_0 54 rfl) hc6 rfl ?_
      refine GM_aload_n (pc := 102) 1 rfl (daX10_leastFitting_0 55 rfl) rfl ?_
      refine GM_aload_n (pc := 103) 0 rfl (daX10_leastFitting_0 56 rfl) rfl ?_
      refine GM_getf (pc := 104) 10 5 3 5 kf_X10_43 (Nat.le_of_ble_eq_true rfl) (Nat.le_of_ble_eq_true rfl) rfl (daX10_leastFitting_0 57 rfl) hc6 rfl ?_
      refine GM_iload (pc := 107) 3 rfl (daX10_leastFitting_0 58 rfl) ?_
      obtain ⟨hc7, h⟩ := chk_inv h
      obtain ⟨⟨r8, μ8⟩, hf8, h⟩ := Option.bind_eq_some_iff.mp h
      dsimp only at h
      refine GM_callV0 (pc := 109) [(3, v1), (3, μ5 v0 5), (0, v4)] (tX5_changes l hf8) cwX5_changes 5 (Nat.le_of_ble_eq_true rfl) rfl kv_X5_changes ke_X5_changes km_X10_364 hc7 ⟨Nat.le_of_ble_eq_true rfl, Nat.le_of_ble_eq_true rfl⟩ (Nat.le_of_ble_eq_true rfl) (Nat.le_of_ble_eq_true rfl) (daX10_leastFitting_0 59 rfl) ?_
      refine GM_if_eq (pc := 112) 129 (daX10_leastFitting_0 60 rfl) rfl (fun c9 => ?_) (fun c9 => ?_)
      · skip
        rw [if_pos c9] at h
        refine GM_iinc (L' := [(5, (0, w32 (v5 + 1))), (0, (3, v0)), (1, (3, v1)), (3, (0, v3)), (4, (0, v4))]) (pc := 129) 4 rfl (daX10_leastFitting_1 4 rfl) (Nat.le_of_ble_eq_true rfl) rfl ?_
        refine GM_goto (pc := 132) 76 (daX10_leastFitting_1 5 rfl) rfl ?_
        refine GM_pick [1, 2, 3, 4, 0] rfl ?_
        cases h
        exact hK
      · skip
        rw [if_neg c9] at h
        refine GM_aload_n (pc := 115) 0 rfl (daX10_leastFitting_0 61 rfl) rfl ?_
        refine GM_getf (pc := 116) 10 6 3 6 kf_X10_50 (Nat.le_of_ble_eq_true rfl) (Nat.le_of_ble_eq_true rfl) rfl (daX10_leastFitting_0 62 rfl) hc6 rfl ?_
        obtain ⟨hc10, h⟩ := chk_inv h
        obtain ⟨⟨r11, μ11⟩, hf11, h⟩ := Option.bind_eq_some_iff.mp h
        dsimp only at h
        refine GM_callV0 (pc := 119) [] (tX1_leastStart l hf11) cwX1_leastStart 1 (Nat.le_of_ble_eq_true rfl) rfl kv_X1_leastStart ke_X1_leastStart km_X10_312 hc10 ⟨Nat.le_of_ble_eq_true rfl, Nat.le_of_ble_eq_true rfl⟩ (Nat.le_of_ble_eq_true rfl) (Nat.le_of_ble_eq_true rfl) (daX10_leastFitting_0 63 rfl) ?_
        refine GM_iconst (pc := 122) (-1) (daX10_leastFitting_1 0 rfl) rfl (R32_b rfl) ?_
        refine GM_icmp_eq (pc := 123) 129 (daX10_leastFitting_1 1 rfl) rfl (fun c12 => ?_) (fun c12 => ?_)
        · skip
          rw [if_pos c12] at h
          refine GM_iinc (L' := [(5, (0, w32 (v5 + 1))), (0, (3, v0)), (1, (3, v1)), (3, (0, v3)), (4, (0, v4))]) (pc := 129) 4 rfl (daX10_leastFitting_1 4 rfl) (Nat.le_of_ble_eq_true rfl) rfl ?_
          refine GM_goto (pc := 132) 76 (daX10_leastFitting_1 5 rfl) rfl ?_
          refine GM_pick [1, 2, 3, 4, 0] rfl ?_
          cases h
          exact hK
        · skip
          rw [if_neg c12] at h
          refine GM_pick [4] rfl ?_
          cases h
          exact hK
set_option maxRecDepth 20000 in
theorem gX10_leastFitting_0 (l : Launch) {F : FI} {v0 v1 v2 v3 : Int} {μ : Mm} {t : (Int × Mm)} (h : fX10_leastFitting v0 v1 v2 v3 μ = some t) (hK : F.1 = [(0, t.1)] ∧ F.2.1 = t.2) : GM l mX10_leastFitting F 0 0 0 [(0, (3, v0)), (1, (3, v1)), (2, (0, v2)), (3, (0, v3))] [] μ := by
  unfold fX10_leastFitting at h
  refine GM_aload_n (pc := 0) 1 rfl (daX10_leastFitting_0 0 rfl) rfl ?_
  refine GM_iload_n (pc := 1) 3 rfl (daX10_leastFitting_0 1 rfl) rfl ?_
  obtain ⟨hc13, h⟩ := chk_inv h
  obtain ⟨r14, hf14, h⟩ := Option.bind_eq_some_iff.mp h
  refine GM_callV0 (pc := 2) [(0, v3)] (tX2_has l hf14) cwX2_has 2 (Nat.le_of_ble_eq_true rfl) rfl kv_X2_has ke_X2_has km_X10_175 hc13 ⟨Nat.le_of_ble_eq_true rfl, Nat.le_of_ble_eq_true rfl⟩ (Nat.le_of_ble_eq_true rfl) (Nat.le_of_ble_eq_true rfl) (daX10_leastFitting_0 2 rfl) ?_
  refine GM_if_ne (pc := 5) 10 (daX10_leastFitting_0 3 rfl) rfl (fun c15 => ?_) (fun c15 => ?_)
  · skip
    rw [if_neg c15] at h
    refine GM_aload_n (pc := 10) 1 rfl (daX10_leastFitting_0 6 rfl) rfl ?_
    refine GM_getf (pc := 11) 2 6 3 6 kf_X10_179 (Nat.le_of_ble_eq_true rfl) (Nat.le_of_ble_eq_true rfl) rfl (daX10_leastFitting_0 7 rfl) hc13 rfl ?_
    refine GM_iload_n (pc := 14) 3 rfl (daX10_leastFitting_0 8 rfl) rfl ?_
    refine GM_iconst (pc := 15) 0 (daX10_leastFitting_0 9 rfl) rfl (R32_b rfl) ?_
    obtain ⟨hc16, h⟩ := chk_inv h
    obtain ⟨μ17, hμ17, h⟩ := lm_inv h
    refine GM_iast (pc := 16) (daX10_leastFitting_0 10 rfl) hc16.1 hc16.2.1 hc16.2.2 ?_
    refine GM_mem hμ17 ?_
    refine GM_aload_n (pc := 17) 0 rfl (daX10_leastFitting_0 11 rfl) rfl ?_
    obtain ⟨hc18, h⟩ := chk_inv h
    refine GM_getf (pc := 18) 10 3 3 3 kf_X10_30 (Nat.le_of_ble_eq_true rfl) (Nat.le_of_ble_eq_true rfl) rfl (daX10_leastFitting_0 12 rfl) hc18 rfl ?_
    refine GM_aload_n (pc := 21) 1 rfl (daX10_leastFitting_0 13 rfl) rfl ?_
    refine GM_iload_n (pc := 22) 2 rfl (daX10_leastFitting_0 14 rfl) rfl ?_
    obtain ⟨hc19, h⟩ := chk_inv h
    obtain ⟨μ20, hf20, h⟩ := Option.bind_eq_some_iff.mp h
    refine GM_callV0 (pc := 23) [(3, v1), (0, v2)] (tX5_aim l hf20) cwX5_aim 5 (Nat.le_of_ble_eq_true rfl) rfl kv_X5_aim ke_X5_aim km_X10_286 hc19 ⟨Nat.le_of_ble_eq_true rfl, Nat.le_of_ble_eq_true rfl⟩ (Nat.le_of_ble_eq_true rfl) (Nat.le_of_ble_eq_true rfl) (daX10_leastFitting_0 15 rfl) ?_
    refine GM_aload_n (pc := 26) 0 rfl (daX10_leastFitting_0 16 rfl) rfl ?_
    refine GM_getf (pc := 27) 10 3 3 3 kf_X10_30 (Nat.le_of_ble_eq_true rfl) (Nat.le_of_ble_eq_true rfl) rfl (daX10_leastFitting_0 17 rfl) hc18 rfl ?_
    refine GM_aload_n (pc := 30) 1 rfl (daX10_leastFitting_0 18 rfl) rfl ?_
    refine GM_aload_n (pc := 31) 0 rfl (daX10_leastFitting_0 19 rfl) rfl ?_
    refine GM_getf (pc := 32) 10 5 3 5 kf_X10_43 (Nat.le_of_ble_eq_true rfl) (Nat.le_of_ble_eq_true rfl) rfl (daX10_leastFitting_0 20 rfl) hc18 rfl ?_
    obtain ⟨hc21, h⟩ := chk_inv h
    obtain ⟨μ22, hf22, h⟩ := Option.bind_eq_some_iff.mp h
    refine GM_callV0 (pc := 35) [(3, v1), (3, μ20 v0 5)] (tX5_look l hf22) cwX5_look 5 (Nat.le_of_ble_eq_true rfl) rfl kv_X5_look ke_X5_look km_X10_290 hc21 ⟨Nat.le_of_ble_eq_true rfl, Nat.le_of_ble_eq_true rfl⟩ (Nat.le_of_ble_eq_true rfl) (Nat.le_of_ble_eq_true rfl) (daX10_leastFitting_0 21 rfl) ?_
    refine GM_aload_n (pc := 38) 0 rfl (daX10_leastFitting_0 22 rfl) rfl ?_
    refine GM_getf (pc := 39) 10 6 3 6 kf_X10_50 (Nat.le_of_ble_eq_true rfl) (Nat.le_of_ble_eq_true rfl) rfl (daX10_leastFitting_0 23 rfl) hc18 rfl ?_
    refine GM_aload_n (pc := 42) 0 rfl (daX10_leastFitting_0 24 rfl) rfl ?_
    refine GM_getf (pc := 43) 10 5 3 5 kf_X10_43 (Nat.le_of_ble_eq_true rfl) (Nat.le_of_ble_eq_true rfl) rfl (daX10_leastFitting_0 25 rfl) hc18 rfl ?_
    obtain ⟨hc23, h⟩ := chk_inv h
    obtain ⟨μ24, hμ24, h⟩ := lm_inv h
    refine GM_putf (pc := 46) 1 2 3 kf_X10_302 (Nat.le_of_ble_eq_true rfl) (Nat.le_of_ble_eq_true rfl) rfl rfl (daX10_leastFitting_0 26 rfl) hc23 (fun q => absurd q (by decide)) ?_
    refine GM_mem hμ24 ?_
    refine GM_aload_n (pc := 49) 0 rfl (daX10_leastFitting_0 27 rfl) rfl ?_
    refine GM_getf (pc := 50) 10 6 3 6 kf_X10_50 (Nat.le_of_ble_eq_true rfl) (Nat.le_of_ble_eq_true rfl) rfl (daX10_leastFitting_0 28 rfl) hc18 rfl ?_
    obtain ⟨hc25, h⟩ := chk_inv h
    obtain ⟨⟨r26, μ26⟩, hf26, h⟩ := Option.bind_eq_some_iff.mp h
    dsimp only at h
    refine GM_callV0 (pc := 53) [] (tX1_leastStart l hf26) cwX1_leastStart 1 (Nat.le_of_ble_eq_true rfl) rfl kv_X1_leastStart ke_X1_leastStart km_X10_312 hc25 ⟨Nat.le_of_ble_eq_true rfl, Nat.le_of_ble_eq_true rfl⟩ (Nat.le_of_ble_eq_true rfl) (Nat.le_of_ble_eq_true rfl) (daX10_leastFitting_0 29 rfl) ?_
    refine GM_iconst (pc := 56) (-1) (daX10_leastFitting_0 30 rfl) rfl (R32_b rfl) ?_
    refine GM_icmp_eq (pc := 57) 62 (daX10_leastFitting_0 31 rfl) rfl (fun c27 => ?_) (fun c27 => ?_)
    · skip
      rw [if_pos c27] at h
      refine GM_aload_n (pc := 62) 0 rfl (daX10_leastFitting_0 34 rfl) rfl ?_
      refine GM_getf (pc := 63) 10 3 3 3 kf_X10_30 (Nat.le_of_ble_eq_true rfl) (Nat.le_of_ble_eq_true rfl) rfl (daX10_leastFitting_0 35 rfl) hc18 rfl ?_
      obtain ⟨hc28, h⟩ := chk_inv h
      refine GM_getf (pc := 66) 5 1 3 1 kf_X10_361 (Nat.le_of_ble_eq_true rfl) (Nat.le_of_ble_eq_true rfl) rfl (daX10_leastFitting_0 36 rfl) hc28 rfl ?_
      refine GM_iload_n (pc := 69) 3 rfl (daX10_leastFitting_0 37 rfl) rfl ?_
      obtain ⟨hc29, h⟩ := chk_inv h
      refine GM_iald (pc := 70) (daX10_leastFitting_0 38 rfl) hc29.1 hc16.2.1 hc29.2 ?_
      obtain ⟨y30, hy30, h⟩ := lt_inv h
      refine GM_top hy30 ?_
      refine GM_istore (L' := [(4, (0, y30)), (0, (3, v0)), (1, (3, v1)), (2, (0, v2)), (3, (0, v3))]) (pc := 71) (daX10_leastFitting_0 39 rfl) (Nat.le_of_ble_eq_true rfl) rfl ?_
      refine GM_iconst (pc := 73) 1 (daX10_leastFitting_0 40 rfl) rfl (R32_b rfl) ?_
      refine GM_istore (L' := [(5, (0, 1)), (4, (0, y30)), (0, (3, v0)), (1, (3, v1)), (2, (0, v2)), (3, (0, v3))]) (pc := 74) (daX10_leastFitting_0 41 rfl) (Nat.le_of_ble_eq_true rfl) rfl ?_
      refine GM_pick [2, 3, 5, 1, 0] rfl ?_
      obtain ⟨x31, hqx31, h⟩ := Option.bind_eq_some_iff.mp h
      refine lop_ind (zX10_leastFitting_76 l F v0 v1 v3 y30 0 0) (qX10_leastFitting_76 l F v0 v1 v3 y30 0 0) FU _ x31 hqx31 ?_
      rcases x31 with μ_32 | ⟨v5_33, μ_33⟩
      · dsimp only at h
        show GM l mX10_leastFitting F 0 0 135 [] [] μ_32
        refine GM_iconst (pc := 135) (-1) (daX10_leastFitting_1 6 rfl) rfl (R32_b rfl) ?_
        cases h
        exact GM_iret (pc := 136) (daX10_leastFitting_1 7 rfl) rfl hK
      · dsimp only at h
        show GM l mX10_leastFitting F 0 0 126 [(5, (0, v5_33))] [] μ_33
        refine GM_iload (pc := 126) 0 rfl (daX10_leastFitting_1 2 rfl) ?_
        cases h
        exact GM_iret (pc := 128) (daX10_leastFitting_1 3 rfl) rfl hK
    · skip
      rw [if_neg c27] at h
      refine GM_iconst (pc := 60) 0 (daX10_leastFitting_0 32 rfl) rfl (R32_b rfl) ?_
      cases h
      exact GM_iret (pc := 61) (daX10_leastFitting_0 33 rfl) rfl hK
  · skip
    rw [if_pos c15] at h
    refine GM_iconst (pc := 8) (-1) (daX10_leastFitting_0 4 rfl) rfl (R32_b rfl) ?_
    cases h
    exact GM_iret (pc := 9) (daX10_leastFitting_0 5 rfl) rfl hK
theorem tX10_leastFitting (l : Launch) {v0 v1 v2 v3 : Int} {μ : Mm} {t : (Int × Mm)} (h : fX10_leastFitting v0 v1 v2 v3 μ = some t) : Ct l yX10_leastFitting mX10_leastFitting [(3, v0), (3, v1), (0, v2), (0, v3)] μ ([(0, t.1)], t.2, 0, 0) :=
  Ct_of (by decide +kernel) rfl rfl (Nat.le_of_ble_eq_true rfl) (fun _ _ _ => trivial) (gX10_leastFitting_0 l h ⟨rfl, rfl⟩)
def mX10_lacks : MI := (RX10, cX10_lacks, 8, (some .int), "lacks", 7, 166, fun _ _ _ => True)
theorem cwX10_lacks : CWd yX10_lacks mX10_lacks 4 := ⟨ki_X10, kk_X10_lacks, ⟨by decide, by decide⟩, rfl⟩
def dtX10_lacks_0 : List (Nat × Instr × Nat) := [(0, .aload_n 0, 1), (1, .iload_n 1, 1), (2, .invokevirtual 149, 3), (5, .astore 5, 2), (7, .aload 5, 2), (9, .ifnull 38, 3), (12, .aload 5, 2), (14, .iload_n 3, 1), (15, .invokevirtual 175, 3), (18, .ifCond .eq 29, 3), (21, .aload 5, 2), (23, .iload 4, 2), (25, .invokevirtual 175, 3), (28, .ifCond .eq 19, 3), (31, .iload_n 3, 1), (32, .iload 4, 2), (34, .if_icmp .eq 13, 3), (37, .aload_n 0, 1), (38, .iload_n 1, 1), (39, .iload_n 2, 1), (40, .iconst (-1), 1), (41, .invokevirtual 298, 3), (44, .ifCond .ne 5, 3), (47, .iconst (-1), 1), (48, .ireturn, 1), (49, .aload 5, 2), (51, .getfield 179, 3), (54, .iload 4, 2), (56, .iaload, 1), (57, .istore 6, 2), (59, .aload_n 0, 1), (60, .aload 5, 2), (62, .iload_n 3, 1), (63, .iload 4, 2), (65, .invokevirtual 357, 3), (68, .istore 7, 2), (70, .aload 5, 2), (72, .getfield 179, 3), (75, .iload 4, 2), (77, .iload 6, 2), (79, .iastore, 1), (80, .iload 7, 2), (82, .ireturn, 1)]
theorem ddX10_lacks_0 : (dtX10_lacks_0.all fun e => decide (decode mX10_lacks.2.1 e.1 = .ok (e.2.1, e.2.2))) = true := by decide +kernel
theorem daX10_lacks_0 (j : Nat) {pc n : Nat} {i : Instr} (h : dtX10_lacks_0[j]? = some (pc, i, n)) : decode mX10_lacks.2.1 pc = .ok (i, n) := dec_of (c := mX10_lacks.2.1) ddX10_lacks_0 h
def fX10_lacks (v0 v1 v2 v3 v4 : Int) (μ : Mm) : Option (Int × Mm) :=
  chk (KD v0 = 10) (
  (fX10_landAt v0 v1 μ).bind fun r2 =>
  if r2 = 0 then
    some ((-1), μ)
  else
    chk (KD r2 = 2) (
    (fX2_has r2 v3 μ).bind fun r5 =>
    if r5 = 0 then
      some ((-1), μ)
    else
      (fX2_has r2 v4 μ).bind fun r7 =>
      if r7 = 0 then
        some ((-1), μ)
      else
        if v3 = v4 then
          some ((-1), μ)
        else
          (fX10_takesUp v0 v1 v2 (-1) μ).bind fun (r10, μ10) =>
          if r10 = 0 then
            some ((-1), μ10)
          else
            chk (KD (μ10 r2 6) = 12 ∧ 0 ≤ v4 ∧ v4 < LN (μ10 r2 6)) (
            (fX10_leastFitting v0 r2 v3 v4 μ10).bind fun (r13, μ13) =>
            chk (KD (μ13 r2 6) = 12 ∧ v4 < LN (μ13 r2 6)) (
            lm (mst μ13 (μ13 r2 6) v4 (μ10 (μ10 r2 6) v4)) fun μ15 =>
            some (r13, μ15)))))
set_option maxRecDepth 20000 in
theorem gX10_lacks_0 (l : Launch) {F : FI} {v0 v1 v2 v3 v4 : Int} {μ : Mm} {t : (Int × Mm)} (h : fX10_lacks v0 v1 v2 v3 v4 μ = some t) (hK : F.1 = [(0, t.1)] ∧ F.2.1 = t.2) : GM l mX10_lacks F 0 0 0 [(0, (3, v0)), (1, (0, v1)), (2, (0, v2)), (3, (0, v3)), (4, (0, v4))] [] μ := by
  unfold fX10_lacks at h
  refine GM_aload_n (pc := 0) 0 rfl (daX10_lacks_0 0 rfl) rfl ?_
  refine GM_iload_n (pc := 1) 1 rfl (daX10_lacks_0 1 rfl) rfl ?_
  obtain ⟨hc1, h⟩ := chk_inv h
  obtain ⟨r2, hf2, h⟩ := Option.bind_eq_some_iff.mp h
  refine GM_callV0 (pc := 2) [(0, v1)] (tX10_landAt l hf2) cwX10_landAt 10 (Nat.le_of_ble_eq_true rfl) rfl kv_X10_landAt ke_X10_landAt km_X10_149 hc1 ⟨Nat.le_of_ble_eq_true rfl, Nat.le_of_ble_eq_true rfl⟩ (Nat.le_of_ble_eq_true rfl) (Nat.le_of_ble_eq_true rfl) (daX10_lacks_0 2 rfl) ?_
  refine GM_astore (L' := [(5, (3, r2)), (0, (3, v0)), (1, (0, v1)), (2, (0, v2)), (3, (0, v3)), (4, (0, v4))]) (pc := 5) (daX10_lacks_0 3 rfl) (Nat.le_of_ble_eq_true rfl) rfl ?_
  refine GM_aload (pc := 7) 0 rfl (daX10_lacks_0 4 rfl) ?_
  refine GM_ifnull (pc := 9) 47 (daX10_lacks_0 5 rfl) rfl (fun c3 => ?_) (fun c3 => ?_)
  · skip
    rw [if_pos c3] at h
    refine GM_iconst (pc := 47) (-1) (daX10_lacks_0 23 rfl) rfl (R32_b rfl) ?_
    cases h
    exact GM_iret (pc := 48) (daX10_lacks_0 24 rfl) rfl hK
  · skip
    rw [if_neg c3] at h
    refine GM_aload (pc := 12) 0 rfl (daX10_lacks_0 6 rfl) ?_
    refine GM_iload_n (pc := 14) 4 rfl (daX10_lacks_0 7 rfl) rfl ?_
    obtain ⟨hc4, h⟩ := chk_inv h
    obtain ⟨r5, hf5, h⟩ := Option.bind_eq_some_iff.mp h
    refine GM_callV0 (pc := 15) [(0, v3)] (tX2_has l hf5) cwX2_has 2 (Nat.le_of_ble_eq_true rfl) rfl kv_X2_has ke_X2_has km_X10_175 hc4 ⟨Nat.le_of_ble_eq_true rfl, Nat.le_of_ble_eq_true rfl⟩ (Nat.le_of_ble_eq_true rfl) (Nat.le_of_ble_eq_true rfl) (daX10_lacks_0 8 rfl) ?_
    refine GM_if_eq (pc := 18) 47 (daX10_lacks_0 9 rfl) rfl (fun c6 => ?_) (fun c6 => ?_)
    · skip
      rw [if_pos c6] at h
      refine GM_iconst (pc := 47) (-1) (daX10_lacks_0 23 rfl) rfl (R32_b rfl) ?_
      cases h
      exact GM_iret (pc := 48) (daX10_lacks_0 24 rfl) rfl hK
    · skip
      rw [if_neg c6] at h
      refine GM_aload (pc := 21) 0 rfl (daX10_lacks_0 10 rfl) ?_
      refine GM_iload (pc := 23) 5 rfl (daX10_lacks_0 11 rfl) ?_
      obtain ⟨r7, hf7, h⟩ := Option.bind_eq_some_iff.mp h
      refine GM_callV0 (pc := 25) [(0, v4)] (tX2_has l hf7) cwX2_has 2 (Nat.le_of_ble_eq_true rfl) rfl kv_X2_has ke_X2_has km_X10_175 hc4 ⟨Nat.le_of_ble_eq_true rfl, Nat.le_of_ble_eq_true rfl⟩ (Nat.le_of_ble_eq_true rfl) (Nat.le_of_ble_eq_true rfl) (daX10_lacks_0 12 rfl) ?_
      refine GM_if_eq (pc := 28) 47 (daX10_lacks_0 13 rfl) rfl (fun c8 => ?_) (fun c8 => ?_)
      · skip
        rw [if_pos c8] at h
        refine GM_iconst (pc := 47) (-1) (daX10_lacks_0 23 rfl) rfl (R32_b rfl) ?_
        cases h
        exact GM_iret (pc := 48) (daX10_lacks_0 24 rfl) rfl hK
      · skip
        rw [if_neg c8] at h
        refine GM_iload_n (pc := 31) 4 rfl (daX10_lacks_0 14 rfl) rfl ?_
        refine GM_iload (pc := 32) 5 rfl (daX10_lacks_0 15 rfl) ?_
        refine GM_icmp_eq (pc := 34) 47 (daX10_lacks_0 16 rfl) rfl (fun c9 => ?_) (fun c9 => ?_)
        · skip
          rw [if_pos c9] at h
          refine GM_iconst (pc := 47) (-1) (daX10_lacks_0 23 rfl) rfl (R32_b rfl) ?_
          cases h
          exact GM_iret (pc := 48) (daX10_lacks_0 24 rfl) rfl hK
        · skip
          rw [if_neg c9] at h
          refine GM_aload_n (pc := 37) 1 rfl (daX10_lacks_0 17 rfl) rfl ?_
          refine GM_iload_n (pc := 38) 2 rfl (daX10_lacks_0 18 rfl) rfl ?_
          refine GM_iload_n (pc := 39) 3 rfl (daX10_lacks_0 19 rfl) rfl ?_
          refine GM_iconst (pc := 40) (-1) (daX10_lacks_0 20 rfl) rfl (R32_b rfl) ?_
          obtain ⟨⟨r10, μ10⟩, hf10, h⟩ := Option.bind_eq_some_iff.mp h
          dsimp only at h
          refine GM_callV0 (pc := 41) [(0, v1), (0, v2), (0, (-1))] (tX10_takesUp l hf10) cwX10_takesUp 10 (Nat.le_of_ble_eq_true rfl) rfl kv_X10_takesUp ke_X10_takesUp km_X10_298 hc1 ⟨Nat.le_of_ble_eq_true rfl, Nat.le_of_ble_eq_true rfl⟩ (Nat.le_of_ble_eq_true rfl) (Nat.le_of_ble_eq_true rfl) (daX10_lacks_0 21 rfl) ?_
          refine GM_if_ne (pc := 44) 49 (daX10_lacks_0 22 rfl) rfl (fun c11 => ?_) (fun c11 => ?_)
          · skip
            rw [if_neg c11] at h
            refine GM_aload (pc := 49) 0 rfl (daX10_lacks_0 25 rfl) ?_
            refine GM_getf (pc := 51) 2 6 3 6 kf_X10_179 (Nat.le_of_ble_eq_true rfl) (Nat.le_of_ble_eq_true rfl) rfl (daX10_lacks_0 26 rfl) hc4 rfl ?_
            refine GM_iload (pc := 54) 5 rfl (daX10_lacks_0 27 rfl) ?_
            obtain ⟨hc12, h⟩ := chk_inv h
            refine GM_iald (pc := 56) (daX10_lacks_0 28 rfl) hc12.1 hc12.2.1 hc12.2.2 ?_
            refine GM_istore (L' := [(6, (0, μ10 (μ10 r2 6) v4)), (5, (3, r2)), (0, (3, v0)), (1, (0, v1)), (2, (0, v2)), (3, (0, v3)), (4, (0, v4))]) (pc := 57) (daX10_lacks_0 29 rfl) (Nat.le_of_ble_eq_true rfl) rfl ?_
            refine GM_aload_n (pc := 59) 2 rfl (daX10_lacks_0 30 rfl) rfl ?_
            refine GM_aload (pc := 60) 1 rfl (daX10_lacks_0 31 rfl) ?_
            refine GM_iload_n (pc := 62) 5 rfl (daX10_lacks_0 32 rfl) rfl ?_
            refine GM_iload (pc := 63) 6 rfl (daX10_lacks_0 33 rfl) ?_
            obtain ⟨⟨r13, μ13⟩, hf13, h⟩ := Option.bind_eq_some_iff.mp h
            dsimp only at h
            refine GM_callV0 (pc := 65) [(3, r2), (0, v3), (0, v4)] (tX10_leastFitting l hf13) cwX10_leastFitting 10 (Nat.le_of_ble_eq_true rfl) rfl kv_X10_leastFitting ke_X10_leastFitting km_X10_357 hc1 ⟨Nat.le_of_ble_eq_true rfl, Nat.le_of_ble_eq_true rfl⟩ (Nat.le_of_ble_eq_true rfl) (Nat.le_of_ble_eq_true rfl) (daX10_lacks_0 34 rfl) ?_
            refine GM_istore (L' := [(7, (0, r13)), (6, (0, μ10 (μ10 r2 6) v4)), (5, (3, r2)), (0, (3, v0)), (1, (0, v1)), (2, (0, v2)), (3, (0, v3)), (4, (0, v4))]) (pc := 68) (daX10_lacks_0 35 rfl) (Nat.le_of_ble_eq_true rfl) rfl ?_
            refine GM_aload (pc := 70) 2 rfl (daX10_lacks_0 36 rfl) ?_
            refine GM_getf (pc := 72) 2 6 3 6 kf_X10_179 (Nat.le_of_ble_eq_true rfl) (Nat.le_of_ble_eq_true rfl) rfl (daX10_lacks_0 37 rfl) hc4 rfl ?_
            refine GM_iload (pc := 75) 7 rfl (daX10_lacks_0 38 rfl) ?_
            refine GM_iload (pc := 77) 1 rfl (daX10_lacks_0 39 rfl) ?_
            obtain ⟨hc14, h⟩ := chk_inv h
            obtain ⟨μ15, hμ15, h⟩ := lm_inv h
            refine GM_iast (pc := 79) (daX10_lacks_0 40 rfl) hc14.1 hc12.2.1 hc14.2 ?_
            refine GM_mem hμ15 ?_
            refine GM_iload (pc := 80) 0 rfl (daX10_lacks_0 41 rfl) ?_
            cases h
            exact GM_iret (pc := 82) (daX10_lacks_0 42 rfl) rfl hK
          · skip
            rw [if_pos c11] at h
            refine GM_iconst (pc := 47) (-1) (daX10_lacks_0 23 rfl) rfl (R32_b rfl) ?_
            cases h
            exact GM_iret (pc := 48) (daX10_lacks_0 24 rfl) rfl hK
theorem tX10_lacks (l : Launch) {v0 v1 v2 v3 v4 : Int} {μ : Mm} {t : (Int × Mm)} (h : fX10_lacks v0 v1 v2 v3 v4 μ = some t) : Ct l yX10_lacks mX10_lacks [(3, v0), (0, v1), (0, v2), (0, v3), (0, v4)] μ ([(0, t.1)], t.2, 0, 0) :=
  Ct_of (by decide +kernel) rfl rfl (Nat.le_of_ble_eq_true rfl) (fun _ _ _ => trivial) (gX10_lacks_0 l h ⟨rfl, rfl⟩)
def mX10_pairs : MI := (RX10, cX10_pairs, 9, (some .int), "pairs", 7, 167, fun _ _ _ => True)
theorem cwX10_pairs : CWd yX10_pairs mX10_pairs 4 := ⟨ki_X10, kk_X10_pairs, ⟨by decide, by decide⟩, rfl⟩
def dtX10_pairs_0 : List (Nat × Instr × Nat) := [(0, .aload_n 0, 1), (1, .iload_n 1, 1), (2, .invokevirtual 149, 3), (5, .astore 5, 2), (7, .aload 5, 2), (9, .ifnull 16, 3), (12, .iload 4, 2), (14, .ifCond .lt 11, 3), (17, .iload 4, 2), (19, .sipush 999, 3), (22, .if_icmp .le 5, 3), (25, .iconst (-1), 1), (26, .ireturn, 1), (27, .aload_n 0, 1), (28, .iload_n 1, 1), (29, .iload_n 2, 1), (30, .iconst (-1), 1), (31, .aload_n 0, 1), (32, .getfield 68, 3), (35, .invokevirtual 315, 3), (38, .ifCond .eq 17, 3), (41, .aload_n 0, 1), (42, .iload_n 1, 1), (43, .iload_n 3, 1), (44, .iconst (-1), 1), (45, .aload_n 0, 1), (46, .getfield 72, 3), (49, .invokevirtual 315, 3), (52, .ifCond .ne 5, 3), (55, .iconst (-1), 1), (56, .ireturn, 1), (57, .iconst 0, 1), (58, .istore 6, 2), (60, .iconst 0, 1), (61, .istore 7, 2), (63, .iload 7, 2), (65, .aload 5, 2), (67, .invokevirtual 266, 3), (70, .if_icmp .ge 65, 3), (73, .iconst 0, 1), (74, .istore 8, 2), (76, .iload 8, 2), (78, .aload 5, 2), (80, .invokevirtual 266, 3), (83, .if_icmp .ge 46, 3), (86, .aload_n 0, 1), (87, .getfield 68, 3), (90, .iload 7, 2), (92, .baload, 1), (93, .ifCond .eq 36, 3), (96, .aload_n 0, 1), (97, .getfield 72, 3), (100, .iload 8, 2), (102, .baload, 1), (103, .ifCond .eq 20, 3), (106, .aload 5, 2), (108, .iload 7, 2), (110, .iload 8, 2), (112, .invokevirtual 229, 3), (115, .iload 4, 2), (117, .if_icmp .gt 6, 3), (120, .iinc 6 1, 3), (123, .iinc 8 1, 3), (126, .goto (-50), 3)]
theorem ddX10_pairs_0 : (dtX10_pairs_0.all fun e => decide (decode mX10_pairs.2.1 e.1 = .ok (e.2.1, e.2.2))) = true := by decide +kernel
theorem daX10_pairs_0 (j : Nat) {pc n : Nat} {i : Instr} (h : dtX10_pairs_0[j]? = some (pc, i, n)) : decode mX10_pairs.2.1 pc = .ok (i, n) := dec_of (c := mX10_pairs.2.1) ddX10_pairs_0 h
def dtX10_pairs_1 : List (Nat × Instr × Nat) := [(129, .iinc 7 1, 3), (132, .goto (-69), 3), (135, .iload 6, 2), (137, .ireturn, 1)]
theorem ddX10_pairs_1 : (dtX10_pairs_1.all fun e => decide (decode mX10_pairs.2.1 e.1 = .ok (e.2.1, e.2.2))) = true := by decide +kernel
theorem daX10_pairs_1 (j : Nat) {pc n : Nat} {i : Instr} (h : dtX10_pairs_1[j]? = some (pc, i, n)) : decode mX10_pairs.2.1 pc = .ok (i, n) := dec_of (c := mX10_pairs.2.1) ddX10_pairs_1 h
def zX10_pairs_76 (l : Launch) (F : FI) (v0 v4 v5 v7 : Int) (μ : Mm) (k n : Nat) : (Int × Int) ⊕ Int → Prop
  | .inl (v6, v8) => GM l mX10_pairs F k n 76 [(0, (3, v0)), (4, (0, v4)), (5, (3, v5)), (6, (0, v6)), (7, (0, v7)), (8, (0, v8))] [] μ
  | .inr v6 => GM l mX10_pairs F k n 129 [(0, (3, v0)), (4, (0, v4)), (5, (3, v5)), (6, (0, v6)), (7, (0, v7))] [] μ
def sX10_pairs_76 (v0 v4 v5 v7 : Int) (μ : Mm) : (Int × Int) → Option ((Int × Int) ⊕ Int) := fun (v6, v8) =>
  chk (KD v5 = 2) (
  (fX2_places v5 μ).bind fun r2 =>
  if r2 ≤ v8 then
    some (.inr v6)
  else
    chk (KD v0 = 10) (
    chk (KD (μ v0 9) = 14 ∧ 0 ≤ v7 ∧ v7 < LN (μ v0 9)) (
    if μ (μ v0 9) v7 = 0 then
      some (.inr v6)
    else
      chk (KD (μ v0 10) = 14 ∧ 0 ≤ v8 ∧ v8 < LN (μ v0 10)) (
      if μ (μ v0 10) v8 = 0 then
        some (.inl (v6, w32 (v8 + 1)))
      else
        (fX2_apart v5 v7 v8 μ).bind fun r9 =>
        if v4 < r9 then
          some (.inl (v6, w32 (v8 + 1)))
        else
          some (.inl (w32 (v6 + 1), w32 (v8 + 1)))))))
def zX10_pairs_63 (l : Launch) (F : FI) (v0 v4 v5 : Int) (μ : Mm) (k n : Nat) : (Int × Int) ⊕ Int → Prop
  | .inl (v6, v7) => GM l mX10_pairs F k n 63 [(0, (3, v0)), (4, (0, v4)), (5, (3, v5)), (6, (0, v6)), (7, (0, v7))] [] μ
  | .inr v6 => GM l mX10_pairs F k n 135 [(6, (0, v6))] [] μ
def sX10_pairs_63 (v0 v4 v5 : Int) (μ : Mm) : (Int × Int) → Option ((Int × Int) ⊕ Int) := fun (v6, v7) =>
  chk (KD v5 = 2) (
  (fX2_places v5 μ).bind fun r12 =>
  if r12 ≤ v7 then
    some (.inr v6)
  else
    (lop (sX10_pairs_76 v0 v4 v5 v7 μ) FU (v6, 0)).bind fun v6_15 =>
      some (.inl (v6_15, w32 (v7 + 1))))
def fX10_pairs (v0 v1 v2 v3 v4 : Int) (μ : Mm) : Option ((Int × Mm) × Nat × Nat) :=
  chk (KD v0 = 10) (
  (fX10_landAt v0 v1 μ).bind fun r17 =>
  if r17 = 0 then
    some (((-1), μ), 0, 0)
  else
    if v4 < 0 then
      some (((-1), μ), 0, 0)
    else
      if v4 ≤ 999 then
        (fX10_marksFitting v0 v1 v2 (-1) (μ v0 9) μ).bind fun ((r21, μ21), c21, n21) =>
        pay c21 n21 (
        if r21 = 0 then
          some (((-1), μ21), 0, 0)
        else
          (fX10_marksFitting v0 v1 v3 (-1) (μ21 v0 10) μ21).bind fun ((r24, μ24), c24, n24) =>
          pay c24 n24 (
          if r24 = 0 then
            some (((-1), μ24), 0, 0)
          else
            (lop (sX10_pairs_63 v0 v4 r17 μ24) FU (0, 0)).bind fun v6_28 =>
              some ((v6_28, μ24), 0, 0)))
      else
        some (((-1), μ), 0, 0))
set_option maxRecDepth 20000 in
theorem qX10_pairs_76 (l : Launch) (F : FI) (v0 v4 v5 v7 : Int) (μ : Mm) (k n : Nat) : ∀ (q : (Int × Int)) (t : ((Int × Int) ⊕ Int)), sX10_pairs_76 v0 v4 v5 v7 μ q = some t → zX10_pairs_76 l F v0 v4 v5 v7 μ k n t → zX10_pairs_76 l F v0 v4 v5 v7 μ k n (.inl q) := by
  intro q t h hK
  obtain ⟨v6, v8⟩ := q
  unfold sX10_pairs_76 at h
  try dsimp only at h
  show GM l mX10_pairs F k n 76 [(0, (3, v0)), (4, (0, v4)), (5, (3, v5)), (6, (0, v6)), (7, (0, v7)), (8, (0, v8))] [] μ
  refine GM_iload (pc := 76) 5 rfl (daX10_pairs_0 41 rfl) ?_
  refine GM_aload (pc := 78) 2 rfl (daX10_pairs_0 42 rfl) ?_
  obtain ⟨hc1, h⟩ := chk_inv h
  obtain ⟨r2, hf2, h⟩ := Option.bind_eq_some_iff.mp h
  refine GM_callV0 (pc := 80) [] (tX2_places l hf2) cwX2_places 2 (Nat.le_of_ble_eq_true rfl) rfl kv_X2_places ke_X2_places km_X10_266 hc1 ⟨Nat.le_of_ble_eq_true rfl, Nat.le_of_ble_eq_true rfl⟩ (Nat.le_of_ble_eq_true rfl) (Nat.le_of_ble_eq_true rfl) (daX10_pairs_0 43 rfl) ?_
  refine GM_icmp_ge (pc := 83) 129 (daX10_pairs_0 44 rfl) rfl (fun c3 => ?_) (fun c3 => ?_)
  · skip
    rw [if_pos c3] at h
    refine GM_pick [0, 1, 2, 3, 4] rfl ?_
    cases h
    exact hK
  · skip
    rw [if_neg c3] at h
    refine GM_aload_n (pc := 86) 0 rfl (daX10_pairs_0 45 rfl) rfl ?_
    obtain ⟨hc4, h⟩ := chk_inv h
    refine GM_getf (pc := 87) 10 9 3 9 kf_X10_68 (Nat.le_of_ble_eq_true rfl) (Nat.le_of_ble_eq_true rfl) rfl (daX10_pairs_0 46 rfl) hc4 rfl ?_
    refine GM_iload (pc := 90) 4 rfl (daX10_pairs_0 47 rfl) ?_
    obtain ⟨hc5, h⟩ := chk_inv h
    refine GM_zald (pc := 92) (daX10_pairs_0 48 rfl) hc5.1 hc5.2.1 hc5.2.2 ?_
    refine GM_if_eq (pc := 93) 129 (daX10_pairs_0 49 rfl) rfl (fun c6 => ?_) (fun c6 => ?_)
    · skip
      rw [if_pos c6] at h
      refine GM_pick [0, 1, 2, 3, 4] rfl ?_
      cases h
      exact hK
    · skip
      rw [if_neg c6] at h
      refine GM_aload_n (pc := 96) 0 rfl (daX10_pairs_0 50 rfl) rfl ?_
      refine GM_getf (pc := 97) 10 10 3 10 kf_X10_72 (Nat.le_of_ble_eq_true rfl) (Nat.le_of_ble_eq_true rfl) rfl (daX10_pairs_0 51 rfl) hc4 rfl ?_
      refine GM_iload (pc := 100) 5 rfl (daX10_pairs_0 52 rfl) ?_
      obtain ⟨hc7, h⟩ := chk_inv h
      refine GM_zald (pc := 102) (daX10_pairs_0 53 rfl) hc7.1 hc7.2.1 hc7.2.2 ?_
      refine GM_if_eq (pc := 103) 123 (daX10_pairs_0 54 rfl) rfl (fun c8 => ?_) (fun c8 => ?_)
      · skip
        rw [if_pos c8] at h
        refine GM_iinc (L' := [(8, (0, w32 (v8 + 1))), (0, (3, v0)), (4, (0, v4)), (5, (3, v5)), (6, (0, v6)), (7, (0, v7))]) (pc := 123) 5 rfl (daX10_pairs_0 62 rfl) (Nat.le_of_ble_eq_true rfl) rfl ?_
        refine GM_goto (pc := 126) 76 (daX10_pairs_0 63 rfl) rfl ?_
        refine GM_pick [1, 2, 3, 4, 5, 0] rfl ?_
        cases h
        exact hK
      · skip
        rw [if_neg c8] at h
        refine GM_aload (pc := 106) 2 rfl (daX10_pairs_0 55 rfl) ?_
        refine GM_iload (pc := 108) 4 rfl (daX10_pairs_0 56 rfl) ?_
        refine GM_iload (pc := 110) 5 rfl (daX10_pairs_0 57 rfl) ?_
        obtain ⟨r9, hf9, h⟩ := Option.bind_eq_some_iff.mp h
        refine GM_callV0 (pc := 112) [(0, v7), (0, v8)] (tX2_apart l hf9) cwX2_apart 2 (Nat.le_of_ble_eq_true rfl) rfl kv_X2_apart ke_X2_apart km_X10_229 hc1 ⟨Nat.le_of_ble_eq_true rfl, Nat.le_of_ble_eq_true rfl⟩ (Nat.le_of_ble_eq_true rfl) (Nat.le_of_ble_eq_true rfl) (daX10_pairs_0 58 rfl) ?_
        refine GM_iload (pc := 115) 1 rfl (daX10_pairs_0 59 rfl) ?_
        refine GM_icmp_gt (pc := 117) 123 (daX10_pairs_0 60 rfl) rfl (fun c10 => ?_) (fun c10 => ?_)
        · skip
          rw [if_pos c10] at h
          refine GM_iinc (L' := [(8, (0, w32 (v8 + 1))), (0, (3, v0)), (4, (0, v4)), (5, (3, v5)), (6, (0, v6)), (7, (0, v7))]) (pc := 123) 5 rfl (daX10_pairs_0 62 rfl) (Nat.le_of_ble_eq_true rfl) rfl ?_
          refine GM_goto (pc := 126) 76 (daX10_pairs_0 63 rfl) rfl ?_
          refine GM_pick [1, 2, 3, 4, 5, 0] rfl ?_
          cases h
          exact hK
        · skip
          rw [if_neg c10] at h
          refine GM_iinc (L' := [(6, (0, w32 (v6 + 1))), (0, (3, v0)), (4, (0, v4)), (5, (3, v5)), (7, (0, v7)), (8, (0, v8))]) (pc := 120) 3 rfl (daX10_pairs_0 61 rfl) (Nat.le_of_ble_eq_true rfl) rfl ?_
          refine GM_iinc (L' := [(8, (0, w32 (v8 + 1))), (6, (0, w32 (v6 + 1))), (0, (3, v0)), (4, (0, v4)), (5, (3, v5)), (7, (0, v7))]) (pc := 123) 5 rfl (daX10_pairs_0 62 rfl) (Nat.le_of_ble_eq_true rfl) rfl ?_
          refine GM_goto (pc := 126) 76 (daX10_pairs_0 63 rfl) rfl ?_
          refine GM_pick [2, 3, 4, 1, 5, 0] rfl ?_
          cases h
          exact hK
set_option maxRecDepth 20000 in
theorem qX10_pairs_63 (l : Launch) (F : FI) (v0 v4 v5 : Int) (μ : Mm) (k n : Nat) : ∀ (q : (Int × Int)) (t : ((Int × Int) ⊕ Int)), sX10_pairs_63 v0 v4 v5 μ q = some t → zX10_pairs_63 l F v0 v4 v5 μ k n t → zX10_pairs_63 l F v0 v4 v5 μ k n (.inl q) := by
  intro q t h hK
  obtain ⟨v6, v7⟩ := q
  unfold sX10_pairs_63 at h
  try dsimp only at h
  show GM l mX10_pairs F k n 63 [(0, (3, v0)), (4, (0, v4)), (5, (3, v5)), (6, (0, v6)), (7, (0, v7))] [] μ
  refine GM_iload (pc := 63) 4 rfl (daX10_pairs_0 35 rfl) ?_
  refine GM_aload (pc := 65) 2 rfl (daX10_pairs_0 36 rfl) ?_
  obtain ⟨hc11, h⟩ := chk_inv h
  obtain ⟨r12, hf12, h⟩ := Option.bind_eq_some_iff.mp h
  refine GM_callV0 (pc := 67) [] (tX2_places l hf12) cwX2_places 2 (Nat.le_of_ble_eq_true rfl) rfl kv_X2_places ke_X2_places km_X10_266 hc11 ⟨Nat.le_of_ble_eq_true rfl, Nat.le_of_ble_eq_true rfl⟩ (Nat.le_of_ble_eq_true rfl) (Nat.le_of_ble_eq_true rfl) (daX10_pairs_0 37 rfl) ?_
  refine GM_icmp_ge (pc := 70) 135 (daX10_pairs_0 38 rfl) rfl (fun c13 => ?_) (fun c13 => ?_)
  · skip
    rw [if_pos c13] at h
    refine GM_pick [3] rfl ?_
    cases h
    exact hK
  · skip
    rw [if_neg c13] at h
    refine GM_iconst (pc := 73) 0 (daX10_pairs_0 39 rfl) rfl (R32_b rfl) ?_
    refine GM_istore (L' := [(8, (0, 0)), (0, (3, v0)), (4, (0, v4)), (5, (3, v5)), (6, (0, v6)), (7, (0, v7))]) (pc := 74) (daX10_pairs_0 40 rfl) (Nat.le_of_ble_eq_true rfl) rfl ?_
    refine GM_pick [1, 2, 3, 4, 5, 0] rfl ?_
    obtain ⟨x14, hqx14, h⟩ := Option.bind_eq_some_iff.mp h
    refine lop_ind (zX10_pairs_76 l F v0 v4 v5 v7 μ k n) (qX10_pairs_76 l F v0 v4 v5 v7 μ k n) FU _ x14 hqx14 ?_
    obtain ⟨v6_15, hqq⟩ : ∃ z, z = x14 := ⟨x14, rfl⟩
    subst hqq
    show GM l mX10_pairs F k n 129 [(0, (3, v0)), (4, (0, v4)), (5, (3, v5)), (6, (0, v6_15)), (7, (0, v7))] [] μ
    refine GM_iinc (L' := [(7, (0, w32 (v7 + 1))), (0, (3, v0)), (4, (0, v4)), (5, (3, v5)), (6, (0, v6_15))]) (pc := 129) 4 rfl (daX10_pairs_1 0 rfl) (Nat.le_of_ble_eq_true rfl) rfl ?_
    refine GM_goto (pc := 132) 63 (daX10_pairs_1 1 rfl) rfl ?_
    refine GM_pick [1, 2, 3, 4, 0] rfl ?_
    cases h
    exact hK
set_option maxRecDepth 20000 in
theorem gX10_pairs_0 (l : Launch) {F : FI} {v0 v1 v2 v3 v4 : Int} {μ : Mm} {t : (Int × Mm)} {c0 n0 k n : Nat} (h : fX10_pairs v0 v1 v2 v3 v4 μ = some (t, c0, n0)) (hK : F.1 = [(0, t.1)] ∧ F.2.1 = t.2) : GM l mX10_pairs F (c0 + k) (n0 + n) 0 [(0, (3, v0)), (1, (0, v1)), (2, (0, v2)), (3, (0, v3)), (4, (0, v4))] [] μ := by
  unfold fX10_pairs at h
  refine GM_aload_n (pc := 0) 0 rfl (daX10_pairs_0 0 rfl) rfl ?_
  refine GM_iload_n (pc := 1) 1 rfl (daX10_pairs_0 1 rfl) rfl ?_
  obtain ⟨hc16, h⟩ := chk_inv h
  obtain ⟨r17, hf17, h⟩ := Option.bind_eq_some_iff.mp h
  refine GM_callV0 (pc := 2) [(0, v1)] (tX10_landAt l hf17) cwX10_landAt 10 (Nat.le_of_ble_eq_true rfl) rfl kv_X10_landAt ke_X10_landAt km_X10_149 hc16 ⟨Nat.le_of_ble_eq_true rfl, Nat.le_of_ble_eq_true rfl⟩ (Nat.le_of_ble_eq_true rfl) (Nat.le_of_ble_eq_true rfl) (daX10_pairs_0 2 rfl) ?_
  refine GM_astore (L' := [(5, (3, r17)), (0, (3, v0)), (1, (0, v1)), (2, (0, v2)), (3, (0, v3)), (4, (0, v4))]) (pc := 5) (daX10_pairs_0 3 rfl) (Nat.le_of_ble_eq_true rfl) rfl ?_
  refine GM_aload (pc := 7) 0 rfl (daX10_pairs_0 4 rfl) ?_
  refine GM_ifnull (pc := 9) 25 (daX10_pairs_0 5 rfl) rfl (fun c18 => ?_) (fun c18 => ?_)
  · skip
    rw [if_pos c18] at h
    refine GM_iconst (pc := 25) (-1) (daX10_pairs_0 11 rfl) rfl (R32_b rfl) ?_
    cases h
    exact GM_iret (pc := 26) (daX10_pairs_0 12 rfl) rfl hK
  · skip
    rw [if_neg c18] at h
    refine GM_iload (pc := 12) 5 rfl (daX10_pairs_0 6 rfl) ?_
    refine GM_if_lt (pc := 14) 25 (daX10_pairs_0 7 rfl) rfl (fun c19 => ?_) (fun c19 => ?_)
    · skip
      rw [if_pos c19] at h
      refine GM_iconst (pc := 25) (-1) (daX10_pairs_0 11 rfl) rfl (R32_b rfl) ?_
      cases h
      exact GM_iret (pc := 26) (daX10_pairs_0 12 rfl) rfl hK
    · skip
      rw [if_neg c19] at h
      refine GM_iload (pc := 17) 5 rfl (daX10_pairs_0 8 rfl) ?_
      refine GM_sipush (pc := 19) 999 (daX10_pairs_0 9 rfl) rfl (R32_b rfl) ?_
      refine GM_icmp_le (pc := 22) 27 (daX10_pairs_0 10 rfl) rfl (fun c20 => ?_) (fun c20 => ?_)
      · skip
        rw [if_pos c20] at h
        refine GM_aload_n (pc := 27) 1 rfl (daX10_pairs_0 13 rfl) rfl ?_
        refine GM_iload_n (pc := 28) 2 rfl (daX10_pairs_0 14 rfl) rfl ?_
        refine GM_iload_n (pc := 29) 3 rfl (daX10_pairs_0 15 rfl) rfl ?_
        refine GM_iconst (pc := 30) (-1) (daX10_pairs_0 16 rfl) rfl (R32_b rfl) ?_
        refine GM_aload_n (pc := 31) 1 rfl (daX10_pairs_0 17 rfl) rfl ?_
        refine GM_getf (pc := 32) 10 9 3 9 kf_X10_68 (Nat.le_of_ble_eq_true rfl) (Nat.le_of_ble_eq_true rfl) rfl (daX10_pairs_0 18 rfl) hc16 rfl ?_
        obtain ⟨⟨⟨r21, μ21⟩, c21, n21⟩, hf21, h⟩ := Option.bind_eq_some_iff.mp h
        dsimp only at h
        obtain ⟨c22, n22, hp, e1, e2⟩ := pay_inv h
        subst e1 e2
        replace h := hp
        clear hp
        rw [Nat.add_assoc, Nat.add_assoc]
        refine GM_callV (pc := 35) [(0, v1), (0, v2), (0, (-1)), (3, μ v0 9)] (tX10_marksFitting l hf21) cwX10_marksFitting 10 (Nat.le_of_ble_eq_true rfl) rfl kv_X10_marksFitting ke_X10_marksFitting km_X10_315 hc16 ⟨Nat.le_of_ble_eq_true rfl, Nat.le_of_ble_eq_true rfl⟩ (Nat.le_of_ble_eq_true rfl) (Nat.le_of_ble_eq_true rfl) (daX10_pairs_0 19 rfl) ?_
        refine GM_if_eq (pc := 38) 55 (daX10_pairs_0 20 rfl) rfl (fun c23 => ?_) (fun c23 => ?_)
        · skip
          rw [if_pos c23] at h
          refine GM_iconst (pc := 55) (-1) (daX10_pairs_0 29 rfl) rfl (R32_b rfl) ?_
          cases h
          exact GM_iret (pc := 56) (daX10_pairs_0 30 rfl) rfl hK
        · skip
          rw [if_neg c23] at h
          refine GM_aload_n (pc := 41) 1 rfl (daX10_pairs_0 21 rfl) rfl ?_
          refine GM_iload_n (pc := 42) 2 rfl (daX10_pairs_0 22 rfl) rfl ?_
          refine GM_iload_n (pc := 43) 4 rfl (daX10_pairs_0 23 rfl) rfl ?_
          refine GM_iconst (pc := 44) (-1) (daX10_pairs_0 24 rfl) rfl (R32_b rfl) ?_
          refine GM_aload_n (pc := 45) 1 rfl (daX10_pairs_0 25 rfl) rfl ?_
          refine GM_getf (pc := 46) 10 10 3 10 kf_X10_72 (Nat.le_of_ble_eq_true rfl) (Nat.le_of_ble_eq_true rfl) rfl (daX10_pairs_0 26 rfl) hc16 rfl ?_
          obtain ⟨⟨⟨r24, μ24⟩, c24, n24⟩, hf24, h⟩ := Option.bind_eq_some_iff.mp h
          dsimp only at h
          obtain ⟨c25, n25, hp, e1, e2⟩ := pay_inv h
          subst e1 e2
          replace h := hp
          clear hp
          rw [Nat.add_assoc, Nat.add_assoc]
          refine GM_callV (pc := 49) [(0, v1), (0, v3), (0, (-1)), (3, μ21 v0 10)] (tX10_marksFitting l hf24) cwX10_marksFitting 10 (Nat.le_of_ble_eq_true rfl) rfl kv_X10_marksFitting ke_X10_marksFitting km_X10_315 hc16 ⟨Nat.le_of_ble_eq_true rfl, Nat.le_of_ble_eq_true rfl⟩ (Nat.le_of_ble_eq_true rfl) (Nat.le_of_ble_eq_true rfl) (daX10_pairs_0 27 rfl) ?_
          refine GM_if_ne (pc := 52) 57 (daX10_pairs_0 28 rfl) rfl (fun c26 => ?_) (fun c26 => ?_)
          · skip
            rw [if_neg c26] at h
            refine GM_iconst (pc := 57) 0 (daX10_pairs_0 31 rfl) rfl (R32_b rfl) ?_
            refine GM_istore (L' := [(6, (0, 0)), (5, (3, r17)), (0, (3, v0)), (1, (0, v1)), (2, (0, v2)), (3, (0, v3)), (4, (0, v4))]) (pc := 58) (daX10_pairs_0 32 rfl) (Nat.le_of_ble_eq_true rfl) rfl ?_
            refine GM_iconst (pc := 60) 0 (daX10_pairs_0 33 rfl) rfl (R32_b rfl) ?_
            refine GM_istore (L' := [(7, (0, 0)), (6, (0, 0)), (5, (3, r17)), (0, (3, v0)), (1, (0, v1)), (2, (0, v2)), (3, (0, v3)), (4, (0, v4))]) (pc := 61) (daX10_pairs_0 34 rfl) (Nat.le_of_ble_eq_true rfl) rfl ?_
            refine GM_pick [3, 7, 2, 1, 0] rfl ?_
            obtain ⟨x27, hqx27, h⟩ := Option.bind_eq_some_iff.mp h
            refine lop_ind (zX10_pairs_63 l F v0 v4 r17 μ24 (c25 + k) (n25 + n)) (qX10_pairs_63 l F v0 v4 r17 μ24 (c25 + k) (n25 + n)) FU _ x27 hqx27 ?_
            obtain ⟨v6_28, hqq⟩ : ∃ z, z = x27 := ⟨x27, rfl⟩
            subst hqq
            show GM l mX10_pairs F (c25 + k) (n25 + n) 135 [(6, (0, v6_28))] [] μ24
            refine GM_iload (pc := 135) 0 rfl (daX10_pairs_1 2 rfl) ?_
            cases h
            exact GM_iret (pc := 137) (daX10_pairs_1 3 rfl) rfl hK
          · skip
            rw [if_pos c26] at h
            refine GM_iconst (pc := 55) (-1) (daX10_pairs_0 29 rfl) rfl (R32_b rfl) ?_
            cases h
            exact GM_iret (pc := 56) (daX10_pairs_0 30 rfl) rfl hK
      · skip
        rw [if_neg c20] at h
        refine GM_iconst (pc := 25) (-1) (daX10_pairs_0 11 rfl) rfl (R32_b rfl) ?_
        cases h
        exact GM_iret (pc := 26) (daX10_pairs_0 12 rfl) rfl hK
theorem tX10_pairs (l : Launch) {v0 v1 v2 v3 v4 : Int} {μ : Mm} {t : (Int × Mm)} {c0 n0 : Nat} (h : fX10_pairs v0 v1 v2 v3 v4 μ = some (t, c0, n0)) : Ct l yX10_pairs mX10_pairs [(3, v0), (0, v1), (0, v2), (0, v3), (0, v4)] μ ([(0, t.1)], t.2, c0, n0) :=
  Ct_of (by decide +kernel) rfl rfl (Nat.le_of_ble_eq_true rfl) (fun _ _ _ => trivial) (gX10_pairs_0 (k := 0) (n := 0) l h ⟨rfl, rfl⟩)
def mX10_way : MI := (RX10, cX10_way, 7, (some .int), "way", 7, 167, fun _ _ _ => True)
theorem cwX10_way : CWd yX10_way mX10_way 4 := ⟨ki_X10, kk_X10_way, ⟨by decide, by decide⟩, rfl⟩
def dtX10_way_0 : List (Nat × Instr × Nat) := [(0, .aload_n 0, 1), (1, .iload_n 1, 1), (2, .invokevirtual 149, 3), (5, .astore 5, 2), (7, .aload 5, 2), (9, .ifnull 16, 3), (12, .iload 4, 2), (14, .ifCond .lt 11, 3), (17, .iload 4, 2), (19, .sipush 999, 3), (22, .if_icmp .le 5, 3), (25, .iconst (-1), 1), (26, .ireturn, 1), (27, .aload_n 0, 1), (28, .iload_n 1, 1), (29, .iload_n 2, 1), (30, .iconst (-1), 1), (31, .aload_n 0, 1), (32, .getfield 68, 3), (35, .invokevirtual 315, 3), (38, .ifCond .eq 17, 3), (41, .aload_n 0, 1), (42, .iload_n 1, 1), (43, .iload_n 3, 1), (44, .iconst (-1), 1), (45, .aload_n 0, 1), (46, .getfield 72, 3), (49, .invokevirtual 315, 3), (52, .ifCond .ne 5, 3), (55, .iconst (-1), 1), (56, .ireturn, 1), (57, .aload_n 0, 1), (58, .getfield 64, 3), (61, .aload 5, 2), (63, .iload 4, 2), (65, .invokevirtual 368, 3), (68, .iconst 0, 1), (69, .istore 6, 2), (71, .iload 6, 2), (73, .aload 5, 2), (75, .invokevirtual 266, 3), (78, .if_icmp .ge 28, 3), (81, .aload_n 0, 1), (82, .getfield 68, 3), (85, .iload 6, 2), (87, .baload, 1), (88, .ifCond .eq 12, 3), (91, .aload_n 0, 1), (92, .getfield 64, 3), (95, .iload 6, 2), (97, .invokevirtual 371, 3), (100, .iinc 6 1, 3), (103, .goto (-32), 3), (106, .aload_n 0, 1), (107, .getfield 64, 3), (110, .aload_n 0, 1), (111, .getfield 72, 3), (114, .invokevirtual 374, 3), (117, .ireturn, 1)]
theorem ddX10_way_0 : (dtX10_way_0.all fun e => decide (decode mX10_way.2.1 e.1 = .ok (e.2.1, e.2.2))) = true := by decide +kernel
theorem daX10_way_0 (j : Nat) {pc n : Nat} {i : Instr} (h : dtX10_way_0[j]? = some (pc, i, n)) : decode mX10_way.2.1 pc = .ok (i, n) := dec_of (c := mX10_way.2.1) ddX10_way_0 h
def zX10_way_71 (l : Launch) (F : FI) (v0 v5 : Int) (k n : Nat) : (Int × Mm) ⊕ Mm → Prop
  | .inl (v6, μ) => GM l mX10_way F k n 71 [(0, (3, v0)), (5, (3, v5)), (6, (0, v6))] [] μ
  | .inr μ => GM l mX10_way F k n 106 [(0, (3, v0))] [] μ
def sX10_way_71 (v0 v5 : Int) : (Int × Mm) → Option ((Int × Mm) ⊕ Mm) := fun (v6, μ) =>
  chk (KD v5 = 2) (
  (fX2_places v5 μ).bind fun r2 =>
  if r2 ≤ v6 then
    some (.inr μ)
  else
    chk (KD v0 = 10) (
    chk (KD (μ v0 9) = 14 ∧ 0 ≤ v6 ∧ v6 < LN (μ v0 9)) (
    if μ (μ v0 9) v6 = 0 then
      some (.inl (w32 (v6 + 1), μ))
    else
      chk (KD (μ v0 8) = 9) (
      (fX9_begin (μ v0 8) v6 μ).bind fun μ8 =>
      some (.inl (w32 (v6 + 1), μ8))))))
def fX10_way (v0 v1 v2 v3 v4 : Int) (μ : Mm) : Option ((Int × Mm) × Nat × Nat) :=
  chk (KD v0 = 10) (
  (fX10_landAt v0 v1 μ).bind fun r10 =>
  if r10 = 0 then
    some (((-1), μ), 0, 0)
  else
    if v4 < 0 then
      some (((-1), μ), 0, 0)
    else
      if v4 ≤ 999 then
        (fX10_marksFitting v0 v1 v2 (-1) (μ v0 9) μ).bind fun ((r14, μ14), c14, n14) =>
        pay c14 n14 (
        if r14 = 0 then
          some (((-1), μ14), 0, 0)
        else
          (fX10_marksFitting v0 v1 v3 (-1) (μ14 v0 10) μ14).bind fun ((r17, μ17), c17, n17) =>
          pay c17 n17 (
          if r17 = 0 then
            some (((-1), μ17), 0, 0)
          else
            chk (KD (μ17 v0 8) = 9) (
            (fX9_ready (μ17 v0 8) r10 v4 μ17).bind fun μ21 =>
            (lop (sX10_way_71 v0 r10) FU (0, μ21)).bind fun μ_23 =>
              chk (KD (μ_23 v0 8) = 9) (
              (fX9_walkTo (μ_23 v0 8) (μ_23 v0 10) μ_23).bind fun (r25, μ25) =>
              some ((r25, μ25), 0, 0)))))
      else
        some (((-1), μ), 0, 0))
set_option maxRecDepth 20000 in
theorem qX10_way_71 (l : Launch) (F : FI) (v0 v5 : Int) (k n : Nat) : ∀ (q : (Int × Mm)) (t : ((Int × Mm) ⊕ Mm)), sX10_way_71 v0 v5 q = some t → zX10_way_71 l F v0 v5 k n t → zX10_way_71 l F v0 v5 k n (.inl q) := by
  intro q t h hK
  obtain ⟨v6, μ⟩ := q
  unfold sX10_way_71 at h
  try dsimp only at h
  show GM l mX10_way F k n 71 [(0, (3, v0)), (5, (3, v5)), (6, (0, v6))] [] μ
  refine GM_iload (pc := 71) 2 rfl (daX10_way_0 38 rfl) ?_
  refine GM_aload (pc := 73) 1 rfl (daX10_way_0 39 rfl) ?_
  obtain ⟨hc1, h⟩ := chk_inv h
  obtain ⟨r2, hf2, h⟩ := Option.bind_eq_some_iff.mp h
  refine GM_callV0 (pc := 75) [] (tX2_places l hf2) cwX2_places 2 (Nat.le_of_ble_eq_true rfl) rfl kv_X2_places ke_X2_places km_X10_266 hc1 ⟨Nat.le_of_ble_eq_true rfl, Nat.le_of_ble_eq_true rfl⟩ (Nat.le_of_ble_eq_true rfl) (Nat.le_of_ble_eq_true rfl) (daX10_way_0 40 rfl) ?_
  refine GM_icmp_ge (pc := 78) 106 (daX10_way_0 41 rfl) rfl (fun c3 => ?_) (fun c3 => ?_)
  · skip
    rw [if_pos c3] at h
    refine GM_pick [0] rfl ?_
    cases h
    exact hK
  · skip
    rw [if_neg c3] at h
    refine GM_aload_n (pc := 81) 0 rfl (daX10_way_0 42 rfl) rfl ?_
    obtain ⟨hc4, h⟩ := chk_inv h
    refine GM_getf (pc := 82) 10 9 3 9 kf_X10_68 (Nat.le_of_ble_eq_true rfl) (Nat.le_of_ble_eq_true rfl) rfl (daX10_way_0 43 rfl) hc4 rfl ?_
    refine GM_iload (pc := 85) 2 rfl (daX10_way_0 44 rfl) ?_
    obtain ⟨hc5, h⟩ := chk_inv h
    refine GM_zald (pc := 87) (daX10_way_0 45 rfl) hc5.1 hc5.2.1 hc5.2.2 ?_
    refine GM_if_eq (pc := 88) 100 (daX10_way_0 46 rfl) rfl (fun c6 => ?_) (fun c6 => ?_)
    · skip
      rw [if_pos c6] at h
      refine GM_iinc (L' := [(6, (0, w32 (v6 + 1))), (0, (3, v0)), (5, (3, v5))]) (pc := 100) 2 rfl (daX10_way_0 51 rfl) (Nat.le_of_ble_eq_true rfl) rfl ?_
      refine GM_goto (pc := 103) 71 (daX10_way_0 52 rfl) rfl ?_
      refine GM_pick [1, 2, 0] rfl ?_
      cases h
      exact hK
    · skip
      rw [if_neg c6] at h
      refine GM_aload_n (pc := 91) 0 rfl (daX10_way_0 47 rfl) rfl ?_
      refine GM_getf (pc := 92) 10 8 3 8 kf_X10_64 (Nat.le_of_ble_eq_true rfl) (Nat.le_of_ble_eq_true rfl) rfl (daX10_way_0 48 rfl) hc4 rfl ?_
      refine GM_iload (pc := 95) 2 rfl (daX10_way_0 49 rfl) ?_
      obtain ⟨hc7, h⟩ := chk_inv h
      obtain ⟨μ8, hf8, h⟩ := Option.bind_eq_some_iff.mp h
      refine GM_callV0 (pc := 97) [(0, v6)] (tX9_begin l hf8) cwX9_begin 9 (Nat.le_of_ble_eq_true rfl) rfl kv_X9_begin ke_X9_begin km_X10_371 hc7 ⟨Nat.le_of_ble_eq_true rfl, Nat.le_of_ble_eq_true rfl⟩ (Nat.le_of_ble_eq_true rfl) (Nat.le_of_ble_eq_true rfl) (daX10_way_0 50 rfl) ?_
      refine GM_iinc (L' := [(6, (0, w32 (v6 + 1))), (0, (3, v0)), (5, (3, v5))]) (pc := 100) 2 rfl (daX10_way_0 51 rfl) (Nat.le_of_ble_eq_true rfl) rfl ?_
      refine GM_goto (pc := 103) 71 (daX10_way_0 52 rfl) rfl ?_
      refine GM_pick [1, 2, 0] rfl ?_
      cases h
      exact hK
set_option maxRecDepth 20000 in
theorem gX10_way_0 (l : Launch) {F : FI} {v0 v1 v2 v3 v4 : Int} {μ : Mm} {t : (Int × Mm)} {c0 n0 k n : Nat} (h : fX10_way v0 v1 v2 v3 v4 μ = some (t, c0, n0)) (hK : F.1 = [(0, t.1)] ∧ F.2.1 = t.2) : GM l mX10_way F (c0 + k) (n0 + n) 0 [(0, (3, v0)), (1, (0, v1)), (2, (0, v2)), (3, (0, v3)), (4, (0, v4))] [] μ := by
  unfold fX10_way at h
  refine GM_aload_n (pc := 0) 0 rfl (daX10_way_0 0 rfl) rfl ?_
  refine GM_iload_n (pc := 1) 1 rfl (daX10_way_0 1 rfl) rfl ?_
  obtain ⟨hc9, h⟩ := chk_inv h
  obtain ⟨r10, hf10, h⟩ := Option.bind_eq_some_iff.mp h
  refine GM_callV0 (pc := 2) [(0, v1)] (tX10_landAt l hf10) cwX10_landAt 10 (Nat.le_of_ble_eq_true rfl) rfl kv_X10_landAt ke_X10_landAt km_X10_149 hc9 ⟨Nat.le_of_ble_eq_true rfl, Nat.le_of_ble_eq_true rfl⟩ (Nat.le_of_ble_eq_true rfl) (Nat.le_of_ble_eq_true rfl) (daX10_way_0 2 rfl) ?_
  refine GM_astore (L' := [(5, (3, r10)), (0, (3, v0)), (1, (0, v1)), (2, (0, v2)), (3, (0, v3)), (4, (0, v4))]) (pc := 5) (daX10_way_0 3 rfl) (Nat.le_of_ble_eq_true rfl) rfl ?_
  refine GM_aload (pc := 7) 0 rfl (daX10_way_0 4 rfl) ?_
  refine GM_ifnull (pc := 9) 25 (daX10_way_0 5 rfl) rfl (fun c11 => ?_) (fun c11 => ?_)
  · skip
    rw [if_pos c11] at h
    refine GM_iconst (pc := 25) (-1) (daX10_way_0 11 rfl) rfl (R32_b rfl) ?_
    cases h
    exact GM_iret (pc := 26) (daX10_way_0 12 rfl) rfl hK
  · skip
    rw [if_neg c11] at h
    refine GM_iload (pc := 12) 5 rfl (daX10_way_0 6 rfl) ?_
    refine GM_if_lt (pc := 14) 25 (daX10_way_0 7 rfl) rfl (fun c12 => ?_) (fun c12 => ?_)
    · skip
      rw [if_pos c12] at h
      refine GM_iconst (pc := 25) (-1) (daX10_way_0 11 rfl) rfl (R32_b rfl) ?_
      cases h
      exact GM_iret (pc := 26) (daX10_way_0 12 rfl) rfl hK
    · skip
      rw [if_neg c12] at h
      refine GM_iload (pc := 17) 5 rfl (daX10_way_0 8 rfl) ?_
      refine GM_sipush (pc := 19) 999 (daX10_way_0 9 rfl) rfl (R32_b rfl) ?_
      refine GM_icmp_le (pc := 22) 27 (daX10_way_0 10 rfl) rfl (fun c13 => ?_) (fun c13 => ?_)
      · skip
        rw [if_pos c13] at h
        refine GM_aload_n (pc := 27) 1 rfl (daX10_way_0 13 rfl) rfl ?_
        refine GM_iload_n (pc := 28) 2 rfl (daX10_way_0 14 rfl) rfl ?_
        refine GM_iload_n (pc := 29) 3 rfl (daX10_way_0 15 rfl) rfl ?_
        refine GM_iconst (pc := 30) (-1) (daX10_way_0 16 rfl) rfl (R32_b rfl) ?_
        refine GM_aload_n (pc := 31) 1 rfl (daX10_way_0 17 rfl) rfl ?_
        refine GM_getf (pc := 32) 10 9 3 9 kf_X10_68 (Nat.le_of_ble_eq_true rfl) (Nat.le_of_ble_eq_true rfl) rfl (daX10_way_0 18 rfl) hc9 rfl ?_
        obtain ⟨⟨⟨r14, μ14⟩, c14, n14⟩, hf14, h⟩ := Option.bind_eq_some_iff.mp h
        dsimp only at h
        obtain ⟨c15, n15, hp, e1, e2⟩ := pay_inv h
        subst e1 e2
        replace h := hp
        clear hp
        rw [Nat.add_assoc, Nat.add_assoc]
        refine GM_callV (pc := 35) [(0, v1), (0, v2), (0, (-1)), (3, μ v0 9)] (tX10_marksFitting l hf14) cwX10_marksFitting 10 (Nat.le_of_ble_eq_true rfl) rfl kv_X10_marksFitting ke_X10_marksFitting km_X10_315 hc9 ⟨Nat.le_of_ble_eq_true rfl, Nat.le_of_ble_eq_true rfl⟩ (Nat.le_of_ble_eq_true rfl) (Nat.le_of_ble_eq_true rfl) (daX10_way_0 19 rfl) ?_
        refine GM_if_eq (pc := 38) 55 (daX10_way_0 20 rfl) rfl (fun c16 => ?_) (fun c16 => ?_)
        · skip
          rw [if_pos c16] at h
          refine GM_iconst (pc := 55) (-1) (daX10_way_0 29 rfl) rfl (R32_b rfl) ?_
          cases h
          exact GM_iret (pc := 56) (daX10_way_0 30 rfl) rfl hK
        · skip
          rw [if_neg c16] at h
          refine GM_aload_n (pc := 41) 1 rfl (daX10_way_0 21 rfl) rfl ?_
          refine GM_iload_n (pc := 42) 2 rfl (daX10_way_0 22 rfl) rfl ?_
          refine GM_iload_n (pc := 43) 4 rfl (daX10_way_0 23 rfl) rfl ?_
          refine GM_iconst (pc := 44) (-1) (daX10_way_0 24 rfl) rfl (R32_b rfl) ?_
          refine GM_aload_n (pc := 45) 1 rfl (daX10_way_0 25 rfl) rfl ?_
          refine GM_getf (pc := 46) 10 10 3 10 kf_X10_72 (Nat.le_of_ble_eq_true rfl) (Nat.le_of_ble_eq_true rfl) rfl (daX10_way_0 26 rfl) hc9 rfl ?_
          obtain ⟨⟨⟨r17, μ17⟩, c17, n17⟩, hf17, h⟩ := Option.bind_eq_some_iff.mp h
          dsimp only at h
          obtain ⟨c18, n18, hp, e1, e2⟩ := pay_inv h
          subst e1 e2
          replace h := hp
          clear hp
          rw [Nat.add_assoc, Nat.add_assoc]
          refine GM_callV (pc := 49) [(0, v1), (0, v3), (0, (-1)), (3, μ14 v0 10)] (tX10_marksFitting l hf17) cwX10_marksFitting 10 (Nat.le_of_ble_eq_true rfl) rfl kv_X10_marksFitting ke_X10_marksFitting km_X10_315 hc9 ⟨Nat.le_of_ble_eq_true rfl, Nat.le_of_ble_eq_true rfl⟩ (Nat.le_of_ble_eq_true rfl) (Nat.le_of_ble_eq_true rfl) (daX10_way_0 27 rfl) ?_
          refine GM_if_ne (pc := 52) 57 (daX10_way_0 28 rfl) rfl (fun c19 => ?_) (fun c19 => ?_)
          · skip
            rw [if_neg c19] at h
            refine GM_aload_n (pc := 57) 1 rfl (daX10_way_0 31 rfl) rfl ?_
            refine GM_getf (pc := 58) 10 8 3 8 kf_X10_64 (Nat.le_of_ble_eq_true rfl) (Nat.le_of_ble_eq_true rfl) rfl (daX10_way_0 32 rfl) hc9 rfl ?_
            refine GM_aload (pc := 61) 0 rfl (daX10_way_0 33 rfl) ?_
            refine GM_iload (pc := 63) 5 rfl (daX10_way_0 34 rfl) ?_
            obtain ⟨hc20, h⟩ := chk_inv h
            obtain ⟨μ21, hf21, h⟩ := Option.bind_eq_some_iff.mp h
            refine GM_callV0 (pc := 65) [(3, r10), (0, v4)] (tX9_ready l hf21) cwX9_ready 9 (Nat.le_of_ble_eq_true rfl) rfl kv_X9_ready ke_X9_ready km_X10_368 hc20 ⟨Nat.le_of_ble_eq_true rfl, Nat.le_of_ble_eq_true rfl⟩ (Nat.le_of_ble_eq_true rfl) (Nat.le_of_ble_eq_true rfl) (daX10_way_0 35 rfl) ?_
            refine GM_iconst (pc := 68) 0 (daX10_way_0 36 rfl) rfl (R32_b rfl) ?_
            refine GM_istore (L' := [(6, (0, 0)), (5, (3, r10)), (0, (3, v0)), (1, (0, v1)), (2, (0, v2)), (3, (0, v3)), (4, (0, v4))]) (pc := 69) (daX10_way_0 37 rfl) (Nat.le_of_ble_eq_true rfl) rfl ?_
            refine GM_pick [2, 1, 0] rfl ?_
            obtain ⟨x22, hqx22, h⟩ := Option.bind_eq_some_iff.mp h
            refine lop_ind (zX10_way_71 l F v0 r10 (c18 + k) (n18 + n)) (qX10_way_71 l F v0 r10 (c18 + k) (n18 + n)) FU _ x22 hqx22 ?_
            obtain ⟨μ_23, hqq⟩ : ∃ z, z = x22 := ⟨x22, rfl⟩
            subst hqq
            show GM l mX10_way F (c18 + k) (n18 + n) 106 [(0, (3, v0))] [] μ_23
            refine GM_aload_n (pc := 106) 0 rfl (daX10_way_0 53 rfl) rfl ?_
            refine GM_getf (pc := 107) 10 8 3 8 kf_X10_64 (Nat.le_of_ble_eq_true rfl) (Nat.le_of_ble_eq_true rfl) rfl (daX10_way_0 54 rfl) hc9 rfl ?_
            refine GM_aload_n (pc := 110) 0 rfl (daX10_way_0 55 rfl) rfl ?_
            refine GM_getf (pc := 111) 10 10 3 10 kf_X10_72 (Nat.le_of_ble_eq_true rfl) (Nat.le_of_ble_eq_true rfl) rfl (daX10_way_0 56 rfl) hc9 rfl ?_
            obtain ⟨hc24, h⟩ := chk_inv h
            obtain ⟨⟨r25, μ25⟩, hf25, h⟩ := Option.bind_eq_some_iff.mp h
            dsimp only at h
            refine GM_callV0 (pc := 114) [(3, μ_23 v0 10)] (tX9_walkTo l hf25) cwX9_walkTo 9 (Nat.le_of_ble_eq_true rfl) rfl kv_X9_walkTo ke_X9_walkTo km_X10_374 hc24 ⟨Nat.le_of_ble_eq_true rfl, Nat.le_of_ble_eq_true rfl⟩ (Nat.le_of_ble_eq_true rfl) (Nat.le_of_ble_eq_true rfl) (daX10_way_0 57 rfl) ?_
            cases h
            exact GM_iret (pc := 117) (daX10_way_0 58 rfl) rfl hK
          · skip
            rw [if_pos c19] at h
            refine GM_iconst (pc := 55) (-1) (daX10_way_0 29 rfl) rfl (R32_b rfl) ?_
            cases h
            exact GM_iret (pc := 56) (daX10_way_0 30 rfl) rfl hK
      · skip
        rw [if_neg c13] at h
        refine GM_iconst (pc := 25) (-1) (daX10_way_0 11 rfl) rfl (R32_b rfl) ?_
        cases h
        exact GM_iret (pc := 26) (daX10_way_0 12 rfl) rfl hK
theorem tX10_way (l : Launch) {v0 v1 v2 v3 v4 : Int} {μ : Mm} {t : (Int × Mm)} {c0 n0 : Nat} (h : fX10_way v0 v1 v2 v3 v4 μ = some (t, c0, n0)) : Ct l yX10_way mX10_way [(3, v0), (0, v1), (0, v2), (0, v3), (0, v4)] μ ([(0, t.1)], t.2, c0, n0) :=
  Ct_of (by decide +kernel) rfl rfl (Nat.le_of_ble_eq_true rfl) (fun _ _ _ => trivial) (gX10_way_0 (k := 0) (n := 0) l h ⟨rfl, rfl⟩)
def mX10_sneak : MI := (RX10, cX10_sneak, 7, (some .int), "sneak", 5, 122, fun _ _ _ => True)
theorem cwX10_sneak : CWd yX10_sneak mX10_sneak 4 := ⟨ki_X10, kk_X10_sneak, ⟨by decide, by decide⟩, rfl⟩
def dtX10_sneak_0 : List (Nat × Instr × Nat) := [(0, .aload_n 0, 1), (1, .iload_n 1, 1), (2, .invokevirtual 149, 3), (5, .astore 5, 2), (7, .aload_n 0, 1), (8, .iload_n 1, 1), (9, .iload 4, 2), (11, .invokevirtual 236, 3), (14, .astore 6, 2), (16, .aload 5, 2), (18, .ifnull 26, 3), (21, .aload 6, 2), (23, .ifnull 21, 3), (26, .aload 5, 2), (28, .iload_n 2, 1), (29, .invokevirtual 175, 3), (32, .ifCond .eq 12, 3), (35, .aload 5, 2), (37, .iload_n 3, 1), (38, .invokevirtual 175, 3), (41, .ifCond .ne 5, 3), (44, .iconst (-1), 1), (45, .ireturn, 1), (46, .aload_n 0, 1), (47, .getfield 64, 3), (50, .aload 5, 2), (52, .sipush 999, 3), (55, .invokevirtual 368, 3), (58, .aload_n 0, 1), (59, .getfield 64, 3), (62, .aload 6, 2), (64, .iload 4, 2), (66, .invokevirtual 378, 3), (69, .aload_n 0, 1), (70, .getfield 72, 3), (73, .invokestatic 323, 3), (76, .aload_n 0, 1), (77, .getfield 72, 3), (80, .iload_n 3, 1), (81, .iconst 1, 1), (82, .bastore, 1), (83, .aload_n 0, 1), (84, .getfield 64, 3), (87, .iload_n 2, 1), (88, .invokevirtual 371, 3), (91, .aload_n 0, 1), (92, .getfield 64, 3), (95, .aload_n 0, 1), (96, .getfield 72, 3), (99, .invokevirtual 374, 3), (102, .ireturn, 1)]
theorem ddX10_sneak_0 : (dtX10_sneak_0.all fun e => decide (decode mX10_sneak.2.1 e.1 = .ok (e.2.1, e.2.2))) = true := by decide +kernel
theorem daX10_sneak_0 (j : Nat) {pc n : Nat} {i : Instr} (h : dtX10_sneak_0[j]? = some (pc, i, n)) : decode mX10_sneak.2.1 pc = .ok (i, n) := dec_of (c := mX10_sneak.2.1) ddX10_sneak_0 h
def fX10_sneak (v0 v1 v2 v3 v4 : Int) (μ : Mm) : Option ((Int × Mm) × Nat × Nat) :=
  chk (KD v0 = 10) (
  (fX10_landAt v0 v1 μ).bind fun r2 =>
  (fX10_lineAt v0 v1 v4 μ).bind fun ((r3, μ3), c3, n3) =>
  pay c3 n3 (
  if r2 = 0 then
    some (((-1), μ3), 0, 0)
  else
    if r3 = 0 then
      some (((-1), μ3), 0, 0)
    else
      chk (KD r2 = 2) (
      (fX2_has r2 v2 μ3).bind fun r8 =>
      if r8 = 0 then
        some (((-1), μ3), 0, 0)
      else
        (fX2_has r2 v3 μ3).bind fun r10 =>
        if r10 = 0 then
          some (((-1), μ3), 0, 0)
        else
          chk (KD (μ3 v0 8) = 9) (
          (fX9_ready (μ3 v0 8) r2 999 μ3).bind fun μ13 =>
          chk (KD (μ13 v0 8) = 9) (
          (fX9_shutSeen (μ13 v0 8) r3 v4 μ13).bind fun μ15 =>
          (fX10_wipe (μ15 v0 10) μ15).bind fun μ16 =>
          chk (KD (μ16 v0 10) = 14 ∧ 0 ≤ v3 ∧ v3 < LN (μ16 v0 10)) (
          lm (mst μ16 (μ16 v0 10) v3 1) fun μ18 =>
          chk (KD (μ18 v0 8) = 9) (
          (fX9_begin (μ18 v0 8) v2 μ18).bind fun μ20 =>
          chk (KD (μ20 v0 8) = 9) (
          (fX9_walkTo (μ20 v0 8) (μ20 v0 10) μ20).bind fun (r22, μ22) =>
          some ((r22, μ22), 0, 0)))))))))
set_option maxRecDepth 20000 in
theorem gX10_sneak_0 (l : Launch) {F : FI} {v0 v1 v2 v3 v4 : Int} {μ : Mm} {t : (Int × Mm)} {c0 n0 k n : Nat} (h : fX10_sneak v0 v1 v2 v3 v4 μ = some (t, c0, n0)) (hK : F.1 = [(0, t.1)] ∧ F.2.1 = t.2) : GM l mX10_sneak F (c0 + k) (n0 + n) 0 [(0, (3, v0)), (1, (0, v1)), (2, (0, v2)), (3, (0, v3)), (4, (0, v4))] [] μ := by
  unfold fX10_sneak at h
  refine GM_aload_n (pc := 0) 0 rfl (daX10_sneak_0 0 rfl) rfl ?_
  refine GM_iload_n (pc := 1) 1 rfl (daX10_sneak_0 1 rfl) rfl ?_
  obtain ⟨hc1, h⟩ := chk_inv h
  obtain ⟨r2, hf2, h⟩ := Option.bind_eq_some_iff.mp h
  refine GM_callV0 (pc := 2) [(0, v1)] (tX10_landAt l hf2) cwX10_landAt 10 (Nat.le_of_ble_eq_true rfl) rfl kv_X10_landAt ke_X10_landAt km_X10_149 hc1 ⟨Nat.le_of_ble_eq_true rfl, Nat.le_of_ble_eq_true rfl⟩ (Nat.le_of_ble_eq_true rfl) (Nat.le_of_ble_eq_true rfl) (daX10_sneak_0 2 rfl) ?_
  refine GM_astore (L' := [(5, (3, r2)), (0, (3, v0)), (1, (0, v1)), (2, (0, v2)), (3, (0, v3)), (4, (0, v4))]) (pc := 5) (daX10_sneak_0 3 rfl) (Nat.le_of_ble_eq_true rfl) rfl ?_
  refine GM_aload_n (pc := 7) 1 rfl (daX10_sneak_0 4 rfl) rfl ?_
  refine GM_iload_n (pc := 8) 2 rfl (daX10_sneak_0 5 rfl) rfl ?_
  refine GM_iload (pc := 9) 5 rfl (daX10_sneak_0 6 rfl) ?_
  obtain ⟨⟨⟨r3, μ3⟩, c3, n3⟩, hf3, h⟩ := Option.bind_eq_some_iff.mp h
  dsimp only at h
  obtain ⟨c4, n4, hp, e1, e2⟩ := pay_inv h
  subst e1 e2
  replace h := hp
  clear hp
  rw [Nat.add_assoc, Nat.add_assoc]
  refine GM_callV (pc := 11) [(0, v1), (0, v4)] (tX10_lineAt l hf3) cwX10_lineAt 10 (Nat.le_of_ble_eq_true rfl) rfl kv_X10_lineAt ke_X10_lineAt km_X10_236 hc1 ⟨Nat.le_of_ble_eq_true rfl, Nat.le_of_ble_eq_true rfl⟩ (Nat.le_of_ble_eq_true rfl) (Nat.le_of_ble_eq_true rfl) (daX10_sneak_0 7 rfl) ?_
  refine GM_astore (L' := [(6, (3, r3)), (5, (3, r2)), (0, (3, v0)), (1, (0, v1)), (2, (0, v2)), (3, (0, v3)), (4, (0, v4))]) (pc := 14) (daX10_sneak_0 8 rfl) (Nat.le_of_ble_eq_true rfl) rfl ?_
  refine GM_aload (pc := 16) 1 rfl (daX10_sneak_0 9 rfl) ?_
  refine GM_ifnull (pc := 18) 44 (daX10_sneak_0 10 rfl) rfl (fun c5 => ?_) (fun c5 => ?_)
  · skip
    rw [if_pos c5] at h
    refine GM_iconst (pc := 44) (-1) (daX10_sneak_0 21 rfl) rfl (R32_b rfl) ?_
    cases h
    exact GM_iret (pc := 45) (daX10_sneak_0 22 rfl) rfl hK
  · skip
    rw [if_neg c5] at h
    refine GM_aload (pc := 21) 0 rfl (daX10_sneak_0 11 rfl) ?_
    refine GM_ifnull (pc := 23) 44 (daX10_sneak_0 12 rfl) rfl (fun c6 => ?_) (fun c6 => ?_)
    · skip
      rw [if_pos c6] at h
      refine GM_iconst (pc := 44) (-1) (daX10_sneak_0 21 rfl) rfl (R32_b rfl) ?_
      cases h
      exact GM_iret (pc := 45) (daX10_sneak_0 22 rfl) rfl hK
    · skip
      rw [if_neg c6] at h
      refine GM_aload (pc := 26) 1 rfl (daX10_sneak_0 13 rfl) ?_
      refine GM_iload_n (pc := 28) 4 rfl (daX10_sneak_0 14 rfl) rfl ?_
      obtain ⟨hc7, h⟩ := chk_inv h
      obtain ⟨r8, hf8, h⟩ := Option.bind_eq_some_iff.mp h
      refine GM_callV0 (pc := 29) [(0, v2)] (tX2_has l hf8) cwX2_has 2 (Nat.le_of_ble_eq_true rfl) rfl kv_X2_has ke_X2_has km_X10_175 hc7 ⟨Nat.le_of_ble_eq_true rfl, Nat.le_of_ble_eq_true rfl⟩ (Nat.le_of_ble_eq_true rfl) (Nat.le_of_ble_eq_true rfl) (daX10_sneak_0 15 rfl) ?_
      refine GM_if_eq (pc := 32) 44 (daX10_sneak_0 16 rfl) rfl (fun c9 => ?_) (fun c9 => ?_)
      · skip
        rw [if_pos c9] at h
        refine GM_iconst (pc := 44) (-1) (daX10_sneak_0 21 rfl) rfl (R32_b rfl) ?_
        cases h
        exact GM_iret (pc := 45) (daX10_sneak_0 22 rfl) rfl hK
      · skip
        rw [if_neg c9] at h
        refine GM_aload (pc := 35) 1 rfl (daX10_sneak_0 17 rfl) ?_
        refine GM_iload_n (pc := 37) 5 rfl (daX10_sneak_0 18 rfl) rfl ?_
        obtain ⟨r10, hf10, h⟩ := Option.bind_eq_some_iff.mp h
        refine GM_callV0 (pc := 38) [(0, v3)] (tX2_has l hf10) cwX2_has 2 (Nat.le_of_ble_eq_true rfl) rfl kv_X2_has ke_X2_has km_X10_175 hc7 ⟨Nat.le_of_ble_eq_true rfl, Nat.le_of_ble_eq_true rfl⟩ (Nat.le_of_ble_eq_true rfl) (Nat.le_of_ble_eq_true rfl) (daX10_sneak_0 19 rfl) ?_
        refine GM_if_ne (pc := 41) 46 (daX10_sneak_0 20 rfl) rfl (fun c11 => ?_) (fun c11 => ?_)
        · skip
          rw [if_neg c11] at h
          refine GM_aload_n (pc := 46) 2 rfl (daX10_sneak_0 23 rfl) rfl ?_
          refine GM_getf (pc := 47) 10 8 3 8 kf_X10_64 (Nat.le_of_ble_eq_true rfl) (Nat.le_of_ble_eq_true rfl) rfl (daX10_sneak_0 24 rfl) hc1 rfl ?_
          refine GM_aload (pc := 50) 1 rfl (daX10_sneak_0 25 rfl) ?_
          refine GM_sipush (pc := 52) 999 (daX10_sneak_0 26 rfl) rfl (R32_b rfl) ?_
          obtain ⟨hc12, h⟩ := chk_inv h
          obtain ⟨μ13, hf13, h⟩ := Option.bind_eq_some_iff.mp h
          refine GM_callV0 (pc := 55) [(3, r2), (0, 999)] (tX9_ready l hf13) cwX9_ready 9 (Nat.le_of_ble_eq_true rfl) rfl kv_X9_ready ke_X9_ready km_X10_368 hc12 ⟨Nat.le_of_ble_eq_true rfl, Nat.le_of_ble_eq_true rfl⟩ (Nat.le_of_ble_eq_true rfl) (Nat.le_of_ble_eq_true rfl) (daX10_sneak_0 27 rfl) ?_
          refine GM_aload_n (pc := 58) 2 rfl (daX10_sneak_0 28 rfl) rfl ?_
          refine GM_getf (pc := 59) 10 8 3 8 kf_X10_64 (Nat.le_of_ble_eq_true rfl) (Nat.le_of_ble_eq_true rfl) rfl (daX10_sneak_0 29 rfl) hc1 rfl ?_
          refine GM_aload (pc := 62) 0 rfl (daX10_sneak_0 30 rfl) ?_
          refine GM_iload (pc := 64) 6 rfl (daX10_sneak_0 31 rfl) ?_
          obtain ⟨hc14, h⟩ := chk_inv h
          obtain ⟨μ15, hf15, h⟩ := Option.bind_eq_some_iff.mp h
          refine GM_callV0 (pc := 66) [(3, r3), (0, v4)] (tX9_shutSeen l hf15) cwX9_shutSeen 9 (Nat.le_of_ble_eq_true rfl) rfl kv_X9_shutSeen ke_X9_shutSeen km_X10_378 hc14 ⟨Nat.le_of_ble_eq_true rfl, Nat.le_of_ble_eq_true rfl⟩ (Nat.le_of_ble_eq_true rfl) (Nat.le_of_ble_eq_true rfl) (daX10_sneak_0 32 rfl) ?_
          refine GM_aload_n (pc := 69) 2 rfl (daX10_sneak_0 33 rfl) rfl ?_
          refine GM_getf (pc := 70) 10 10 3 10 kf_X10_72 (Nat.le_of_ble_eq_true rfl) (Nat.le_of_ble_eq_true rfl) rfl (daX10_sneak_0 34 rfl) hc1 rfl ?_
          obtain ⟨μ16, hf16, h⟩ := Option.bind_eq_some_iff.mp h
          refine GM_callS0 (pc := 73) [(3, μ15 v0 10)] (tX10_wipe l hf16) cwX10_wipe ks_X10_wipe km_X10_323 ⟨Nat.le_of_ble_eq_true rfl, Nat.le_of_ble_eq_true rfl⟩ (Nat.le_of_ble_eq_true rfl) (Nat.le_of_ble_eq_true rfl) (daX10_sneak_0 35 rfl) ?_
          refine GM_aload_n (pc := 76) 2 rfl (daX10_sneak_0 36 rfl) rfl ?_
          refine GM_getf (pc := 77) 10 10 3 10 kf_X10_72 (Nat.le_of_ble_eq_true rfl) (Nat.le_of_ble_eq_true rfl) rfl (daX10_sneak_0 37 rfl) hc1 rfl ?_
          refine GM_iload_n (pc := 80) 5 rfl (daX10_sneak_0 38 rfl) rfl ?_
          refine GM_iconst (pc := 81) 1 (daX10_sneak_0 39 rfl) rfl (R32_b rfl) ?_
          obtain ⟨hc17, h⟩ := chk_inv h
          obtain ⟨μ18, hμ18, h⟩ := lm_inv h
          refine GM_zast (pc := 82) (daX10_sneak_0 40 rfl) hc17.1 hc17.2.1 hc17.2.2 (Or.inr rfl) ?_
          refine GM_mem hμ18 ?_
          refine GM_aload_n (pc := 83) 2 rfl (daX10_sneak_0 41 rfl) rfl ?_
          refine GM_getf (pc := 84) 10 8 3 8 kf_X10_64 (Nat.le_of_ble_eq_true rfl) (Nat.le_of_ble_eq_true rfl) rfl (daX10_sneak_0 42 rfl) hc1 rfl ?_
          refine GM_iload_n (pc := 87) 4 rfl (daX10_sneak_0 43 rfl) rfl ?_
          obtain ⟨hc19, h⟩ := chk_inv h
          obtain ⟨μ20, hf20, h⟩ := Option.bind_eq_some_iff.mp h
          refine GM_callV0 (pc := 88) [(0, v2)] (tX9_begin l hf20) cwX9_begin 9 (Nat.le_of_ble_eq_true rfl) rfl kv_X9_begin ke_X9_begin km_X10_371 hc19 ⟨Nat.le_of_ble_eq_true rfl, Nat.le_of_ble_eq_true rfl⟩ (Nat.le_of_ble_eq_true rfl) (Nat.le_of_ble_eq_true rfl) (daX10_sneak_0 44 rfl) ?_
          refine GM_aload_n (pc := 91) 2 rfl (daX10_sneak_0 45 rfl) rfl ?_
          refine GM_getf (pc := 92) 10 8 3 8 kf_X10_64 (Nat.le_of_ble_eq_true rfl) (Nat.le_of_ble_eq_true rfl) rfl (daX10_sneak_0 46 rfl) hc1 rfl ?_
          refine GM_aload_n (pc := 95) 2 rfl (daX10_sneak_0 47 rfl) rfl ?_
          refine GM_getf (pc := 96) 10 10 3 10 kf_X10_72 (Nat.le_of_ble_eq_true rfl) (Nat.le_of_ble_eq_true rfl) rfl (daX10_sneak_0 48 rfl) hc1 rfl ?_
          obtain ⟨hc21, h⟩ := chk_inv h
          obtain ⟨⟨r22, μ22⟩, hf22, h⟩ := Option.bind_eq_some_iff.mp h
          dsimp only at h
          refine GM_callV0 (pc := 99) [(3, μ20 v0 10)] (tX9_walkTo l hf22) cwX9_walkTo 9 (Nat.le_of_ble_eq_true rfl) rfl kv_X9_walkTo ke_X9_walkTo km_X10_374 hc21 ⟨Nat.le_of_ble_eq_true rfl, Nat.le_of_ble_eq_true rfl⟩ (Nat.le_of_ble_eq_true rfl) (Nat.le_of_ble_eq_true rfl) (daX10_sneak_0 49 rfl) ?_
          cases h
          exact GM_iret (pc := 102) (daX10_sneak_0 50 rfl) rfl hK
        · skip
          rw [if_pos c11] at h
          refine GM_iconst (pc := 44) (-1) (daX10_sneak_0 21 rfl) rfl (R32_b rfl) ?_
          cases h
          exact GM_iret (pc := 45) (daX10_sneak_0 22 rfl) rfl hK
theorem tX10_sneak (l : Launch) {v0 v1 v2 v3 v4 : Int} {μ : Mm} {t : (Int × Mm)} {c0 n0 : Nat} (h : fX10_sneak v0 v1 v2 v3 v4 μ = some (t, c0, n0)) : Ct l yX10_sneak mX10_sneak [(3, v0), (0, v1), (0, v2), (0, v3), (0, v4)] μ ([(0, t.1)], t.2, c0, n0) :=
  Ct_of (by decide +kernel) rfl rfl (Nat.le_of_ble_eq_true rfl) (fun _ _ _ => trivial) (gX10_sneak_0 (k := 0) (n := 0) l h ⟨rfl, rfl⟩)
def mX10_proud : MI := (RX10, cX10_proud, 4, (some .int), "proud", 4, 90, fun _ _ _ => True)
theorem cwX10_proud : CWd yX10_proud mX10_proud 2 := ⟨ki_X10, kk_X10_proud, ⟨by decide, by decide⟩, rfl⟩
def dtX10_proud_0 : List (Nat × Instr × Nat) := [(0, .aload_n 0, 1), (1, .iload_n 1, 1), (2, .invokevirtual 149, 3), (5, .astore_n 3, 1), (6, .aload_n 3, 1), (7, .ifnull 11, 3), (10, .aload_n 3, 1), (11, .iload_n 2, 1), (12, .invokevirtual 175, 3), (15, .ifCond .ne 5, 3), (18, .iconst (-1), 1), (19, .ireturn, 1), (20, .aload_n 3, 1), (21, .getfield 179, 3), (24, .iload_n 2, 1), (25, .iaload, 1), (26, .aload_n 0, 1), (27, .getfield 64, 3), (30, .aload_n 3, 1), (31, .iload_n 2, 1), (32, .invokevirtual 382, 3), (35, .isub, 1), (36, .ireturn, 1)]
theorem ddX10_proud_0 : (dtX10_proud_0.all fun e => decide (decode mX10_proud.2.1 e.1 = .ok (e.2.1, e.2.2))) = true := by decide +kernel
theorem daX10_proud_0 (j : Nat) {pc n : Nat} {i : Instr} (h : dtX10_proud_0[j]? = some (pc, i, n)) : decode mX10_proud.2.1 pc = .ok (i, n) := dec_of (c := mX10_proud.2.1) ddX10_proud_0 h
def fX10_proud (v0 v1 v2 : Int) (μ : Mm) : Option (Int × Mm) :=
  chk (KD v0 = 10) (
  (fX10_landAt v0 v1 μ).bind fun r2 =>
  if r2 = 0 then
    some ((-1), μ)
  else
    chk (KD r2 = 2) (
    (fX2_has r2 v2 μ).bind fun r5 =>
    if r5 = 0 then
      some ((-1), μ)
    else
      chk (KD (μ r2 6) = 12 ∧ 0 ≤ v2 ∧ v2 < LN (μ r2 6)) (
      chk (KD (μ v0 8) = 9) (
      (fX9_saddle (μ v0 8) r2 v2 μ).bind fun (r9, μ9) =>
      some (w32 ((μ (μ r2 6) v2) - r9), μ9)))))
set_option maxRecDepth 20000 in
theorem gX10_proud_0 (l : Launch) {F : FI} {v0 v1 v2 : Int} {μ : Mm} {t : (Int × Mm)} (h : fX10_proud v0 v1 v2 μ = some t) (hK : F.1 = [(0, t.1)] ∧ F.2.1 = t.2) : GM l mX10_proud F 0 0 0 [(0, (3, v0)), (1, (0, v1)), (2, (0, v2))] [] μ := by
  unfold fX10_proud at h
  refine GM_aload_n (pc := 0) 0 rfl (daX10_proud_0 0 rfl) rfl ?_
  refine GM_iload_n (pc := 1) 1 rfl (daX10_proud_0 1 rfl) rfl ?_
  obtain ⟨hc1, h⟩ := chk_inv h
  obtain ⟨r2, hf2, h⟩ := Option.bind_eq_some_iff.mp h
  refine GM_callV0 (pc := 2) [(0, v1)] (tX10_landAt l hf2) cwX10_landAt 10 (Nat.le_of_ble_eq_true rfl) rfl kv_X10_landAt ke_X10_landAt km_X10_149 hc1 ⟨Nat.le_of_ble_eq_true rfl, Nat.le_of_ble_eq_true rfl⟩ (Nat.le_of_ble_eq_true rfl) (Nat.le_of_ble_eq_true rfl) (daX10_proud_0 2 rfl) ?_
  refine GM_astore_n (L' := [(3, (3, r2)), (0, (3, v0)), (1, (0, v1)), (2, (0, v2))]) (pc := 5) (daX10_proud_0 3 rfl) rfl (Nat.le_of_ble_eq_true rfl) rfl ?_
  refine GM_aload_n (pc := 6) 0 rfl (daX10_proud_0 4 rfl) rfl ?_
  refine GM_ifnull (pc := 7) 18 (daX10_proud_0 5 rfl) rfl (fun c3 => ?_) (fun c3 => ?_)
  · skip
    rw [if_pos c3] at h
    refine GM_iconst (pc := 18) (-1) (daX10_proud_0 10 rfl) rfl (R32_b rfl) ?_
    cases h
    exact GM_iret (pc := 19) (daX10_proud_0 11 rfl) rfl hK
  · skip
    rw [if_neg c3] at h
    refine GM_aload_n (pc := 10) 0 rfl (daX10_proud_0 6 rfl) rfl ?_
    refine GM_iload_n (pc := 11) 3 rfl (daX10_proud_0 7 rfl) rfl ?_
    obtain ⟨hc4, h⟩ := chk_inv h
    obtain ⟨r5, hf5, h⟩ := Option.bind_eq_some_iff.mp h
    refine GM_callV0 (pc := 12) [(0, v2)] (tX2_has l hf5) cwX2_has 2 (Nat.le_of_ble_eq_true rfl) rfl kv_X2_has ke_X2_has km_X10_175 hc4 ⟨Nat.le_of_ble_eq_true rfl, Nat.le_of_ble_eq_true rfl⟩ (Nat.le_of_ble_eq_true rfl) (Nat.le_of_ble_eq_true rfl) (daX10_proud_0 8 rfl) ?_
    refine GM_if_ne (pc := 15) 20 (daX10_proud_0 9 rfl) rfl (fun c6 => ?_) (fun c6 => ?_)
    · skip
      rw [if_neg c6] at h
      refine GM_aload_n (pc := 20) 0 rfl (daX10_proud_0 12 rfl) rfl ?_
      refine GM_getf (pc := 21) 2 6 3 6 kf_X10_179 (Nat.le_of_ble_eq_true rfl) (Nat.le_of_ble_eq_true rfl) rfl (daX10_proud_0 13 rfl) hc4 rfl ?_
      refine GM_iload_n (pc := 24) 3 rfl (daX10_proud_0 14 rfl) rfl ?_
      obtain ⟨hc7, h⟩ := chk_inv h
      refine GM_iald (pc := 25) (daX10_proud_0 15 rfl) hc7.1 hc7.2.1 hc7.2.2 ?_
      refine GM_aload_n (pc := 26) 1 rfl (daX10_proud_0 16 rfl) rfl ?_
      refine GM_getf (pc := 27) 10 8 3 8 kf_X10_64 (Nat.le_of_ble_eq_true rfl) (Nat.le_of_ble_eq_true rfl) rfl (daX10_proud_0 17 rfl) hc1 rfl ?_
      refine GM_aload_n (pc := 30) 0 rfl (daX10_proud_0 18 rfl) rfl ?_
      refine GM_iload_n (pc := 31) 3 rfl (daX10_proud_0 19 rfl) rfl ?_
      obtain ⟨hc8, h⟩ := chk_inv h
      obtain ⟨⟨r9, μ9⟩, hf9, h⟩ := Option.bind_eq_some_iff.mp h
      dsimp only at h
      refine GM_callV0 (pc := 32) [(3, r2), (0, v2)] (tX9_saddle l hf9) cwX9_saddle 9 (Nat.le_of_ble_eq_true rfl) rfl kv_X9_saddle ke_X9_saddle km_X10_382 hc8 ⟨Nat.le_of_ble_eq_true rfl, Nat.le_of_ble_eq_true rfl⟩ (Nat.le_of_ble_eq_true rfl) (Nat.le_of_ble_eq_true rfl) (daX10_proud_0 20 rfl) ?_
      refine GM_isub (pc := 35) (daX10_proud_0 21 rfl) ?_
      cases h
      exact GM_iret (pc := 36) (daX10_proud_0 22 rfl) rfl hK
    · skip
      rw [if_pos c6] at h
      refine GM_iconst (pc := 18) (-1) (daX10_proud_0 10 rfl) rfl (R32_b rfl) ?_
      cases h
      exact GM_iret (pc := 19) (daX10_proud_0 11 rfl) rfl hK
theorem tX10_proud (l : Launch) {v0 v1 v2 : Int} {μ : Mm} {t : (Int × Mm)} (h : fX10_proud v0 v1 v2 μ = some t) : Ct l yX10_proud mX10_proud [(3, v0), (0, v1), (0, v2)] μ ([(0, t.1)], t.2, 0, 0) :=
  Ct_of (by decide +kernel) rfl rfl (Nat.le_of_ble_eq_true rfl) (fun _ _ _ => trivial) (gX10_proud_0 l h ⟨rfl, rfl⟩)
def mX10_peaks : MI := (RX10, cX10_peaks, 5, (some .int), "peaks", 3, 66, fun _ _ _ => True)
theorem cwX10_peaks : CWd yX10_peaks mX10_peaks 1 := ⟨ki_X10, kk_X10_peaks, ⟨by decide, by decide⟩, rfl⟩
def dtX10_peaks_0 : List (Nat × Instr × Nat) := [(0, .aload_n 0, 1), (1, .iload_n 1, 1), (2, .invokevirtual 149, 3), (5, .astore_n 2, 1), (6, .aload_n 2, 1), (7, .ifnonnull 5, 3), (10, .iconst (-1), 1), (11, .ireturn, 1), (12, .iconst 0, 1), (13, .istore_n 3, 1), (14, .iconst 0, 1), (15, .istore 4, 2), (17, .iload 4, 2), (19, .aload_n 2, 1), (20, .invokevirtual 266, 3), (23, .if_icmp .ge 21, 3), (26, .aload_n 2, 1), (27, .iload 4, 2), (29, .invokevirtual 386, 3), (32, .ifCond .eq 6, 3), (35, .iinc 3 1, 3), (38, .iinc 4 1, 3), (41, .goto (-24), 3), (44, .iload_n 3, 1), (45, .ireturn, 1)]
theorem ddX10_peaks_0 : (dtX10_peaks_0.all fun e => decide (decode mX10_peaks.2.1 e.1 = .ok (e.2.1, e.2.2))) = true := by decide +kernel
theorem daX10_peaks_0 (j : Nat) {pc n : Nat} {i : Instr} (h : dtX10_peaks_0[j]? = some (pc, i, n)) : decode mX10_peaks.2.1 pc = .ok (i, n) := dec_of (c := mX10_peaks.2.1) ddX10_peaks_0 h
def zX10_peaks_17 (l : Launch) (F : FI) (v2 : Int) (μ : Mm) (k n : Nat) : (Int × Int) ⊕ Int → Prop
  | .inl (v3, v4) => GM l mX10_peaks F k n 17 [(2, (3, v2)), (3, (0, v3)), (4, (0, v4))] [] μ
  | .inr v3 => GM l mX10_peaks F k n 44 [(3, (0, v3))] [] μ
def sX10_peaks_17 (v2 : Int) (μ : Mm) : (Int × Int) → Option ((Int × Int) ⊕ Int) := fun (v3, v4) =>
  chk (KD v2 = 2) (
  (fX2_places v2 μ).bind fun r2 =>
  if r2 ≤ v4 then
    some (.inr v3)
  else
    (fX2_isPeak v2 v4 μ).bind fun r4 =>
    if r4 = 0 then
      some (.inl (v3, w32 (v4 + 1)))
    else
      some (.inl (w32 (v3 + 1), w32 (v4 + 1))))
def fX10_peaks (v0 v1 : Int) (μ : Mm) : Option Int :=
  chk (KD v0 = 10) (
  (fX10_landAt v0 v1 μ).bind fun r7 =>
  if r7 = 0 then
    some (-1)
  else
    (lop (sX10_peaks_17 r7 μ) FU (0, 0)).bind fun v3_10 =>
      some v3_10)
set_option maxRecDepth 20000 in
theorem qX10_peaks_17 (l : Launch) (F : FI) (v2 : Int) (μ : Mm) (k n : Nat) : ∀ (q : (Int × Int)) (t : ((Int × Int) ⊕ Int)), sX10_peaks_17 v2 μ q = some t → zX10_peaks_17 l F v2 μ k n t → zX10_peaks_17 l F v2 μ k n (.inl q) := by
  intro q t h hK
  obtain ⟨v3, v4⟩ := q
  unfold sX10_peaks_17 at h
  try dsimp only at h
  show GM l mX10_peaks F k n 17 [(2, (3, v2)), (3, (0, v3)), (4, (0, v4))] [] μ
  refine GM_iload (pc := 17) 2 rfl (daX10_peaks_0 12 rfl) ?_
  refine GM_aload_n (pc := 19) 0 rfl (daX10_peaks_0 13 rfl) rfl ?_
  obtain ⟨hc1, h⟩ := chk_inv h
  obtain ⟨r2, hf2, h⟩ := Option.bind_eq_some_iff.mp h
  refine GM_callV0 (pc := 20) [] (tX2_places l hf2) cwX2_places 2 (Nat.le_of_ble_eq_true rfl) rfl kv_X2_places ke_X2_places km_X10_266 hc1 ⟨Nat.le_of_ble_eq_true rfl, Nat.le_of_ble_eq_true rfl⟩ (Nat.le_of_ble_eq_true rfl) (Nat.le_of_ble_eq_true rfl) (daX10_peaks_0 14 rfl) ?_
  refine GM_icmp_ge (pc := 23) 44 (daX10_peaks_0 15 rfl) rfl (fun c3 => ?_) (fun c3 => ?_)
  · skip
    rw [if_pos c3] at h
    refine GM_pick [1] rfl ?_
    cases h
    exact hK
  · skip
    rw [if_neg c3] at h
    refine GM_aload_n (pc := 26) 0 rfl (daX10_peaks_0 16 rfl) rfl ?_
    refine GM_iload (pc := 27) 2 rfl (daX10_peaks_0 17 rfl) ?_
    obtain ⟨r4, hf4, h⟩ := Option.bind_eq_some_iff.mp h
    refine GM_callV0 (pc := 29) [(0, v4)] (tX2_isPeak l hf4) cwX2_isPeak 2 (Nat.le_of_ble_eq_true rfl) rfl kv_X2_isPeak ke_X2_isPeak km_X10_386 hc1 ⟨Nat.le_of_ble_eq_true rfl, Nat.le_of_ble_eq_true rfl⟩ (Nat.le_of_ble_eq_true rfl) (Nat.le_of_ble_eq_true rfl) (daX10_peaks_0 18 rfl) ?_
    refine GM_if_eq (pc := 32) 38 (daX10_peaks_0 19 rfl) rfl (fun c5 => ?_) (fun c5 => ?_)
    · skip
      rw [if_pos c5] at h
      refine GM_iinc (L' := [(4, (0, w32 (v4 + 1))), (2, (3, v2)), (3, (0, v3))]) (pc := 38) 2 rfl (daX10_peaks_0 21 rfl) (Nat.le_of_ble_eq_true rfl) rfl ?_
      refine GM_goto (pc := 41) 17 (daX10_peaks_0 22 rfl) rfl ?_
      refine GM_pick [1, 2, 0] rfl ?_
      cases h
      exact hK
    · skip
      rw [if_neg c5] at h
      refine GM_iinc (L' := [(3, (0, w32 (v3 + 1))), (2, (3, v2)), (4, (0, v4))]) (pc := 35) 1 rfl (daX10_peaks_0 20 rfl) (Nat.le_of_ble_eq_true rfl) rfl ?_
      refine GM_iinc (L' := [(4, (0, w32 (v4 + 1))), (3, (0, w32 (v3 + 1))), (2, (3, v2))]) (pc := 38) 2 rfl (daX10_peaks_0 21 rfl) (Nat.le_of_ble_eq_true rfl) rfl ?_
      refine GM_goto (pc := 41) 17 (daX10_peaks_0 22 rfl) rfl ?_
      refine GM_pick [2, 1, 0] rfl ?_
      cases h
      exact hK
set_option maxRecDepth 20000 in
theorem gX10_peaks_0 (l : Launch) {F : FI} {v0 v1 : Int} {μ : Mm} {t : Int} (h : fX10_peaks v0 v1 μ = some t) (hK : F.1 = [(0, t)] ∧ F.2.1 = μ) : GM l mX10_peaks F 0 0 0 [(0, (3, v0)), (1, (0, v1))] [] μ := by
  unfold fX10_peaks at h
  refine GM_aload_n (pc := 0) 0 rfl (daX10_peaks_0 0 rfl) rfl ?_
  refine GM_iload_n (pc := 1) 1 rfl (daX10_peaks_0 1 rfl) rfl ?_
  obtain ⟨hc6, h⟩ := chk_inv h
  obtain ⟨r7, hf7, h⟩ := Option.bind_eq_some_iff.mp h
  refine GM_callV0 (pc := 2) [(0, v1)] (tX10_landAt l hf7) cwX10_landAt 10 (Nat.le_of_ble_eq_true rfl) rfl kv_X10_landAt ke_X10_landAt km_X10_149 hc6 ⟨Nat.le_of_ble_eq_true rfl, Nat.le_of_ble_eq_true rfl⟩ (Nat.le_of_ble_eq_true rfl) (Nat.le_of_ble_eq_true rfl) (daX10_peaks_0 2 rfl) ?_
  refine GM_astore_n (L' := [(2, (3, r7)), (0, (3, v0)), (1, (0, v1))]) (pc := 5) (daX10_peaks_0 3 rfl) rfl (Nat.le_of_ble_eq_true rfl) rfl ?_
  refine GM_aload_n (pc := 6) 0 rfl (daX10_peaks_0 4 rfl) rfl ?_
  refine GM_ifnonnull (pc := 7) 12 (daX10_peaks_0 5 rfl) rfl (fun c8 => ?_) (fun c8 => ?_)
  · skip
    rw [if_neg c8] at h
    refine GM_iconst (pc := 12) 0 (daX10_peaks_0 8 rfl) rfl (R32_b rfl) ?_
    refine GM_istore_n (L' := [(3, (0, 0)), (2, (3, r7)), (0, (3, v0)), (1, (0, v1))]) (pc := 13) (daX10_peaks_0 9 rfl) rfl (Nat.le_of_ble_eq_true rfl) rfl ?_
    refine GM_iconst (pc := 14) 0 (daX10_peaks_0 10 rfl) rfl (R32_b rfl) ?_
    refine GM_istore (L' := [(4, (0, 0)), (3, (0, 0)), (2, (3, r7)), (0, (3, v0)), (1, (0, v1))]) (pc := 15) (daX10_peaks_0 11 rfl) (Nat.le_of_ble_eq_true rfl) rfl ?_
    refine GM_pick [2, 1, 0] rfl ?_
    obtain ⟨x9, hqx9, h⟩ := Option.bind_eq_some_iff.mp h
    refine lop_ind (zX10_peaks_17 l F r7 μ 0 0) (qX10_peaks_17 l F r7 μ 0 0) FU _ x9 hqx9 ?_
    obtain ⟨v3_10, hqq⟩ : ∃ z, z = x9 := ⟨x9, rfl⟩
    subst hqq
    show GM l mX10_peaks F 0 0 44 [(3, (0, v3_10))] [] μ
    refine GM_iload_n (pc := 44) 0 rfl (daX10_peaks_0 23 rfl) rfl ?_
    cases h
    exact GM_iret (pc := 45) (daX10_peaks_0 24 rfl) rfl hK
  · skip
    rw [if_pos c8] at h
    refine GM_iconst (pc := 10) (-1) (daX10_peaks_0 6 rfl) rfl (R32_b rfl) ?_
    cases h
    exact GM_iret (pc := 11) (daX10_peaks_0 7 rfl) rfl hK
theorem tX10_peaks (l : Launch) {v0 v1 : Int} {μ : Mm} {t : Int} (h : fX10_peaks v0 v1 μ = some t) : Ct l yX10_peaks mX10_peaks [(3, v0), (0, v1)] μ ([(0, t)], μ, 0, 0) :=
  Ct_of (by decide +kernel) rfl rfl (Nat.le_of_ble_eq_true rfl) (fun _ _ _ => trivial) (gX10_peaks_0 l h ⟨rfl, rfl⟩)
def mX10_canDraw : MI := (RX10, cX10_canDraw, 4, (some .boolean), "canDraw", 1, 21, fun _ _ _ => True)
theorem cwX10_canDraw : CWd yX10_canDraw mX10_canDraw 4 := ⟨ki_X10, kk_X10_canDraw, ⟨by decide, by decide⟩, rfl⟩
def dtX10_canDraw_0 : List (Nat × Instr × Nat) := [(0, .aload_n 0, 1), (1, .ifnull 33, 3), (4, .aload_n 0, 1), (5, .iload_n 1, 1), (6, .invokevirtual 253, 3), (9, .ifCond .eq 25, 3), (12, .iload_n 2, 1), (13, .iconst 1, 1), (14, .if_icmp .lt 20, 3), (17, .iload_n 2, 1), (18, .aload_n 0, 1), (19, .getfield 249, 3), (22, .if_icmp .gt 12, 3), (25, .iload_n 2, 1), (26, .iload_n 3, 1), (27, .if_icmp .gt 7, 3), (30, .iconst 1, 1), (31, .goto 4, 3), (34, .iconst 0, 1), (35, .ireturn, 1)]
theorem ddX10_canDraw_0 : (dtX10_canDraw_0.all fun e => decide (decode mX10_canDraw.2.1 e.1 = .ok (e.2.1, e.2.2))) = true := by decide +kernel
theorem daX10_canDraw_0 (j : Nat) {pc n : Nat} {i : Instr} (h : dtX10_canDraw_0[j]? = some (pc, i, n)) : decode mX10_canDraw.2.1 pc = .ok (i, n) := dec_of (c := mX10_canDraw.2.1) ddX10_canDraw_0 h
def fX10_canDraw (v0 v1 v2 v3 : Int) (μ : Mm) : Option Int :=
  if v0 = 0 then
    some 0
  else
    chk (KD v0 = 7) (
    (fX7_hasHump v0 v1 μ).bind fun r3 =>
    if r3 = 0 then
      some 0
    else
      if v2 < 1 then
        some 0
      else
        if μ v0 2 < v2 then
          some 0
        else
          if v3 < v2 then
            some 0
          else
            some 1)
set_option maxRecDepth 20000 in
theorem gX10_canDraw_0 (l : Launch) {F : FI} {v0 v1 v2 v3 : Int} {μ : Mm} {t : Int} (h : fX10_canDraw v0 v1 v2 v3 μ = some t) (hK : F.1 = [(0, t)] ∧ F.2.1 = μ) : GM l mX10_canDraw F 0 0 0 [(0, (3, v0)), (1, (0, v1)), (2, (0, v2)), (3, (0, v3))] [] μ := by
  unfold fX10_canDraw at h
  refine GM_aload_n (pc := 0) 0 rfl (daX10_canDraw_0 0 rfl) rfl ?_
  refine GM_ifnull (pc := 1) 34 (daX10_canDraw_0 1 rfl) rfl (fun c1 => ?_) (fun c1 => ?_)
  · skip
    rw [if_pos c1] at h
    refine GM_iconst (pc := 34) 0 (daX10_canDraw_0 18 rfl) rfl (R32_b rfl) ?_
    cases h
    exact GM_zret (pc := 35) (daX10_canDraw_0 19 rfl) rfl (Or.inl rfl) hK
  · skip
    rw [if_neg c1] at h
    refine GM_aload_n (pc := 4) 0 rfl (daX10_canDraw_0 2 rfl) rfl ?_
    refine GM_iload_n (pc := 5) 1 rfl (daX10_canDraw_0 3 rfl) rfl ?_
    obtain ⟨hc2, h⟩ := chk_inv h
    obtain ⟨r3, hf3, h⟩ := Option.bind_eq_some_iff.mp h
    refine GM_callV0 (pc := 6) [(0, v1)] (tX7_hasHump l hf3) cwX7_hasHump 7 (Nat.le_of_ble_eq_true rfl) rfl kv_X7_hasHump ke_X7_hasHump km_X10_253 hc2 ⟨Nat.le_of_ble_eq_true rfl, Nat.le_of_ble_eq_true rfl⟩ (Nat.le_of_ble_eq_true rfl) (Nat.le_of_ble_eq_true rfl) (daX10_canDraw_0 4 rfl) ?_
    refine GM_if_eq (pc := 9) 34 (daX10_canDraw_0 5 rfl) rfl (fun c4 => ?_) (fun c4 => ?_)
    · skip
      rw [if_pos c4] at h
      refine GM_iconst (pc := 34) 0 (daX10_canDraw_0 18 rfl) rfl (R32_b rfl) ?_
      cases h
      exact GM_zret (pc := 35) (daX10_canDraw_0 19 rfl) rfl (Or.inl rfl) hK
    · skip
      rw [if_neg c4] at h
      refine GM_iload_n (pc := 12) 2 rfl (daX10_canDraw_0 6 rfl) rfl ?_
      refine GM_iconst (pc := 13) 1 (daX10_canDraw_0 7 rfl) rfl (R32_b rfl) ?_
      refine GM_icmp_lt (pc := 14) 34 (daX10_canDraw_0 8 rfl) rfl (fun c5 => ?_) (fun c5 => ?_)
      · skip
        rw [if_pos c5] at h
        refine GM_iconst (pc := 34) 0 (daX10_canDraw_0 18 rfl) rfl (R32_b rfl) ?_
        cases h
        exact GM_zret (pc := 35) (daX10_canDraw_0 19 rfl) rfl (Or.inl rfl) hK
      · skip
        rw [if_neg c5] at h
        refine GM_iload_n (pc := 17) 2 rfl (daX10_canDraw_0 9 rfl) rfl ?_
        refine GM_aload_n (pc := 18) 0 rfl (daX10_canDraw_0 10 rfl) rfl ?_
        refine GM_getf (pc := 19) 7 2 0 2 kf_X10_249 (Nat.le_of_ble_eq_true rfl) (Nat.le_of_ble_eq_true rfl) rfl (daX10_canDraw_0 11 rfl) hc2 rfl ?_
        refine GM_icmp_gt (pc := 22) 34 (daX10_canDraw_0 12 rfl) rfl (fun c6 => ?_) (fun c6 => ?_)
        · skip
          rw [if_pos c6] at h
          refine GM_iconst (pc := 34) 0 (daX10_canDraw_0 18 rfl) rfl (R32_b rfl) ?_
          cases h
          exact GM_zret (pc := 35) (daX10_canDraw_0 19 rfl) rfl (Or.inl rfl) hK
        · skip
          rw [if_neg c6] at h
          refine GM_iload_n (pc := 25) 2 rfl (daX10_canDraw_0 13 rfl) rfl ?_
          refine GM_iload_n (pc := 26) 3 rfl (daX10_canDraw_0 14 rfl) rfl ?_
          refine GM_icmp_gt (pc := 27) 34 (daX10_canDraw_0 15 rfl) rfl (fun c7 => ?_) (fun c7 => ?_)
          · skip
            rw [if_pos c7] at h
            refine GM_iconst (pc := 34) 0 (daX10_canDraw_0 18 rfl) rfl (R32_b rfl) ?_
            cases h
            exact GM_zret (pc := 35) (daX10_canDraw_0 19 rfl) rfl (Or.inl rfl) hK
          · skip
            rw [if_neg c7] at h
            refine GM_iconst (pc := 30) 1 (daX10_canDraw_0 16 rfl) rfl (R32_b rfl) ?_
            refine GM_goto (pc := 31) 35 (daX10_canDraw_0 17 rfl) rfl ?_
            cases h
            exact GM_zret (pc := 35) (daX10_canDraw_0 19 rfl) rfl (Or.inr rfl) hK
theorem tX10_canDraw (l : Launch) {v0 v1 v2 v3 : Int} {μ : Mm} {t : Int} (h : fX10_canDraw v0 v1 v2 v3 μ = some t) : Ct l yX10_canDraw mX10_canDraw [(3, v0), (0, v1), (0, v2), (0, v3)] μ ([(0, t)], μ, 0, 0) :=
  Ct_of (by decide +kernel) rfl rfl (Nat.le_of_ble_eq_true rfl) (fun _ _ _ => trivial) (gX10_canDraw_0 l h ⟨rfl, rfl⟩)
def mX10_draw : MI := (RX10, cX10_draw, 8, (some .int), "draw", 5, 122, fun _ _ _ => True)
theorem cwX10_draw : CWd yX10_draw mX10_draw 5 := ⟨ki_X10, kk_X10_draw, ⟨by decide, by decide⟩, rfl⟩
def dtX10_draw_0 : List (Nat × Instr × Nat) := [(0, .aload_n 0, 1), (1, .iload_n 1, 1), (2, .iload_n 2, 1), (3, .invokevirtual 236, 3), (6, .astore 6, 2), (8, .aload_n 0, 1), (9, .iconst 1, 1), (10, .iload 5, 2), (12, .invokevirtual 89, 3), (15, .istore 7, 2), (17, .iload 7, 2), (19, .bipush (-2), 2), (21, .if_icmp .eq 16, 3), (24, .aload 6, 2), (26, .iload_n 3, 1), (27, .iload 4, 2), (29, .bipush 12, 2), (31, .invokestatic 389, 3), (34, .ifCond .ne 5, 3), (37, .iconst (-1), 1), (38, .ireturn, 1), (39, .aload_n 0, 1), (40, .getfield 57, 3), (43, .aload 6, 2), (45, .iload_n 3, 1), (46, .iload 4, 2), (48, .invokevirtual 393, 3), (51, .aload_n 0, 1), (52, .iload 7, 2), (54, .aload_n 0, 1), (55, .getfield 57, 3), (58, .invokevirtual 112, 3), (61, .iload 7, 2), (63, .ireturn, 1)]
theorem ddX10_draw_0 : (dtX10_draw_0.all fun e => decide (decode mX10_draw.2.1 e.1 = .ok (e.2.1, e.2.2))) = true := by decide +kernel
theorem daX10_draw_0 (j : Nat) {pc n : Nat} {i : Instr} (h : dtX10_draw_0[j]? = some (pc, i, n)) : decode mX10_draw.2.1 pc = .ok (i, n) := dec_of (c := mX10_draw.2.1) ddX10_draw_0 h
def fX10_draw (v0 v1 v2 v3 v4 v5 : Int) (μ : Mm) : Option ((Int × Mm) × Nat × Nat) :=
  chk (KD v0 = 10) (
  (fX10_lineAt v0 v1 v2 μ).bind fun ((r2, μ2), c2, n2) =>
  pay c2 n2 (
  (fX10_slotFor v0 1 v5 μ2).bind fun r4 =>
  if r4 = (-2) then
    some (((-1), μ2), 0, 0)
  else
    (fX10_canDraw r2 v3 v4 12 μ2).bind fun r6 =>
    if r6 = 0 then
      some (((-1), μ2), 0, 0)
    else
      chk (KD (μ2 v0 7) = 6) (
      (fX6_drawFrom (μ2 v0 7) r2 v3 v4 μ2).bind fun μ9 =>
      (fX10_keepSketch v0 r4 (μ9 v0 7) μ9).bind fun μ10 =>
      some ((r4, μ10), 0, 0))))
set_option maxRecDepth 20000 in
theorem gX10_draw_0 (l : Launch) {F : FI} {v0 v1 v2 v3 v4 v5 : Int} {μ : Mm} {t : (Int × Mm)} {c0 n0 k n : Nat} (h : fX10_draw v0 v1 v2 v3 v4 v5 μ = some (t, c0, n0)) (hK : F.1 = [(0, t.1)] ∧ F.2.1 = t.2) : GM l mX10_draw F (c0 + k) (n0 + n) 0 [(0, (3, v0)), (1, (0, v1)), (2, (0, v2)), (3, (0, v3)), (4, (0, v4)), (5, (0, v5))] [] μ := by
  unfold fX10_draw at h
  refine GM_aload_n (pc := 0) 0 rfl (daX10_draw_0 0 rfl) rfl ?_
  refine GM_iload_n (pc := 1) 1 rfl (daX10_draw_0 1 rfl) rfl ?_
  refine GM_iload_n (pc := 2) 2 rfl (daX10_draw_0 2 rfl) rfl ?_
  obtain ⟨hc1, h⟩ := chk_inv h
  obtain ⟨⟨⟨r2, μ2⟩, c2, n2⟩, hf2, h⟩ := Option.bind_eq_some_iff.mp h
  dsimp only at h
  obtain ⟨c3, n3, hp, e1, e2⟩ := pay_inv h
  subst e1 e2
  replace h := hp
  clear hp
  rw [Nat.add_assoc, Nat.add_assoc]
  refine GM_callV (pc := 3) [(0, v1), (0, v2)] (tX10_lineAt l hf2) cwX10_lineAt 10 (Nat.le_of_ble_eq_true rfl) rfl kv_X10_lineAt ke_X10_lineAt km_X10_236 hc1 ⟨Nat.le_of_ble_eq_true rfl, Nat.le_of_ble_eq_true rfl⟩ (Nat.le_of_ble_eq_true rfl) (Nat.le_of_ble_eq_true rfl) (daX10_draw_0 3 rfl) ?_
  refine GM_astore (L' := [(6, (3, r2)), (0, (3, v0)), (1, (0, v1)), (2, (0, v2)), (3, (0, v3)), (4, (0, v4)), (5, (0, v5))]) (pc := 6) (daX10_draw_0 4 rfl) (Nat.le_of_ble_eq_true rfl) rfl ?_
  refine GM_aload_n (pc := 8) 1 rfl (daX10_draw_0 5 rfl) rfl ?_
  refine GM_iconst (pc := 9) 1 (daX10_draw_0 6 rfl) rfl (R32_b rfl) ?_
  refine GM_iload (pc := 10) 6 rfl (daX10_draw_0 7 rfl) ?_
  obtain ⟨r4, hf4, h⟩ := Option.bind_eq_some_iff.mp h
  refine GM_callV0 (pc := 12) [(0, 1), (0, v5)] (tX10_slotFor l hf4) cwX10_slotFor 10 (Nat.le_of_ble_eq_true rfl) rfl kv_X10_slotFor ke_X10_slotFor km_X10_89 hc1 ⟨Nat.le_of_ble_eq_true rfl, Nat.le_of_ble_eq_true rfl⟩ (Nat.le_of_ble_eq_true rfl) (Nat.le_of_ble_eq_true rfl) (daX10_draw_0 8 rfl) ?_
  refine GM_istore (L' := [(7, (0, r4)), (6, (3, r2)), (0, (3, v0)), (1, (0, v1)), (2, (0, v2)), (3, (0, v3)), (4, (0, v4)), (5, (0, v5))]) (pc := 15) (daX10_draw_0 9 rfl) (Nat.le_of_ble_eq_true rfl) rfl ?_
  refine GM_iload (pc := 17) 0 rfl (daX10_draw_0 10 rfl) ?_
  refine GM_bipush (pc := 19) (-2) (daX10_draw_0 11 rfl) rfl (R32_b rfl) ?_
  refine GM_icmp_eq (pc := 21) 37 (daX10_draw_0 12 rfl) rfl (fun c5 => ?_) (fun c5 => ?_)
  · skip
    rw [if_pos c5] at h
    refine GM_iconst (pc := 37) (-1) (daX10_draw_0 19 rfl) rfl (R32_b rfl) ?_
    cases h
    exact GM_iret (pc := 38) (daX10_draw_0 20 rfl) rfl hK
  · skip
    rw [if_neg c5] at h
    refine GM_aload (pc := 24) 1 rfl (daX10_draw_0 13 rfl) ?_
    refine GM_iload_n (pc := 26) 5 rfl (daX10_draw_0 14 rfl) rfl ?_
    refine GM_iload (pc := 27) 6 rfl (daX10_draw_0 15 rfl) ?_
    refine GM_bipush (pc := 29) 12 (daX10_draw_0 16 rfl) rfl (R32_b rfl) ?_
    obtain ⟨r6, hf6, h⟩ := Option.bind_eq_some_iff.mp h
    refine GM_callS0 (pc := 31) [(3, r2), (0, v3), (0, v4), (0, 12)] (tX10_canDraw l hf6) cwX10_canDraw ks_X10_canDraw km_X10_389 ⟨Nat.le_of_ble_eq_true rfl, Nat.le_of_ble_eq_true rfl⟩ (Nat.le_of_ble_eq_true rfl) (Nat.le_of_ble_eq_true rfl) (daX10_draw_0 17 rfl) ?_
    refine GM_if_ne (pc := 34) 39 (daX10_draw_0 18 rfl) rfl (fun c7 => ?_) (fun c7 => ?_)
    · skip
      rw [if_neg c7] at h
      refine GM_aload_n (pc := 39) 2 rfl (daX10_draw_0 21 rfl) rfl ?_
      refine GM_getf (pc := 40) 10 7 3 7 kf_X10_57 (Nat.le_of_ble_eq_true rfl) (Nat.le_of_ble_eq_true rfl) rfl (daX10_draw_0 22 rfl) hc1 rfl ?_
      refine GM_aload (pc := 43) 1 rfl (daX10_draw_0 23 rfl) ?_
      refine GM_iload_n (pc := 45) 5 rfl (daX10_draw_0 24 rfl) rfl ?_
      refine GM_iload (pc := 46) 6 rfl (daX10_draw_0 25 rfl) ?_
      obtain ⟨hc8, h⟩ := chk_inv h
      obtain ⟨μ9, hf9, h⟩ := Option.bind_eq_some_iff.mp h
      refine GM_callV0 (pc := 48) [(3, r2), (0, v3), (0, v4)] (tX6_drawFrom l hf9) cwX6_drawFrom 6 (Nat.le_of_ble_eq_true rfl) rfl kv_X6_drawFrom ke_X6_drawFrom km_X10_393 hc8 ⟨Nat.le_of_ble_eq_true rfl, Nat.le_of_ble_eq_true rfl⟩ (Nat.le_of_ble_eq_true rfl) (Nat.le_of_ble_eq_true rfl) (daX10_draw_0 26 rfl) ?_
      refine GM_aload_n (pc := 51) 2 rfl (daX10_draw_0 27 rfl) rfl ?_
      refine GM_iload (pc := 52) 0 rfl (daX10_draw_0 28 rfl) ?_
      refine GM_aload_n (pc := 54) 2 rfl (daX10_draw_0 29 rfl) rfl ?_
      refine GM_getf (pc := 55) 10 7 3 7 kf_X10_57 (Nat.le_of_ble_eq_true rfl) (Nat.le_of_ble_eq_true rfl) rfl (daX10_draw_0 30 rfl) hc1 rfl ?_
      obtain ⟨μ10, hf10, h⟩ := Option.bind_eq_some_iff.mp h
      refine GM_callV0 (pc := 58) [(0, r4), (3, μ9 v0 7)] (tX10_keepSketch l hf10) cwX10_keepSketch 10 (Nat.le_of_ble_eq_true rfl) rfl kv_X10_keepSketch ke_X10_keepSketch km_X10_112 hc1 ⟨Nat.le_of_ble_eq_true rfl, Nat.le_of_ble_eq_true rfl⟩ (Nat.le_of_ble_eq_true rfl) (Nat.le_of_ble_eq_true rfl) (daX10_draw_0 31 rfl) ?_
      refine GM_iload (pc := 61) 0 rfl (daX10_draw_0 32 rfl) ?_
      cases h
      exact GM_iret (pc := 63) (daX10_draw_0 33 rfl) rfl hK
    · skip
      rw [if_pos c7] at h
      refine GM_iconst (pc := 37) (-1) (daX10_draw_0 19 rfl) rfl (R32_b rfl) ?_
      cases h
      exact GM_iret (pc := 38) (daX10_draw_0 20 rfl) rfl hK
theorem tX10_draw (l : Launch) {v0 v1 v2 v3 v4 v5 : Int} {μ : Mm} {t : (Int × Mm)} {c0 n0 : Nat} (h : fX10_draw v0 v1 v2 v3 v4 v5 μ = some (t, c0, n0)) : Ct l yX10_draw mX10_draw [(3, v0), (0, v1), (0, v2), (0, v3), (0, v4), (0, v5)] μ ([(0, t.1)], t.2, c0, n0) :=
  Ct_of (by decide +kernel) rfl rfl (Nat.le_of_ble_eq_true rfl) (fun _ _ _ => trivial) (gX10_draw_0 (k := 0) (n := 0) l h ⟨rfl, rfl⟩)
def mX10_rivals : MI := (RX10, cX10_rivals, 7, (some .int), "rivals", 7, 166, fun _ _ _ => True)
theorem cwX10_rivals : CWd yX10_rivals mX10_rivals 4 := ⟨ki_X10, kk_X10_rivals, ⟨by decide, by decide⟩, rfl⟩
def dtX10_rivals_0 : List (Nat × Instr × Nat) := [(0, .aload_n 0, 1), (1, .iload_n 1, 1), (2, .invokevirtual 220, 3), (5, .astore 5, 2), (7, .aload_n 0, 1), (8, .iload_n 1, 1), (9, .iload_n 2, 1), (10, .invokevirtual 236, 3), (13, .astore 6, 2), (15, .aload 5, 2), (17, .ifnull 16, 3), (20, .aload 6, 2), (22, .iload_n 3, 1), (23, .iload 4, 2), (25, .bipush 12, 2), (27, .invokestatic 389, 3), (30, .ifCond .ne 5, 3), (33, .iconst (-1), 1), (34, .ireturn, 1), (35, .aload_n 0, 1), (36, .getfield 57, 3), (39, .aload 6, 2), (41, .iload_n 3, 1), (42, .iload 4, 2), (44, .invokevirtual 393, 3), (47, .aload_n 0, 1), (48, .getfield 50, 3), (51, .aload 5, 2), (53, .getfield 224, 3), (56, .aload_n 0, 1), (57, .getfield 57, 3), (60, .iconst (-1), 1), (61, .invokevirtual 294, 3), (64, .aload_n 0, 1), (65, .aload 5, 2), (67, .iload_n 2, 1), (68, .sipush 144, 3), (71, .invokevirtual 347, 3), (74, .ireturn, 1)]
theorem ddX10_rivals_0 : (dtX10_rivals_0.all fun e => decide (decode mX10_rivals.2.1 e.1 = .ok (e.2.1, e.2.2))) = true := by decide +kernel
theorem daX10_rivals_0 (j : Nat) {pc n : Nat} {i : Instr} (h : dtX10_rivals_0[j]? = some (pc, i, n)) : decode mX10_rivals.2.1 pc = .ok (i, n) := dec_of (c := mX10_rivals.2.1) ddX10_rivals_0 h
def fX10_rivals (v0 v1 v2 v3 v4 : Int) (μ : Mm) : Option ((Int × Mm) × Nat × Nat) :=
  chk (KD v0 = 10) (
  (fX10_sceneAt v0 v1 μ).bind fun ((r2, μ2), c2, n2) =>
  pay c2 n2 (
  (fX10_lineAt v0 v1 v2 μ2).bind fun ((r4, μ4), c4, n4) =>
  pay c4 n4 (
  if r2 = 0 then
    some (((-1), μ4), 0, 0)
  else
    (fX10_canDraw r4 v3 v4 12 μ4).bind fun r7 =>
    if r7 = 0 then
      some (((-1), μ4), 0, 0)
    else
      chk (KD (μ4 v0 7) = 6) (
      (fX6_drawFrom (μ4 v0 7) r4 v3 v4 μ4).bind fun μ10 =>
      chk (KD r2 = 4) (
      chk (KD (μ10 v0 6) = 1) (
      (fX1_hold (μ10 v0 6) (μ10 r2 0) (μ10 v0 7) (-1) μ10).bind fun μ13 =>
      (fX10_countFitting v0 r2 v2 144 μ13).bind fun ((r14, μ14), c14, n14) =>
      pay c14 n14 (
      some ((r14, μ14), 0, 0))))))))
set_option maxRecDepth 20000 in
theorem gX10_rivals_0 (l : Launch) {F : FI} {v0 v1 v2 v3 v4 : Int} {μ : Mm} {t : (Int × Mm)} {c0 n0 k n : Nat} (h : fX10_rivals v0 v1 v2 v3 v4 μ = some (t, c0, n0)) (hK : F.1 = [(0, t.1)] ∧ F.2.1 = t.2) : GM l mX10_rivals F (c0 + k) (n0 + n) 0 [(0, (3, v0)), (1, (0, v1)), (2, (0, v2)), (3, (0, v3)), (4, (0, v4))] [] μ := by
  unfold fX10_rivals at h
  refine GM_aload_n (pc := 0) 0 rfl (daX10_rivals_0 0 rfl) rfl ?_
  refine GM_iload_n (pc := 1) 1 rfl (daX10_rivals_0 1 rfl) rfl ?_
  obtain ⟨hc1, h⟩ := chk_inv h
  obtain ⟨⟨⟨r2, μ2⟩, c2, n2⟩, hf2, h⟩ := Option.bind_eq_some_iff.mp h
  dsimp only at h
  obtain ⟨c3, n3, hp, e1, e2⟩ := pay_inv h
  subst e1 e2
  replace h := hp
  clear hp
  rw [Nat.add_assoc, Nat.add_assoc]
  refine GM_callV (pc := 2) [(0, v1)] (tX10_sceneAt l hf2) cwX10_sceneAt 10 (Nat.le_of_ble_eq_true rfl) rfl kv_X10_sceneAt ke_X10_sceneAt km_X10_220 hc1 ⟨Nat.le_of_ble_eq_true rfl, Nat.le_of_ble_eq_true rfl⟩ (Nat.le_of_ble_eq_true rfl) (Nat.le_of_ble_eq_true rfl) (daX10_rivals_0 2 rfl) ?_
  refine GM_astore (L' := [(5, (3, r2)), (0, (3, v0)), (1, (0, v1)), (2, (0, v2)), (3, (0, v3)), (4, (0, v4))]) (pc := 5) (daX10_rivals_0 3 rfl) (Nat.le_of_ble_eq_true rfl) rfl ?_
  refine GM_aload_n (pc := 7) 1 rfl (daX10_rivals_0 4 rfl) rfl ?_
  refine GM_iload_n (pc := 8) 2 rfl (daX10_rivals_0 5 rfl) rfl ?_
  refine GM_iload_n (pc := 9) 3 rfl (daX10_rivals_0 6 rfl) rfl ?_
  obtain ⟨⟨⟨r4, μ4⟩, c4, n4⟩, hf4, h⟩ := Option.bind_eq_some_iff.mp h
  dsimp only at h
  obtain ⟨c5, n5, hp, e1, e2⟩ := pay_inv h
  subst e1 e2
  replace h := hp
  clear hp
  rw [Nat.add_assoc, Nat.add_assoc]
  refine GM_callV (pc := 10) [(0, v1), (0, v2)] (tX10_lineAt l hf4) cwX10_lineAt 10 (Nat.le_of_ble_eq_true rfl) rfl kv_X10_lineAt ke_X10_lineAt km_X10_236 hc1 ⟨Nat.le_of_ble_eq_true rfl, Nat.le_of_ble_eq_true rfl⟩ (Nat.le_of_ble_eq_true rfl) (Nat.le_of_ble_eq_true rfl) (daX10_rivals_0 7 rfl) ?_
  refine GM_astore (L' := [(6, (3, r4)), (5, (3, r2)), (0, (3, v0)), (1, (0, v1)), (2, (0, v2)), (3, (0, v3)), (4, (0, v4))]) (pc := 13) (daX10_rivals_0 8 rfl) (Nat.le_of_ble_eq_true rfl) rfl ?_
  refine GM_aload (pc := 15) 1 rfl (daX10_rivals_0 9 rfl) ?_
  refine GM_ifnull (pc := 17) 33 (daX10_rivals_0 10 rfl) rfl (fun c6 => ?_) (fun c6 => ?_)
  · skip
    rw [if_pos c6] at h
    refine GM_iconst (pc := 33) (-1) (daX10_rivals_0 17 rfl) rfl (R32_b rfl) ?_
    cases h
    exact GM_iret (pc := 34) (daX10_rivals_0 18 rfl) rfl hK
  · skip
    rw [if_neg c6] at h
    refine GM_aload (pc := 20) 0 rfl (daX10_rivals_0 11 rfl) ?_
    refine GM_iload_n (pc := 22) 5 rfl (daX10_rivals_0 12 rfl) rfl ?_
    refine GM_iload (pc := 23) 6 rfl (daX10_rivals_0 13 rfl) ?_
    refine GM_bipush (pc := 25) 12 (daX10_rivals_0 14 rfl) rfl (R32_b rfl) ?_
    obtain ⟨r7, hf7, h⟩ := Option.bind_eq_some_iff.mp h
    refine GM_callS0 (pc := 27) [(3, r4), (0, v3), (0, v4), (0, 12)] (tX10_canDraw l hf7) cwX10_canDraw ks_X10_canDraw km_X10_389 ⟨Nat.le_of_ble_eq_true rfl, Nat.le_of_ble_eq_true rfl⟩ (Nat.le_of_ble_eq_true rfl) (Nat.le_of_ble_eq_true rfl) (daX10_rivals_0 15 rfl) ?_
    refine GM_if_ne (pc := 30) 35 (daX10_rivals_0 16 rfl) rfl (fun c8 => ?_) (fun c8 => ?_)
    · skip
      rw [if_neg c8] at h
      refine GM_aload_n (pc := 35) 2 rfl (daX10_rivals_0 19 rfl) rfl ?_
      refine GM_getf (pc := 36) 10 7 3 7 kf_X10_57 (Nat.le_of_ble_eq_true rfl) (Nat.le_of_ble_eq_true rfl) rfl (daX10_rivals_0 20 rfl) hc1 rfl ?_
      refine GM_aload (pc := 39) 0 rfl (daX10_rivals_0 21 rfl) ?_
      refine GM_iload_n (pc := 41) 5 rfl (daX10_rivals_0 22 rfl) rfl ?_
      refine GM_iload (pc := 42) 6 rfl (daX10_rivals_0 23 rfl) ?_
      obtain ⟨hc9, h⟩ := chk_inv h
      obtain ⟨μ10, hf10, h⟩ := Option.bind_eq_some_iff.mp h
      refine GM_callV0 (pc := 44) [(3, r4), (0, v3), (0, v4)] (tX6_drawFrom l hf10) cwX6_drawFrom 6 (Nat.le_of_ble_eq_true rfl) rfl kv_X6_drawFrom ke_X6_drawFrom km_X10_393 hc9 ⟨Nat.le_of_ble_eq_true rfl, Nat.le_of_ble_eq_true rfl⟩ (Nat.le_of_ble_eq_true rfl) (Nat.le_of_ble_eq_true rfl) (daX10_rivals_0 24 rfl) ?_
      refine GM_aload_n (pc := 47) 2 rfl (daX10_rivals_0 25 rfl) rfl ?_
      refine GM_getf (pc := 48) 10 6 3 6 kf_X10_50 (Nat.le_of_ble_eq_true rfl) (Nat.le_of_ble_eq_true rfl) rfl (daX10_rivals_0 26 rfl) hc1 rfl ?_
      refine GM_aload (pc := 51) 1 rfl (daX10_rivals_0 27 rfl) ?_
      obtain ⟨hc11, h⟩ := chk_inv h
      refine GM_getf (pc := 53) 4 0 3 0 kf_X10_224 (Nat.le_of_ble_eq_true rfl) (Nat.le_of_ble_eq_true rfl) rfl (daX10_rivals_0 28 rfl) hc11 rfl ?_
      refine GM_aload_n (pc := 56) 2 rfl (daX10_rivals_0 29 rfl) rfl ?_
      refine GM_getf (pc := 57) 10 7 3 7 kf_X10_57 (Nat.le_of_ble_eq_true rfl) (Nat.le_of_ble_eq_true rfl) rfl (daX10_rivals_0 30 rfl) hc1 rfl ?_
      refine GM_iconst (pc := 60) (-1) (daX10_rivals_0 31 rfl) rfl (R32_b rfl) ?_
      obtain ⟨hc12, h⟩ := chk_inv h
      obtain ⟨μ13, hf13, h⟩ := Option.bind_eq_some_iff.mp h
      refine GM_callV0 (pc := 61) [(3, μ10 r2 0), (3, μ10 v0 7), (0, (-1))] (tX1_hold l hf13) cwX1_hold 1 (Nat.le_of_ble_eq_true rfl) rfl kv_X1_hold ke_X1_hold km_X10_294 hc12 ⟨Nat.le_of_ble_eq_true rfl, Nat.le_of_ble_eq_true rfl⟩ (Nat.le_of_ble_eq_true rfl) (Nat.le_of_ble_eq_true rfl) (daX10_rivals_0 32 rfl) ?_
      refine GM_aload_n (pc := 64) 2 rfl (daX10_rivals_0 33 rfl) rfl ?_
      refine GM_aload (pc := 65) 1 rfl (daX10_rivals_0 34 rfl) ?_
      refine GM_iload_n (pc := 67) 4 rfl (daX10_rivals_0 35 rfl) rfl ?_
      refine GM_sipush (pc := 68) 144 (daX10_rivals_0 36 rfl) rfl (R32_b rfl) ?_
      obtain ⟨⟨⟨r14, μ14⟩, c14, n14⟩, hf14, h⟩ := Option.bind_eq_some_iff.mp h
      dsimp only at h
      obtain ⟨c15, n15, hp, e1, e2⟩ := pay_inv h
      subst e1 e2
      replace h := hp
      clear hp
      rw [Nat.add_assoc, Nat.add_assoc]
      refine GM_callV (pc := 71) [(3, r2), (0, v2), (0, 144)] (tX10_countFitting l hf14) cwX10_countFitting 10 (Nat.le_of_ble_eq_true rfl) rfl kv_X10_countFitting ke_X10_countFitting km_X10_347 hc1 ⟨Nat.le_of_ble_eq_true rfl, Nat.le_of_ble_eq_true rfl⟩ (Nat.le_of_ble_eq_true rfl) (Nat.le_of_ble_eq_true rfl) (daX10_rivals_0 37 rfl) ?_
      cases h
      exact GM_iret (pc := 74) (daX10_rivals_0 38 rfl) rfl hK
    · skip
      rw [if_pos c8] at h
      refine GM_iconst (pc := 33) (-1) (daX10_rivals_0 17 rfl) rfl (R32_b rfl) ?_
      cases h
      exact GM_iret (pc := 34) (daX10_rivals_0 18 rfl) rfl hK
theorem tX10_rivals (l : Launch) {v0 v1 v2 v3 v4 : Int} {μ : Mm} {t : (Int × Mm)} {c0 n0 : Nat} (h : fX10_rivals v0 v1 v2 v3 v4 μ = some (t, c0, n0)) : Ct l yX10_rivals mX10_rivals [(3, v0), (0, v1), (0, v2), (0, v3), (0, v4)] μ ([(0, t.1)], t.2, c0, n0) :=
  Ct_of (by decide +kernel) rfl rfl (Nat.le_of_ble_eq_true rfl) (fun _ _ _ => trivial) (gX10_rivals_0 (k := 0) (n := 0) l h ⟨rfl, rfl⟩)
def mX10_known : MI := (RX10, cX10_known, 7, (some .int), "known", 7, 166, fun _ _ _ => True)
theorem cwX10_known : CWd yX10_known mX10_known 2 := ⟨ki_X10, kk_X10_known, ⟨by decide, by decide⟩, rfl⟩
def dtX10_known_0 : List (Nat × Instr × Nat) := [(0, .aload_n 0, 1), (1, .iload_n 1, 1), (2, .invokevirtual 220, 3), (5, .astore_n 3, 1), (6, .aload_n 0, 1), (7, .iload_n 1, 1), (8, .iload_n 2, 1), (9, .invokevirtual 236, 3), (12, .astore 4, 2), (14, .aload_n 3, 1), (15, .ifnull 8, 3), (18, .aload 4, 2), (20, .ifnonnull 5, 3), (23, .iconst (-1), 1), (24, .ireturn, 1), (25, .iconst 1, 1), (26, .istore 5, 2), (28, .iload 5, 2), (30, .aload 4, 2), (32, .getfield 249, 3), (35, .if_icmp .gt 77, 3), (38, .iload 5, 2), (40, .bipush 12, 2), (42, .if_icmp .gt 70, 3), (45, .iconst 0, 1), (46, .istore 6, 2), (48, .iload 6, 2), (50, .aload 4, 2), (52, .getfield 249, 3), (55, .if_icmp .ge 51, 3), (58, .aload_n 0, 1), (59, .getfield 57, 3), (62, .aload 4, 2), (64, .iload 6, 2), (66, .iload 5, 2), (68, .invokevirtual 393, 3), (71, .aload_n 0, 1), (72, .getfield 50, 3), (75, .aload_n 3, 1), (76, .getfield 224, 3), (79, .aload_n 0, 1), (80, .getfield 57, 3), (83, .iconst (-1), 1), (84, .invokevirtual 294, 3), (87, .aload_n 0, 1), (88, .aload_n 3, 1), (89, .iload_n 2, 1), (90, .iconst 1, 1), (91, .invokevirtual 347, 3), (94, .ifCond .ne 6, 3), (97, .iload 5, 2), (99, .ireturn, 1), (100, .iinc 6 1, 3), (103, .goto (-55), 3), (106, .iinc 5 1, 3), (109, .goto (-81), 3), (112, .iconst (-1), 1), (113, .ireturn, 1)]
theorem ddX10_known_0 : (dtX10_known_0.all fun e => decide (decode mX10_known.2.1 e.1 = .ok (e.2.1, e.2.2))) = true := by decide +kernel
theorem daX10_known_0 (j : Nat) {pc n : Nat} {i : Instr} (h : dtX10_known_0[j]? = some (pc, i, n)) : decode mX10_known.2.1 pc = .ok (i, n) := dec_of (c := mX10_known.2.1) ddX10_known_0 h
def zX10_known_48 (l : Launch) (F : FI) (v0 v2 v3 v4 v5 : Int) (k n : Nat) : (Int × Mm) ⊕ (Mm ⊕ Mm) → Prop
  | .inl (v6, μ) => GM l mX10_known F k n 48 [(0, (3, v0)), (2, (0, v2)), (3, (3, v3)), (4, (3, v4)), (5, (0, v5)), (6, (0, v6))] [] μ
  | .inr (.inl μ) => GM l mX10_known F k n 106 [(0, (3, v0)), (2, (0, v2)), (3, (3, v3)), (4, (3, v4)), (5, (0, v5))] [] μ
  | .inr (.inr μ) => GM l mX10_known F k n 97 [(5, (0, v5))] [] μ
def sX10_known_48 (v0 v2 v3 v4 v5 : Int) : (Int × Mm) → Option (((Int × Mm) ⊕ (Mm ⊕ Mm)) × Nat × Nat) := fun (v6, μ) =>
  chk (KD v4 = 7) (
  if μ v4 2 ≤ v6 then
    some (.inr (.inl μ), 0, 0)
  else
    chk (KD v0 = 10) (
    chk (KD (μ v0 7) = 6) (
    (fX6_drawFrom (μ v0 7) v4 v6 v5 μ).bind fun μ5 =>
    chk (KD v3 = 4) (
    chk (KD (μ5 v0 6) = 1) (
    (fX1_hold (μ5 v0 6) (μ5 v3 0) (μ5 v0 7) (-1) μ5).bind fun μ8 =>
    (fX10_countFitting v0 v3 v2 1 μ8).bind fun ((r9, μ9), c9, n9) =>
    pay c9 n9 (
    if r9 = 0 then
      some (.inr (.inr μ9), 0, 0)
    else
      some (.inl (w32 (v6 + 1), μ9), 0, 0)))))))
def zX10_known_28 (l : Launch) (F : FI) (v0 v2 v3 v4 : Int) (k n : Nat) : (Int × Mm) ⊕ (Mm ⊕ (Int × Mm)) → Prop
  | .inl (v5, μ) => GM l mX10_known F k n 28 [(0, (3, v0)), (2, (0, v2)), (3, (3, v3)), (4, (3, v4)), (5, (0, v5))] [] μ
  | .inr (.inl μ) => GM l mX10_known F k n 112 [] [] μ
  | .inr (.inr (v5, μ)) => GM l mX10_known F k n 97 [(5, (0, v5))] [] μ
def sX10_known_28 (v0 v2 v3 v4 : Int) : (Int × Mm) → Option (((Int × Mm) ⊕ (Mm ⊕ (Int × Mm))) × Nat × Nat) := fun (v5, μ) =>
  chk (KD v4 = 7) (
  if μ v4 2 < v5 then
    some (.inr (.inl μ), 0, 0)
  else
    if 12 < v5 then
      some (.inr (.inl μ), 0, 0)
    else
      (lopA (sX10_known_48 v0 v2 v3 v4 v5) FU (0, μ)).bind fun (x15, ccx15, nnx15) =>
        pay ccx15 nnx15 (
        match x15 with
        | (.inl μ_16) =>
            some (.inl (w32 (v5 + 1), μ_16), 0, 0)
        | (.inr μ_17) =>
            some (.inr (.inr (v5, μ_17)), 0, 0)))
def fX10_known (v0 v1 v2 : Int) (μ : Mm) : Option ((Int × Mm) × Nat × Nat) :=
  chk (KD v0 = 10) (
  (fX10_sceneAt v0 v1 μ).bind fun ((r20, μ20), c20, n20) =>
  pay c20 n20 (
  (fX10_lineAt v0 v1 v2 μ20).bind fun ((r22, μ22), c22, n22) =>
  pay c22 n22 (
  if r20 = 0 then
    some (((-1), μ22), 0, 0)
  else
    if r22 = 0 then
      some (((-1), μ22), 0, 0)
    else
      (lopA (sX10_known_28 v0 v2 r20 r22) FU (1, μ22)).bind fun (x26, ccx26, nnx26) =>
        pay ccx26 nnx26 (
        match x26 with
        | (.inl μ_27) =>
            some (((-1), μ_27), 0, 0)
        | (.inr (v5_28, μ_28)) =>
            some ((v5_28, μ_28), 0, 0)))))
set_option maxRecDepth 20000 in
theorem qX10_known_48 (l : Launch) (F : FI) (v0 v2 v3 v4 v5 : Int) : ∀ (q : (Int × Mm)) (t : ((Int × Mm) ⊕ (Mm ⊕ Mm))) (c0 n0 : Nat), sX10_known_48 v0 v2 v3 v4 v5 q = some (t, c0, n0) → ∀ k n, zX10_known_48 l F v0 v2 v3 v4 v5 k n t → zX10_known_48 l F v0 v2 v3 v4 v5 (c0 + k) (n0 + n) (.inl q) := by
  intro q t c0 n0 h k n hK
  obtain ⟨v6, μ⟩ := q
  unfold sX10_known_48 at h
  try dsimp only at h
  show GM l mX10_known F (c0 + k) (n0 + n) 48 [(0, (3, v0)), (2, (0, v2)), (3, (3, v3)), (4, (3, v4)), (5, (0, v5)), (6, (0, v6))] [] μ
  refine GM_iload (pc := 48) 5 rfl (daX10_known_0 26 rfl) ?_
  refine GM_aload (pc := 50) 3 rfl (daX10_known_0 27 rfl) ?_
  obtain ⟨hc1, h⟩ := chk_inv h
  refine GM_getf (pc := 52) 7 2 0 2 kf_X10_249 (Nat.le_of_ble_eq_true rfl) (Nat.le_of_ble_eq_true rfl) rfl (daX10_known_0 28 rfl) hc1 rfl ?_
  refine GM_icmp_ge (pc := 55) 106 (daX10_known_0 29 rfl) rfl (fun c2 => ?_) (fun c2 => ?_)
  · skip
    rw [if_pos c2] at h
    refine GM_pick [0, 1, 2, 3, 4] rfl ?_
    cases h
    rw [Nat.zero_add, Nat.zero_add]
    exact hK
  · skip
    rw [if_neg c2] at h
    refine GM_aload_n (pc := 58) 0 rfl (daX10_known_0 30 rfl) rfl ?_
    obtain ⟨hc3, h⟩ := chk_inv h
    refine GM_getf (pc := 59) 10 7 3 7 kf_X10_57 (Nat.le_of_ble_eq_true rfl) (Nat.le_of_ble_eq_true rfl) rfl (daX10_known_0 31 rfl) hc3 rfl ?_
    refine GM_aload (pc := 62) 3 rfl (daX10_known_0 32 rfl) ?_
    refine GM_iload (pc := 64) 5 rfl (daX10_known_0 33 rfl) ?_
    refine GM_iload (pc := 66) 4 rfl (daX10_known_0 34 rfl) ?_
    obtain ⟨hc4, h⟩ := chk_inv h
    obtain ⟨μ5, hf5, h⟩ := Option.bind_eq_some_iff.mp h
    refine GM_callV0 (pc := 68) [(3, v4), (0, v6), (0, v5)] (tX6_drawFrom l hf5) cwX6_drawFrom 6 (Nat.le_of_ble_eq_true rfl) rfl kv_X6_drawFrom ke_X6_drawFrom km_X10_393 hc4 ⟨Nat.le_of_ble_eq_true rfl, Nat.le_of_ble_eq_true rfl⟩ (Nat.le_of_ble_eq_true rfl) (Nat.le_of_ble_eq_true rfl) (daX10_known_0 35 rfl) ?_
    refine GM_aload_n (pc := 71) 0 rfl (daX10_known_0 36 rfl) rfl ?_
    refine GM_getf (pc := 72) 10 6 3 6 kf_X10_50 (Nat.le_of_ble_eq_true rfl) (Nat.le_of_ble_eq_true rfl) rfl (daX10_known_0 37 rfl) hc3 rfl ?_
    refine GM_aload_n (pc := 75) 2 rfl (daX10_known_0 38 rfl) rfl ?_
    obtain ⟨hc6, h⟩ := chk_inv h
    refine GM_getf (pc := 76) 4 0 3 0 kf_X10_224 (Nat.le_of_ble_eq_true rfl) (Nat.le_of_ble_eq_true rfl) rfl (daX10_known_0 39 rfl) hc6 rfl ?_
    refine GM_aload_n (pc := 79) 0 rfl (daX10_known_0 40 rfl) rfl ?_
    refine GM_getf (pc := 80) 10 7 3 7 kf_X10_57 (Nat.le_of_ble_eq_true rfl) (Nat.le_of_ble_eq_true rfl) rfl (daX10_known_0 41 rfl) hc3 rfl ?_
    refine GM_iconst (pc := 83) (-1) (daX10_known_0 42 rfl) rfl (R32_b rfl) ?_
    obtain ⟨hc7, h⟩ := chk_inv h
    obtain ⟨μ8, hf8, h⟩ := Option.bind_eq_some_iff.mp h
    refine GM_callV0 (pc := 84) [(3, μ5 v3 0), (3, μ5 v0 7), (0, (-1))] (tX1_hold l hf8) cwX1_hold 1 (Nat.le_of_ble_eq_true rfl) rfl kv_X1_hold ke_X1_hold km_X10_294 hc7 ⟨Nat.le_of_ble_eq_true rfl, Nat.le_of_ble_eq_true rfl⟩ (Nat.le_of_ble_eq_true rfl) (Nat.le_of_ble_eq_true rfl) (daX10_known_0 43 rfl) ?_
    refine GM_aload_n (pc := 87) 0 rfl (daX10_known_0 44 rfl) rfl ?_
    refine GM_aload_n (pc := 88) 2 rfl (daX10_known_0 45 rfl) rfl ?_
    refine GM_iload_n (pc := 89) 1 rfl (daX10_known_0 46 rfl) rfl ?_
    refine GM_iconst (pc := 90) 1 (daX10_known_0 47 rfl) rfl (R32_b rfl) ?_
    obtain ⟨⟨⟨r9, μ9⟩, c9, n9⟩, hf9, h⟩ := Option.bind_eq_some_iff.mp h
    dsimp only at h
    obtain ⟨c10, n10, hp, e1, e2⟩ := pay_inv h
    subst e1 e2
    replace h := hp
    clear hp
    rw [Nat.add_assoc, Nat.add_assoc]
    refine GM_callV (pc := 91) [(3, v3), (0, v2), (0, 1)] (tX10_countFitting l hf9) cwX10_countFitting 10 (Nat.le_of_ble_eq_true rfl) rfl kv_X10_countFitting ke_X10_countFitting km_X10_347 hc3 ⟨Nat.le_of_ble_eq_true rfl, Nat.le_of_ble_eq_true rfl⟩ (Nat.le_of_ble_eq_true rfl) (Nat.le_of_ble_eq_true rfl) (daX10_known_0 48 rfl) ?_
    refine GM_if_ne (pc := 94) 100 (daX10_known_0 49 rfl) rfl (fun c11 => ?_) (fun c11 => ?_)
    · skip
      rw [if_neg c11] at h
      refine GM_iinc (L' := [(6, (0, w32 (v6 + 1))), (0, (3, v0)), (2, (0, v2)), (3, (3, v3)), (4, (3, v4)), (5, (0, v5))]) (pc := 100) 5 rfl (daX10_known_0 52 rfl) (Nat.le_of_ble_eq_true rfl) rfl ?_
      refine GM_goto (pc := 103) 48 (daX10_known_0 53 rfl) rfl ?_
      refine GM_pick [1, 2, 3, 4, 5, 0] rfl ?_
      cases h
      rw [Nat.zero_add, Nat.zero_add]
      exact hK
    · skip
      rw [if_pos c11] at h
      refine GM_pick [4] rfl ?_
      cases h
      rw [Nat.zero_add, Nat.zero_add]
      exact hK
set_option maxRecDepth 20000 in
theorem qX10_known_28 (l : Launch) (F : FI) (v0 v2 v3 v4 : Int) : ∀ (q : (Int × Mm)) (t : ((Int × Mm) ⊕ (Mm ⊕ (Int × Mm)))) (c0 n0 : Nat), sX10_known_28 v0 v2 v3 v4 q = some (t, c0, n0) → ∀ k n, zX10_known_28 l F v0 v2 v3 v4 k n t → zX10_known_28 l F v0 v2 v3 v4 (c0 + k) (n0 + n) (.inl q) := by
  intro q t c0 n0 h k n hK
  obtain ⟨v5, μ⟩ := q
  unfold sX10_known_28 at h
  try dsimp only at h
  show GM l mX10_known F (c0 + k) (n0 + n) 28 [(0, (3, v0)), (2, (0, v2)), (3, (3, v3)), (4, (3, v4)), (5, (0, v5))] [] μ
  refine GM_iload (pc := 28) 4 rfl (daX10_known_0 17 rfl) ?_
  refine GM_aload (pc := 30) 3 rfl (daX10_known_0 18 rfl) ?_
  obtain ⟨hc12, h⟩ := chk_inv h
  refine GM_getf (pc := 32) 7 2 0 2 kf_X10_249 (Nat.le_of_ble_eq_true rfl) (Nat.le_of_ble_eq_true rfl) rfl (daX10_known_0 19 rfl) hc12 rfl ?_
  refine GM_icmp_gt (pc := 35) 112 (daX10_known_0 20 rfl) rfl (fun c13 => ?_) (fun c13 => ?_)
  · skip
    rw [if_pos c13] at h
    refine GM_pick [] rfl ?_
    cases h
    rw [Nat.zero_add, Nat.zero_add]
    exact hK
  · skip
    rw [if_neg c13] at h
    refine GM_iload (pc := 38) 4 rfl (daX10_known_0 21 rfl) ?_
    refine GM_bipush (pc := 40) 12 (daX10_known_0 22 rfl) rfl (R32_b rfl) ?_
    refine GM_icmp_gt (pc := 42) 112 (daX10_known_0 23 rfl) rfl (fun c14 => ?_) (fun c14 => ?_)
    · skip
      rw [if_pos c14] at h
      refine GM_pick [] rfl ?_
      cases h
      rw [Nat.zero_add, Nat.zero_add]
      exact hK
    · skip
      rw [if_neg c14] at h
      refine GM_iconst (pc := 45) 0 (daX10_known_0 24 rfl) rfl (R32_b rfl) ?_
      refine GM_istore (L' := [(6, (0, 0)), (0, (3, v0)), (2, (0, v2)), (3, (3, v3)), (4, (3, v4)), (5, (0, v5))]) (pc := 46) (daX10_known_0 25 rfl) (Nat.le_of_ble_eq_true rfl) rfl ?_
      refine GM_pick [1, 2, 3, 4, 5, 0] rfl ?_
      obtain ⟨x15, hqx15, h⟩ := Option.bind_eq_some_iff.mp h
      obtain ⟨x15, ccx15, nnx15⟩ := x15
      dsimp only at h
      obtain ⟨c18, n18, hp, e1, e2⟩ := pay_inv h
      subst e1 e2
      replace h := hp
      clear hp
      rw [Nat.add_assoc, Nat.add_assoc]
      refine lopA_ind (fun k n => zX10_known_48 l F v0 v2 v3 v4 v5 k n) (qX10_known_48 l F v0 v2 v3 v4 v5) FU _ x15 _ _ hqx15 _ _ ?_
      rcases x15 with μ_16 | μ_17
      · dsimp only at h
        show GM l mX10_known F (c18 + k) (n18 + n) 106 [(0, (3, v0)), (2, (0, v2)), (3, (3, v3)), (4, (3, v4)), (5, (0, v5))] [] μ_16
        refine GM_iinc (L' := [(5, (0, w32 (v5 + 1))), (0, (3, v0)), (2, (0, v2)), (3, (3, v3)), (4, (3, v4))]) (pc := 106) 4 rfl (daX10_known_0 54 rfl) (Nat.le_of_ble_eq_true rfl) rfl ?_
        refine GM_goto (pc := 109) 28 (daX10_known_0 55 rfl) rfl ?_
        refine GM_pick [1, 2, 3, 4, 0] rfl ?_
        cases h
        rw [Nat.zero_add, Nat.zero_add]
        exact hK
      · dsimp only at h
        show GM l mX10_known F (c18 + k) (n18 + n) 97 [(5, (0, v5))] [] μ_17
        cases h
        rw [Nat.zero_add, Nat.zero_add]
        exact hK
set_option maxRecDepth 20000 in
theorem gX10_known_0 (l : Launch) {F : FI} {v0 v1 v2 : Int} {μ : Mm} {t : (Int × Mm)} {c0 n0 k n : Nat} (h : fX10_known v0 v1 v2 μ = some (t, c0, n0)) (hK : F.1 = [(0, t.1)] ∧ F.2.1 = t.2) : GM l mX10_known F (c0 + k) (n0 + n) 0 [(0, (3, v0)), (1, (0, v1)), (2, (0, v2))] [] μ := by
  unfold fX10_known at h
  refine GM_aload_n (pc := 0) 0 rfl (daX10_known_0 0 rfl) rfl ?_
  refine GM_iload_n (pc := 1) 1 rfl (daX10_known_0 1 rfl) rfl ?_
  obtain ⟨hc19, h⟩ := chk_inv h
  obtain ⟨⟨⟨r20, μ20⟩, c20, n20⟩, hf20, h⟩ := Option.bind_eq_some_iff.mp h
  dsimp only at h
  obtain ⟨c21, n21, hp, e1, e2⟩ := pay_inv h
  subst e1 e2
  replace h := hp
  clear hp
  rw [Nat.add_assoc, Nat.add_assoc]
  refine GM_callV (pc := 2) [(0, v1)] (tX10_sceneAt l hf20) cwX10_sceneAt 10 (Nat.le_of_ble_eq_true rfl) rfl kv_X10_sceneAt ke_X10_sceneAt km_X10_220 hc19 ⟨Nat.le_of_ble_eq_true rfl, Nat.le_of_ble_eq_true rfl⟩ (Nat.le_of_ble_eq_true rfl) (Nat.le_of_ble_eq_true rfl) (daX10_known_0 2 rfl) ?_
  refine GM_astore_n (L' := [(3, (3, r20)), (0, (3, v0)), (1, (0, v1)), (2, (0, v2))]) (pc := 5) (daX10_known_0 3 rfl) rfl (Nat.le_of_ble_eq_true rfl) rfl ?_
  refine GM_aload_n (pc := 6) 1 rfl (daX10_known_0 4 rfl) rfl ?_
  refine GM_iload_n (pc := 7) 2 rfl (daX10_known_0 5 rfl) rfl ?_
  refine GM_iload_n (pc := 8) 3 rfl (daX10_known_0 6 rfl) rfl ?_
  obtain ⟨⟨⟨r22, μ22⟩, c22, n22⟩, hf22, h⟩ := Option.bind_eq_some_iff.mp h
  dsimp only at h
  obtain ⟨c23, n23, hp, e1, e2⟩ := pay_inv h
  subst e1 e2
  replace h := hp
  clear hp
  rw [Nat.add_assoc, Nat.add_assoc]
  refine GM_callV (pc := 9) [(0, v1), (0, v2)] (tX10_lineAt l hf22) cwX10_lineAt 10 (Nat.le_of_ble_eq_true rfl) rfl kv_X10_lineAt ke_X10_lineAt km_X10_236 hc19 ⟨Nat.le_of_ble_eq_true rfl, Nat.le_of_ble_eq_true rfl⟩ (Nat.le_of_ble_eq_true rfl) (Nat.le_of_ble_eq_true rfl) (daX10_known_0 7 rfl) ?_
  refine GM_astore (L' := [(4, (3, r22)), (3, (3, r20)), (0, (3, v0)), (1, (0, v1)), (2, (0, v2))]) (pc := 12) (daX10_known_0 8 rfl) (Nat.le_of_ble_eq_true rfl) rfl ?_
  refine GM_aload_n (pc := 14) 1 rfl (daX10_known_0 9 rfl) rfl ?_
  refine GM_ifnull (pc := 15) 23 (daX10_known_0 10 rfl) rfl (fun c24 => ?_) (fun c24 => ?_)
  · skip
    rw [if_pos c24] at h
    refine GM_iconst (pc := 23) (-1) (daX10_known_0 13 rfl) rfl (R32_b rfl) ?_
    cases h
    exact GM_iret (pc := 24) (daX10_known_0 14 rfl) rfl hK
  · skip
    rw [if_neg c24] at h
    refine GM_aload (pc := 18) 0 rfl (daX10_known_0 11 rfl) ?_
    refine GM_ifnonnull (pc := 20) 25 (daX10_known_0 12 rfl) rfl (fun c25 => ?_) (fun c25 => ?_)
    · skip
      rw [if_neg c25] at h
      refine GM_iconst (pc := 25) 1 (daX10_known_0 15 rfl) rfl (R32_b rfl) ?_
      refine GM_istore (L' := [(5, (0, 1)), (4, (3, r22)), (3, (3, r20)), (0, (3, v0)), (1, (0, v1)), (2, (0, v2))]) (pc := 26) (daX10_known_0 16 rfl) (Nat.le_of_ble_eq_true rfl) rfl ?_
      refine GM_pick [3, 5, 2, 1, 0] rfl ?_
      obtain ⟨x26, hqx26, h⟩ := Option.bind_eq_some_iff.mp h
      obtain ⟨x26, ccx26, nnx26⟩ := x26
      dsimp only at h
      obtain ⟨c29, n29, hp, e1, e2⟩ := pay_inv h
      subst e1 e2
      replace h := hp
      clear hp
      rw [Nat.add_assoc, Nat.add_assoc]
      refine lopA_ind (fun k n => zX10_known_28 l F v0 v2 r20 r22 k n) (qX10_known_28 l F v0 v2 r20 r22) FU _ x26 _ _ hqx26 _ _ ?_
      rcases x26 with μ_27 | ⟨v5_28, μ_28⟩
      · dsimp only at h
        show GM l mX10_known F (c29 + k) (n29 + n) 112 [] [] μ_27
        refine GM_iconst (pc := 112) (-1) (daX10_known_0 56 rfl) rfl (R32_b rfl) ?_
        cases h
        exact GM_iret (pc := 113) (daX10_known_0 57 rfl) rfl hK
      · dsimp only at h
        show GM l mX10_known F (c29 + k) (n29 + n) 97 [(5, (0, v5_28))] [] μ_28
        refine GM_iload (pc := 97) 0 rfl (daX10_known_0 50 rfl) ?_
        cases h
        exact GM_iret (pc := 99) (daX10_known_0 51 rfl) rfl hK
    · skip
      rw [if_pos c25] at h
      refine GM_iconst (pc := 23) (-1) (daX10_known_0 13 rfl) rfl (R32_b rfl) ?_
      cases h
      exact GM_iret (pc := 24) (daX10_known_0 14 rfl) rfl hK
theorem tX10_known (l : Launch) {v0 v1 v2 : Int} {μ : Mm} {t : (Int × Mm)} {c0 n0 : Nat} (h : fX10_known v0 v1 v2 μ = some (t, c0, n0)) : Ct l yX10_known mX10_known [(3, v0), (0, v1), (0, v2)] μ ([(0, t.1)], t.2, c0, n0) :=
  Ct_of (by decide +kernel) rfl rfl (Nat.le_of_ble_eq_true rfl) (fun _ _ _ => trivial) (gX10_known_0 (k := 0) (n := 0) l h ⟨rfl, rfl⟩)
def mX10_scrawl : MI := (RX10, cX10_scrawl, 10, (some .int), "scrawl", 5, 122, fun _ _ _ => True)
theorem cwX10_scrawl : CWd yX10_scrawl mX10_scrawl 7 := ⟨ki_X10, kk_X10_scrawl, ⟨by decide, by decide⟩, rfl⟩
def dtX10_scrawl_0 : List (Nat × Instr × Nat) := [(0, .aload_n 0, 1), (1, .iload_n 1, 1), (2, .iload_n 2, 1), (3, .invokevirtual 236, 3), (6, .astore 8, 2), (8, .aload_n 0, 1), (9, .iconst 1, 1), (10, .iload 7, 2), (12, .invokevirtual 89, 3), (15, .istore 9, 2), (17, .iload 9, 2), (19, .bipush (-2), 2), (21, .if_icmp .eq 28, 3), (24, .aload 8, 2), (26, .iload_n 3, 1), (27, .iload 4, 2), (29, .bipush 9, 2), (31, .invokestatic 389, 3), (34, .ifCond .eq 15, 3), (37, .iload 6, 2), (39, .ifCond .lt 10, 3), (42, .iload 6, 2), (44, .bipush 20, 2), (46, .if_icmp .le 5, 3), (49, .iconst (-1), 1), (50, .ireturn, 1), (51, .aload_n 0, 1), (52, .getfield 57, 3), (55, .aload 8, 2), (57, .iload_n 3, 1), (58, .iload 4, 2), (60, .invokevirtual 393, 3), (63, .aload_n 0, 1), (64, .getfield 57, 3), (67, .iload 5, 2), (69, .iload 6, 2), (71, .invokevirtual 397, 3), (74, .aload_n 0, 1), (75, .iload 9, 2), (77, .aload_n 0, 1), (78, .getfield 57, 3), (81, .invokevirtual 112, 3), (84, .iload 9, 2), (86, .ireturn, 1)]
theorem ddX10_scrawl_0 : (dtX10_scrawl_0.all fun e => decide (decode mX10_scrawl.2.1 e.1 = .ok (e.2.1, e.2.2))) = true := by decide +kernel
theorem daX10_scrawl_0 (j : Nat) {pc n : Nat} {i : Instr} (h : dtX10_scrawl_0[j]? = some (pc, i, n)) : decode mX10_scrawl.2.1 pc = .ok (i, n) := dec_of (c := mX10_scrawl.2.1) ddX10_scrawl_0 h
def fX10_scrawl (v0 v1 v2 v3 v4 v5 v6 v7 : Int) (μ : Mm) : Option ((Int × Mm) × Nat × Nat) :=
  chk (KD v0 = 10) (
  (fX10_lineAt v0 v1 v2 μ).bind fun ((r2, μ2), c2, n2) =>
  pay c2 n2 (
  (fX10_slotFor v0 1 v7 μ2).bind fun r4 =>
  if r4 = (-2) then
    some (((-1), μ2), 0, 0)
  else
    (fX10_canDraw r2 v3 v4 9 μ2).bind fun r6 =>
    if r6 = 0 then
      some (((-1), μ2), 0, 0)
    else
      if v6 < 0 then
        some (((-1), μ2), 0, 0)
      else
        if v6 ≤ 20 then
          chk (KD (μ2 v0 7) = 6) (
          (fX6_drawFrom (μ2 v0 7) r2 v3 v4 μ2).bind fun μ11 =>
          chk (KD (μ11 v0 7) = 6) (
          (fX6_scrawlOver (μ11 v0 7) v5 v6 μ11).bind fun μ13 =>
          (fX10_keepSketch v0 r4 (μ13 v0 7) μ13).bind fun μ14 =>
          some ((r4, μ14), 0, 0)))
        else
          some (((-1), μ2), 0, 0)))
set_option maxRecDepth 20000 in
theorem gX10_scrawl_0 (l : Launch) {F : FI} {v0 v1 v2 v3 v4 v5 v6 v7 : Int} {μ : Mm} {t : (Int × Mm)} {c0 n0 k n : Nat} (h : fX10_scrawl v0 v1 v2 v3 v4 v5 v6 v7 μ = some (t, c0, n0)) (hK : F.1 = [(0, t.1)] ∧ F.2.1 = t.2) : GM l mX10_scrawl F (c0 + k) (n0 + n) 0 [(0, (3, v0)), (1, (0, v1)), (2, (0, v2)), (3, (0, v3)), (4, (0, v4)), (5, (0, v5)), (6, (0, v6)), (7, (0, v7))] [] μ := by
  unfold fX10_scrawl at h
  refine GM_aload_n (pc := 0) 0 rfl (daX10_scrawl_0 0 rfl) rfl ?_
  refine GM_iload_n (pc := 1) 1 rfl (daX10_scrawl_0 1 rfl) rfl ?_
  refine GM_iload_n (pc := 2) 2 rfl (daX10_scrawl_0 2 rfl) rfl ?_
  obtain ⟨hc1, h⟩ := chk_inv h
  obtain ⟨⟨⟨r2, μ2⟩, c2, n2⟩, hf2, h⟩ := Option.bind_eq_some_iff.mp h
  dsimp only at h
  obtain ⟨c3, n3, hp, e1, e2⟩ := pay_inv h
  subst e1 e2
  replace h := hp
  clear hp
  rw [Nat.add_assoc, Nat.add_assoc]
  refine GM_callV (pc := 3) [(0, v1), (0, v2)] (tX10_lineAt l hf2) cwX10_lineAt 10 (Nat.le_of_ble_eq_true rfl) rfl kv_X10_lineAt ke_X10_lineAt km_X10_236 hc1 ⟨Nat.le_of_ble_eq_true rfl, Nat.le_of_ble_eq_true rfl⟩ (Nat.le_of_ble_eq_true rfl) (Nat.le_of_ble_eq_true rfl) (daX10_scrawl_0 3 rfl) ?_
  refine GM_astore (L' := [(8, (3, r2)), (0, (3, v0)), (1, (0, v1)), (2, (0, v2)), (3, (0, v3)), (4, (0, v4)), (5, (0, v5)), (6, (0, v6)), (7, (0, v7))]) (pc := 6) (daX10_scrawl_0 4 rfl) (Nat.le_of_ble_eq_true rfl) rfl ?_
  refine GM_aload_n (pc := 8) 1 rfl (daX10_scrawl_0 5 rfl) rfl ?_
  refine GM_iconst (pc := 9) 1 (daX10_scrawl_0 6 rfl) rfl (R32_b rfl) ?_
  refine GM_iload (pc := 10) 8 rfl (daX10_scrawl_0 7 rfl) ?_
  obtain ⟨r4, hf4, h⟩ := Option.bind_eq_some_iff.mp h
  refine GM_callV0 (pc := 12) [(0, 1), (0, v7)] (tX10_slotFor l hf4) cwX10_slotFor 10 (Nat.le_of_ble_eq_true rfl) rfl kv_X10_slotFor ke_X10_slotFor km_X10_89 hc1 ⟨Nat.le_of_ble_eq_true rfl, Nat.le_of_ble_eq_true rfl⟩ (Nat.le_of_ble_eq_true rfl) (Nat.le_of_ble_eq_true rfl) (daX10_scrawl_0 8 rfl) ?_
  refine GM_istore (L' := [(9, (0, r4)), (8, (3, r2)), (0, (3, v0)), (1, (0, v1)), (2, (0, v2)), (3, (0, v3)), (4, (0, v4)), (5, (0, v5)), (6, (0, v6)), (7, (0, v7))]) (pc := 15) (daX10_scrawl_0 9 rfl) (Nat.le_of_ble_eq_true rfl) rfl ?_
  refine GM_iload (pc := 17) 0 rfl (daX10_scrawl_0 10 rfl) ?_
  refine GM_bipush (pc := 19) (-2) (daX10_scrawl_0 11 rfl) rfl (R32_b rfl) ?_
  refine GM_icmp_eq (pc := 21) 49 (daX10_scrawl_0 12 rfl) rfl (fun c5 => ?_) (fun c5 => ?_)
  · skip
    rw [if_pos c5] at h
    refine GM_iconst (pc := 49) (-1) (daX10_scrawl_0 24 rfl) rfl (R32_b rfl) ?_
    cases h
    exact GM_iret (pc := 50) (daX10_scrawl_0 25 rfl) rfl hK
  · skip
    rw [if_neg c5] at h
    refine GM_aload (pc := 24) 1 rfl (daX10_scrawl_0 13 rfl) ?_
    refine GM_iload_n (pc := 26) 5 rfl (daX10_scrawl_0 14 rfl) rfl ?_
    refine GM_iload (pc := 27) 6 rfl (daX10_scrawl_0 15 rfl) ?_
    refine GM_bipush (pc := 29) 9 (daX10_scrawl_0 16 rfl) rfl (R32_b rfl) ?_
    obtain ⟨r6, hf6, h⟩ := Option.bind_eq_some_iff.mp h
    refine GM_callS0 (pc := 31) [(3, r2), (0, v3), (0, v4), (0, 9)] (tX10_canDraw l hf6) cwX10_canDraw ks_X10_canDraw km_X10_389 ⟨Nat.le_of_ble_eq_true rfl, Nat.le_of_ble_eq_true rfl⟩ (Nat.le_of_ble_eq_true rfl) (Nat.le_of_ble_eq_true rfl) (daX10_scrawl_0 17 rfl) ?_
    refine GM_if_eq (pc := 34) 49 (daX10_scrawl_0 18 rfl) rfl (fun c7 => ?_) (fun c7 => ?_)
    · skip
      rw [if_pos c7] at h
      refine GM_iconst (pc := 49) (-1) (daX10_scrawl_0 24 rfl) rfl (R32_b rfl) ?_
      cases h
      exact GM_iret (pc := 50) (daX10_scrawl_0 25 rfl) rfl hK
    · skip
      rw [if_neg c7] at h
      refine GM_iload (pc := 37) 8 rfl (daX10_scrawl_0 19 rfl) ?_
      refine GM_if_lt (pc := 39) 49 (daX10_scrawl_0 20 rfl) rfl (fun c8 => ?_) (fun c8 => ?_)
      · skip
        rw [if_pos c8] at h
        refine GM_iconst (pc := 49) (-1) (daX10_scrawl_0 24 rfl) rfl (R32_b rfl) ?_
        cases h
        exact GM_iret (pc := 50) (daX10_scrawl_0 25 rfl) rfl hK
      · skip
        rw [if_neg c8] at h
        refine GM_iload (pc := 42) 8 rfl (daX10_scrawl_0 21 rfl) ?_
        refine GM_bipush (pc := 44) 20 (daX10_scrawl_0 22 rfl) rfl (R32_b rfl) ?_
        refine GM_icmp_le (pc := 46) 51 (daX10_scrawl_0 23 rfl) rfl (fun c9 => ?_) (fun c9 => ?_)
        · skip
          rw [if_pos c9] at h
          refine GM_aload_n (pc := 51) 2 rfl (daX10_scrawl_0 26 rfl) rfl ?_
          refine GM_getf (pc := 52) 10 7 3 7 kf_X10_57 (Nat.le_of_ble_eq_true rfl) (Nat.le_of_ble_eq_true rfl) rfl (daX10_scrawl_0 27 rfl) hc1 rfl ?_
          refine GM_aload (pc := 55) 1 rfl (daX10_scrawl_0 28 rfl) ?_
          refine GM_iload_n (pc := 57) 5 rfl (daX10_scrawl_0 29 rfl) rfl ?_
          refine GM_iload (pc := 58) 6 rfl (daX10_scrawl_0 30 rfl) ?_
          obtain ⟨hc10, h⟩ := chk_inv h
          obtain ⟨μ11, hf11, h⟩ := Option.bind_eq_some_iff.mp h
          refine GM_callV0 (pc := 60) [(3, r2), (0, v3), (0, v4)] (tX6_drawFrom l hf11) cwX6_drawFrom 6 (Nat.le_of_ble_eq_true rfl) rfl kv_X6_drawFrom ke_X6_drawFrom km_X10_393 hc10 ⟨Nat.le_of_ble_eq_true rfl, Nat.le_of_ble_eq_true rfl⟩ (Nat.le_of_ble_eq_true rfl) (Nat.le_of_ble_eq_true rfl) (daX10_scrawl_0 31 rfl) ?_
          refine GM_aload_n (pc := 63) 2 rfl (daX10_scrawl_0 32 rfl) rfl ?_
          refine GM_getf (pc := 64) 10 7 3 7 kf_X10_57 (Nat.le_of_ble_eq_true rfl) (Nat.le_of_ble_eq_true rfl) rfl (daX10_scrawl_0 33 rfl) hc1 rfl ?_
          refine GM_iload (pc := 67) 7 rfl (daX10_scrawl_0 34 rfl) ?_
          refine GM_iload (pc := 69) 8 rfl (daX10_scrawl_0 35 rfl) ?_
          obtain ⟨hc12, h⟩ := chk_inv h
          obtain ⟨μ13, hf13, h⟩ := Option.bind_eq_some_iff.mp h
          refine GM_callV0 (pc := 71) [(0, v5), (0, v6)] (tX6_scrawlOver l hf13) cwX6_scrawlOver 6 (Nat.le_of_ble_eq_true rfl) rfl kv_X6_scrawlOver ke_X6_scrawlOver km_X10_397 hc12 ⟨Nat.le_of_ble_eq_true rfl, Nat.le_of_ble_eq_true rfl⟩ (Nat.le_of_ble_eq_true rfl) (Nat.le_of_ble_eq_true rfl) (daX10_scrawl_0 36 rfl) ?_
          refine GM_aload_n (pc := 74) 2 rfl (daX10_scrawl_0 37 rfl) rfl ?_
          refine GM_iload (pc := 75) 0 rfl (daX10_scrawl_0 38 rfl) ?_
          refine GM_aload_n (pc := 77) 2 rfl (daX10_scrawl_0 39 rfl) rfl ?_
          refine GM_getf (pc := 78) 10 7 3 7 kf_X10_57 (Nat.le_of_ble_eq_true rfl) (Nat.le_of_ble_eq_true rfl) rfl (daX10_scrawl_0 40 rfl) hc1 rfl ?_
          obtain ⟨μ14, hf14, h⟩ := Option.bind_eq_some_iff.mp h
          refine GM_callV0 (pc := 81) [(0, r4), (3, μ13 v0 7)] (tX10_keepSketch l hf14) cwX10_keepSketch 10 (Nat.le_of_ble_eq_true rfl) rfl kv_X10_keepSketch ke_X10_keepSketch km_X10_112 hc1 ⟨Nat.le_of_ble_eq_true rfl, Nat.le_of_ble_eq_true rfl⟩ (Nat.le_of_ble_eq_true rfl) (Nat.le_of_ble_eq_true rfl) (daX10_scrawl_0 41 rfl) ?_
          refine GM_iload (pc := 84) 0 rfl (daX10_scrawl_0 42 rfl) ?_
          cases h
          exact GM_iret (pc := 86) (daX10_scrawl_0 43 rfl) rfl hK
        · skip
          rw [if_neg c9] at h
          refine GM_iconst (pc := 49) (-1) (daX10_scrawl_0 24 rfl) rfl (R32_b rfl) ?_
          cases h
          exact GM_iret (pc := 50) (daX10_scrawl_0 25 rfl) rfl hK
theorem tX10_scrawl (l : Launch) {v0 v1 v2 v3 v4 v5 v6 v7 : Int} {μ : Mm} {t : (Int × Mm)} {c0 n0 : Nat} (h : fX10_scrawl v0 v1 v2 v3 v4 v5 v6 v7 μ = some (t, c0, n0)) : Ct l yX10_scrawl mX10_scrawl [(3, v0), (0, v1), (0, v2), (0, v3), (0, v4), (0, v5), (0, v6), (0, v7)] μ ([(0, t.1)], t.2, c0, n0) :=
  Ct_of (by decide +kernel) rfl rfl (Nat.le_of_ble_eq_true rfl) (fun _ _ _ => trivial) (gX10_scrawl_0 (k := 0) (n := 0) l h ⟨rfl, rfl⟩)
def mX10_found : MI := (RX10, cX10_found, 13, (some .int), "found", 7, 166, fun _ _ _ => True)
theorem cwX10_found : CWd yX10_found mX10_found 8 := ⟨ki_X10, kk_X10_found, ⟨by decide, by decide⟩, rfl⟩
def dtX10_found_0 : List (Nat × Instr × Nat) := [(0, .aload_n 0, 1), (1, .iload_n 1, 1), (2, .invokevirtual 220, 3), (5, .astore 9, 2), (7, .aload_n 0, 1), (8, .iload_n 1, 1), (9, .iload_n 2, 1), (10, .invokevirtual 236, 3), (13, .astore 10, 2), (15, .aload 9, 2), (17, .ifnull 16, 3), (20, .aload 10, 2), (22, .iload_n 3, 1), (23, .iload 4, 2), (25, .bipush 9, 2), (27, .invokestatic 389, 3), (30, .ifCond .ne 5, 3), (33, .iconst (-1), 1), (34, .ireturn, 1), (35, .iload 6, 2), (37, .ifCond .lt 23, 3), (40, .iload 6, 2), (42, .bipush 20, 2), (44, .if_icmp .gt 16, 3), (47, .iload 7, 2), (49, .iconst 1, 1), (50, .if_icmp .lt 10, 3), (53, .iload 7, 2), (55, .bipush 8, 2), (57, .if_icmp .le 5, 3), (60, .iconst (-1), 1), (61, .ireturn, 1), (62, .iconst 0, 1), (63, .istore 11, 2), (65, .iconst 0, 1), (66, .istore 12, 2), (68, .iload 12, 2), (70, .iload 7, 2), (72, .if_icmp .ge 91, 3), (75, .aload_n 0, 1), (76, .getfield 57, 3), (79, .aload 10, 2), (81, .iload_n 3, 1), (82, .iload 4, 2), (84, .invokevirtual 393, 3), (87, .aload_n 0, 1), (88, .getfield 57, 3), (91, .iload 5, 2), (93, .iload 12, 2), (95, .iadd, 1), (96, .iload 6, 2), (98, .invokevirtual 397, 3), (101, .aload_n 0, 1), (102, .getfield 50, 3), (105, .aload 9, 2), (107, .getfield 224, 3), (110, .aload_n 0, 1), (111, .getfield 57, 3), (114, .iconst (-1), 1), (115, .invokevirtual 294, 3), (118, .aload_n 0, 1), (119, .getfield 50, 3), (122, .aload 10, 2), (124, .putfield 302, 3)]
theorem ddX10_found_0 : (dtX10_found_0.all fun e => decide (decode mX10_found.2.1 e.1 = .ok (e.2.1, e.2.2))) = true := by decide +kernel
theorem daX10_found_0 (j : Nat) {pc n : Nat} {i : Instr} (h : dtX10_found_0[j]? = some (pc, i, n)) : decode mX10_found.2.1 pc = .ok (i, n) := dec_of (c := mX10_found.2.1) ddX10_found_0 h
def dtX10_found_1 : List (Nat × Instr × Nat) := [(127, .aload_n 0, 1), (128, .getfield 50, 3), (131, .invokevirtual 312, 3), (134, .iconst (-1), 1), (135, .if_icmp .eq 22, 3), (138, .iload 8, 2), (140, .ifCond .eq 14, 3), (143, .aload_n 0, 1), (144, .aload 9, 2), (146, .iload_n 2, 1), (147, .iconst 1, 1), (148, .invokevirtual 347, 3), (151, .ifCond .gt 6, 3), (154, .iinc 11 1, 3), (157, .iinc 12 1, 3), (160, .goto (-92), 3), (163, .iload 11, 2), (165, .ireturn, 1)]
theorem ddX10_found_1 : (dtX10_found_1.all fun e => decide (decode mX10_found.2.1 e.1 = .ok (e.2.1, e.2.2))) = true := by decide +kernel
theorem daX10_found_1 (j : Nat) {pc n : Nat} {i : Instr} (h : dtX10_found_1[j]? = some (pc, i, n)) : decode mX10_found.2.1 pc = .ok (i, n) := dec_of (c := mX10_found.2.1) ddX10_found_1 h
def zX10_found_68 (l : Launch) (F : FI) (v0 v2 v3 v4 v5 v6 v7 v8 v9 v10 : Int) (k n : Nat) : (Int × Int × Mm) ⊕ (Int × Mm) → Prop
  | .inl (v11, v12, μ) => GM l mX10_found F k n 68 [(0, (3, v0)), (2, (0, v2)), (3, (0, v3)), (4, (0, v4)), (5, (0, v5)), (6, (0, v6)), (7, (0, v7)), (8, (0, v8)), (9, (3, v9)), (10, (3, v10)), (11, (0, v11)), (12, (0, v12))] [] μ
  | .inr (v11, μ) => GM l mX10_found F k n 163 [(11, (0, v11))] [] μ
def sX10_found_68 (v0 v2 v3 v4 v5 v6 v7 v8 v9 v10 : Int) : (Int × Int × Mm) → Option (((Int × Int × Mm) ⊕ (Int × Mm)) × Nat × Nat) := fun (v11, v12, μ) =>
  if v7 ≤ v12 then
    some (.inr (v11, μ), 0, 0)
  else
    chk (KD v0 = 10) (
    chk (KD (μ v0 7) = 6) (
    (fX6_drawFrom (μ v0 7) v10 v3 v4 μ).bind fun μ4 =>
    chk (KD (μ4 v0 7) = 6) (
    (fX6_scrawlOver (μ4 v0 7) (w32 (v5 + v12)) v6 μ4).bind fun μ6 =>
    chk (KD v9 = 4) (
    chk (KD (μ6 v0 6) = 1) (
    (fX1_hold (μ6 v0 6) (μ6 v9 0) (μ6 v0 7) (-1) μ6).bind fun μ9 =>
    chk (KD (μ9 v0 6) = 1) (
    lm (mst μ9 (μ9 v0 6) 2 v10) fun μ11 =>
    chk (KD (μ11 v0 6) = 1) (
    (fX1_leastStart (μ11 v0 6) μ11).bind fun (r13, μ13) =>
    if r13 = (-1) then
      some (.inl (v11, w32 (v12 + 1), μ13), 0, 0)
    else
      if v8 = 0 then
        some (.inl (w32 (v11 + 1), w32 (v12 + 1), μ13), 0, 0)
      else
        (fX10_countFitting v0 v9 v2 1 μ13).bind fun ((r16, μ16), c16, n16) =>
        pay c16 n16 (
        if 0 < r16 then
          some (.inl (v11, w32 (v12 + 1), μ16), 0, 0)
        else
          some (.inl (w32 (v11 + 1), w32 (v12 + 1), μ16), 0, 0)))))))))
def fX10_found (v0 v1 v2 v3 v4 v5 v6 v7 v8 : Int) (μ : Mm) : Option ((Int × Mm) × Nat × Nat) :=
  chk (KD v0 = 10) (
  (fX10_sceneAt v0 v1 μ).bind fun ((r20, μ20), c20, n20) =>
  pay c20 n20 (
  (fX10_lineAt v0 v1 v2 μ20).bind fun ((r22, μ22), c22, n22) =>
  pay c22 n22 (
  if r20 = 0 then
    some (((-1), μ22), 0, 0)
  else
    (fX10_canDraw r22 v3 v4 9 μ22).bind fun r25 =>
    if r25 = 0 then
      some (((-1), μ22), 0, 0)
    else
      if v6 < 0 then
        some (((-1), μ22), 0, 0)
      else
        if 20 < v6 then
          some (((-1), μ22), 0, 0)
        else
          if v7 < 1 then
            some (((-1), μ22), 0, 0)
          else
            if v7 ≤ 8 then
              (lopA (sX10_found_68 v0 v2 v3 v4 v5 v6 v7 v8 r20 r22) FU (0, 0, μ22)).bind fun (x31, ccx31, nnx31) =>
                pay ccx31 nnx31 (
                match x31 with
                | (v11_32, μ_32) =>
                  some ((v11_32, μ_32), 0, 0))
            else
              some (((-1), μ22), 0, 0))))
set_option maxRecDepth 20000 in
theorem qX10_found_68 (l : Launch) (F : FI) (v0 v2 v3 v4 v5 v6 v7 v8 v9 v10 : Int) : ∀ (q : (Int × Int × Mm)) (t : ((Int × Int × Mm) ⊕ (Int × Mm))) (c0 n0 : Nat), sX10_found_68 v0 v2 v3 v4 v5 v6 v7 v8 v9 v10 q = some (t, c0, n0) → ∀ k n, zX10_found_68 l F v0 v2 v3 v4 v5 v6 v7 v8 v9 v10 k n t → zX10_found_68 l F v0 v2 v3 v4 v5 v6 v7 v8 v9 v10 (c0 + k) (n0 + n) (.inl q) := by
  intro q t c0 n0 h k n hK
  obtain ⟨v11, v12, μ⟩ := q
  unfold sX10_found_68 at h
  try dsimp only at h
  show GM l mX10_found F (c0 + k) (n0 + n) 68 [(0, (3, v0)), (2, (0, v2)), (3, (0, v3)), (4, (0, v4)), (5, (0, v5)), (6, (0, v6)), (7, (0, v7)), (8, (0, v8)), (9, (3, v9)), (10, (3, v10)), (11, (0, v11)), (12, (0, v12))] [] μ
  refine GM_iload (pc := 68) 11 rfl (daX10_found_0 36 rfl) ?_
  refine GM_iload (pc := 70) 6 rfl (daX10_found_0 37 rfl) ?_
  refine GM_icmp_ge (pc := 72) 163 (daX10_found_0 38 rfl) rfl (fun c1 => ?_) (fun c1 => ?_)
  · skip
    rw [if_pos c1] at h
    refine GM_pick [10] rfl ?_
    cases h
    rw [Nat.zero_add, Nat.zero_add]
    exact hK
  · skip
    rw [if_neg c1] at h
    refine GM_aload_n (pc := 75) 0 rfl (daX10_found_0 39 rfl) rfl ?_
    obtain ⟨hc2, h⟩ := chk_inv h
    refine GM_getf (pc := 76) 10 7 3 7 kf_X10_57 (Nat.le_of_ble_eq_true rfl) (Nat.le_of_ble_eq_true rfl) rfl (daX10_found_0 40 rfl) hc2 rfl ?_
    refine GM_aload (pc := 79) 9 rfl (daX10_found_0 41 rfl) ?_
    refine GM_iload_n (pc := 81) 2 rfl (daX10_found_0 42 rfl) rfl ?_
    refine GM_iload (pc := 82) 3 rfl (daX10_found_0 43 rfl) ?_
    obtain ⟨hc3, h⟩ := chk_inv h
    obtain ⟨μ4, hf4, h⟩ := Option.bind_eq_some_iff.mp h
    refine GM_callV0 (pc := 84) [(3, v10), (0, v3), (0, v4)] (tX6_drawFrom l hf4) cwX6_drawFrom 6 (Nat.le_of_ble_eq_true rfl) rfl kv_X6_drawFrom ke_X6_drawFrom km_X10_393 hc3 ⟨Nat.le_of_ble_eq_true rfl, Nat.le_of_ble_eq_true rfl⟩ (Nat.le_of_ble_eq_true rfl) (Nat.le_of_ble_eq_true rfl) (daX10_found_0 44 rfl) ?_
    refine GM_aload_n (pc := 87) 0 rfl (daX10_found_0 45 rfl) rfl ?_
    refine GM_getf (pc := 88) 10 7 3 7 kf_X10_57 (Nat.le_of_ble_eq_true rfl) (Nat.le_of_ble_eq_true rfl) rfl (daX10_found_0 46 rfl) hc2 rfl ?_
    refine GM_iload (pc := 91) 4 rfl (daX10_found_0 47 rfl) ?_
    refine GM_iload (pc := 93) 11 rfl (daX10_found_0 48 rfl) ?_
    refine GM_iadd (pc := 95) (daX10_found_0 49 rfl) ?_
    refine GM_iload (pc := 96) 5 rfl (daX10_found_0 50 rfl) ?_
    obtain ⟨hc5, h⟩ := chk_inv h
    obtain ⟨μ6, hf6, h⟩ := Option.bind_eq_some_iff.mp h
    refine GM_callV0 (pc := 98) [(0, w32 (v5 + v12)), (0, v6)] (tX6_scrawlOver l hf6) cwX6_scrawlOver 6 (Nat.le_of_ble_eq_true rfl) rfl kv_X6_scrawlOver ke_X6_scrawlOver km_X10_397 hc5 ⟨Nat.le_of_ble_eq_true rfl, Nat.le_of_ble_eq_true rfl⟩ (Nat.le_of_ble_eq_true rfl) (Nat.le_of_ble_eq_true rfl) (daX10_found_0 51 rfl) ?_
    refine GM_aload_n (pc := 101) 0 rfl (daX10_found_0 52 rfl) rfl ?_
    refine GM_getf (pc := 102) 10 6 3 6 kf_X10_50 (Nat.le_of_ble_eq_true rfl) (Nat.le_of_ble_eq_true rfl) rfl (daX10_found_0 53 rfl) hc2 rfl ?_
    refine GM_aload (pc := 105) 8 rfl (daX10_found_0 54 rfl) ?_
    obtain ⟨hc7, h⟩ := chk_inv h
    refine GM_getf (pc := 107) 4 0 3 0 kf_X10_224 (Nat.le_of_ble_eq_true rfl) (Nat.le_of_ble_eq_true rfl) rfl (daX10_found_0 55 rfl) hc7 rfl ?_
    refine GM_aload_n (pc := 110) 0 rfl (daX10_found_0 56 rfl) rfl ?_
    refine GM_getf (pc := 111) 10 7 3 7 kf_X10_57 (Nat.le_of_ble_eq_true rfl) (Nat.le_of_ble_eq_true rfl) rfl (daX10_found_0 57 rfl) hc2 rfl ?_
    refine GM_iconst (pc := 114) (-1) (daX10_found_0 58 rfl) rfl (R32_b rfl) ?_
    obtain ⟨hc8, h⟩ := chk_inv h
    obtain ⟨μ9, hf9, h⟩ := Option.bind_eq_some_iff.mp h
    refine GM_callV0 (pc := 115) [(3, μ6 v9 0), (3, μ6 v0 7), (0, (-1))] (tX1_hold l hf9) cwX1_hold 1 (Nat.le_of_ble_eq_true rfl) rfl kv_X1_hold ke_X1_hold km_X10_294 hc8 ⟨Nat.le_of_ble_eq_true rfl, Nat.le_of_ble_eq_true rfl⟩ (Nat.le_of_ble_eq_true rfl) (Nat.le_of_ble_eq_true rfl) (daX10_found_0 59 rfl) ?_
    refine GM_aload_n (pc := 118) 0 rfl (daX10_found_0 60 rfl) rfl ?_
    refine GM_getf (pc := 119) 10 6 3 6 kf_X10_50 (Nat.le_of_ble_eq_true rfl) (Nat.le_of_ble_eq_true rfl) rfl (daX10_found_0 61 rfl) hc2 rfl ?_
    refine GM_aload (pc := 122) 9 rfl (daX10_found_0 62 rfl) ?_
    obtain ⟨hc10, h⟩ := chk_inv h
    obtain ⟨μ11, hμ11, h⟩ := lm_inv h
    refine GM_putf (pc := 124) 1 2 3 kf_X10_302 (Nat.le_of_ble_eq_true rfl) (Nat.le_of_ble_eq_true rfl) rfl rfl (daX10_found_0 63 rfl) hc10 (fun q => absurd q (by decide)) ?_
    refine GM_mem hμ11 ?_
    refine GM_aload_n (pc := 127) 0 rfl (daX10_found_1 0 rfl) rfl ?_
    refine GM_getf (pc := 128) 10 6 3 6 kf_X10_50 (Nat.le_of_ble_eq_true rfl) (Nat.le_of_ble_eq_true rfl) rfl (daX10_found_1 1 rfl) hc2 rfl ?_
    obtain ⟨hc12, h⟩ := chk_inv h
    obtain ⟨⟨r13, μ13⟩, hf13, h⟩ := Option.bind_eq_some_iff.mp h
    dsimp only at h
    refine GM_callV0 (pc := 131) [] (tX1_leastStart l hf13) cwX1_leastStart 1 (Nat.le_of_ble_eq_true rfl) rfl kv_X1_leastStart ke_X1_leastStart km_X10_312 hc12 ⟨Nat.le_of_ble_eq_true rfl, Nat.le_of_ble_eq_true rfl⟩ (Nat.le_of_ble_eq_true rfl) (Nat.le_of_ble_eq_true rfl) (daX10_found_1 2 rfl) ?_
    refine GM_iconst (pc := 134) (-1) (daX10_found_1 3 rfl) rfl (R32_b rfl) ?_
    refine GM_icmp_eq (pc := 135) 157 (daX10_found_1 4 rfl) rfl (fun c14 => ?_) (fun c14 => ?_)
    · skip
      rw [if_pos c14] at h
      refine GM_iinc (L' := [(12, (0, w32 (v12 + 1))), (0, (3, v0)), (2, (0, v2)), (3, (0, v3)), (4, (0, v4)), (5, (0, v5)), (6, (0, v6)), (7, (0, v7)), (8, (0, v8)), (9, (3, v9)), (10, (3, v10)), (11, (0, v11))]) (pc := 157) 11 rfl (daX10_found_1 14 rfl) (Nat.le_of_ble_eq_true rfl) rfl ?_
      refine GM_goto (pc := 160) 68 (daX10_found_1 15 rfl) rfl ?_
      refine GM_pick [1, 2, 3, 4, 5, 6, 7, 8, 9, 10, 11, 0] rfl ?_
      cases h
      rw [Nat.zero_add, Nat.zero_add]
      exact hK
    · skip
      rw [if_neg c14] at h
      refine GM_iload (pc := 138) 7 rfl (daX10_found_1 5 rfl) ?_
      refine GM_if_eq (pc := 140) 154 (daX10_found_1 6 rfl) rfl (fun c15 => ?_) (fun c15 => ?_)
      · skip
        rw [if_pos c15] at h
        refine GM_iinc (L' := [(11, (0, w32 (v11 + 1))), (0, (3, v0)), (2, (0, v2)), (3, (0, v3)), (4, (0, v4)), (5, (0, v5)), (6, (0, v6)), (7, (0, v7)), (8, (0, v8)), (9, (3, v9)), (10, (3, v10)), (12, (0, v12))]) (pc := 154) 10 rfl (daX10_found_1 13 rfl) (Nat.le_of_ble_eq_true rfl) rfl ?_
        refine GM_iinc (L' := [(12, (0, w32 (v12 + 1))), (11, (0, w32 (v11 + 1))), (0, (3, v0)), (2, (0, v2)), (3, (0, v3)), (4, (0, v4)), (5, (0, v5)), (6, (0, v6)), (7, (0, v7)), (8, (0, v8)), (9, (3, v9)), (10, (3, v10))]) (pc := 157) 11 rfl (daX10_found_1 14 rfl) (Nat.le_of_ble_eq_true rfl) rfl ?_
        refine GM_goto (pc := 160) 68 (daX10_found_1 15 rfl) rfl ?_
        refine GM_pick [2, 3, 4, 5, 6, 7, 8, 9, 10, 11, 1, 0] rfl ?_
        cases h
        rw [Nat.zero_add, Nat.zero_add]
        exact hK
      · skip
        rw [if_neg c15] at h
        refine GM_aload_n (pc := 143) 0 rfl (daX10_found_1 7 rfl) rfl ?_
        refine GM_aload (pc := 144) 8 rfl (daX10_found_1 8 rfl) ?_
        refine GM_iload_n (pc := 146) 1 rfl (daX10_found_1 9 rfl) rfl ?_
        refine GM_iconst (pc := 147) 1 (daX10_found_1 10 rfl) rfl (R32_b rfl) ?_
        obtain ⟨⟨⟨r16, μ16⟩, c16, n16⟩, hf16, h⟩ := Option.bind_eq_some_iff.mp h
        dsimp only at h
        obtain ⟨c17, n17, hp, e1, e2⟩ := pay_inv h
        subst e1 e2
        replace h := hp
        clear hp
        rw [Nat.add_assoc, Nat.add_assoc]
        refine GM_callV (pc := 148) [(3, v9), (0, v2), (0, 1)] (tX10_countFitting l hf16) cwX10_countFitting 10 (Nat.le_of_ble_eq_true rfl) rfl kv_X10_countFitting ke_X10_countFitting km_X10_347 hc2 ⟨Nat.le_of_ble_eq_true rfl, Nat.le_of_ble_eq_true rfl⟩ (Nat.le_of_ble_eq_true rfl) (Nat.le_of_ble_eq_true rfl) (daX10_found_1 11 rfl) ?_
        refine GM_if_gt (pc := 151) 157 (daX10_found_1 12 rfl) rfl (fun c18 => ?_) (fun c18 => ?_)
        · skip
          rw [if_pos c18] at h
          refine GM_iinc (L' := [(12, (0, w32 (v12 + 1))), (0, (3, v0)), (2, (0, v2)), (3, (0, v3)), (4, (0, v4)), (5, (0, v5)), (6, (0, v6)), (7, (0, v7)), (8, (0, v8)), (9, (3, v9)), (10, (3, v10)), (11, (0, v11))]) (pc := 157) 11 rfl (daX10_found_1 14 rfl) (Nat.le_of_ble_eq_true rfl) rfl ?_
          refine GM_goto (pc := 160) 68 (daX10_found_1 15 rfl) rfl ?_
          refine GM_pick [1, 2, 3, 4, 5, 6, 7, 8, 9, 10, 11, 0] rfl ?_
          cases h
          rw [Nat.zero_add, Nat.zero_add]
          exact hK
        · skip
          rw [if_neg c18] at h
          refine GM_iinc (L' := [(11, (0, w32 (v11 + 1))), (0, (3, v0)), (2, (0, v2)), (3, (0, v3)), (4, (0, v4)), (5, (0, v5)), (6, (0, v6)), (7, (0, v7)), (8, (0, v8)), (9, (3, v9)), (10, (3, v10)), (12, (0, v12))]) (pc := 154) 10 rfl (daX10_found_1 13 rfl) (Nat.le_of_ble_eq_true rfl) rfl ?_
          refine GM_iinc (L' := [(12, (0, w32 (v12 + 1))), (11, (0, w32 (v11 + 1))), (0, (3, v0)), (2, (0, v2)), (3, (0, v3)), (4, (0, v4)), (5, (0, v5)), (6, (0, v6)), (7, (0, v7)), (8, (0, v8)), (9, (3, v9)), (10, (3, v10))]) (pc := 157) 11 rfl (daX10_found_1 14 rfl) (Nat.le_of_ble_eq_true rfl) rfl ?_
          refine GM_goto (pc := 160) 68 (daX10_found_1 15 rfl) rfl ?_
          refine GM_pick [2, 3, 4, 5, 6, 7, 8, 9, 10, 11, 1, 0] rfl ?_
          cases h
          rw [Nat.zero_add, Nat.zero_add]
          exact hK
set_option maxRecDepth 20000 in
theorem gX10_found_0 (l : Launch) {F : FI} {v0 v1 v2 v3 v4 v5 v6 v7 v8 : Int} {μ : Mm} {t : (Int × Mm)} {c0 n0 k n : Nat} (h : fX10_found v0 v1 v2 v3 v4 v5 v6 v7 v8 μ = some (t, c0, n0)) (hK : F.1 = [(0, t.1)] ∧ F.2.1 = t.2) : GM l mX10_found F (c0 + k) (n0 + n) 0 [(0, (3, v0)), (1, (0, v1)), (2, (0, v2)), (3, (0, v3)), (4, (0, v4)), (5, (0, v5)), (6, (0, v6)), (7, (0, v7)), (8, (0, v8))] [] μ := by
  unfold fX10_found at h
  refine GM_aload_n (pc := 0) 0 rfl (daX10_found_0 0 rfl) rfl ?_
  refine GM_iload_n (pc := 1) 1 rfl (daX10_found_0 1 rfl) rfl ?_
  obtain ⟨hc19, h⟩ := chk_inv h
  obtain ⟨⟨⟨r20, μ20⟩, c20, n20⟩, hf20, h⟩ := Option.bind_eq_some_iff.mp h
  dsimp only at h
  obtain ⟨c21, n21, hp, e1, e2⟩ := pay_inv h
  subst e1 e2
  replace h := hp
  clear hp
  rw [Nat.add_assoc, Nat.add_assoc]
  refine GM_callV (pc := 2) [(0, v1)] (tX10_sceneAt l hf20) cwX10_sceneAt 10 (Nat.le_of_ble_eq_true rfl) rfl kv_X10_sceneAt ke_X10_sceneAt km_X10_220 hc19 ⟨Nat.le_of_ble_eq_true rfl, Nat.le_of_ble_eq_true rfl⟩ (Nat.le_of_ble_eq_true rfl) (Nat.le_of_ble_eq_true rfl) (daX10_found_0 2 rfl) ?_
  refine GM_astore (L' := [(9, (3, r20)), (0, (3, v0)), (1, (0, v1)), (2, (0, v2)), (3, (0, v3)), (4, (0, v4)), (5, (0, v5)), (6, (0, v6)), (7, (0, v7)), (8, (0, v8))]) (pc := 5) (daX10_found_0 3 rfl) (Nat.le_of_ble_eq_true rfl) rfl ?_
  refine GM_aload_n (pc := 7) 1 rfl (daX10_found_0 4 rfl) rfl ?_
  refine GM_iload_n (pc := 8) 2 rfl (daX10_found_0 5 rfl) rfl ?_
  refine GM_iload_n (pc := 9) 3 rfl (daX10_found_0 6 rfl) rfl ?_
  obtain ⟨⟨⟨r22, μ22⟩, c22, n22⟩, hf22, h⟩ := Option.bind_eq_some_iff.mp h
  dsimp only at h
  obtain ⟨c23, n23, hp, e1, e2⟩ := pay_inv h
  subst e1 e2
  replace h := hp
  clear hp
  rw [Nat.add_assoc, Nat.add_assoc]
  refine GM_callV (pc := 10) [(0, v1), (0, v2)] (tX10_lineAt l hf22) cwX10_lineAt 10 (Nat.le_of_ble_eq_true rfl) rfl kv_X10_lineAt ke_X10_lineAt km_X10_236 hc19 ⟨Nat.le_of_ble_eq_true rfl, Nat.le_of_ble_eq_true rfl⟩ (Nat.le_of_ble_eq_true rfl) (Nat.le_of_ble_eq_true rfl) (daX10_found_0 7 rfl) ?_
  refine GM_astore (L' := [(10, (3, r22)), (9, (3, r20)), (0, (3, v0)), (1, (0, v1)), (2, (0, v2)), (3, (0, v3)), (4, (0, v4)), (5, (0, v5)), (6, (0, v6)), (7, (0, v7)), (8, (0, v8))]) (pc := 13) (daX10_found_0 8 rfl) (Nat.le_of_ble_eq_true rfl) rfl ?_
  refine GM_aload (pc := 15) 1 rfl (daX10_found_0 9 rfl) ?_
  refine GM_ifnull (pc := 17) 33 (daX10_found_0 10 rfl) rfl (fun c24 => ?_) (fun c24 => ?_)
  · skip
    rw [if_pos c24] at h
    refine GM_iconst (pc := 33) (-1) (daX10_found_0 17 rfl) rfl (R32_b rfl) ?_
    cases h
    exact GM_iret (pc := 34) (daX10_found_0 18 rfl) rfl hK
  · skip
    rw [if_neg c24] at h
    refine GM_aload (pc := 20) 0 rfl (daX10_found_0 11 rfl) ?_
    refine GM_iload_n (pc := 22) 5 rfl (daX10_found_0 12 rfl) rfl ?_
    refine GM_iload (pc := 23) 6 rfl (daX10_found_0 13 rfl) ?_
    refine GM_bipush (pc := 25) 9 (daX10_found_0 14 rfl) rfl (R32_b rfl) ?_
    obtain ⟨r25, hf25, h⟩ := Option.bind_eq_some_iff.mp h
    refine GM_callS0 (pc := 27) [(3, r22), (0, v3), (0, v4), (0, 9)] (tX10_canDraw l hf25) cwX10_canDraw ks_X10_canDraw km_X10_389 ⟨Nat.le_of_ble_eq_true rfl, Nat.le_of_ble_eq_true rfl⟩ (Nat.le_of_ble_eq_true rfl) (Nat.le_of_ble_eq_true rfl) (daX10_found_0 15 rfl) ?_
    refine GM_if_ne (pc := 30) 35 (daX10_found_0 16 rfl) rfl (fun c26 => ?_) (fun c26 => ?_)
    · skip
      rw [if_neg c26] at h
      refine GM_iload (pc := 35) 8 rfl (daX10_found_0 19 rfl) ?_
      refine GM_if_lt (pc := 37) 60 (daX10_found_0 20 rfl) rfl (fun c27 => ?_) (fun c27 => ?_)
      · skip
        rw [if_pos c27] at h
        refine GM_iconst (pc := 60) (-1) (daX10_found_0 30 rfl) rfl (R32_b rfl) ?_
        cases h
        exact GM_iret (pc := 61) (daX10_found_0 31 rfl) rfl hK
      · skip
        rw [if_neg c27] at h
        refine GM_iload (pc := 40) 8 rfl (daX10_found_0 21 rfl) ?_
        refine GM_bipush (pc := 42) 20 (daX10_found_0 22 rfl) rfl (R32_b rfl) ?_
        refine GM_icmp_gt (pc := 44) 60 (daX10_found_0 23 rfl) rfl (fun c28 => ?_) (fun c28 => ?_)
        · skip
          rw [if_pos c28] at h
          refine GM_iconst (pc := 60) (-1) (daX10_found_0 30 rfl) rfl (R32_b rfl) ?_
          cases h
          exact GM_iret (pc := 61) (daX10_found_0 31 rfl) rfl hK
        · skip
          rw [if_neg c28] at h
          refine GM_iload (pc := 47) 9 rfl (daX10_found_0 24 rfl) ?_
          refine GM_iconst (pc := 49) 1 (daX10_found_0 25 rfl) rfl (R32_b rfl) ?_
          refine GM_icmp_lt (pc := 50) 60 (daX10_found_0 26 rfl) rfl (fun c29 => ?_) (fun c29 => ?_)
          · skip
            rw [if_pos c29] at h
            refine GM_iconst (pc := 60) (-1) (daX10_found_0 30 rfl) rfl (R32_b rfl) ?_
            cases h
            exact GM_iret (pc := 61) (daX10_found_0 31 rfl) rfl hK
          · skip
            rw [if_neg c29] at h
            refine GM_iload (pc := 53) 9 rfl (daX10_found_0 27 rfl) ?_
            refine GM_bipush (pc := 55) 8 (daX10_found_0 28 rfl) rfl (R32_b rfl) ?_
            refine GM_icmp_le (pc := 57) 62 (daX10_found_0 29 rfl) rfl (fun c30 => ?_) (fun c30 => ?_)
            · skip
              rw [if_pos c30] at h
              refine GM_iconst (pc := 62) 0 (daX10_found_0 32 rfl) rfl (R32_b rfl) ?_
              refine GM_istore (L' := [(11, (0, 0)), (10, (3, r22)), (9, (3, r20)), (0, (3, v0)), (1, (0, v1)), (2, (0, v2)), (3, (0, v3)), (4, (0, v4)), (5, (0, v5)), (6, (0, v6)), (7, (0, v7)), (8, (0, v8))]) (pc := 63) (daX10_found_0 33 rfl) (Nat.le_of_ble_eq_true rfl) rfl ?_
              refine GM_iconst (pc := 65) 0 (daX10_found_0 34 rfl) rfl (R32_b rfl) ?_
              refine GM_istore (L' := [(12, (0, 0)), (11, (0, 0)), (10, (3, r22)), (9, (3, r20)), (0, (3, v0)), (1, (0, v1)), (2, (0, v2)), (3, (0, v3)), (4, (0, v4)), (5, (0, v5)), (6, (0, v6)), (7, (0, v7)), (8, (0, v8))]) (pc := 66) (daX10_found_0 35 rfl) (Nat.le_of_ble_eq_true rfl) rfl ?_
              refine GM_pick [4, 6, 7, 8, 9, 10, 11, 12, 3, 2, 1, 0] rfl ?_
              obtain ⟨x31, hqx31, h⟩ := Option.bind_eq_some_iff.mp h
              obtain ⟨x31, ccx31, nnx31⟩ := x31
              dsimp only at h
              obtain ⟨c33, n33, hp, e1, e2⟩ := pay_inv h
              subst e1 e2
              replace h := hp
              clear hp
              rw [Nat.add_assoc, Nat.add_assoc]
              refine lopA_ind (fun k n => zX10_found_68 l F v0 v2 v3 v4 v5 v6 v7 v8 r20 r22 k n) (qX10_found_68 l F v0 v2 v3 v4 v5 v6 v7 v8 r20 r22) FU _ x31 _ _ hqx31 _ _ ?_
              obtain ⟨v11_32, μ_32⟩ := x31
              dsimp only at h
              show GM l mX10_found F (c33 + k) (n33 + n) 163 [(11, (0, v11_32))] [] μ_32
              refine GM_iload (pc := 163) 0 rfl (daX10_found_1 16 rfl) ?_
              cases h
              exact GM_iret (pc := 165) (daX10_found_1 17 rfl) rfl hK
            · skip
              rw [if_neg c30] at h
              refine GM_iconst (pc := 60) (-1) (daX10_found_0 30 rfl) rfl (R32_b rfl) ?_
              cases h
              exact GM_iret (pc := 61) (daX10_found_0 31 rfl) rfl hK
    · skip
      rw [if_pos c26] at h
      refine GM_iconst (pc := 33) (-1) (daX10_found_0 17 rfl) rfl (R32_b rfl) ?_
      cases h
      exact GM_iret (pc := 34) (daX10_found_0 18 rfl) rfl hK
theorem tX10_found (l : Launch) {v0 v1 v2 v3 v4 v5 v6 v7 v8 : Int} {μ : Mm} {t : (Int × Mm)} {c0 n0 : Nat} (h : fX10_found v0 v1 v2 v3 v4 v5 v6 v7 v8 μ = some (t, c0, n0)) : Ct l yX10_found mX10_found [(3, v0), (0, v1), (0, v2), (0, v3), (0, v4), (0, v5), (0, v6), (0, v7), (0, v8)] μ ([(0, t.1)], t.2, c0, n0) :=
  Ct_of (by decide +kernel) rfl rfl (Nat.le_of_ble_eq_true rfl) (fun _ _ _ => trivial) (gX10_found_0 (k := 0) (n := 0) l h ⟨rfl, rfl⟩)
def mX10_stretch : MI := (RX10, cX10_stretch, 7, (some .int), "stretch", 6, 147, fun _ _ _ => True)
theorem cwX10_stretch : CWd yX10_stretch mX10_stretch 6 := ⟨ki_X10, kk_X10_stretch, ⟨by decide, by decide⟩, rfl⟩
def dtX10_stretch_0 : List (Nat × Instr × Nat) := [(0, .aload_n 0, 1), (1, .iload_n 1, 1), (2, .iload_n 2, 1), (3, .iload_n 3, 1), (4, .iconst (-1), 1), (5, .invokevirtual 305, 3), (8, .ifCond .eq 15, 3), (11, .aload_n 0, 1), (12, .getfield 50, 3), (15, .iload 4, 2), (17, .invokevirtual 401, 3), (20, .ifCond .ne 5, 3), (23, .iconst (-1), 1), (24, .ireturn, 1), (25, .aload_n 0, 1), (26, .getfield 50, 3), (29, .iload 4, 2), (31, .iload 5, 2), (33, .iload 6, 2), (35, .invokevirtual 404, 3), (38, .ireturn, 1)]
theorem ddX10_stretch_0 : (dtX10_stretch_0.all fun e => decide (decode mX10_stretch.2.1 e.1 = .ok (e.2.1, e.2.2))) = true := by decide +kernel
theorem daX10_stretch_0 (j : Nat) {pc n : Nat} {i : Instr} (h : dtX10_stretch_0[j]? = some (pc, i, n)) : decode mX10_stretch.2.1 pc = .ok (i, n) := dec_of (c := mX10_stretch.2.1) ddX10_stretch_0 h
def fX10_stretch (v0 v1 v2 v3 v4 v5 v6 : Int) (μ : Mm) : Option ((Int × Mm) × Nat × Nat) :=
  chk (KD v0 = 10) (
  (fX10_facesPlace v0 v1 v2 v3 (-1) μ).bind fun ((r2, μ2), c2, n2) =>
  pay c2 n2 (
  if r2 = 0 then
    some (((-1), μ2), 0, 0)
  else
    chk (KD (μ2 v0 6) = 1) (
    (fX1_canStand (μ2 v0 6) v4 μ2).bind fun r6 =>
    if r6 = 0 then
      some (((-1), μ2), 0, 0)
    else
      (fX1_stretched (μ2 v0 6) v4 v5 v6 μ2).bind fun (r8, μ8) =>
      some ((r8, μ8), 0, 0))))
set_option maxRecDepth 20000 in
theorem gX10_stretch_0 (l : Launch) {F : FI} {v0 v1 v2 v3 v4 v5 v6 : Int} {μ : Mm} {t : (Int × Mm)} {c0 n0 k n : Nat} (h : fX10_stretch v0 v1 v2 v3 v4 v5 v6 μ = some (t, c0, n0)) (hK : F.1 = [(0, t.1)] ∧ F.2.1 = t.2) : GM l mX10_stretch F (c0 + k) (n0 + n) 0 [(0, (3, v0)), (1, (0, v1)), (2, (0, v2)), (3, (0, v3)), (4, (0, v4)), (5, (0, v5)), (6, (0, v6))] [] μ := by
  unfold fX10_stretch at h
  refine GM_aload_n (pc := 0) 0 rfl (daX10_stretch_0 0 rfl) rfl ?_
  refine GM_iload_n (pc := 1) 1 rfl (daX10_stretch_0 1 rfl) rfl ?_
  refine GM_iload_n (pc := 2) 2 rfl (daX10_stretch_0 2 rfl) rfl ?_
  refine GM_iload_n (pc := 3) 3 rfl (daX10_stretch_0 3 rfl) rfl ?_
  refine GM_iconst (pc := 4) (-1) (daX10_stretch_0 4 rfl) rfl (R32_b rfl) ?_
  obtain ⟨hc1, h⟩ := chk_inv h
  obtain ⟨⟨⟨r2, μ2⟩, c2, n2⟩, hf2, h⟩ := Option.bind_eq_some_iff.mp h
  dsimp only at h
  obtain ⟨c3, n3, hp, e1, e2⟩ := pay_inv h
  subst e1 e2
  replace h := hp
  clear hp
  rw [Nat.add_assoc, Nat.add_assoc]
  refine GM_callV (pc := 5) [(0, v1), (0, v2), (0, v3), (0, (-1))] (tX10_facesPlace l hf2) cwX10_facesPlace 10 (Nat.le_of_ble_eq_true rfl) rfl kv_X10_facesPlace ke_X10_facesPlace km_X10_305 hc1 ⟨Nat.le_of_ble_eq_true rfl, Nat.le_of_ble_eq_true rfl⟩ (Nat.le_of_ble_eq_true rfl) (Nat.le_of_ble_eq_true rfl) (daX10_stretch_0 5 rfl) ?_
  refine GM_if_eq (pc := 8) 23 (daX10_stretch_0 6 rfl) rfl (fun c4 => ?_) (fun c4 => ?_)
  · skip
    rw [if_pos c4] at h
    refine GM_iconst (pc := 23) (-1) (daX10_stretch_0 12 rfl) rfl (R32_b rfl) ?_
    cases h
    exact GM_iret (pc := 24) (daX10_stretch_0 13 rfl) rfl hK
  · skip
    rw [if_neg c4] at h
    refine GM_aload_n (pc := 11) 0 rfl (daX10_stretch_0 7 rfl) rfl ?_
    refine GM_getf (pc := 12) 10 6 3 6 kf_X10_50 (Nat.le_of_ble_eq_true rfl) (Nat.le_of_ble_eq_true rfl) rfl (daX10_stretch_0 8 rfl) hc1 rfl ?_
    refine GM_iload (pc := 15) 4 rfl (daX10_stretch_0 9 rfl) ?_
    obtain ⟨hc5, h⟩ := chk_inv h
    obtain ⟨r6, hf6, h⟩ := Option.bind_eq_some_iff.mp h
    refine GM_callV0 (pc := 17) [(0, v4)] (tX1_canStand l hf6) cwX1_canStand 1 (Nat.le_of_ble_eq_true rfl) rfl kv_X1_canStand ke_X1_canStand km_X10_401 hc5 ⟨Nat.le_of_ble_eq_true rfl, Nat.le_of_ble_eq_true rfl⟩ (Nat.le_of_ble_eq_true rfl) (Nat.le_of_ble_eq_true rfl) (daX10_stretch_0 10 rfl) ?_
    refine GM_if_ne (pc := 20) 25 (daX10_stretch_0 11 rfl) rfl (fun c7 => ?_) (fun c7 => ?_)
    · skip
      rw [if_neg c7] at h
      refine GM_aload_n (pc := 25) 0 rfl (daX10_stretch_0 14 rfl) rfl ?_
      refine GM_getf (pc := 26) 10 6 3 6 kf_X10_50 (Nat.le_of_ble_eq_true rfl) (Nat.le_of_ble_eq_true rfl) rfl (daX10_stretch_0 15 rfl) hc1 rfl ?_
      refine GM_iload (pc := 29) 4 rfl (daX10_stretch_0 16 rfl) ?_
      refine GM_iload (pc := 31) 5 rfl (daX10_stretch_0 17 rfl) ?_
      refine GM_iload (pc := 33) 6 rfl (daX10_stretch_0 18 rfl) ?_
      obtain ⟨⟨r8, μ8⟩, hf8, h⟩ := Option.bind_eq_some_iff.mp h
      dsimp only at h
      refine GM_callV0 (pc := 35) [(0, v4), (0, v5), (0, v6)] (tX1_stretched l hf8) cwX1_stretched 1 (Nat.le_of_ble_eq_true rfl) rfl kv_X1_stretched ke_X1_stretched km_X10_404 hc5 ⟨Nat.le_of_ble_eq_true rfl, Nat.le_of_ble_eq_true rfl⟩ (Nat.le_of_ble_eq_true rfl) (Nat.le_of_ble_eq_true rfl) (daX10_stretch_0 19 rfl) ?_
      cases h
      exact GM_iret (pc := 38) (daX10_stretch_0 20 rfl) rfl hK
    · skip
      rw [if_pos c7] at h
      refine GM_iconst (pc := 23) (-1) (daX10_stretch_0 12 rfl) rfl (R32_b rfl) ?_
      cases h
      exact GM_iret (pc := 24) (daX10_stretch_0 13 rfl) rfl hK
theorem tX10_stretch (l : Launch) {v0 v1 v2 v3 v4 v5 v6 : Int} {μ : Mm} {t : (Int × Mm)} {c0 n0 : Nat} (h : fX10_stretch v0 v1 v2 v3 v4 v5 v6 μ = some (t, c0, n0)) : Ct l yX10_stretch mX10_stretch [(3, v0), (0, v1), (0, v2), (0, v3), (0, v4), (0, v5), (0, v6)] μ ([(0, t.1)], t.2, c0, n0) :=
  Ct_of (by decide +kernel) rfl rfl (Nat.le_of_ble_eq_true rfl) (fun _ _ _ => trivial) (gX10_stretch_0 (k := 0) (n := 0) l h ⟨rfl, rfl⟩)
def mX10_wrong : MI := (RX10, cX10_wrong, 5, (some .int), "wrong", 6, 147, fun _ _ _ => True)
theorem cwX10_wrong : CWd yX10_wrong mX10_wrong 4 := ⟨ki_X10, kk_X10_wrong, ⟨by decide, by decide⟩, rfl⟩
def dtX10_wrong_0 : List (Nat × Instr × Nat) := [(0, .aload_n 0, 1), (1, .iload_n 1, 1), (2, .iload_n 2, 1), (3, .iload_n 3, 1), (4, .iconst (-1), 1), (5, .invokevirtual 305, 3), (8, .ifCond .eq 15, 3), (11, .aload_n 0, 1), (12, .getfield 50, 3), (15, .iload 4, 2), (17, .invokevirtual 401, 3), (20, .ifCond .ne 5, 3), (23, .iconst (-1), 1), (24, .ireturn, 1), (25, .aload_n 0, 1), (26, .getfield 50, 3), (29, .iload 4, 2), (31, .sipush 1000, 3), (34, .invokevirtual 408, 3), (37, .ireturn, 1)]
theorem ddX10_wrong_0 : (dtX10_wrong_0.all fun e => decide (decode mX10_wrong.2.1 e.1 = .ok (e.2.1, e.2.2))) = true := by decide +kernel
theorem daX10_wrong_0 (j : Nat) {pc n : Nat} {i : Instr} (h : dtX10_wrong_0[j]? = some (pc, i, n)) : decode mX10_wrong.2.1 pc = .ok (i, n) := dec_of (c := mX10_wrong.2.1) ddX10_wrong_0 h
def fX10_wrong (v0 v1 v2 v3 v4 : Int) (μ : Mm) : Option ((Int × Mm) × Nat × Nat) :=
  chk (KD v0 = 10) (
  (fX10_facesPlace v0 v1 v2 v3 (-1) μ).bind fun ((r2, μ2), c2, n2) =>
  pay c2 n2 (
  if r2 = 0 then
    some (((-1), μ2), 0, 0)
  else
    chk (KD (μ2 v0 6) = 1) (
    (fX1_canStand (μ2 v0 6) v4 μ2).bind fun r6 =>
    if r6 = 0 then
      some (((-1), μ2), 0, 0)
    else
      (fX1_countWrong (μ2 v0 6) v4 1000 μ2).bind fun (r8, μ8) =>
      some ((r8, μ8), 0, 0))))
set_option maxRecDepth 20000 in
theorem gX10_wrong_0 (l : Launch) {F : FI} {v0 v1 v2 v3 v4 : Int} {μ : Mm} {t : (Int × Mm)} {c0 n0 k n : Nat} (h : fX10_wrong v0 v1 v2 v3 v4 μ = some (t, c0, n0)) (hK : F.1 = [(0, t.1)] ∧ F.2.1 = t.2) : GM l mX10_wrong F (c0 + k) (n0 + n) 0 [(0, (3, v0)), (1, (0, v1)), (2, (0, v2)), (3, (0, v3)), (4, (0, v4))] [] μ := by
  unfold fX10_wrong at h
  refine GM_aload_n (pc := 0) 0 rfl (daX10_wrong_0 0 rfl) rfl ?_
  refine GM_iload_n (pc := 1) 1 rfl (daX10_wrong_0 1 rfl) rfl ?_
  refine GM_iload_n (pc := 2) 2 rfl (daX10_wrong_0 2 rfl) rfl ?_
  refine GM_iload_n (pc := 3) 3 rfl (daX10_wrong_0 3 rfl) rfl ?_
  refine GM_iconst (pc := 4) (-1) (daX10_wrong_0 4 rfl) rfl (R32_b rfl) ?_
  obtain ⟨hc1, h⟩ := chk_inv h
  obtain ⟨⟨⟨r2, μ2⟩, c2, n2⟩, hf2, h⟩ := Option.bind_eq_some_iff.mp h
  dsimp only at h
  obtain ⟨c3, n3, hp, e1, e2⟩ := pay_inv h
  subst e1 e2
  replace h := hp
  clear hp
  rw [Nat.add_assoc, Nat.add_assoc]
  refine GM_callV (pc := 5) [(0, v1), (0, v2), (0, v3), (0, (-1))] (tX10_facesPlace l hf2) cwX10_facesPlace 10 (Nat.le_of_ble_eq_true rfl) rfl kv_X10_facesPlace ke_X10_facesPlace km_X10_305 hc1 ⟨Nat.le_of_ble_eq_true rfl, Nat.le_of_ble_eq_true rfl⟩ (Nat.le_of_ble_eq_true rfl) (Nat.le_of_ble_eq_true rfl) (daX10_wrong_0 5 rfl) ?_
  refine GM_if_eq (pc := 8) 23 (daX10_wrong_0 6 rfl) rfl (fun c4 => ?_) (fun c4 => ?_)
  · skip
    rw [if_pos c4] at h
    refine GM_iconst (pc := 23) (-1) (daX10_wrong_0 12 rfl) rfl (R32_b rfl) ?_
    cases h
    exact GM_iret (pc := 24) (daX10_wrong_0 13 rfl) rfl hK
  · skip
    rw [if_neg c4] at h
    refine GM_aload_n (pc := 11) 0 rfl (daX10_wrong_0 7 rfl) rfl ?_
    refine GM_getf (pc := 12) 10 6 3 6 kf_X10_50 (Nat.le_of_ble_eq_true rfl) (Nat.le_of_ble_eq_true rfl) rfl (daX10_wrong_0 8 rfl) hc1 rfl ?_
    refine GM_iload (pc := 15) 4 rfl (daX10_wrong_0 9 rfl) ?_
    obtain ⟨hc5, h⟩ := chk_inv h
    obtain ⟨r6, hf6, h⟩ := Option.bind_eq_some_iff.mp h
    refine GM_callV0 (pc := 17) [(0, v4)] (tX1_canStand l hf6) cwX1_canStand 1 (Nat.le_of_ble_eq_true rfl) rfl kv_X1_canStand ke_X1_canStand km_X10_401 hc5 ⟨Nat.le_of_ble_eq_true rfl, Nat.le_of_ble_eq_true rfl⟩ (Nat.le_of_ble_eq_true rfl) (Nat.le_of_ble_eq_true rfl) (daX10_wrong_0 10 rfl) ?_
    refine GM_if_ne (pc := 20) 25 (daX10_wrong_0 11 rfl) rfl (fun c7 => ?_) (fun c7 => ?_)
    · skip
      rw [if_neg c7] at h
      refine GM_aload_n (pc := 25) 0 rfl (daX10_wrong_0 14 rfl) rfl ?_
      refine GM_getf (pc := 26) 10 6 3 6 kf_X10_50 (Nat.le_of_ble_eq_true rfl) (Nat.le_of_ble_eq_true rfl) rfl (daX10_wrong_0 15 rfl) hc1 rfl ?_
      refine GM_iload (pc := 29) 4 rfl (daX10_wrong_0 16 rfl) ?_
      refine GM_sipush (pc := 31) 1000 (daX10_wrong_0 17 rfl) rfl (R32_b rfl) ?_
      obtain ⟨⟨r8, μ8⟩, hf8, h⟩ := Option.bind_eq_some_iff.mp h
      dsimp only at h
      refine GM_callV0 (pc := 34) [(0, v4), (0, 1000)] (tX1_countWrong l hf8) cwX1_countWrong 1 (Nat.le_of_ble_eq_true rfl) rfl kv_X1_countWrong ke_X1_countWrong km_X10_408 hc5 ⟨Nat.le_of_ble_eq_true rfl, Nat.le_of_ble_eq_true rfl⟩ (Nat.le_of_ble_eq_true rfl) (Nat.le_of_ble_eq_true rfl) (daX10_wrong_0 18 rfl) ?_
      cases h
      exact GM_iret (pc := 37) (daX10_wrong_0 19 rfl) rfl hK
    · skip
      rw [if_pos c7] at h
      refine GM_iconst (pc := 23) (-1) (daX10_wrong_0 12 rfl) rfl (R32_b rfl) ?_
      cases h
      exact GM_iret (pc := 24) (daX10_wrong_0 13 rfl) rfl hK
theorem tX10_wrong (l : Launch) {v0 v1 v2 v3 v4 : Int} {μ : Mm} {t : (Int × Mm)} {c0 n0 : Nat} (h : fX10_wrong v0 v1 v2 v3 v4 μ = some (t, c0, n0)) : Ct l yX10_wrong mX10_wrong [(3, v0), (0, v1), (0, v2), (0, v3), (0, v4)] μ ([(0, t.1)], t.2, c0, n0) :=
  Ct_of (by decide +kernel) rfl rfl (Nat.le_of_ble_eq_true rfl) (fun _ _ _ => trivial) (gX10_wrong_0 (k := 0) (n := 0) l h ⟨rfl, rfl⟩)
def mX10_nearest : MI := (RX10, cX10_nearest, 9, (some .int), "nearest", 6, 136, fun _ _ _ => True)
theorem cwX10_nearest : CWd yX10_nearest mX10_nearest 3 := ⟨ki_X10, kk_X10_nearest, ⟨by decide, by decide⟩, rfl⟩
def dtX10_nearest_0 : List (Nat × Instr × Nat) := [(0, .aload_n 0, 1), (1, .iload_n 1, 1), (2, .invokevirtual 220, 3), (5, .astore 4, 2), (7, .aload 4, 2), (9, .ifnull 13, 3), (12, .aload_n 0, 1), (13, .iload_n 1, 1), (14, .iload_n 2, 1), (15, .iconst (-1), 1), (16, .invokevirtual 298, 3), (19, .ifCond .ne 5, 3), (22, .iconst (-1), 1), (23, .ireturn, 1), (24, .iconst (-1), 1), (25, .istore 5, 2), (27, .sipush 1000, 3), (30, .istore 6, 2), (32, .iconst 0, 1), (33, .istore 7, 2), (35, .iload 7, 2), (37, .aload 4, 2), (39, .getfield 224, 3), (42, .invokevirtual 266, 3), (45, .if_icmp .ge 54, 3), (48, .iload 6, 2), (50, .ifCond .le 49, 3), (53, .aload_n 0, 1), (54, .getfield 50, 3), (57, .aload 4, 2), (59, .iload 7, 2), (61, .invokevirtual 225, 3), (64, .putfield 302, 3), (67, .aload_n 0, 1), (68, .getfield 50, 3), (71, .iload 6, 2), (73, .invokevirtual 411, 3), (76, .istore 8, 2), (78, .iload 8, 2), (80, .iload 6, 2), (82, .if_icmp .ge 11, 3), (85, .iload 8, 2), (87, .istore 6, 2), (89, .iload 7, 2), (91, .istore 5, 2), (93, .iinc 7 1, 3), (96, .goto (-61), 3), (99, .iload_n 3, 1), (100, .ifCond .eq 14, 3), (103, .iload 5, 2), (105, .iconst (-1), 1), (106, .if_icmp .eq 8, 3), (109, .iload 6, 2), (111, .goto 5, 3), (114, .iload 5, 2), (116, .ireturn, 1)]
theorem ddX10_nearest_0 : (dtX10_nearest_0.all fun e => decide (decode mX10_nearest.2.1 e.1 = .ok (e.2.1, e.2.2))) = true := by decide +kernel
theorem daX10_nearest_0 (j : Nat) {pc n : Nat} {i : Instr} (h : dtX10_nearest_0[j]? = some (pc, i, n)) : decode mX10_nearest.2.1 pc = .ok (i, n) := dec_of (c := mX10_nearest.2.1) ddX10_nearest_0 h
def zX10_nearest_35 (l : Launch) (F : FI) (v0 v3 v4 : Int) (k n : Nat) : (Int × Int × Int × Mm) ⊕ (Int × Int × Mm) → Prop
  | .inl (v5, v6, v7, μ) => GM l mX10_nearest F k n 35 [(0, (3, v0)), (3, (0, v3)), (4, (3, v4)), (5, (0, v5)), (6, (0, v6)), (7, (0, v7))] [] μ
  | .inr (v5, v6, μ) => GM l mX10_nearest F k n 99 [(3, (0, v3)), (5, (0, v5)), (6, (0, v6))] [] μ
def sX10_nearest_35 (v0 v3 v4 : Int) : (Int × Int × Int × Mm) → Option (((Int × Int × Int × Mm) ⊕ (Int × Int × Mm)) × Nat × Nat) := fun (v5, v6, v7, μ) =>
  chk (KD v4 = 4) (
  chk (KD (μ v4 0) = 2) (
  (fX2_places (μ v4 0) μ).bind fun r3 =>
  if r3 ≤ v7 then
    some (.inr (v5, v6, μ), 0, 0)
  else
    if v6 ≤ 0 then
      some (.inr (v5, v6, μ), 0, 0)
    else
      chk (KD v0 = 10) (
      (fX4_lineOf v4 v7 μ).bind fun ((r7, μ7), c7, n7) =>
      pay c7 n7 (
      chk (KD (μ v0 6) = 1) (
      lm (mst μ7 (μ v0 6) 2 r7) fun μ10 =>
      chk (KD (μ10 v0 6) = 1) (
      (fX1_leastWrong (μ10 v0 6) v6 μ10).bind fun (r12, μ12) =>
      if v6 ≤ r12 then
        some (.inl (v5, v6, w32 (v7 + 1), μ12), 0, 0)
      else
        some (.inl (v7, r12, w32 (v7 + 1), μ12), 0, 0)))))))
def fX10_nearest (v0 v1 v2 v3 : Int) (μ : Mm) : Option ((Int × Mm) × Nat × Nat) :=
  chk (KD v0 = 10) (
  (fX10_sceneAt v0 v1 μ).bind fun ((r15, μ15), c15, n15) =>
  pay c15 n15 (
  if r15 = 0 then
    some (((-1), μ15), 0, 0)
  else
    (fX10_takesUp v0 v1 v2 (-1) μ15).bind fun (r18, μ18) =>
    if r18 = 0 then
      some (((-1), μ18), 0, 0)
    else
      (lopA (sX10_nearest_35 v0 v3 r15) FU ((-1), 1000, 0, μ18)).bind fun (x20, ccx20, nnx20) =>
        pay ccx20 nnx20 (
        match x20 with
        | (v5_21, v6_21, μ_21) =>
          if v3 = 0 then
            some ((v5_21, μ_21), 0, 0)
          else
            if v5_21 = (-1) then
              some ((v5_21, μ_21), 0, 0)
            else
              some ((v6_21, μ_21), 0, 0))))
set_option maxRecDepth 20000 in
theorem qX10_nearest_35 (l : Launch) (F : FI) (v0 v3 v4 : Int) : ∀ (q : (Int × Int × Int × Mm)) (t : ((Int × Int × Int × Mm) ⊕ (Int × Int × Mm))) (c0 n0 : Nat), sX10_nearest_35 v0 v3 v4 q = some (t, c0, n0) → ∀ k n, zX10_nearest_35 l F v0 v3 v4 k n t → zX10_nearest_35 l F v0 v3 v4 (c0 + k) (n0 + n) (.inl q) := by
  intro q t c0 n0 h k n hK
  obtain ⟨v5, v6, v7, μ⟩ := q
  unfold sX10_nearest_35 at h
  try dsimp only at h
  show GM l mX10_nearest F (c0 + k) (n0 + n) 35 [(0, (3, v0)), (3, (0, v3)), (4, (3, v4)), (5, (0, v5)), (6, (0, v6)), (7, (0, v7))] [] μ
  refine GM_iload (pc := 35) 5 rfl (daX10_nearest_0 20 rfl) ?_
  refine GM_aload (pc := 37) 2 rfl (daX10_nearest_0 21 rfl) ?_
  obtain ⟨hc1, h⟩ := chk_inv h
  refine GM_getf (pc := 39) 4 0 3 0 kf_X10_224 (Nat.le_of_ble_eq_true rfl) (Nat.le_of_ble_eq_true rfl) rfl (daX10_nearest_0 22 rfl) hc1 rfl ?_
  obtain ⟨hc2, h⟩ := chk_inv h
  obtain ⟨r3, hf3, h⟩ := Option.bind_eq_some_iff.mp h
  refine GM_callV0 (pc := 42) [] (tX2_places l hf3) cwX2_places 2 (Nat.le_of_ble_eq_true rfl) rfl kv_X2_places ke_X2_places km_X10_266 hc2 ⟨Nat.le_of_ble_eq_true rfl, Nat.le_of_ble_eq_true rfl⟩ (Nat.le_of_ble_eq_true rfl) (Nat.le_of_ble_eq_true rfl) (daX10_nearest_0 23 rfl) ?_
  refine GM_icmp_ge (pc := 45) 99 (daX10_nearest_0 24 rfl) rfl (fun c4 => ?_) (fun c4 => ?_)
  · skip
    rw [if_pos c4] at h
    refine GM_pick [1, 3, 4] rfl ?_
    cases h
    rw [Nat.zero_add, Nat.zero_add]
    exact hK
  · skip
    rw [if_neg c4] at h
    refine GM_iload (pc := 48) 4 rfl (daX10_nearest_0 25 rfl) ?_
    refine GM_if_le (pc := 50) 99 (daX10_nearest_0 26 rfl) rfl (fun c5 => ?_) (fun c5 => ?_)
    · skip
      rw [if_pos c5] at h
      refine GM_pick [1, 3, 4] rfl ?_
      cases h
      rw [Nat.zero_add, Nat.zero_add]
      exact hK
    · skip
      rw [if_neg c5] at h
      refine GM_aload_n (pc := 53) 0 rfl (daX10_nearest_0 27 rfl) rfl ?_
      obtain ⟨hc6, h⟩ := chk_inv h
      refine GM_getf (pc := 54) 10 6 3 6 kf_X10_50 (Nat.le_of_ble_eq_true rfl) (Nat.le_of_ble_eq_true rfl) rfl (daX10_nearest_0 28 rfl) hc6 rfl ?_
      refine GM_aload (pc := 57) 2 rfl (daX10_nearest_0 29 rfl) ?_
      refine GM_iload (pc := 59) 5 rfl (daX10_nearest_0 30 rfl) ?_
      obtain ⟨⟨⟨r7, μ7⟩, c7, n7⟩, hf7, h⟩ := Option.bind_eq_some_iff.mp h
      dsimp only at h
      obtain ⟨c8, n8, hp, e1, e2⟩ := pay_inv h
      subst e1 e2
      replace h := hp
      clear hp
      rw [Nat.add_assoc, Nat.add_assoc]
      refine GM_callV (pc := 61) [(0, v7)] (tX4_lineOf l hf7) cwX4_lineOf 4 (Nat.le_of_ble_eq_true rfl) rfl kv_X4_lineOf ke_X4_lineOf km_X10_225 hc1 ⟨Nat.le_of_ble_eq_true rfl, Nat.le_of_ble_eq_true rfl⟩ (Nat.le_of_ble_eq_true rfl) (Nat.le_of_ble_eq_true rfl) (daX10_nearest_0 31 rfl) ?_
      obtain ⟨hc9, h⟩ := chk_inv h
      obtain ⟨μ10, hμ10, h⟩ := lm_inv h
      refine GM_putf (pc := 64) 1 2 3 kf_X10_302 (Nat.le_of_ble_eq_true rfl) (Nat.le_of_ble_eq_true rfl) rfl rfl (daX10_nearest_0 32 rfl) hc9 (fun q => absurd q (by decide)) ?_
      refine GM_mem hμ10 ?_
      refine GM_aload_n (pc := 67) 0 rfl (daX10_nearest_0 33 rfl) rfl ?_
      refine GM_getf (pc := 68) 10 6 3 6 kf_X10_50 (Nat.le_of_ble_eq_true rfl) (Nat.le_of_ble_eq_true rfl) rfl (daX10_nearest_0 34 rfl) hc6 rfl ?_
      refine GM_iload (pc := 71) 4 rfl (daX10_nearest_0 35 rfl) ?_
      obtain ⟨hc11, h⟩ := chk_inv h
      obtain ⟨⟨r12, μ12⟩, hf12, h⟩ := Option.bind_eq_some_iff.mp h
      dsimp only at h
      refine GM_callV0 (pc := 73) [(0, v6)] (tX1_leastWrong l hf12) cwX1_leastWrong 1 (Nat.le_of_ble_eq_true rfl) rfl kv_X1_leastWrong ke_X1_leastWrong km_X10_411 hc11 ⟨Nat.le_of_ble_eq_true rfl, Nat.le_of_ble_eq_true rfl⟩ (Nat.le_of_ble_eq_true rfl) (Nat.le_of_ble_eq_true rfl) (daX10_nearest_0 36 rfl) ?_
      refine GM_istore (L' := [(8, (0, r12)), (0, (3, v0)), (3, (0, v3)), (4, (3, v4)), (5, (0, v5)), (6, (0, v6)), (7, (0, v7))]) (pc := 76) (daX10_nearest_0 37 rfl) (Nat.le_of_ble_eq_true rfl) rfl ?_
      refine GM_iload (pc := 78) 0 rfl (daX10_nearest_0 38 rfl) ?_
      refine GM_iload (pc := 80) 5 rfl (daX10_nearest_0 39 rfl) ?_
      refine GM_icmp_ge (pc := 82) 93 (daX10_nearest_0 40 rfl) rfl (fun c13 => ?_) (fun c13 => ?_)
      · skip
        rw [if_pos c13] at h
        refine GM_iinc (L' := [(7, (0, w32 (v7 + 1))), (8, (0, r12)), (0, (3, v0)), (3, (0, v3)), (4, (3, v4)), (5, (0, v5)), (6, (0, v6))]) (pc := 93) 6 rfl (daX10_nearest_0 45 rfl) (Nat.le_of_ble_eq_true rfl) rfl ?_
        refine GM_goto (pc := 96) 35 (daX10_nearest_0 46 rfl) rfl ?_
        refine GM_pick [2, 3, 4, 5, 6, 0] rfl ?_
        cases h
        rw [Nat.zero_add, Nat.zero_add]
        exact hK
      · skip
        rw [if_neg c13] at h
        refine GM_iload (pc := 85) 0 rfl (daX10_nearest_0 41 rfl) ?_
        refine GM_istore (L' := [(6, (0, r12)), (8, (0, r12)), (0, (3, v0)), (3, (0, v3)), (4, (3, v4)), (5, (0, v5)), (7, (0, v7))]) (pc := 87) (daX10_nearest_0 42 rfl) (Nat.le_of_ble_eq_true rfl) rfl ?_
        refine GM_iload (pc := 89) 6 rfl (daX10_nearest_0 43 rfl) ?_
        refine GM_istore (L' := [(5, (0, v7)), (6, (0, r12)), (8, (0, r12)), (0, (3, v0)), (3, (0, v3)), (4, (3, v4)), (7, (0, v7))]) (pc := 91) (daX10_nearest_0 44 rfl) (Nat.le_of_ble_eq_true rfl) rfl ?_
        refine GM_iinc (L' := [(7, (0, w32 (v7 + 1))), (5, (0, v7)), (6, (0, r12)), (8, (0, r12)), (0, (3, v0)), (3, (0, v3)), (4, (3, v4))]) (pc := 93) 6 rfl (daX10_nearest_0 45 rfl) (Nat.le_of_ble_eq_true rfl) rfl ?_
        refine GM_goto (pc := 96) 35 (daX10_nearest_0 46 rfl) rfl ?_
        refine GM_pick [4, 5, 6, 1, 2, 0] rfl ?_
        cases h
        rw [Nat.zero_add, Nat.zero_add]
        exact hK
set_option maxRecDepth 20000 in
theorem gX10_nearest_0 (l : Launch) {F : FI} {v0 v1 v2 v3 : Int} {μ : Mm} {t : (Int × Mm)} {c0 n0 k n : Nat} (h : fX10_nearest v0 v1 v2 v3 μ = some (t, c0, n0)) (hK : F.1 = [(0, t.1)] ∧ F.2.1 = t.2) : GM l mX10_nearest F (c0 + k) (n0 + n) 0 [(0, (3, v0)), (1, (0, v1)), (2, (0, v2)), (3, (0, v3))] [] μ := by
  unfold fX10_nearest at h
  refine GM_aload_n (pc := 0) 0 rfl (daX10_nearest_0 0 rfl) rfl ?_
  refine GM_iload_n (pc := 1) 1 rfl (daX10_nearest_0 1 rfl) rfl ?_
  obtain ⟨hc14, h⟩ := chk_inv h
  obtain ⟨⟨⟨r15, μ15⟩, c15, n15⟩, hf15, h⟩ := Option.bind_eq_some_iff.mp h
  dsimp only at h
  obtain ⟨c16, n16, hp, e1, e2⟩ := pay_inv h
  subst e1 e2
  replace h := hp
  clear hp
  rw [Nat.add_assoc, Nat.add_assoc]
  refine GM_callV (pc := 2) [(0, v1)] (tX10_sceneAt l hf15) cwX10_sceneAt 10 (Nat.le_of_ble_eq_true rfl) rfl kv_X10_sceneAt ke_X10_sceneAt km_X10_220 hc14 ⟨Nat.le_of_ble_eq_true rfl, Nat.le_of_ble_eq_true rfl⟩ (Nat.le_of_ble_eq_true rfl) (Nat.le_of_ble_eq_true rfl) (daX10_nearest_0 2 rfl) ?_
  refine GM_astore (L' := [(4, (3, r15)), (0, (3, v0)), (1, (0, v1)), (2, (0, v2)), (3, (0, v3))]) (pc := 5) (daX10_nearest_0 3 rfl) (Nat.le_of_ble_eq_true rfl) rfl ?_
  refine GM_aload (pc := 7) 0 rfl (daX10_nearest_0 4 rfl) ?_
  refine GM_ifnull (pc := 9) 22 (daX10_nearest_0 5 rfl) rfl (fun c17 => ?_) (fun c17 => ?_)
  · skip
    rw [if_pos c17] at h
    refine GM_iconst (pc := 22) (-1) (daX10_nearest_0 12 rfl) rfl (R32_b rfl) ?_
    cases h
    exact GM_iret (pc := 23) (daX10_nearest_0 13 rfl) rfl hK
  · skip
    rw [if_neg c17] at h
    refine GM_aload_n (pc := 12) 1 rfl (daX10_nearest_0 6 rfl) rfl ?_
    refine GM_iload_n (pc := 13) 2 rfl (daX10_nearest_0 7 rfl) rfl ?_
    refine GM_iload_n (pc := 14) 3 rfl (daX10_nearest_0 8 rfl) rfl ?_
    refine GM_iconst (pc := 15) (-1) (daX10_nearest_0 9 rfl) rfl (R32_b rfl) ?_
    obtain ⟨⟨r18, μ18⟩, hf18, h⟩ := Option.bind_eq_some_iff.mp h
    dsimp only at h
    refine GM_callV0 (pc := 16) [(0, v1), (0, v2), (0, (-1))] (tX10_takesUp l hf18) cwX10_takesUp 10 (Nat.le_of_ble_eq_true rfl) rfl kv_X10_takesUp ke_X10_takesUp km_X10_298 hc14 ⟨Nat.le_of_ble_eq_true rfl, Nat.le_of_ble_eq_true rfl⟩ (Nat.le_of_ble_eq_true rfl) (Nat.le_of_ble_eq_true rfl) (daX10_nearest_0 10 rfl) ?_
    refine GM_if_ne (pc := 19) 24 (daX10_nearest_0 11 rfl) rfl (fun c19 => ?_) (fun c19 => ?_)
    · skip
      rw [if_neg c19] at h
      refine GM_iconst (pc := 24) (-1) (daX10_nearest_0 14 rfl) rfl (R32_b rfl) ?_
      refine GM_istore (L' := [(5, (0, (-1))), (4, (3, r15)), (0, (3, v0)), (1, (0, v1)), (2, (0, v2)), (3, (0, v3))]) (pc := 25) (daX10_nearest_0 15 rfl) (Nat.le_of_ble_eq_true rfl) rfl ?_
      refine GM_sipush (pc := 27) 1000 (daX10_nearest_0 16 rfl) rfl (R32_b rfl) ?_
      refine GM_istore (L' := [(6, (0, 1000)), (5, (0, (-1))), (4, (3, r15)), (0, (3, v0)), (1, (0, v1)), (2, (0, v2)), (3, (0, v3))]) (pc := 30) (daX10_nearest_0 17 rfl) (Nat.le_of_ble_eq_true rfl) rfl ?_
      refine GM_iconst (pc := 32) 0 (daX10_nearest_0 18 rfl) rfl (R32_b rfl) ?_
      refine GM_istore (L' := [(7, (0, 0)), (6, (0, 1000)), (5, (0, (-1))), (4, (3, r15)), (0, (3, v0)), (1, (0, v1)), (2, (0, v2)), (3, (0, v3))]) (pc := 33) (daX10_nearest_0 19 rfl) (Nat.le_of_ble_eq_true rfl) rfl ?_
      refine GM_pick [4, 7, 3, 2, 1, 0] rfl ?_
      obtain ⟨x20, hqx20, h⟩ := Option.bind_eq_some_iff.mp h
      obtain ⟨x20, ccx20, nnx20⟩ := x20
      dsimp only at h
      obtain ⟨c22, n22, hp, e1, e2⟩ := pay_inv h
      subst e1 e2
      replace h := hp
      clear hp
      rw [Nat.add_assoc, Nat.add_assoc]
      refine lopA_ind (fun k n => zX10_nearest_35 l F v0 v3 r15 k n) (qX10_nearest_35 l F v0 v3 r15) FU _ x20 _ _ hqx20 _ _ ?_
      obtain ⟨v5_21, v6_21, μ_21⟩ := x20
      dsimp only at h
      show GM l mX10_nearest F (c22 + k) (n22 + n) 99 [(3, (0, v3)), (5, (0, v5_21)), (6, (0, v6_21))] [] μ_21
      refine GM_iload_n (pc := 99) 0 rfl (daX10_nearest_0 47 rfl) rfl ?_
      refine GM_if_eq (pc := 100) 114 (daX10_nearest_0 48 rfl) rfl (fun c23 => ?_) (fun c23 => ?_)
      · skip
        rw [if_pos c23] at h
        refine GM_iload (pc := 114) 1 rfl (daX10_nearest_0 54 rfl) ?_
        cases h
        exact GM_iret (pc := 116) (daX10_nearest_0 55 rfl) rfl hK
      · skip
        rw [if_neg c23] at h
        refine GM_iload (pc := 103) 1 rfl (daX10_nearest_0 49 rfl) ?_
        refine GM_iconst (pc := 105) (-1) (daX10_nearest_0 50 rfl) rfl (R32_b rfl) ?_
        refine GM_icmp_eq (pc := 106) 114 (daX10_nearest_0 51 rfl) rfl (fun c24 => ?_) (fun c24 => ?_)
        · skip
          rw [if_pos c24] at h
          refine GM_iload (pc := 114) 1 rfl (daX10_nearest_0 54 rfl) ?_
          cases h
          exact GM_iret (pc := 116) (daX10_nearest_0 55 rfl) rfl hK
        · skip
          rw [if_neg c24] at h
          refine GM_iload (pc := 109) 2 rfl (daX10_nearest_0 52 rfl) ?_
          refine GM_goto (pc := 111) 116 (daX10_nearest_0 53 rfl) rfl ?_
          cases h
          exact GM_iret (pc := 116) (daX10_nearest_0 55 rfl) rfl hK
    · skip
      rw [if_pos c19] at h
      refine GM_iconst (pc := 22) (-1) (daX10_nearest_0 12 rfl) rfl (R32_b rfl) ?_
      cases h
      exact GM_iret (pc := 23) (daX10_nearest_0 13 rfl) rfl hK
theorem tX10_nearest (l : Launch) {v0 v1 v2 v3 : Int} {μ : Mm} {t : (Int × Mm)} {c0 n0 : Nat} (h : fX10_nearest v0 v1 v2 v3 μ = some (t, c0, n0)) : Ct l yX10_nearest mX10_nearest [(3, v0), (0, v1), (0, v2), (0, v3)] μ ([(0, t.1)], t.2, c0, n0) :=
  Ct_of (by decide +kernel) rfl rfl (Nat.le_of_ble_eq_true rfl) (fun _ _ _ => trivial) (gX10_nearest_0 (k := 0) (n := 0) l h ⟨rfl, rfl⟩)
